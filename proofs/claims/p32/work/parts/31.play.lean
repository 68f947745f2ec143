/-! SealedBoardLaw.read(LSealedBoard;Ljava/lang/String;)I -/
abbrev rmL_read_ : Room := { frames := 9, cells := 31, slots := 186, locals := 190 }
theorem kdL_read_ : yL_read_.cls ≠ "java/lang/invoke/MethodHandle" ∧ yL_read_.cls ≠ "java/lang/invoke/VarHandle" ∧ (parseMethodDescriptor yL_read_.desc).map (fun d => d.parameters.length) = some 2 := by decide +kernel
def fL_read__2 (tx : List Int32)   : Nat → Int32 → Int32 → (Nat → Int64) → (Nat → Int64) → (Nat → Int64) → Int32 → Int32 → (Nat → Int32) → Int32 → Int32 → Option (Int32 × Int32 × Int32 × (Nat → Int64) × (Nat → Int64) × (Nat → Int64) × Int32 × Int32 × (Nat → Int32) × Int32)
  | 0, _, _, _, _, _, _, _, _, _, _ => none
  | n + 1, kE, kR, fb, ft, rws, nx, ct, ch, ln, x2 => (if (Int32.ofNat tx.length >>> ((0 : Int32) &&& 31)) ≤ x2 then (zbd (fL_read kE kR fb ft rws nx ct ch ln) (fun u1 => (some (u1.1, u1.2.1, u1.2.2.1, u1.2.2.2.1, u1.2.2.2.2.1, u1.2.2.2.2.2.1, u1.2.2.2.2.2.2.1, u1.2.2.2.2.2.2.2.1, ch, u1.2.2.2.2.2.2.2.2)))) else (zck (zin x2 tx.length) (zbd (fL_append ch ln (zsc tx x2)) (fun u4 => (zbn (x2 + (1 : Int32)) (fun a6 => (fL_read__2 tx   n kE kR fb ft rws nx ct u4.2.1 u4.2.2 a6)))))))
def fL_read_ (tx : List Int32) (kE : Int32) (kR : Int32) (fb : Nat → Int64) (ft : Nat → Int64) (rws : Nat → Int64) (nx : Int32) (ct : Int32) (ch : Nat → Int32) (ln : Int32) : Option (Int32 × Int32 × Int32 × (Nat → Int64) × (Nat → Int64) × (Nat → Int64) × Int32 × Int32 × (Nat → Int32) × Int32) := (fL_read__2 tx   30 kE kR fb ft rws nx ct ch ln (0 : Int32))
set_option maxHeartbeats 1000000 in
set_option maxRecDepth 100000 in
theorem wL_read__2 {p : Program} {l : Launch} {e : Env} {s : State} {m : MethodId} {args : Array Value} {below : List Frame} {meth : Method} {c : Code} {A : Nat → Prop} {Q : State → Prop} {G : va_G} {k : Nat → ClassId} {tx : List Int32} {q8 v9 : Nat} {ad : Nat → Nat} {sv : Int32} {fs : Nat → Int64} {o : Int32 × Int32 × Int32 × (Nat → Int64) × (Nat → Int64) × (Nat → Int64) × Int32 × Int32 × (Nat → Int32) × Int32} (C0 : zCx p s m args meth c wsL_read_ cL_read_ RL (some .int) 3) (hl9 : l.stackTraces = false) (hK : zKK G k A s s.heap) (hA : ∀ q : Nat, s.heap.size ≤ q → A q) (hret : zRI p l e rmL_read_ s m args below meth c cL_read_ G A 31 186 Q .int (zC ad k sv o.2.1 o.2.2.1 o.2.2.2.1 o.2.2.2.2.1 fs o.2.2.2.2.2.1 o.2.2.2.2.2.2.1 o.2.2.2.2.2.2.2.1 o.2.2.2.2.2.2.2.2.1 o.2.2.2.2.2.2.2.2.2) o.1) (hb9 : tx.length < 100) (hZ : zStr tx q8 v9 A s s.heap)   : ∀ (n : Nat) (kE : Int32) (kR : Int32) (fb : Nat → Int64) (ft : Nat → Int64) (rws : Nat → Int64) (nx : Int32) (ct : Int32) (ch : Nat → Int32) (ln : Int32) (x2 : Int32), fL_read__2 tx   n kE kR fb ft rws nx ct ch ln x2 = some o → ∀ (ca cb : Nat), ca + (n * 1 + 1) ≤ 31 → cb + (n * 6 + 6) ≤ 186 → ∀ (H : Heap) (locs : List Loc) (ls : Array Slot), zWd G A s (zC ad k sv kE kR fb ft fs rws nx ct ch ln) H locs → lv_has ls 3 [(0, .ref (ad 0)), (1, .ref q8), (2, .int x2)] → W p l e rmL_read_ s m args below meth c H locs ca cb Q (F0 m 2 ls []) := by
  obtain ⟨hx, hb, hr, hml, hown, hts, hlocks⟩ := id C0
  intro n
  induction n with
  | zero => intro kE kR fb ft rws nx ct ch ln x2 hF; exact nomatch hF
  | succ n ih =>
    intro kE kR fb ft rws nx ct ch ln x2 hF ca cb hca hcb H locs ls hw hl
    rw [fL_read__2] at hF
    refine lv_iload_n hx hb dL_read__2 rfl (lv_at hl 2 rfl) ?_
    refine lv_aload_n hx hb dL_read__3 rfl (lv_at hl 1 rfl) ?_
    refine zgoI (r := (Int32.ofNat tx.length >>> ((0 : Int32) &&& 31))) (wc := []) (wc' := []) (w' := (zC ad k sv kE kR fb ft fs rws nx ct ch ln)) hw hA [] rfl (zVs (As := []) (rest := [.int x2]) ⟨hx, hb, hml, hown, hts⟩ (mJ0_length l G k H.size tx q8 v9) (cwV 0 hts gL_read__J0_length_8abf5 rfl rfl rfl kdJ0_length ⟨Nat.le_of_ble_eq_true rfl, Nat.le_of_ble_eq_true rfl⟩) hK hA hw hZ rfl hl.1 rfl (Nat.le_of_ble_eq_true rfl) dL_read__4 ⟨(by show _ ≤ 31; omega), (by show _ ≤ 186; omega)⟩) rfl rfl rfl (fun H locs hw => ?_)
    refine lv_icmp_ge (tgt := 26) hx hb dL_read__7 (by decide) (fun hc => ?_) (fun hc => ?_)
    · have hF := zif_t hc hF
      refine lv_aload_n hx hb dL_read__26 rfl (lv_at hl 0 rfl) ?_
      obtain ⟨u1, hq2, hF⟩ := zbd_t hF
      refine zgoI4 (w' := (zC ad k sv u1.2.1 u1.2.2.1 u1.2.2.2.1 u1.2.2.2.2.1 fs u1.2.2.2.2.2.1 u1.2.2.2.2.2.2.1 u1.2.2.2.2.2.2.2.1 ch u1.2.2.2.2.2.2.2.2)) (wa := []) (wc := (zC ad k sv kE kR fb ft fs rws nx ct ch ln)) (wc' := (zC ad k sv u1.2.1 u1.2.2.1 u1.2.2.2.1 u1.2.2.2.2.1 fs u1.2.2.2.2.2.1 u1.2.2.2.2.2.2.1 u1.2.2.2.2.2.2.2.1 ch u1.2.2.2.2.2.2.2.2)) (wr := []) hw (zap_nil _) (zap_nil _) hA (zSW4 (wa := []) (wc := (zC ad k sv kE kR fb ft fs rws nx ct ch ln)) (wr := []) (As := [.ref (ad 0)]) (rest := []) ⟨hx, hb, hml, hown, hts⟩ (mL_read l hl9 G k ad H.size sv kE kR fb ft fs rws nx ct ch ln  u1 hq2) (vx_cwSW 1 hts gL_read__L_read rfl rfl rfl kdL_read ⟨Nat.le_of_ble_eq_true rfl, Nat.le_of_ble_eq_true rfl⟩) hK hA hw (zap_nil _) rfl hl.1 rfl (Nat.le_of_ble_eq_true rfl) dL_read__27 ⟨(by show _ ≤ 31; omega), (by show _ ≤ 186; omega)⟩) rfl (fun H locs hw => ?_)
      obtain rfl := Option.some.inj hF
      refine W.widen (k := 31) (n := 186) (by omega) (by omega) ?_
      exact hret _ _ _ _ rfl hw dL_read__30
    · have hF := zif_f hc hF
      refine lv_aload_n hx hb dL_read__10 rfl (lv_at hl 0 rfl) ?_
      refine lv_aload_n hx hb dL_read__11 rfl (lv_at hl 1 rfl) ?_
      refine lv_iload_n hx hb dL_read__12 rfl (lv_at hl 2 rfl) ?_
      obtain ⟨hi3, hF⟩ := zck_in hF
      refine zgoI (r := (zsc tx x2)) (wc := []) (wc' := []) (w' := (zC ad k sv kE kR fb ft fs rws nx ct ch ln)) hw hA [] rfl (zVs (As := [.int x2]) (rest := [.ref (ad 0)]) ⟨hx, hb, hml, hown, hts⟩ (mJ0_charAt l G k H.size tx q8 v9 x2 hb9 hi3) (cwV 1 hts gL_read__J0_charAt_5068e rfl rfl rfl kdJ0_charAt ⟨Nat.le_of_ble_eq_true rfl, Nat.le_of_ble_eq_true rfl⟩) hK hA hw hZ rfl hl.1 rfl (Nat.le_of_ble_eq_true rfl) dL_read__13 ⟨(by show _ ≤ 31; omega), (by show _ ≤ 186; omega)⟩) rfl rfl rfl (fun H locs hw => ?_)
      obtain ⟨u4, hq5, hF⟩ := zbd_t hF
      refine zgoI4 (w' := (zC ad k sv kE kR fb ft fs rws nx ct u4.2.1 u4.2.2)) (wa := []) (wc := (zC ad k sv kE kR fb ft fs rws nx ct ch ln)) (wc' := (zC ad k sv kE kR fb ft fs rws nx ct u4.2.1 u4.2.2)) (wr := []) hw (zap_nil _) (zap_nil _) hA (zSW4 (wa := []) (wc := (zC ad k sv kE kR fb ft fs rws nx ct ch ln)) (wr := []) (As := [.ref (ad 0), .int (zsc tx x2)]) (rest := []) ⟨hx, hb, hml, hown, hts⟩ (mL_append l hl9 G k ad H.size sv kE kR fb ft fs rws nx ct ch ln (zsc tx x2) u4 hq5) (vx_cwSW 2 hts gL_read__L_append rfl rfl rfl kdL_append ⟨Nat.le_of_ble_eq_true rfl, Nat.le_of_ble_eq_true rfl⟩) hK hA hw (zap_nil _) rfl hl.1 rfl (Nat.le_of_ble_eq_true rfl) dL_read__16 ⟨(by show _ ≤ 31; omega), (by show _ ≤ 186; omega)⟩) rfl (fun H locs hw => ?_)
      refine lv_pop hx hb dL_read__19 rfl ?_
      obtain ⟨a6, ea6⟩ : ∃ z : Int32, z = x2 + (1 : Int32) := ⟨_, rfl⟩
      have hF := zbn_t ea6 hF
      refine lv_iinc (v := a6) (lv' := [(2, .int a6), (0, .ref (ad 0)), (1, .ref q8)]) hx hb dL_read__20 hl (k := 2) rfl (by rw [ea6]; rfl) (by decide) rfl (fun ls hl => ?_)
      refine lv_goto (tgt := 2) hx hb dL_read__23 (by decide) ?_
      exact ih _ _ _ _ _ _ _ _ _ _ hF _ _ (by omega) (by omega) _ _ _ hw (lv_sub hl [1, 2, 0] rfl)
set_option maxHeartbeats 1000000 in
set_option maxRecDepth 100000 in
theorem mL_read_ (l : Launch) (hl9 : l.stackTraces = false) (G : va_G) (k : Nat → ClassId) (ad : Nat → Nat) (q8 v9 : Nat) (tx : List Int32) (hb9 : tx.length < 100) (sz : Nat) (sv : Int32) (kE : Int32) (kR : Int32) (fb : Nat → Int64) (ft : Nat → Int64) (fs : Nat → Int64) (rws : Nat → Int64) (nx : Int32) (ct : Int32) (ch : Nat → Int32) (ln : Int32)  (o : Int32 × Int32 × Int32 × (Nat → Int64) × (Nat → Int64) × (Nat → Int64) × Int32 × Int32 × (Nat → Int32) × Int32) (hF : fL_read_ tx kE kR fb ft rws nx ct ch ln = some o) : zMTc l yL_read_ wsL_read_ rmL_read_ G k (zC ad k sv kE kR fb ft fs rws nx ct ch ln) sz q8 v9 tx [.ref (ad 0), .ref q8] 31 186 o.1 (zC ad k sv o.2.1 o.2.2.1 o.2.2.2.1 o.2.2.2.2.1 fs o.2.2.2.2.2.1 o.2.2.2.2.2.2.1 o.2.2.2.2.2.2.2.1 o.2.2.2.2.2.2.2.2.1 o.2.2.2.2.2.2.2.2.2) := by
  refine zof_Tc (cc := cL_read_) (nL := 3) (own := RL) (rt := .int) (by decide) rfl rfl (Nat.le_of_ble_eq_true rfl) ?_
  intro p e s m args below meth c A Q C0 hK hA hZ hret ls hl hw
  have hl : lv_has ls 3 [(0, .ref (ad 0)), (1, .ref q8)] := hl
  obtain ⟨hx, hb, hr, hml, hown, hts, hlocks⟩ := id C0
  obtain ⟨H, hH⟩ : ∃ z, z = s.heap := ⟨_, rfl⟩
  rw [← hH] at hw ⊢
  obtain ⟨ca, hca⟩ : ∃ z : Nat, z = 0 := ⟨_, rfl⟩
  obtain ⟨cb, hcb⟩ : ∃ z : Nat, z = 0 := ⟨_, rfl⟩
  refine W.widen (k := ca) (n := cb) (Nat.zero_le _) (Nat.zero_le _) ?_
  unfold fL_read_ at hF
  refine lv_iconst (v := (0 : Int32)) hx hb dL_read__0 (by decide) ?_
  refine lv_istore_n (lv' := [(2, .int (0 : Int32)), (0, .ref (ad 0)), (1, .ref q8)]) hx hb dL_read__1 rfl hl (by decide) rfl (fun ls hl => ?_)
  exact wL_read__2 C0 hl9 hK hA hret hb9 hZ   30 _ _ _ _ _ _ _ _ _ _ hF _ _ (by omega) (by omega) _ _ _ hw (lv_sub hl [1, 2, 0] rfl)

/-! SealedBoardLaw.play(LSealedBoard;I)I -/
abbrev rmL_play : Room := { frames := 9, cells := 8909, slots := 53454, locals := 150 }
theorem kdL_play : yL_play.cls ≠ "java/lang/invoke/MethodHandle" ∧ yL_play.cls ≠ "java/lang/invoke/VarHandle" ∧ (parseMethodDescriptor yL_play.desc).map (fun d => d.parameters.length) = some 2 := by decide +kernel
def fL_play_91 (k7 : Int32 → (Nat → Int64) → (Nat → Int64) → Int32 → Int32 → Int32 → Int32 → Int32 → Option (Int32 × Int32 × (Nat → Int64) × (Nat → Int64) × Int32 × Int32)) (ln : Int32) (kR : Int32) (fb : Nat → Int64) (rws : Nat → Int64) (nx : Int32) (ct : Int32) (x1 : Int32) (x2 : Int32) (x3 : Int32) : Option (Int32 × Int32 × (Nat → Int64) × (Nat → Int64) × Int32 × Int32) := (zbn (x3 + (1 : Int32)) (fun a1 => (k7 kR fb rws nx ct x1 x2 a1)))
def fL_play_85 (k51 : Int32 → (Nat → Int64) → (Nat → Int64) → Int32 → Int32 → Int32 → Int32 → Int32 → Int32 → Int32 → Option (Int32 × Int32 × (Nat → Int64) × (Nat → Int64) × Int32 × Int32)) (ln : Int32) (kR : Int32) (fb : Nat → Int64) (rws : Nat → Int64) (nx : Int32) (ct : Int32) (x1 : Int32) (x2 : Int32) (x3 : Int32) (x4 : Int32) (x5 : Int32) : Option (Int32 × Int32 × (Nat → Int64) × (Nat → Int64) × Int32 × Int32) := (zbn (x5 + (1 : Int32)) (fun a1 => (k51 kR fb rws nx ct x1 x2 x3 x4 a1)))
def fL_play_51 (k7 : Int32 → (Nat → Int64) → (Nat → Int64) → Int32 → Int32 → Int32 → Int32 → Int32 → Option (Int32 × Int32 × (Nat → Int64) × (Nat → Int64) × Int32 × Int32)) (ln : Int32) : Nat → Int32 → (Nat → Int64) → (Nat → Int64) → Int32 → Int32 → Int32 → Int32 → Int32 → Int32 → Int32 → Option (Int32 × Int32 × (Nat → Int64) × (Nat → Int64) × Int32 × Int32)
  | 0, _, _, _, _, _, _, _, _, _, _ => none
  | n + 1, kR, fb, rws, nx, ct, x1, x2, x3, x4, x5 => (if (36 : Int32) ≤ x5 then (fL_play_91 k7 ln  kR fb rws nx ct x1 x2 x3) else (zbd (fX4_canMove fb x4 x5) (fun u1 => (if u1.1 = 0 then (if u1.2 = 0 then (fL_play_85 (fun z0 z1 z2 z3 z4 z5 z6 z7 z8 z9 => fL_play_51 k7 ln n z0 z1 z2 z3 z4 z5 z6 z7 z8 z9) ln  kR fb rws nx ct x1 x2 x3 x4 x5) else (zbn (x2 + (-1 : Int32)) (fun a4 => (if 0 ≤ a4 then (fL_play_85 (fun z0 z1 z2 z3 z4 z5 z6 z7 z8 z9 => fL_play_51 k7 ln n z0 z1 z2 z3 z4 z5 z6 z7 z8 z9) ln  kR fb rws nx ct x1 a4 x3 x4 x5) else (zbd (fL_move kR fb rws nx ct x4 x5) (fun u5 => (some (u5.1, u5.2.1, u5.2.2.1, u5.2.2.2.1, u5.2.2.2.2.1, u5.2.2.2.2.2)))))))) else none))))
def fL_play_7  (ln : Int32) : Nat → Int32 → (Nat → Int64) → (Nat → Int64) → Int32 → Int32 → Int32 → Int32 → Int32 → Option (Int32 × Int32 × (Nat → Int64) × (Nat → Int64) × Int32 × Int32)
  | 0, _, _, _, _, _, _, _, _ => none
  | n + 1, kR, fb, rws, nx, ct, x1, x2, x3 => (if (72 : Int32) ≤ x3 then (zbd (fL_move kR fb rws nx ct (0 : Int32) (0 : Int32)) (fun u1 => (some (u1.1, u1.2.1, u1.2.2.1, u1.2.2.2.1, u1.2.2.2.2.1, u1.2.2.2.2.2)))) else (zbn ((x3 + x1) - (x3 + x1) / (36 : Int32) * (36 : Int32)) (fun a3 => (zbd (fX4_square fb a3 (0 : Int32)) (fun u4 => (if u4.1 = 0 then (if u4.2 = (1 : Int32) then (zbd (fX4_square fb a3 (1 : Int32)) (fun u7 => (if u7.1 = 0 then (zbd (fX4_account fb ct ln (7 : Int32)) (fun u10 => (if u10.1 = 0 then (if u7.2 = u10.2 then (fL_play_51 (fun z0 z1 z2 z3 z4 z5 z6 z7 => fL_play_7  ln n z0 z1 z2 z3 z4 z5 z6 z7) ln 37 kR fb rws nx ct x1 x2 x3 a3 (0 : Int32)) else (fL_play_91 (fun z0 z1 z2 z3 z4 z5 z6 z7 => fL_play_7  ln n z0 z1 z2 z3 z4 z5 z6 z7) ln  kR fb rws nx ct x1 x2 x3)) else none))) else none))) else (fL_play_91 (fun z0 z1 z2 z3 z4 z5 z6 z7 => fL_play_7  ln n z0 z1 z2 z3 z4 z5 z6 z7) ln  kR fb rws nx ct x1 x2 x3)) else none))))))
def fL_play (kR : Int32) (fb : Nat → Int64) (rws : Nat → Int64) (nx : Int32) (ct : Int32) (ln : Int32) (p1 : Int32) : Option (Int32 × Int32 × (Nat → Int64) × (Nat → Int64) × Int32 × Int32) := (zbn (p1 - p1 / (30 : Int32) * (30 : Int32)) (fun a1 => (fL_play_7  ln 73 kR fb rws nx ct p1 a1 (0 : Int32))))
set_option maxHeartbeats 1000000 in
set_option maxRecDepth 100000 in
theorem wL_play_91 {p : Program} {l : Launch} {e : Env} {s : State} {m : MethodId} {args : Array Value} {below : List Frame} {meth : Method} {c : Code} {A : Nat → Prop} {Q : State → Prop} {G : va_G} {k : Nat → ClassId} {ad : Nat → Nat} {sv : Int32} {kE : Int32} {ft : Nat → Int64} {fs : Nat → Int64} {ch : Nat → Int32} {ln : Int32} {o : Int32 × Int32 × (Nat → Int64) × (Nat → Int64) × Int32 × Int32} (C0 : zCx p s m args meth c wsL_play cL_play RL (some .int) 6) (hl9 : l.stackTraces = false) (hK : zKK G k A s s.heap) (hA : ∀ q : Nat, s.heap.size ≤ q → A q) (hret : zRI p l e rmL_play s m args below meth c cL_play G A 8909 53454 Q .int (zC ad k sv kE o.2.1 o.2.2.1 ft fs o.2.2.2.1 o.2.2.2.2.1 o.2.2.2.2.2 ch ln) o.1)  {d1_7 d2_7 : Nat} (k7 : Int32 → (Nat → Int64) → (Nat → Int64) → Int32 → Int32 → Int32 → Int32 → Int32 → Option (Int32 × Int32 × (Nat → Int64) × (Nat → Int64) × Int32 × Int32)) (hk7 : ∀ (kR : Int32) (fb : Nat → Int64) (rws : Nat → Int64) (nx : Int32) (ct : Int32) (x1 : Int32) (x2 : Int32) (x3 : Int32), k7 kR fb rws nx ct x1 x2 x3 = some o → ∀ (ca cb : Nat), ca + d1_7 ≤ 8909 → cb + d2_7 ≤ 53454 → ∀ (H : Heap) (locs : List Loc) (ls : Array Slot), zWd G A s (zC ad k sv kE kR fb ft fs rws nx ct ch ln) H locs → lv_has ls 6 [(0, .ref (ad 0)), (1, .int x1), (2, .int x2), (3, .int x3)] → W p l e rmL_play s m args below meth c H locs ca cb Q (F0 m 7 ls [])) : ∀ (kR : Int32) (fb : Nat → Int64) (rws : Nat → Int64) (nx : Int32) (ct : Int32) (x1 : Int32) (x2 : Int32) (x3 : Int32), fL_play_91 k7 ln kR fb rws nx ct x1 x2 x3 = some o → ∀ (ca cb : Nat), ca + (0 + d1_7) ≤ 8909 → cb + (0 + d2_7) ≤ 53454 → ∀ (H : Heap) (locs : List Loc) (ls : Array Slot), zWd G A s (zC ad k sv kE kR fb ft fs rws nx ct ch ln) H locs → lv_has ls 6 [(0, .ref (ad 0)), (1, .int x1), (2, .int x2), (3, .int x3)] → W p l e rmL_play s m args below meth c H locs ca cb Q (F0 m 91 ls []) := by
  obtain ⟨hx, hb, hr, hml, hown, hts, hlocks⟩ := id C0
  intro kR fb rws nx ct x1 x2 x3 hF ca cb hca hcb H locs ls hw hl
  unfold fL_play_91 at hF
  obtain ⟨a1, ea1⟩ : ∃ z : Int32, z = x3 + (1 : Int32) := ⟨_, rfl⟩
  have hF := zbn_t ea1 hF
  refine lv_iinc (v := a1) (lv' := [(3, .int a1), (0, .ref (ad 0)), (1, .int x1), (2, .int x2)]) hx hb dL_play_91 hl (k := 3) rfl (by rw [ea1]; rfl) (by decide) rfl (fun ls hl => ?_)
  refine lv_goto (tgt := 7) hx hb dL_play_94 (by decide) ?_
  exact hk7 _ _ _ _ _ _ _ _ hF _ _ (by omega) (by omega) _ _ _ hw (lv_sub hl [1, 2, 3, 0] rfl)
set_option maxHeartbeats 1000000 in
set_option maxRecDepth 100000 in
theorem wL_play_85 {p : Program} {l : Launch} {e : Env} {s : State} {m : MethodId} {args : Array Value} {below : List Frame} {meth : Method} {c : Code} {A : Nat → Prop} {Q : State → Prop} {G : va_G} {k : Nat → ClassId} {ad : Nat → Nat} {sv : Int32} {kE : Int32} {ft : Nat → Int64} {fs : Nat → Int64} {ch : Nat → Int32} {ln : Int32} {o : Int32 × Int32 × (Nat → Int64) × (Nat → Int64) × Int32 × Int32} (C0 : zCx p s m args meth c wsL_play cL_play RL (some .int) 6) (hl9 : l.stackTraces = false) (hK : zKK G k A s s.heap) (hA : ∀ q : Nat, s.heap.size ≤ q → A q) (hret : zRI p l e rmL_play s m args below meth c cL_play G A 8909 53454 Q .int (zC ad k sv kE o.2.1 o.2.2.1 ft fs o.2.2.2.1 o.2.2.2.2.1 o.2.2.2.2.2 ch ln) o.1)  {d1_51 d2_51 : Nat} (k51 : Int32 → (Nat → Int64) → (Nat → Int64) → Int32 → Int32 → Int32 → Int32 → Int32 → Int32 → Int32 → Option (Int32 × Int32 × (Nat → Int64) × (Nat → Int64) × Int32 × Int32)) (hk51 : ∀ (kR : Int32) (fb : Nat → Int64) (rws : Nat → Int64) (nx : Int32) (ct : Int32) (x1 : Int32) (x2 : Int32) (x3 : Int32) (x4 : Int32) (x5 : Int32), k51 kR fb rws nx ct x1 x2 x3 x4 x5 = some o → ∀ (ca cb : Nat), ca + d1_51 ≤ 8909 → cb + d2_51 ≤ 53454 → ∀ (H : Heap) (locs : List Loc) (ls : Array Slot), zWd G A s (zC ad k sv kE kR fb ft fs rws nx ct ch ln) H locs → lv_has ls 6 [(0, .ref (ad 0)), (1, .int x1), (2, .int x2), (3, .int x3), (4, .int x4), (5, .int x5)] → W p l e rmL_play s m args below meth c H locs ca cb Q (F0 m 51 ls [])) : ∀ (kR : Int32) (fb : Nat → Int64) (rws : Nat → Int64) (nx : Int32) (ct : Int32) (x1 : Int32) (x2 : Int32) (x3 : Int32) (x4 : Int32) (x5 : Int32), fL_play_85 k51 ln kR fb rws nx ct x1 x2 x3 x4 x5 = some o → ∀ (ca cb : Nat), ca + (0 + d1_51) ≤ 8909 → cb + (0 + d2_51) ≤ 53454 → ∀ (H : Heap) (locs : List Loc) (ls : Array Slot), zWd G A s (zC ad k sv kE kR fb ft fs rws nx ct ch ln) H locs → lv_has ls 6 [(0, .ref (ad 0)), (1, .int x1), (2, .int x2), (3, .int x3), (4, .int x4), (5, .int x5)] → W p l e rmL_play s m args below meth c H locs ca cb Q (F0 m 85 ls []) := by
  obtain ⟨hx, hb, hr, hml, hown, hts, hlocks⟩ := id C0
  intro kR fb rws nx ct x1 x2 x3 x4 x5 hF ca cb hca hcb H locs ls hw hl
  unfold fL_play_85 at hF
  obtain ⟨a1, ea1⟩ : ∃ z : Int32, z = x5 + (1 : Int32) := ⟨_, rfl⟩
  have hF := zbn_t ea1 hF
  refine lv_iinc (v := a1) (lv' := [(5, .int a1), (0, .ref (ad 0)), (1, .int x1), (2, .int x2), (3, .int x3), (4, .int x4)]) hx hb dL_play_85 hl (k := 5) rfl (by rw [ea1]; rfl) (by decide) rfl (fun ls hl => ?_)
  refine lv_goto (tgt := 51) hx hb dL_play_88 (by decide) ?_
  exact hk51 _ _ _ _ _ _ _ _ _ _ hF _ _ (by omega) (by omega) _ _ _ hw (lv_sub hl [1, 2, 3, 4, 5, 0] rfl)
set_option maxHeartbeats 1000000 in
set_option maxRecDepth 100000 in
theorem wL_play_51 {p : Program} {l : Launch} {e : Env} {s : State} {m : MethodId} {args : Array Value} {below : List Frame} {meth : Method} {c : Code} {A : Nat → Prop} {Q : State → Prop} {G : va_G} {k : Nat → ClassId} {ad : Nat → Nat} {sv : Int32} {kE : Int32} {ft : Nat → Int64} {fs : Nat → Int64} {ch : Nat → Int32} {ln : Int32} {o : Int32 × Int32 × (Nat → Int64) × (Nat → Int64) × Int32 × Int32} (C0 : zCx p s m args meth c wsL_play cL_play RL (some .int) 6) (hl9 : l.stackTraces = false) (hK : zKK G k A s s.heap) (hA : ∀ q : Nat, s.heap.size ≤ q → A q) (hret : zRI p l e rmL_play s m args below meth c cL_play G A 8909 53454 Q .int (zC ad k sv kE o.2.1 o.2.2.1 ft fs o.2.2.2.1 o.2.2.2.2.1 o.2.2.2.2.2 ch ln) o.1)  {d1_7 d2_7 : Nat} (k7 : Int32 → (Nat → Int64) → (Nat → Int64) → Int32 → Int32 → Int32 → Int32 → Int32 → Option (Int32 × Int32 × (Nat → Int64) × (Nat → Int64) × Int32 × Int32)) (hk7 : ∀ (kR : Int32) (fb : Nat → Int64) (rws : Nat → Int64) (nx : Int32) (ct : Int32) (x1 : Int32) (x2 : Int32) (x3 : Int32), k7 kR fb rws nx ct x1 x2 x3 = some o → ∀ (ca cb : Nat), ca + d1_7 ≤ 8909 → cb + d2_7 ≤ 53454 → ∀ (H : Heap) (locs : List Loc) (ls : Array Slot), zWd G A s (zC ad k sv kE kR fb ft fs rws nx ct ch ln) H locs → lv_has ls 6 [(0, .ref (ad 0)), (1, .int x1), (2, .int x2), (3, .int x3)] → W p l e rmL_play s m args below meth c H locs ca cb Q (F0 m 7 ls [])) : ∀ (n : Nat) (kR : Int32) (fb : Nat → Int64) (rws : Nat → Int64) (nx : Int32) (ct : Int32) (x1 : Int32) (x2 : Int32) (x3 : Int32) (x4 : Int32) (x5 : Int32), fL_play_51 k7 ln n kR fb rws nx ct x1 x2 x3 x4 x5 = some o → ∀ (ca cb : Nat), ca + (n * 3 + 6 + d1_7) ≤ 8909 → cb + (n * 18 + 36 + d2_7) ≤ 53454 → ∀ (H : Heap) (locs : List Loc) (ls : Array Slot), zWd G A s (zC ad k sv kE kR fb ft fs rws nx ct ch ln) H locs → lv_has ls 6 [(0, .ref (ad 0)), (1, .int x1), (2, .int x2), (3, .int x3), (4, .int x4), (5, .int x5)] → W p l e rmL_play s m args below meth c H locs ca cb Q (F0 m 51 ls []) := by
  obtain ⟨hx, hb, hr, hml, hown, hts, hlocks⟩ := id C0
  intro n
  induction n with
  | zero => intro kR fb rws nx ct x1 x2 x3 x4 x5 hF; exact nomatch hF
  | succ n ih =>
    intro kR fb rws nx ct x1 x2 x3 x4 x5 hF ca cb hca hcb H locs ls hw hl
    rw [fL_play_51] at hF
    refine lv_iload hx hb dL_play_51 (lv_at hl 5 rfl) ?_
    refine lv_bipush (v := (36 : Int32)) hx hb dL_play_53 (by decide) ?_
    refine lv_icmp_ge (tgt := 91) hx hb dL_play_55 (by decide) (fun hc => ?_) (fun hc => ?_)
    · have hF := zif_t hc hF
      exact wL_play_91 C0 hl9 hK hA hret k7 hk7   _ _ _ _ _ _ _ _ hF _ _ (by omega) (by omega) _ _ _ hw (lv_sub hl [0, 1, 2, 3] rfl)
    · have hF := zif_f hc hF
      refine lv_aload_n hx hb dL_play_58 rfl (lv_at hl 0 rfl) ?_
      refine lv_iload hx hb dL_play_59 (lv_at hl 4 rfl) ?_
      refine lv_iload hx hb dL_play_61 (lv_at hl 5 rfl) ?_
      obtain ⟨u1, hq2, hF⟩ := zbd_t hF
      refine zgoXI4 (o0 := u1.1) (w' := (zC ad k sv kE kR fb ft fs rws nx ct ch ln)) (wa := []) (wc := (zC ad k sv kE kR fb ft fs rws nx ct ch ln)) (wc' := (zC ad k sv kE kR fb ft fs rws nx ct ch ln)) (wr := []) hw (zap_nil _) (zap_nil _) hA (zVx4 (wa := []) (wc := (zC ad k sv kE kR fb ft fs rws nx ct ch ln)) (wr := []) (As := [.int x4, .int x5]) (rest := []) ⟨hx, hb, hml, hown, hts⟩ (mX4_canMove l hl9 G k ad H.size sv kE kR fb ft fs rws nx ct ch ln x4 x5 u1 hq2) (cwV 2 hts gL_play_X4_canMove rfl rfl rfl kdX4_canMove ⟨Nat.le_of_ble_eq_true rfl, Nat.le_of_ble_eq_true rfl⟩) hK hA hw (zap_nil _) 0 rfl rfl rfl rfl hl.1 rfl (Nat.le_of_ble_eq_true rfl) dL_play_63 ⟨(by show _ ≤ 8909; omega), (by show _ ≤ 53454; omega)⟩) rfl (fun h03 H locs q9 E9 ce9 hw g1 g2 g3 g4 => ?_) (fun h03 H locs hw => ?_)
      · exact nomatch (zif_f h03 hF)
      have hF := zif_t h03 hF
      refine lv_if_eq (tgt := 85) hx hb dL_play_66 (by decide) (fun hc => ?_) (fun hc => ?_)
      · have hF := zif_t hc hF
        exact wL_play_85 C0 hl9 hK hA hret (fun z0 z1 z2 z3 z4 z5 z6 z7 z8 z9 => fL_play_51 k7 ln n z0 z1 z2 z3 z4 z5 z6 z7 z8 z9) ih   _ _ _ _ _ _ _ _ _ _ hF _ _ (by omega) (by omega) _ _ _ hw (lv_sub hl [0, 1, 2, 3, 4, 5] rfl)
      · have hF := zif_f hc hF
        obtain ⟨a4, ea4⟩ : ∃ z : Int32, z = x2 + (-1 : Int32) := ⟨_, rfl⟩
        have hF := zbn_t ea4 hF
        refine lv_iinc (v := a4) (lv' := [(2, .int a4), (0, .ref (ad 0)), (1, .int x1), (3, .int x3), (4, .int x4), (5, .int x5)]) hx hb dL_play_69 hl (k := 2) rfl (by rw [ea4]; rfl) (by decide) rfl (fun ls hl => ?_)
        refine lv_iload_n hx hb dL_play_72 rfl (lv_at hl 0 rfl) ?_
        refine lv_if_ge (tgt := 85) hx hb dL_play_73 (by decide) (fun hc => ?_) (fun hc => ?_)
        · have hF := zif_t hc hF
          exact wL_play_85 C0 hl9 hK hA hret (fun z0 z1 z2 z3 z4 z5 z6 z7 z8 z9 => fL_play_51 k7 ln n z0 z1 z2 z3 z4 z5 z6 z7 z8 z9) ih   _ _ _ _ _ _ _ _ _ _ hF _ _ (by omega) (by omega) _ _ _ hw (lv_sub hl [1, 2, 0, 3, 4, 5] rfl)
        · have hF := zif_f hc hF
          refine lv_aload_n hx hb dL_play_76 rfl (lv_at hl 1 rfl) ?_
          refine lv_iload hx hb dL_play_77 (lv_at hl 4 rfl) ?_
          refine lv_iload hx hb dL_play_79 (lv_at hl 5 rfl) ?_
          obtain ⟨u5, hq6, hF⟩ := zbd_t hF
          refine zgoI4 (w' := (zC ad k sv kE u5.2.1 u5.2.2.1 ft fs u5.2.2.2.1 u5.2.2.2.2.1 u5.2.2.2.2.2 ch ln)) (wa := []) (wc := (zC ad k sv kE kR fb ft fs rws nx ct ch ln)) (wc' := (zC ad k sv kE u5.2.1 u5.2.2.1 ft fs u5.2.2.2.1 u5.2.2.2.2.1 u5.2.2.2.2.2 ch ln)) (wr := []) hw (zap_nil _) (zap_nil _) hA (zSW4 (wa := []) (wc := (zC ad k sv kE kR fb ft fs rws nx ct ch ln)) (wr := []) (As := [.ref (ad 0), .int x4, .int x5]) (rest := []) ⟨hx, hb, hml, hown, hts⟩ (mL_move l hl9 G k ad H.size sv kE kR fb ft fs rws nx ct ch ln x4 x5 u5 hq6) (vx_cwSW 3 hts gL_play_L_move rfl rfl rfl kdL_move ⟨Nat.le_of_ble_eq_true rfl, Nat.le_of_ble_eq_true rfl⟩) hK hA hw (zap_nil _) rfl hl.1 rfl (Nat.le_of_ble_eq_true rfl) dL_play_81 ⟨(by show _ ≤ 8909; omega), (by show _ ≤ 53454; omega)⟩) rfl (fun H locs hw => ?_)
          obtain rfl := Option.some.inj hF
          refine W.widen (k := 8909) (n := 53454) (by omega) (by omega) ?_
          exact hret _ _ _ _ rfl hw dL_play_84
set_option maxHeartbeats 1000000 in
set_option maxRecDepth 100000 in
theorem wL_play_7 {p : Program} {l : Launch} {e : Env} {s : State} {m : MethodId} {args : Array Value} {below : List Frame} {meth : Method} {c : Code} {A : Nat → Prop} {Q : State → Prop} {G : va_G} {k : Nat → ClassId} {ad : Nat → Nat} {sv : Int32} {kE : Int32} {ft : Nat → Int64} {fs : Nat → Int64} {ch : Nat → Int32} {ln : Int32} {o : Int32 × Int32 × (Nat → Int64) × (Nat → Int64) × Int32 × Int32} (C0 : zCx p s m args meth c wsL_play cL_play RL (some .int) 6) (hl9 : l.stackTraces = false) (hK : zKK G k A s s.heap) (hA : ∀ q : Nat, s.heap.size ≤ q → A q) (hret : zRI p l e rmL_play s m args below meth c cL_play G A 8909 53454 Q .int (zC ad k sv kE o.2.1 o.2.2.1 ft fs o.2.2.2.1 o.2.2.2.2.1 o.2.2.2.2.2 ch ln) o.1)   : ∀ (n : Nat) (kR : Int32) (fb : Nat → Int64) (rws : Nat → Int64) (nx : Int32) (ct : Int32) (x1 : Int32) (x2 : Int32) (x3 : Int32), fL_play_7  ln n kR fb rws nx ct x1 x2 x3 = some o → ∀ (ca cb : Nat), ca + (n * 122 + 3) ≤ 8909 → cb + (n * 732 + 18) ≤ 53454 → ∀ (H : Heap) (locs : List Loc) (ls : Array Slot), zWd G A s (zC ad k sv kE kR fb ft fs rws nx ct ch ln) H locs → lv_has ls 6 [(0, .ref (ad 0)), (1, .int x1), (2, .int x2), (3, .int x3)] → W p l e rmL_play s m args below meth c H locs ca cb Q (F0 m 7 ls []) := by
  obtain ⟨hx, hb, hr, hml, hown, hts, hlocks⟩ := id C0
  intro n
  induction n with
  | zero => intro kR fb rws nx ct x1 x2 x3 hF; exact nomatch hF
  | succ n ih =>
    intro kR fb rws nx ct x1 x2 x3 hF ca cb hca hcb H locs ls hw hl
    rw [fL_play_7] at hF
    refine lv_iload_n hx hb dL_play_7 rfl (lv_at hl 3 rfl) ?_
    refine lv_bipush (v := (72 : Int32)) hx hb dL_play_8 (by decide) ?_
    refine lv_icmp_ge (tgt := 97) hx hb dL_play_10 (by decide) (fun hc => ?_) (fun hc => ?_)
    · have hF := zif_t hc hF
      refine lv_aload_n hx hb dL_play_97 rfl (lv_at hl 0 rfl) ?_
      refine lv_iconst (v := (0 : Int32)) hx hb dL_play_98 (by decide) ?_
      refine lv_iconst (v := (0 : Int32)) hx hb dL_play_99 (by decide) ?_
      obtain ⟨u1, hq2, hF⟩ := zbd_t hF
      refine zgoI4 (w' := (zC ad k sv kE u1.2.1 u1.2.2.1 ft fs u1.2.2.2.1 u1.2.2.2.2.1 u1.2.2.2.2.2 ch ln)) (wa := []) (wc := (zC ad k sv kE kR fb ft fs rws nx ct ch ln)) (wc' := (zC ad k sv kE u1.2.1 u1.2.2.1 ft fs u1.2.2.2.1 u1.2.2.2.2.1 u1.2.2.2.2.2 ch ln)) (wr := []) hw (zap_nil _) (zap_nil _) hA (zSW4 (wa := []) (wc := (zC ad k sv kE kR fb ft fs rws nx ct ch ln)) (wr := []) (As := [.ref (ad 0), .int (0 : Int32), .int (0 : Int32)]) (rest := []) ⟨hx, hb, hml, hown, hts⟩ (mL_move l hl9 G k ad H.size sv kE kR fb ft fs rws nx ct ch ln (0 : Int32) (0 : Int32) u1 hq2) (vx_cwSW 3 hts gL_play_L_move rfl rfl rfl kdL_move ⟨Nat.le_of_ble_eq_true rfl, Nat.le_of_ble_eq_true rfl⟩) hK hA hw (zap_nil _) rfl hl.1 rfl (Nat.le_of_ble_eq_true rfl) dL_play_100 ⟨(by show _ ≤ 8909; omega), (by show _ ≤ 53454; omega)⟩) rfl (fun H locs hw => ?_)
      obtain rfl := Option.some.inj hF
      refine W.widen (k := 8909) (n := 53454) (by omega) (by omega) ?_
      exact hret _ _ _ _ rfl hw dL_play_103
    · have hF := zif_f hc hF
      refine lv_iload_n hx hb dL_play_13 rfl (lv_at hl 3 rfl) ?_
      refine lv_iload_n hx hb dL_play_14 rfl (lv_at hl 1 rfl) ?_
      refine lv_iadd hx hb dL_play_15 ?_
      refine lv_bipush (v := (36 : Int32)) hx hb dL_play_16 (by decide) ?_
      refine lv_irem hx hb dL_play_18 (by decide) ?_
      refine lv_topi (fun a3 ea3 => ?_)
      have hF := zbn_t ea3 hF
      refine lv_istore (lv' := [(4, .int a3), (0, .ref (ad 0)), (1, .int x1), (2, .int x2), (3, .int x3)]) hx hb dL_play_19 hl (by decide) rfl (fun ls hl => ?_)
      refine lv_aload_n hx hb dL_play_21 rfl (lv_at hl 1 rfl) ?_
      refine lv_iload hx hb dL_play_22 (lv_at hl 0 rfl) ?_
      refine lv_iconst (v := (0 : Int32)) hx hb dL_play_24 (by decide) ?_
      obtain ⟨u4, hq5, hF⟩ := zbd_t hF
      refine zgoXI4 (o0 := u4.1) (w' := (zC ad k sv kE kR fb ft fs rws nx ct ch ln)) (wa := []) (wc := (zC ad k sv kE kR fb ft fs rws nx ct ch ln)) (wc' := (zC ad k sv kE kR fb ft fs rws nx ct ch ln)) (wr := []) hw (zap_nil _) (zap_nil _) hA (zVx4 (wa := []) (wc := (zC ad k sv kE kR fb ft fs rws nx ct ch ln)) (wr := []) (As := [.int a3, .int (0 : Int32)]) (rest := []) ⟨hx, hb, hml, hown, hts⟩ (mX4_square l hl9 G k ad H.size sv kE kR fb ft fs rws nx ct ch ln a3 (0 : Int32) u4 hq5) (cwV 2 hts gL_play_X4_square rfl rfl rfl kdX4_square ⟨Nat.le_of_ble_eq_true rfl, Nat.le_of_ble_eq_true rfl⟩) hK hA hw (zap_nil _) 0 rfl rfl rfl rfl hl.1 rfl (Nat.le_of_ble_eq_true rfl) dL_play_25 ⟨(by show _ ≤ 8909; omega), (by show _ ≤ 53454; omega)⟩) rfl (fun h06 H locs q9 E9 ce9 hw g1 g2 g3 g4 => ?_) (fun h06 H locs hw => ?_)
      · exact nomatch (zif_f h06 hF)
      have hF := zif_t h06 hF
      refine lv_iconst (v := (1 : Int32)) hx hb dL_play_28 (by decide) ?_
      refine lv_icmp_ne (tgt := 91) hx hb dL_play_29 (by decide) (fun hc => ?_) (fun hc => ?_)
      · have hF := zif_f hc hF
        exact wL_play_91 C0 hl9 hK hA hret (fun z0 z1 z2 z3 z4 z5 z6 z7 => fL_play_7  ln n z0 z1 z2 z3 z4 z5 z6 z7) ih   _ _ _ _ _ _ _ _ hF _ _ (by omega) (by omega) _ _ _ hw (lv_sub hl [1, 2, 3, 4] rfl)
      · have hF := zif_t hc hF
        refine lv_aload_n hx hb dL_play_32 rfl (lv_at hl 1 rfl) ?_
        refine lv_iload hx hb dL_play_33 (lv_at hl 0 rfl) ?_
        refine lv_iconst (v := (1 : Int32)) hx hb dL_play_35 (by decide) ?_
        obtain ⟨u7, hq8, hF⟩ := zbd_t hF
        refine zgoXI4 (o0 := u7.1) (w' := (zC ad k sv kE kR fb ft fs rws nx ct ch ln)) (wa := []) (wc := (zC ad k sv kE kR fb ft fs rws nx ct ch ln)) (wc' := (zC ad k sv kE kR fb ft fs rws nx ct ch ln)) (wr := []) hw (zap_nil _) (zap_nil _) hA (zVx4 (wa := []) (wc := (zC ad k sv kE kR fb ft fs rws nx ct ch ln)) (wr := []) (As := [.int a3, .int (1 : Int32)]) (rest := []) ⟨hx, hb, hml, hown, hts⟩ (mX4_square l hl9 G k ad H.size sv kE kR fb ft fs rws nx ct ch ln a3 (1 : Int32) u7 hq8) (cwV 2 hts gL_play_X4_square rfl rfl rfl kdX4_square ⟨Nat.le_of_ble_eq_true rfl, Nat.le_of_ble_eq_true rfl⟩) hK hA hw (zap_nil _) 0 rfl rfl rfl rfl hl.1 rfl (Nat.le_of_ble_eq_true rfl) dL_play_36 ⟨(by show _ ≤ 8909; omega), (by show _ ≤ 53454; omega)⟩) rfl (fun h09 H locs q9 E9 ce9 hw g1 g2 g3 g4 => ?_) (fun h09 H locs hw => ?_)
        · exact nomatch (zif_f h09 hF)
        have hF := zif_t h09 hF
        refine lv_aload_n hx hb dL_play_39 rfl (lv_at hl 1 rfl) ?_
        refine lv_bipush (v := (7 : Int32)) hx hb dL_play_40 (by decide) ?_
        obtain ⟨u10, hq11, hF⟩ := zbd_t hF
        refine zgoXI4 (o0 := u10.1) (w' := (zC ad k sv kE kR fb ft fs rws nx ct ch ln)) (wa := []) (wc := (zC ad k sv kE kR fb ft fs rws nx ct ch ln)) (wc' := (zC ad k sv kE kR fb ft fs rws nx ct ch ln)) (wr := []) hw (zap_nil _) (zap_nil _) hA (zVx4 (wa := []) (wc := (zC ad k sv kE kR fb ft fs rws nx ct ch ln)) (wr := []) (As := [.int (7 : Int32)]) (rest := [.int u7.2]) ⟨hx, hb, hml, hown, hts⟩ (mX4_account l hl9 G k ad H.size sv kE kR fb ft fs rws nx ct ch ln (7 : Int32) u10 hq11) (cwV 1 hts gL_play_X4_account rfl rfl rfl kdX4_account ⟨Nat.le_of_ble_eq_true rfl, Nat.le_of_ble_eq_true rfl⟩) hK hA hw (zap_nil _) 0 rfl rfl rfl rfl hl.1 rfl (Nat.le_of_ble_eq_true rfl) dL_play_42 ⟨(by show _ ≤ 8909; omega), (by show _ ≤ 53454; omega)⟩) rfl (fun h012 H locs q9 E9 ce9 hw g1 g2 g3 g4 => ?_) (fun h012 H locs hw => ?_)
        · exact nomatch (zif_f h012 hF)
        have hF := zif_t h012 hF
        refine lv_icmp_ne (tgt := 91) hx hb dL_play_45 (by decide) (fun hc => ?_) (fun hc => ?_)
        · have hF := zif_f hc hF
          exact wL_play_91 C0 hl9 hK hA hret (fun z0 z1 z2 z3 z4 z5 z6 z7 => fL_play_7  ln n z0 z1 z2 z3 z4 z5 z6 z7) ih   _ _ _ _ _ _ _ _ hF _ _ (by omega) (by omega) _ _ _ hw (lv_sub hl [1, 2, 3, 4] rfl)
        · have hF := zif_t hc hF
          refine lv_iconst (v := (0 : Int32)) hx hb dL_play_48 (by decide) ?_
          refine lv_istore (lv' := [(5, .int (0 : Int32)), (4, .int a3), (0, .ref (ad 0)), (1, .int x1), (2, .int x2), (3, .int x3)]) hx hb dL_play_49 hl (by decide) rfl (fun ls hl => ?_)
          exact wL_play_51 C0 hl9 hK hA hret (fun z0 z1 z2 z3 z4 z5 z6 z7 => fL_play_7  ln n z0 z1 z2 z3 z4 z5 z6 z7) ih  37 _ _ _ _ _ _ _ _ _ _ hF _ _ (by omega) (by omega) _ _ _ hw (lv_sub hl [2, 3, 4, 5, 1, 0] rfl)
set_option maxHeartbeats 1000000 in
set_option maxRecDepth 100000 in
theorem mL_play (l : Launch) (hl9 : l.stackTraces = false) (G : va_G) (k : Nat → ClassId) (ad : Nat → Nat) (sz : Nat) (sv : Int32) (kE : Int32) (kR : Int32) (fb : Nat → Int64) (ft : Nat → Int64) (fs : Nat → Int64) (rws : Nat → Int64) (nx : Int32) (ct : Int32) (ch : Nat → Int32) (ln : Int32) (p1 : Int32) (o : Int32 × Int32 × (Nat → Int64) × (Nat → Int64) × Int32 × Int32) (hF : fL_play kR fb rws nx ct ln p1 = some o) : zMIc l yL_play wsL_play rmL_play G k (zC ad k sv kE kR fb ft fs rws nx ct ch ln) sz [.ref (ad 0), .int p1] 8909 53454 o.1 (zC ad k sv kE o.2.1 o.2.2.1 ft fs o.2.2.2.1 o.2.2.2.2.1 o.2.2.2.2.2 ch ln) := by
  refine zof_Ic (cc := cL_play) (nL := 6) (own := RL) (rt := .int) (by decide) rfl rfl (Nat.le_of_ble_eq_true rfl) ?_
  intro p e s m args below meth c A Q C0 hK hA hret ls hl hw
  have hl : lv_has ls 6 [(0, .ref (ad 0)), (1, .int p1)] := hl
  obtain ⟨hx, hb, hr, hml, hown, hts, hlocks⟩ := id C0
  obtain ⟨H, hH⟩ : ∃ z, z = s.heap := ⟨_, rfl⟩
  rw [← hH] at hw ⊢
  obtain ⟨ca, hca⟩ : ∃ z : Nat, z = 0 := ⟨_, rfl⟩
  obtain ⟨cb, hcb⟩ : ∃ z : Nat, z = 0 := ⟨_, rfl⟩
  refine W.widen (k := ca) (n := cb) (Nat.zero_le _) (Nat.zero_le _) ?_
  unfold fL_play at hF
  refine lv_iload_n hx hb dL_play_0 rfl (lv_at hl 1 rfl) ?_
  refine lv_bipush (v := (30 : Int32)) hx hb dL_play_1 (by decide) ?_
  refine lv_irem hx hb dL_play_3 (by decide) ?_
  refine lv_topi (fun a1 ea1 => ?_)
  have hF := zbn_t ea1 hF
  refine lv_istore_n (lv' := [(2, .int a1), (0, .ref (ad 0)), (1, .int p1)]) hx hb dL_play_4 rfl hl (by decide) rfl (fun ls hl => ?_)
  refine lv_iconst (v := (0 : Int32)) hx hb dL_play_5 (by decide) ?_
  refine lv_istore_n (lv' := [(3, .int (0 : Int32)), (2, .int a1), (0, .ref (ad 0)), (1, .int p1)]) hx hb dL_play_6 rfl hl (by decide) rfl (fun ls hl => ?_)
  exact wL_play_7 C0 hl9 hK hA hret   73 _ _ _ _ _ _ _ _ hF _ _ (by omega) (by omega) _ _ _ hw (lv_sub hl [2, 3, 1, 0] rfl)

/-! SealedBoardLaw.act(LSealedBoard;I)I -/
abbrev rmL_act : Room := { frames := 10, cells := 8909, slots := 53454, locals := 212 }
theorem kdL_act : yL_act.cls ≠ "java/lang/invoke/MethodHandle" ∧ yL_act.cls ≠ "java/lang/invoke/VarHandle" ∧ (parseMethodDescriptor yL_act.desc).map (fun d => d.parameters.length) = some 2 := by decide +kernel
def fL_act (sv : Int32) (kE : Int32) (kR : Int32) (fb : Nat → Int64) (ft : Nat → Int64) (fs : Nat → Int64) (rws : Nat → Int64) (nx : Int32) (ct : Int32) (ch : Nat → Int32) (ln : Int32) (p1 : Int32) : Option (Int32 × Int32 × Int32 × Int32 × (Nat → Int64) × (Nat → Int64) × (Nat → Int64) × (Nat → Int64) × Int32 × Int32 × (Nat → Int32) × Int32) := (zbn ((p1 >>> ((4 : Int32) &&& 31)) &&& (65535 : Int32)) (fun a1 => (zbn (p1 &&& (15 : Int32)) (fun a2 => (if a2 = (0 : Int32) then (if (a1 &&& (7 : Int32)) = 0 then (zbd (fX4_start fb rws nx ct) (fun u6 => (some (u6.1, sv, kE, kR, u6.2.1, ft, fs, u6.2.2.1, u6.2.2.2.1, u6.2.2.2.2, ch, ln)))) else (zbd (fL_lay fb rws nx ct (a1 &&& (1 : Int32)) ((a1 >>> ((1 : Int32) &&& 31)) - (a1 >>> ((1 : Int32) &&& 31)) / (4 : Int32) * (4 : Int32)) ((a1 >>> ((3 : Int32) &&& 31)) - (a1 >>> ((3 : Int32) &&& 31)) / (36 : Int32) * (36 : Int32))) (fun u4 => (some (u4.1, sv, kE, kR, u4.2.1, ft, fs, u4.2.2.1, u4.2.2.2.1, u4.2.2.2.2, ch, ln))))) else (if a2 = (1 : Int32) then (zbd (fL_lay fb rws nx ct (a1 &&& (1 : Int32)) ((a1 >>> ((1 : Int32) &&& 31)) - (a1 >>> ((1 : Int32) &&& 31)) / (4 : Int32) * (4 : Int32)) ((a1 >>> ((3 : Int32) &&& 31)) - (a1 >>> ((3 : Int32) &&& 31)) / (36 : Int32) * (36 : Int32))) (fun u9 => (some (u9.1, sv, kE, kR, u9.2.1, ft, fs, u9.2.2.1, u9.2.2.2.1, u9.2.2.2.2, ch, ln)))) else (if a2 = (2 : Int32) then (zbd (fL_lay fb rws nx ct (a1 &&& (1 : Int32)) ((a1 >>> ((1 : Int32) &&& 31)) - (a1 >>> ((1 : Int32) &&& 31)) / (4 : Int32) * (4 : Int32)) ((a1 >>> ((3 : Int32) &&& 31)) - (a1 >>> ((3 : Int32) &&& 31)) / (36 : Int32) * (36 : Int32))) (fun u12 => (some (u12.1, sv, kE, kR, u12.2.1, ft, fs, u12.2.2.1, u12.2.2.2.1, u12.2.2.2.2, ch, ln)))) else (if a2 = (3 : Int32) then (zbd (fL_wall fb rws nx ct ((a1 >>> ((1 : Int32) &&& 31)) - (a1 >>> ((1 : Int32) &&& 31)) / (36 : Int32) * (36 : Int32))) (fun u15 => (some (u15.1, sv, kE, kR, u15.2.1, ft, fs, u15.2.2.1, u15.2.2.2.1, u15.2.2.2.2, ch, ln)))) else (if a2 = (4 : Int32) then (if (a1 &&& (7 : Int32)) = 0 then (zbd (fL_restore sv fb fs ct) (fun u20 => (some (u20.1, sv, kE, kR, u20.2.1, ft, fs, rws, nx, u20.2.2, ch, ln)))) else (zbd (fL_door kR fb rws nx ct ((a1 >>> ((3 : Int32) &&& 31)) - (a1 >>> ((3 : Int32) &&& 31)) / (36 : Int32) * (36 : Int32))) (fun u18 => (some (u18.1, sv, kE, u18.2.1, u18.2.2.1, ft, fs, u18.2.2.2.1, u18.2.2.2.2.1, u18.2.2.2.2.2, ch, ln))))) else (if a2 = (5 : Int32) then (if (a1 &&& (7 : Int32)) = 0 then (zbd (fX4_save sv fb fs) (fun u25 => (some (u25.1, u25.2.1, kE, kR, fb, ft, u25.2.2, rws, nx, ct, ch, ln)))) else (zbd (fL_buy kR fb rws nx ct ((a1 >>> ((3 : Int32) &&& 31)) - (a1 >>> ((3 : Int32) &&& 31)) / (36 : Int32) * (36 : Int32))) (fun u23 => (some (u23.1, sv, kE, u23.2.1, u23.2.2.1, ft, fs, u23.2.2.2.1, u23.2.2.2.2.1, u23.2.2.2.2.2, ch, ln))))) else (if a2 = (6 : Int32) then (if (a1 &&& (1 : Int32)) = 0 then (zbd (fL_undo fb rws nx ct) (fun u30 => (some (u30.1, sv, kE, kR, u30.2.1, ft, fs, rws, u30.2.2.1, u30.2.2.2, ch, ln)))) else (zbd (fL_door kR fb rws nx ct ((a1 >>> ((1 : Int32) &&& 31)) - (a1 >>> ((1 : Int32) &&& 31)) / (36 : Int32) * (36 : Int32))) (fun u28 => (some (u28.1, sv, kE, u28.2.1, u28.2.2.1, ft, fs, u28.2.2.2.1, u28.2.2.2.2.1, u28.2.2.2.2.2, ch, ln))))) else (if a2 = (7 : Int32) then (zck (zin ((a1 >>> ((1 : Int32) &&& 31)) - (a1 >>> ((1 : Int32) &&& 31)) / (13 : Int32) * (13 : Int32)) 13) (zbd (fL_read_ (zTb (((a1 >>> ((1 : Int32) &&& 31)) - (a1 >>> ((1 : Int32) &&& 31)) / (13 : Int32) * (13 : Int32)).toNatClampNeg)) kE kR fb ft rws nx ct ch ln) (fun u36 => (some (u36.1, sv, u36.2.1, u36.2.2.1, u36.2.2.2.1, u36.2.2.2.2.1, fs, u36.2.2.2.2.2.1, u36.2.2.2.2.2.2.1, u36.2.2.2.2.2.2.2.1, u36.2.2.2.2.2.2.2.2.1, u36.2.2.2.2.2.2.2.2.2))))) else (zbd (fL_play kR fb rws nx ct ln a1) (fun u38 => (some (u38.1, sv, kE, u38.2.1, u38.2.2.1, ft, fs, u38.2.2.2.1, u38.2.2.2.2.1, u38.2.2.2.2.2, ch, ln))))))))))))))))
set_option maxHeartbeats 1000000 in
set_option maxRecDepth 100000 in
theorem mL_act (l : Launch) (hl9 : l.stackTraces = false) (G : va_G) (k : Nat → ClassId) (ad : Nat → Nat) (sz : Nat) (sv : Int32) (kE : Int32) (kR : Int32) (fb : Nat → Int64) (ft : Nat → Int64) (fs : Nat → Int64) (rws : Nat → Int64) (nx : Int32) (ct : Int32) (ch : Nat → Int32) (ln : Int32) (p1 : Int32) (o : Int32 × Int32 × Int32 × Int32 × (Nat → Int64) × (Nat → Int64) × (Nat → Int64) × (Nat → Int64) × Int32 × Int32 × (Nat → Int32) × Int32) (hF : fL_act sv kE kR fb ft fs rws nx ct ch ln p1 = some o) : zMIc l yL_act wsL_act rmL_act G k (zC ad k sv kE kR fb ft fs rws nx ct ch ln) sz [.ref (ad 0), .int p1] 8909 53454 o.1 (zC ad k o.2.1 o.2.2.1 o.2.2.2.1 o.2.2.2.2.1 o.2.2.2.2.2.1 o.2.2.2.2.2.2.1 o.2.2.2.2.2.2.2.1 o.2.2.2.2.2.2.2.2.1 o.2.2.2.2.2.2.2.2.2.1 o.2.2.2.2.2.2.2.2.2.2.1 o.2.2.2.2.2.2.2.2.2.2.2) := by
  refine zof_Ic (cc := cL_act) (nL := 3) (own := RL) (rt := .int) (by decide) rfl rfl (Nat.le_of_ble_eq_true rfl) ?_
  intro p e s m args below meth c A Q C0 hK hA hret ls hl hw
  have hl : lv_has ls 3 [(0, .ref (ad 0)), (1, .int p1)] := hl
  obtain ⟨hx, hb, hr, hml, hown, hts, hlocks⟩ := id C0
  obtain ⟨H, hH⟩ : ∃ z, z = s.heap := ⟨_, rfl⟩
  rw [← hH] at hw ⊢
  obtain ⟨ca, hca⟩ : ∃ z : Nat, z = 0 := ⟨_, rfl⟩
  obtain ⟨cb, hcb⟩ : ∃ z : Nat, z = 0 := ⟨_, rfl⟩
  refine W.widen (k := ca) (n := cb) (Nat.zero_le _) (Nat.zero_le _) ?_
  unfold fL_act at hF
  refine lv_iload_n hx hb dL_act_0 rfl (lv_at hl 1 rfl) ?_
  refine lv_iconst (v := (4 : Int32)) hx hb dL_act_1 (by decide) ?_
  refine lv_ishr hx hb dL_act_2 ?_
  refine lv_ldc (v := (65535 : Int32)) hx hb hown (hts (.constant RL 7 (65535)) (by decide +kernel)) dL_act_3 ?_
  refine lv_iand hx hb dL_act_5 ?_
  refine lv_topi (fun a1 ea1 => ?_)
  have hF := zbn_t ea1 hF
  refine lv_istore_n (lv' := [(2, .int a1), (0, .ref (ad 0)), (1, .int p1)]) hx hb dL_act_6 rfl hl (by decide) rfl (fun ls hl => ?_)
  refine lv_iload_n hx hb dL_act_7 rfl (lv_at hl 2 rfl) ?_
  refine lv_bipush (v := (15 : Int32)) hx hb dL_act_8 (by decide) ?_
  refine lv_iand hx hb dL_act_10 ?_
  refine lv_topi (fun a2 ea2 => ?_)
  have hF := zbn_t ea2 hF
  by_cases hc3 : a2 = (0 : Int32)
  · have hF := zif_t hc3 hF
    refine lv_tableIn (tgt := 56) (off := 45) hx hb dL_act_11 (by rw [hc3]; decide) (by rw [hc3]; decide) (by rw [hc3]; rfl) (by decide) ?_
    refine lv_iload_n hx hb dL_act_56 rfl (lv_at hl 0 rfl) ?_
    refine lv_bipush (v := (7 : Int32)) hx hb dL_act_57 (by decide) ?_
    refine lv_iand hx hb dL_act_59 ?_
    refine lv_if_ne (tgt := 70) hx hb dL_act_60 (by decide) (fun hc => ?_) (fun hc => ?_)
    · have hF := zif_f hc hF
      refine lv_aload_n hx hb dL_act_70 rfl (lv_at hl 1 rfl) ?_
      refine lv_iload_n hx hb dL_act_71 rfl (lv_at hl 0 rfl) ?_
      refine lv_iconst (v := (1 : Int32)) hx hb dL_act_72 (by decide) ?_
      refine lv_iand hx hb dL_act_73 ?_
      refine lv_iload_n hx hb dL_act_74 rfl (lv_at hl 0 rfl) ?_
      refine lv_iconst (v := (1 : Int32)) hx hb dL_act_75 (by decide) ?_
      refine lv_ishr hx hb dL_act_76 ?_
      refine lv_iconst (v := (4 : Int32)) hx hb dL_act_77 (by decide) ?_
      refine lv_irem hx hb dL_act_78 (by decide) ?_
      refine lv_iload_n hx hb dL_act_79 rfl (lv_at hl 0 rfl) ?_
      refine lv_iconst (v := (3 : Int32)) hx hb dL_act_80 (by decide) ?_
      refine lv_ishr hx hb dL_act_81 ?_
      refine lv_bipush (v := (36 : Int32)) hx hb dL_act_82 (by decide) ?_
      refine lv_irem hx hb dL_act_84 (by decide) ?_
      obtain ⟨u4, hq5, hF⟩ := zbd_t hF
      refine zgoI4 (w' := (zC ad k sv kE kR u4.2.1 ft fs u4.2.2.1 u4.2.2.2.1 u4.2.2.2.2 ch ln)) (wa := []) (wc := (zC ad k sv kE kR fb ft fs rws nx ct ch ln)) (wc' := (zC ad k sv kE kR u4.2.1 ft fs u4.2.2.1 u4.2.2.2.1 u4.2.2.2.2 ch ln)) (wr := []) hw (zap_nil _) (zap_nil _) hA (zSW4 (wa := []) (wc := (zC ad k sv kE kR fb ft fs rws nx ct ch ln)) (wr := []) (As := [.ref (ad 0), .int (a1 &&& (1 : Int32)), .int ((a1 >>> ((1 : Int32) &&& 31)) - (a1 >>> ((1 : Int32) &&& 31)) / (4 : Int32) * (4 : Int32)), .int ((a1 >>> ((3 : Int32) &&& 31)) - (a1 >>> ((3 : Int32) &&& 31)) / (36 : Int32) * (36 : Int32))]) (rest := []) ⟨hx, hb, hml, hown, hts⟩ (mL_lay l hl9 G k ad H.size sv kE kR fb ft fs rws nx ct ch ln (a1 &&& (1 : Int32)) ((a1 >>> ((1 : Int32) &&& 31)) - (a1 >>> ((1 : Int32) &&& 31)) / (4 : Int32) * (4 : Int32)) ((a1 >>> ((3 : Int32) &&& 31)) - (a1 >>> ((3 : Int32) &&& 31)) / (36 : Int32) * (36 : Int32)) u4 hq5) (vx_cwSW 4 hts gL_act_L_lay rfl rfl rfl kdL_lay ⟨Nat.le_of_ble_eq_true rfl, Nat.le_of_ble_eq_true rfl⟩) hK hA hw (zap_nil _) rfl hl.1 rfl (Nat.le_of_ble_eq_true rfl) dL_act_85 ⟨(by show _ ≤ 8909; omega), (by show _ ≤ 53454; omega)⟩) rfl (fun H locs hw => ?_)
      obtain rfl := Option.some.inj hF
      refine W.widen (k := 8909) (n := 53454) (by omega) (by omega) ?_
      exact hret _ _ _ _ rfl hw dL_act_88
    · have hF := zif_t hc hF
      refine lv_aload_n hx hb dL_act_63 rfl (lv_at hl 1 rfl) ?_
      obtain ⟨u6, hq7, hF⟩ := zbd_t hF
      refine zgoI4 (w' := (zC ad k sv kE kR u6.2.1 ft fs u6.2.2.1 u6.2.2.2.1 u6.2.2.2.2 ch ln)) (wa := []) (wc := (zC ad k sv kE kR fb ft fs rws nx ct ch ln)) (wc' := (zC ad k sv kE kR u6.2.1 ft fs u6.2.2.1 u6.2.2.2.1 u6.2.2.2.2 ch ln)) (wr := []) hw (zap_nil _) (zap_nil _) hA (zV4 (wa := []) (wc := (zC ad k sv kE kR fb ft fs rws nx ct ch ln)) (wr := []) (As := []) (rest := []) ⟨hx, hb, hml, hown, hts⟩ (mX4_start l G k ad H.size sv kE kR fb ft fs rws nx ct ch ln  u6 hq7) (cwV 0 hts gL_act_X4_start rfl rfl rfl kdX4_start ⟨Nat.le_of_ble_eq_true rfl, Nat.le_of_ble_eq_true rfl⟩) hK hA hw (zap_nil _) 0 rfl rfl rfl rfl hl.1 rfl (Nat.le_of_ble_eq_true rfl) dL_act_64 ⟨(by show _ ≤ 8909; omega), (by show _ ≤ 53454; omega)⟩) rfl (fun H locs hw => ?_)
      refine lv_goto (tgt := 88) hx hb dL_act_67 (by decide) ?_
      obtain rfl := Option.some.inj hF
      refine W.widen (k := 8909) (n := 53454) (by omega) (by omega) ?_
      exact hret _ _ _ _ rfl hw dL_act_88
  have hF := zif_f hc3 hF
  by_cases hc8 : a2 = (1 : Int32)
  · have hF := zif_t hc8 hF
    refine lv_tableIn (tgt := 89) (off := 78) hx hb dL_act_11 (by rw [hc8]; decide) (by rw [hc8]; decide) (by rw [hc8]; rfl) (by decide) ?_
    refine lv_aload_n hx hb dL_act_89 rfl (lv_at hl 1 rfl) ?_
    refine lv_iload_n hx hb dL_act_90 rfl (lv_at hl 0 rfl) ?_
    refine lv_iconst (v := (1 : Int32)) hx hb dL_act_91 (by decide) ?_
    refine lv_iand hx hb dL_act_92 ?_
    refine lv_iload_n hx hb dL_act_93 rfl (lv_at hl 0 rfl) ?_
    refine lv_iconst (v := (1 : Int32)) hx hb dL_act_94 (by decide) ?_
    refine lv_ishr hx hb dL_act_95 ?_
    refine lv_iconst (v := (4 : Int32)) hx hb dL_act_96 (by decide) ?_
    refine lv_irem hx hb dL_act_97 (by decide) ?_
    refine lv_iload_n hx hb dL_act_98 rfl (lv_at hl 0 rfl) ?_
    refine lv_iconst (v := (3 : Int32)) hx hb dL_act_99 (by decide) ?_
    refine lv_ishr hx hb dL_act_100 ?_
    refine lv_bipush (v := (36 : Int32)) hx hb dL_act_101 (by decide) ?_
    refine lv_irem hx hb dL_act_103 (by decide) ?_
    obtain ⟨u9, hq10, hF⟩ := zbd_t hF
    refine zgoI4 (w' := (zC ad k sv kE kR u9.2.1 ft fs u9.2.2.1 u9.2.2.2.1 u9.2.2.2.2 ch ln)) (wa := []) (wc := (zC ad k sv kE kR fb ft fs rws nx ct ch ln)) (wc' := (zC ad k sv kE kR u9.2.1 ft fs u9.2.2.1 u9.2.2.2.1 u9.2.2.2.2 ch ln)) (wr := []) hw (zap_nil _) (zap_nil _) hA (zSW4 (wa := []) (wc := (zC ad k sv kE kR fb ft fs rws nx ct ch ln)) (wr := []) (As := [.ref (ad 0), .int (a1 &&& (1 : Int32)), .int ((a1 >>> ((1 : Int32) &&& 31)) - (a1 >>> ((1 : Int32) &&& 31)) / (4 : Int32) * (4 : Int32)), .int ((a1 >>> ((3 : Int32) &&& 31)) - (a1 >>> ((3 : Int32) &&& 31)) / (36 : Int32) * (36 : Int32))]) (rest := []) ⟨hx, hb, hml, hown, hts⟩ (mL_lay l hl9 G k ad H.size sv kE kR fb ft fs rws nx ct ch ln (a1 &&& (1 : Int32)) ((a1 >>> ((1 : Int32) &&& 31)) - (a1 >>> ((1 : Int32) &&& 31)) / (4 : Int32) * (4 : Int32)) ((a1 >>> ((3 : Int32) &&& 31)) - (a1 >>> ((3 : Int32) &&& 31)) / (36 : Int32) * (36 : Int32)) u9 hq10) (vx_cwSW 4 hts gL_act_L_lay rfl rfl rfl kdL_lay ⟨Nat.le_of_ble_eq_true rfl, Nat.le_of_ble_eq_true rfl⟩) hK hA hw (zap_nil _) rfl hl.1 rfl (Nat.le_of_ble_eq_true rfl) dL_act_104 ⟨(by show _ ≤ 8909; omega), (by show _ ≤ 53454; omega)⟩) rfl (fun H locs hw => ?_)
    obtain rfl := Option.some.inj hF
    refine W.widen (k := 8909) (n := 53454) (by omega) (by omega) ?_
    exact hret _ _ _ _ rfl hw dL_act_107
  have hF := zif_f hc8 hF
  by_cases hc11 : a2 = (2 : Int32)
  · have hF := zif_t hc11 hF
    refine lv_tableIn (tgt := 89) (off := 78) hx hb dL_act_11 (by rw [hc11]; decide) (by rw [hc11]; decide) (by rw [hc11]; rfl) (by decide) ?_
    refine lv_aload_n hx hb dL_act_89 rfl (lv_at hl 1 rfl) ?_
    refine lv_iload_n hx hb dL_act_90 rfl (lv_at hl 0 rfl) ?_
    refine lv_iconst (v := (1 : Int32)) hx hb dL_act_91 (by decide) ?_
    refine lv_iand hx hb dL_act_92 ?_
    refine lv_iload_n hx hb dL_act_93 rfl (lv_at hl 0 rfl) ?_
    refine lv_iconst (v := (1 : Int32)) hx hb dL_act_94 (by decide) ?_
    refine lv_ishr hx hb dL_act_95 ?_
    refine lv_iconst (v := (4 : Int32)) hx hb dL_act_96 (by decide) ?_
    refine lv_irem hx hb dL_act_97 (by decide) ?_
    refine lv_iload_n hx hb dL_act_98 rfl (lv_at hl 0 rfl) ?_
    refine lv_iconst (v := (3 : Int32)) hx hb dL_act_99 (by decide) ?_
    refine lv_ishr hx hb dL_act_100 ?_
    refine lv_bipush (v := (36 : Int32)) hx hb dL_act_101 (by decide) ?_
    refine lv_irem hx hb dL_act_103 (by decide) ?_
    obtain ⟨u12, hq13, hF⟩ := zbd_t hF
    refine zgoI4 (w' := (zC ad k sv kE kR u12.2.1 ft fs u12.2.2.1 u12.2.2.2.1 u12.2.2.2.2 ch ln)) (wa := []) (wc := (zC ad k sv kE kR fb ft fs rws nx ct ch ln)) (wc' := (zC ad k sv kE kR u12.2.1 ft fs u12.2.2.1 u12.2.2.2.1 u12.2.2.2.2 ch ln)) (wr := []) hw (zap_nil _) (zap_nil _) hA (zSW4 (wa := []) (wc := (zC ad k sv kE kR fb ft fs rws nx ct ch ln)) (wr := []) (As := [.ref (ad 0), .int (a1 &&& (1 : Int32)), .int ((a1 >>> ((1 : Int32) &&& 31)) - (a1 >>> ((1 : Int32) &&& 31)) / (4 : Int32) * (4 : Int32)), .int ((a1 >>> ((3 : Int32) &&& 31)) - (a1 >>> ((3 : Int32) &&& 31)) / (36 : Int32) * (36 : Int32))]) (rest := []) ⟨hx, hb, hml, hown, hts⟩ (mL_lay l hl9 G k ad H.size sv kE kR fb ft fs rws nx ct ch ln (a1 &&& (1 : Int32)) ((a1 >>> ((1 : Int32) &&& 31)) - (a1 >>> ((1 : Int32) &&& 31)) / (4 : Int32) * (4 : Int32)) ((a1 >>> ((3 : Int32) &&& 31)) - (a1 >>> ((3 : Int32) &&& 31)) / (36 : Int32) * (36 : Int32)) u12 hq13) (vx_cwSW 4 hts gL_act_L_lay rfl rfl rfl kdL_lay ⟨Nat.le_of_ble_eq_true rfl, Nat.le_of_ble_eq_true rfl⟩) hK hA hw (zap_nil _) rfl hl.1 rfl (Nat.le_of_ble_eq_true rfl) dL_act_104 ⟨(by show _ ≤ 8909; omega), (by show _ ≤ 53454; omega)⟩) rfl (fun H locs hw => ?_)
    obtain rfl := Option.some.inj hF
    refine W.widen (k := 8909) (n := 53454) (by omega) (by omega) ?_
    exact hret _ _ _ _ rfl hw dL_act_107
  have hF := zif_f hc11 hF
  by_cases hc14 : a2 = (3 : Int32)
  · have hF := zif_t hc14 hF
    refine lv_tableIn (tgt := 108) (off := 97) hx hb dL_act_11 (by rw [hc14]; decide) (by rw [hc14]; decide) (by rw [hc14]; rfl) (by decide) ?_
    refine lv_aload_n hx hb dL_act_108 rfl (lv_at hl 1 rfl) ?_
    refine lv_iload_n hx hb dL_act_109 rfl (lv_at hl 0 rfl) ?_
    refine lv_iconst (v := (1 : Int32)) hx hb dL_act_110 (by decide) ?_
    refine lv_ishr hx hb dL_act_111 ?_
    refine lv_bipush (v := (36 : Int32)) hx hb dL_act_112 (by decide) ?_
    refine lv_irem hx hb dL_act_114 (by decide) ?_
    obtain ⟨u15, hq16, hF⟩ := zbd_t hF
    refine zgoI4 (w' := (zC ad k sv kE kR u15.2.1 ft fs u15.2.2.1 u15.2.2.2.1 u15.2.2.2.2 ch ln)) (wa := []) (wc := (zC ad k sv kE kR fb ft fs rws nx ct ch ln)) (wc' := (zC ad k sv kE kR u15.2.1 ft fs u15.2.2.1 u15.2.2.2.1 u15.2.2.2.2 ch ln)) (wr := []) hw (zap_nil _) (zap_nil _) hA (zSW4 (wa := []) (wc := (zC ad k sv kE kR fb ft fs rws nx ct ch ln)) (wr := []) (As := [.ref (ad 0), .int ((a1 >>> ((1 : Int32) &&& 31)) - (a1 >>> ((1 : Int32) &&& 31)) / (36 : Int32) * (36 : Int32))]) (rest := []) ⟨hx, hb, hml, hown, hts⟩ (mL_wall l hl9 G k ad H.size sv kE kR fb ft fs rws nx ct ch ln ((a1 >>> ((1 : Int32) &&& 31)) - (a1 >>> ((1 : Int32) &&& 31)) / (36 : Int32) * (36 : Int32)) u15 hq16) (vx_cwSW 2 hts gL_act_L_wall rfl rfl rfl kdL_wall ⟨Nat.le_of_ble_eq_true rfl, Nat.le_of_ble_eq_true rfl⟩) hK hA hw (zap_nil _) rfl hl.1 rfl (Nat.le_of_ble_eq_true rfl) dL_act_115 ⟨(by show _ ≤ 8909; omega), (by show _ ≤ 53454; omega)⟩) rfl (fun H locs hw => ?_)
    obtain rfl := Option.some.inj hF
    refine W.widen (k := 8909) (n := 53454) (by omega) (by omega) ?_
    exact hret _ _ _ _ rfl hw dL_act_118
  have hF := zif_f hc14 hF
  by_cases hc17 : a2 = (4 : Int32)
  · have hF := zif_t hc17 hF
    refine lv_tableIn (tgt := 119) (off := 108) hx hb dL_act_11 (by rw [hc17]; decide) (by rw [hc17]; decide) (by rw [hc17]; rfl) (by decide) ?_
    refine lv_iload_n hx hb dL_act_119 rfl (lv_at hl 0 rfl) ?_
    refine lv_bipush (v := (7 : Int32)) hx hb dL_act_120 (by decide) ?_
    refine lv_iand hx hb dL_act_122 ?_
    refine lv_if_ne (tgt := 133) hx hb dL_act_123 (by decide) (fun hc => ?_) (fun hc => ?_)
    · have hF := zif_f hc hF
      refine lv_aload_n hx hb dL_act_133 rfl (lv_at hl 1 rfl) ?_
      refine lv_iload_n hx hb dL_act_134 rfl (lv_at hl 0 rfl) ?_
      refine lv_iconst (v := (3 : Int32)) hx hb dL_act_135 (by decide) ?_
      refine lv_ishr hx hb dL_act_136 ?_
      refine lv_bipush (v := (36 : Int32)) hx hb dL_act_137 (by decide) ?_
      refine lv_irem hx hb dL_act_139 (by decide) ?_
      obtain ⟨u18, hq19, hF⟩ := zbd_t hF
      refine zgoI4 (w' := (zC ad k sv kE u18.2.1 u18.2.2.1 ft fs u18.2.2.2.1 u18.2.2.2.2.1 u18.2.2.2.2.2 ch ln)) (wa := []) (wc := (zC ad k sv kE kR fb ft fs rws nx ct ch ln)) (wc' := (zC ad k sv kE u18.2.1 u18.2.2.1 ft fs u18.2.2.2.1 u18.2.2.2.2.1 u18.2.2.2.2.2 ch ln)) (wr := []) hw (zap_nil _) (zap_nil _) hA (zSW4 (wa := []) (wc := (zC ad k sv kE kR fb ft fs rws nx ct ch ln)) (wr := []) (As := [.ref (ad 0), .int ((a1 >>> ((3 : Int32) &&& 31)) - (a1 >>> ((3 : Int32) &&& 31)) / (36 : Int32) * (36 : Int32))]) (rest := []) ⟨hx, hb, hml, hown, hts⟩ (mL_door l hl9 G k ad H.size sv kE kR fb ft fs rws nx ct ch ln ((a1 >>> ((3 : Int32) &&& 31)) - (a1 >>> ((3 : Int32) &&& 31)) / (36 : Int32) * (36 : Int32)) u18 hq19) (vx_cwSW 2 hts gL_act_L_door rfl rfl rfl kdL_door ⟨Nat.le_of_ble_eq_true rfl, Nat.le_of_ble_eq_true rfl⟩) hK hA hw (zap_nil _) rfl hl.1 rfl (Nat.le_of_ble_eq_true rfl) dL_act_140 ⟨(by show _ ≤ 8909; omega), (by show _ ≤ 53454; omega)⟩) rfl (fun H locs hw => ?_)
      obtain rfl := Option.some.inj hF
      refine W.widen (k := 8909) (n := 53454) (by omega) (by omega) ?_
      exact hret _ _ _ _ rfl hw dL_act_143
    · have hF := zif_t hc hF
      refine lv_aload_n hx hb dL_act_126 rfl (lv_at hl 1 rfl) ?_
      obtain ⟨u20, hq21, hF⟩ := zbd_t hF
      refine zgoI4 (w' := (zC ad k sv kE kR u20.2.1 ft fs rws nx u20.2.2 ch ln)) (wa := []) (wc := (zC ad k sv kE kR fb ft fs rws nx ct ch ln)) (wc' := (zC ad k sv kE kR u20.2.1 ft fs rws nx u20.2.2 ch ln)) (wr := []) hw (zap_nil _) (zap_nil _) hA (zSW4 (wa := []) (wc := (zC ad k sv kE kR fb ft fs rws nx ct ch ln)) (wr := []) (As := [.ref (ad 0)]) (rest := []) ⟨hx, hb, hml, hown, hts⟩ (mL_restore l hl9 G k ad H.size sv kE kR fb ft fs rws nx ct ch ln  u20 hq21) (vx_cwSW 1 hts gL_act_L_restore rfl rfl rfl kdL_restore ⟨Nat.le_of_ble_eq_true rfl, Nat.le_of_ble_eq_true rfl⟩) hK hA hw (zap_nil _) rfl hl.1 rfl (Nat.le_of_ble_eq_true rfl) dL_act_127 ⟨(by show _ ≤ 8909; omega), (by show _ ≤ 53454; omega)⟩) rfl (fun H locs hw => ?_)
      refine lv_goto (tgt := 143) hx hb dL_act_130 (by decide) ?_
      obtain rfl := Option.some.inj hF
      refine W.widen (k := 8909) (n := 53454) (by omega) (by omega) ?_
      exact hret _ _ _ _ rfl hw dL_act_143
  have hF := zif_f hc17 hF
  by_cases hc22 : a2 = (5 : Int32)
  · have hF := zif_t hc22 hF
    refine lv_tableIn (tgt := 144) (off := 133) hx hb dL_act_11 (by rw [hc22]; decide) (by rw [hc22]; decide) (by rw [hc22]; rfl) (by decide) ?_
    refine lv_iload_n hx hb dL_act_144 rfl (lv_at hl 0 rfl) ?_
    refine lv_bipush (v := (7 : Int32)) hx hb dL_act_145 (by decide) ?_
    refine lv_iand hx hb dL_act_147 ?_
    refine lv_if_ne (tgt := 158) hx hb dL_act_148 (by decide) (fun hc => ?_) (fun hc => ?_)
    · have hF := zif_f hc hF
      refine lv_aload_n hx hb dL_act_158 rfl (lv_at hl 1 rfl) ?_
      refine lv_iload_n hx hb dL_act_159 rfl (lv_at hl 0 rfl) ?_
      refine lv_iconst (v := (3 : Int32)) hx hb dL_act_160 (by decide) ?_
      refine lv_ishr hx hb dL_act_161 ?_
      refine lv_bipush (v := (36 : Int32)) hx hb dL_act_162 (by decide) ?_
      refine lv_irem hx hb dL_act_164 (by decide) ?_
      obtain ⟨u23, hq24, hF⟩ := zbd_t hF
      refine zgoI4 (w' := (zC ad k sv kE u23.2.1 u23.2.2.1 ft fs u23.2.2.2.1 u23.2.2.2.2.1 u23.2.2.2.2.2 ch ln)) (wa := []) (wc := (zC ad k sv kE kR fb ft fs rws nx ct ch ln)) (wc' := (zC ad k sv kE u23.2.1 u23.2.2.1 ft fs u23.2.2.2.1 u23.2.2.2.2.1 u23.2.2.2.2.2 ch ln)) (wr := []) hw (zap_nil _) (zap_nil _) hA (zSW4 (wa := []) (wc := (zC ad k sv kE kR fb ft fs rws nx ct ch ln)) (wr := []) (As := [.ref (ad 0), .int ((a1 >>> ((3 : Int32) &&& 31)) - (a1 >>> ((3 : Int32) &&& 31)) / (36 : Int32) * (36 : Int32))]) (rest := []) ⟨hx, hb, hml, hown, hts⟩ (mL_buy l hl9 G k ad H.size sv kE kR fb ft fs rws nx ct ch ln ((a1 >>> ((3 : Int32) &&& 31)) - (a1 >>> ((3 : Int32) &&& 31)) / (36 : Int32) * (36 : Int32)) u23 hq24) (vx_cwSW 2 hts gL_act_L_buy rfl rfl rfl kdL_buy ⟨Nat.le_of_ble_eq_true rfl, Nat.le_of_ble_eq_true rfl⟩) hK hA hw (zap_nil _) rfl hl.1 rfl (Nat.le_of_ble_eq_true rfl) dL_act_165 ⟨(by show _ ≤ 8909; omega), (by show _ ≤ 53454; omega)⟩) rfl (fun H locs hw => ?_)
      obtain rfl := Option.some.inj hF
      refine W.widen (k := 8909) (n := 53454) (by omega) (by omega) ?_
      exact hret _ _ _ _ rfl hw dL_act_168
    · have hF := zif_t hc hF
      refine lv_aload_n hx hb dL_act_151 rfl (lv_at hl 1 rfl) ?_
      obtain ⟨u25, hq26, hF⟩ := zbd_t hF
      refine zgoI4 (w' := (zC ad k u25.2.1 kE kR fb ft u25.2.2 rws nx ct ch ln)) (wa := []) (wc := (zC ad k sv kE kR fb ft fs rws nx ct ch ln)) (wc' := (zC ad k u25.2.1 kE kR fb ft u25.2.2 rws nx ct ch ln)) (wr := []) hw (zap_nil _) (zap_nil _) hA (zV4 (wa := []) (wc := (zC ad k sv kE kR fb ft fs rws nx ct ch ln)) (wr := []) (As := []) (rest := []) ⟨hx, hb, hml, hown, hts⟩ (mX4_save l G k ad H.size sv kE kR fb ft fs rws nx ct ch ln  u25 hq26) (cwV 0 hts gL_act_X4_save rfl rfl rfl kdX4_save ⟨Nat.le_of_ble_eq_true rfl, Nat.le_of_ble_eq_true rfl⟩) hK hA hw (zap_nil _) 0 rfl rfl rfl rfl hl.1 rfl (Nat.le_of_ble_eq_true rfl) dL_act_152 ⟨(by show _ ≤ 8909; omega), (by show _ ≤ 53454; omega)⟩) rfl (fun H locs hw => ?_)
      refine lv_goto (tgt := 168) hx hb dL_act_155 (by decide) ?_
      obtain rfl := Option.some.inj hF
      refine W.widen (k := 8909) (n := 53454) (by omega) (by omega) ?_
      exact hret _ _ _ _ rfl hw dL_act_168
  have hF := zif_f hc22 hF
  by_cases hc27 : a2 = (6 : Int32)
  · have hF := zif_t hc27 hF
    refine lv_tableIn (tgt := 169) (off := 158) hx hb dL_act_11 (by rw [hc27]; decide) (by rw [hc27]; decide) (by rw [hc27]; rfl) (by decide) ?_
    refine lv_iload_n hx hb dL_act_169 rfl (lv_at hl 0 rfl) ?_
    refine lv_iconst (v := (1 : Int32)) hx hb dL_act_170 (by decide) ?_
    refine lv_iand hx hb dL_act_171 ?_
    refine lv_if_ne (tgt := 182) hx hb dL_act_172 (by decide) (fun hc => ?_) (fun hc => ?_)
    · have hF := zif_f hc hF
      refine lv_aload_n hx hb dL_act_182 rfl (lv_at hl 1 rfl) ?_
      refine lv_iload_n hx hb dL_act_183 rfl (lv_at hl 0 rfl) ?_
      refine lv_iconst (v := (1 : Int32)) hx hb dL_act_184 (by decide) ?_
      refine lv_ishr hx hb dL_act_185 ?_
      refine lv_bipush (v := (36 : Int32)) hx hb dL_act_186 (by decide) ?_
      refine lv_irem hx hb dL_act_188 (by decide) ?_
      obtain ⟨u28, hq29, hF⟩ := zbd_t hF
      refine zgoI4 (w' := (zC ad k sv kE u28.2.1 u28.2.2.1 ft fs u28.2.2.2.1 u28.2.2.2.2.1 u28.2.2.2.2.2 ch ln)) (wa := []) (wc := (zC ad k sv kE kR fb ft fs rws nx ct ch ln)) (wc' := (zC ad k sv kE u28.2.1 u28.2.2.1 ft fs u28.2.2.2.1 u28.2.2.2.2.1 u28.2.2.2.2.2 ch ln)) (wr := []) hw (zap_nil _) (zap_nil _) hA (zSW4 (wa := []) (wc := (zC ad k sv kE kR fb ft fs rws nx ct ch ln)) (wr := []) (As := [.ref (ad 0), .int ((a1 >>> ((1 : Int32) &&& 31)) - (a1 >>> ((1 : Int32) &&& 31)) / (36 : Int32) * (36 : Int32))]) (rest := []) ⟨hx, hb, hml, hown, hts⟩ (mL_door l hl9 G k ad H.size sv kE kR fb ft fs rws nx ct ch ln ((a1 >>> ((1 : Int32) &&& 31)) - (a1 >>> ((1 : Int32) &&& 31)) / (36 : Int32) * (36 : Int32)) u28 hq29) (vx_cwSW 2 hts gL_act_L_door rfl rfl rfl kdL_door ⟨Nat.le_of_ble_eq_true rfl, Nat.le_of_ble_eq_true rfl⟩) hK hA hw (zap_nil _) rfl hl.1 rfl (Nat.le_of_ble_eq_true rfl) dL_act_189 ⟨(by show _ ≤ 8909; omega), (by show _ ≤ 53454; omega)⟩) rfl (fun H locs hw => ?_)
      obtain rfl := Option.some.inj hF
      refine W.widen (k := 8909) (n := 53454) (by omega) (by omega) ?_
      exact hret _ _ _ _ rfl hw dL_act_192
    · have hF := zif_t hc hF
      refine lv_aload_n hx hb dL_act_175 rfl (lv_at hl 1 rfl) ?_
      obtain ⟨u30, hq31, hF⟩ := zbd_t hF
      refine zgoI4 (w' := (zC ad k sv kE kR u30.2.1 ft fs rws u30.2.2.1 u30.2.2.2 ch ln)) (wa := []) (wc := (zC ad k sv kE kR fb ft fs rws nx ct ch ln)) (wc' := (zC ad k sv kE kR u30.2.1 ft fs rws u30.2.2.1 u30.2.2.2 ch ln)) (wr := []) hw (zap_nil _) (zap_nil _) hA (zSW4 (wa := []) (wc := (zC ad k sv kE kR fb ft fs rws nx ct ch ln)) (wr := []) (As := [.ref (ad 0)]) (rest := []) ⟨hx, hb, hml, hown, hts⟩ (mL_undo l hl9 G k ad H.size sv kE kR fb ft fs rws nx ct ch ln  u30 hq31) (vx_cwSW 1 hts gL_act_L_undo rfl rfl rfl kdL_undo ⟨Nat.le_of_ble_eq_true rfl, Nat.le_of_ble_eq_true rfl⟩) hK hA hw (zap_nil _) rfl hl.1 rfl (Nat.le_of_ble_eq_true rfl) dL_act_176 ⟨(by show _ ≤ 8909; omega), (by show _ ≤ 53454; omega)⟩) rfl (fun H locs hw => ?_)
      refine lv_goto (tgt := 192) hx hb dL_act_179 (by decide) ?_
      obtain rfl := Option.some.inj hF
      refine W.widen (k := 8909) (n := 53454) (by omega) (by omega) ?_
      exact hret _ _ _ _ rfl hw dL_act_192
  have hF := zif_f hc27 hF
  by_cases hc32 : a2 = (7 : Int32)
  · have hF := zif_t hc32 hF
    refine lv_tableIn (tgt := 193) (off := 182) hx hb dL_act_11 (by rw [hc32]; decide) (by rw [hc32]; decide) (by rw [hc32]; rfl) (by decide) ?_
    refine lv_aload_n hx hb dL_act_193 rfl (lv_at hl 1 rfl) ?_
    obtain ⟨t33, Kt33, Vt33, hZt33, hTt33, hSt33⟩ := hK.2.2.2.2.2.2.2.1
    refine va_gets (v := .ref t33) hx hb hZt33 hw.2.2 hown (hts (.fieldLink RL 129 "SealedBoardLaw" "TEXTS" "[Ljava/lang/String;") (by decide +kernel)) (fun _ h9 => h9) dL_act_194 ?_
    refine lv_iload_n hx hb dL_act_197 rfl (lv_at hl 0 rfl) ?_
    refine lv_iconst (v := (1 : Int32)) hx hb dL_act_198 (by decide) ?_
    refine lv_ishr hx hb dL_act_199 ?_
    obtain ⟨t34, Kt34, Vt34, hZt34, hTt34, hSt34⟩ := hK.2.2.2.2.2.2.2.1
    refine va_gets (v := .ref t34) hx hb hZt34 hw.2.2 hown (hts (.fieldLink RL 129 "SealedBoardLaw" "TEXTS" "[Ljava/lang/String;") (by decide +kernel)) (fun _ h9 => h9) dL_act_200 ?_
    refine va_tlen (v := (13 : Int32)) hx hb hTt34 hw.2.2 rfl dL_act_203 ?_
    refine lv_irem hx hb dL_act_204 (by decide) ?_
    obtain ⟨hi35, hF⟩ := zck_in hF
    refine vb_tq (C := "java/lang/String") (v := .ref (Kt33 (((a1 >>> ((1 : Int32) &&& 31)) - (a1 >>> ((1 : Int32) &&& 31)) / (13 : Int32) * (13 : Int32)).toNatClampNeg))) hx hb hTt33 hw.2.2 hi35 rfl dL_act_205 ?_
    obtain ⟨u36, hq37, hF⟩ := zbd_t hF
    refine zgoI4 (w' := (zC ad k sv u36.2.1 u36.2.2.1 u36.2.2.2.1 u36.2.2.2.2.1 fs u36.2.2.2.2.2.1 u36.2.2.2.2.2.2.1 u36.2.2.2.2.2.2.2.1 u36.2.2.2.2.2.2.2.2.1 u36.2.2.2.2.2.2.2.2.2)) (wa := []) (wc := (zC ad k sv kE kR fb ft fs rws nx ct ch ln)) (wc' := (zC ad k sv u36.2.1 u36.2.2.1 u36.2.2.2.1 u36.2.2.2.2.1 fs u36.2.2.2.2.2.1 u36.2.2.2.2.2.2.1 u36.2.2.2.2.2.2.2.1 u36.2.2.2.2.2.2.2.2.1 u36.2.2.2.2.2.2.2.2.2)) (wr := []) hw (zap_nil _) (zap_nil _) hA (zSt4 (wa := []) (wc := (zC ad k sv kE kR fb ft fs rws nx ct ch ln)) (wr := []) (As := [.ref (ad 0), .ref (Kt33 (((a1 >>> ((1 : Int32) &&& 31)) - (a1 >>> ((1 : Int32) &&& 31)) / (13 : Int32) * (13 : Int32)).toNatClampNeg))]) (rest := []) ⟨hx, hb, hml, hown, hts⟩ (mL_read_ l hl9 G k ad (Kt33 (((a1 >>> ((1 : Int32) &&& 31)) - (a1 >>> ((1 : Int32) &&& 31)) / (13 : Int32) * (13 : Int32)).toNatClampNeg)) (Vt33 (((a1 >>> ((1 : Int32) &&& 31)) - (a1 >>> ((1 : Int32) &&& 31)) / (13 : Int32) * (13 : Int32)).toNatClampNeg)) (zTb (((a1 >>> ((1 : Int32) &&& 31)) - (a1 >>> ((1 : Int32) &&& 31)) / (13 : Int32) * (13 : Int32)).toNatClampNeg)) (zTb_100 _) H.size sv kE kR fb ft fs rws nx ct ch ln  u36 hq37) (va_cwS 2 hts gL_act_L_read_ rfl rfl rfl kdL_read_ ⟨Nat.le_of_ble_eq_true rfl, Nat.le_of_ble_eq_true rfl⟩) hK hA hw (zap_nil _) (hSt33 _ (vp_lt9 hi35)) rfl hl.1 rfl (Nat.le_of_ble_eq_true rfl) dL_act_206 ⟨(by show _ ≤ 8909; omega), (by show _ ≤ 53454; omega)⟩) rfl (fun H locs hw => ?_)
    obtain rfl := Option.some.inj hF
    refine W.widen (k := 8909) (n := 53454) (by omega) (by omega) ?_
    exact hret _ _ _ _ rfl hw dL_act_209
  have hF := zif_f hc32 hF
  refine lv_tableOut (tgt := 210) hx hb dL_act_11 (by
    have q0 : a2.toInt ≠ 0 := fun q => hc3 (Int32.toInt_inj.mp q)
    have q1 : a2.toInt ≠ 1 := fun q => hc8 (Int32.toInt_inj.mp q)
    have q2 : a2.toInt ≠ 2 := fun q => hc11 (Int32.toInt_inj.mp q)
    have q3 : a2.toInt ≠ 3 := fun q => hc14 (Int32.toInt_inj.mp q)
    have q4 : a2.toInt ≠ 4 := fun q => hc17 (Int32.toInt_inj.mp q)
    have q5 : a2.toInt ≠ 5 := fun q => hc22 (Int32.toInt_inj.mp q)
    have q6 : a2.toInt ≠ 6 := fun q => hc27 (Int32.toInt_inj.mp q)
    have q7 : a2.toInt ≠ 7 := fun q => hc32 (Int32.toInt_inj.mp q)
    omega) (by decide) ?_
  refine lv_aload_n hx hb dL_act_210 rfl (lv_at hl 1 rfl) ?_
  refine lv_iload_n hx hb dL_act_211 rfl (lv_at hl 0 rfl) ?_
  obtain ⟨u38, hq39, hF⟩ := zbd_t hF
  refine zgoI4 (w' := (zC ad k sv kE u38.2.1 u38.2.2.1 ft fs u38.2.2.2.1 u38.2.2.2.2.1 u38.2.2.2.2.2 ch ln)) (wa := []) (wc := (zC ad k sv kE kR fb ft fs rws nx ct ch ln)) (wc' := (zC ad k sv kE u38.2.1 u38.2.2.1 ft fs u38.2.2.2.1 u38.2.2.2.2.1 u38.2.2.2.2.2 ch ln)) (wr := []) hw (zap_nil _) (zap_nil _) hA (zS4 (wa := []) (wc := (zC ad k sv kE kR fb ft fs rws nx ct ch ln)) (wr := []) (As := [.ref (ad 0), .int a1]) (rest := []) ⟨hx, hb, hml, hown, hts⟩ (mL_play l hl9 G k ad H.size sv kE kR fb ft fs rws nx ct ch ln a1 u38 hq39) (va_cwS 2 hts gL_act_L_play rfl rfl rfl kdL_play ⟨Nat.le_of_ble_eq_true rfl, Nat.le_of_ble_eq_true rfl⟩) hK hA hw (zap_nil _) rfl hl.1 rfl (Nat.le_of_ble_eq_true rfl) dL_act_212 ⟨(by show _ ≤ 8909; omega), (by show _ ≤ 53454; omega)⟩) rfl (fun H locs hw => ?_)
  obtain rfl := Option.some.inj hF
  refine W.widen (k := 8909) (n := 53454) (by omega) (by omega) ?_
  exact hret _ _ _ _ rfl hw dL_act_215

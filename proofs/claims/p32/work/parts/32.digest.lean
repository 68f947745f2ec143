/-! SealedBoardLaw.digest(LSealedBoard;)J -/
abbrev rmL_digest : Room := { frames := 8, cells := 419, slots := 2514, locals := 126 }
theorem kdL_digest : yL_digest.cls ≠ "java/lang/invoke/MethodHandle" ∧ yL_digest.cls ≠ "java/lang/invoke/VarHandle" ∧ (parseMethodDescriptor yL_digest.desc).map (fun d => d.parameters.length) = some 1 := by decide +kernel
def fL_digest_42 (k33 : Int64 → Int32 → Option (Int64)) (fb : Nat → Int64) (ct : Int32) (ln : Int32) : Nat → Int64 → Int32 → Int32 → Option (Int64)
  | 0, _, _, _ => none
  | n + 1, x1, x3, x4 => (if (4 : Int32) ≤ x4 then (zbd (fX4_picture fb x3) (fun u1 => (if u1.1 = 0 then (zbn (((31 : Int64) * x1) + u1.2.toInt64) (fun a4 => (zbn (x3 + (1 : Int32)) (fun a5 => (k33 a4 a5))))) else none))) else (zbd (fX4_square fb x3 x4) (fun u6 => (if u6.1 = 0 then (zbn (((31 : Int64) * x1) + u6.2.toInt64) (fun a9 => (zbn (x4 + (1 : Int32)) (fun a10 => (fL_digest_42 k33 fb ct ln n a9 x3 a10))))) else none))))
def fL_digest_33  (fb : Nat → Int64) (ct : Int32) (ln : Int32) : Nat → Int64 → Int32 → Option (Int64)
  | 0, _, _ => none
  | n + 1, x1, x3 => (if (36 : Int32) ≤ x3 then (zbd (fX4_sealed fb (0 : Int32)) (fun u1 => (if u1.1 = 0 then (zbd (fX4_sealed fb (1 : Int32)) (fun u4 => (if u4.1 = 0 then (some ((((31 : Int64) * (((31 : Int64) * x1) + u1.2.toInt64)) + u4.2.toInt64))) else none))) else none))) else (fL_digest_42 (fun z0 z1 => fL_digest_33  fb ct ln n z0 z1) fb ct ln 5 x1 x3 (0 : Int32)))
def fL_digest_6  (fb : Nat → Int64) (ct : Int32) (ln : Int32) : Nat → Int64 → Int32 → Option (Int64)
  | 0, _, _ => none
  | n + 1, x1, x3 => (if (9 : Int32) ≤ x3 then (fL_digest_33  fb ct ln 37 x1 (0 : Int32)) else (zbd (fX4_account fb ct ln x3) (fun u1 => (if u1.1 = 0 then (zbn (((31 : Int64) * x1) + u1.2.toInt64) (fun a4 => (zbn (x3 + (1 : Int32)) (fun a5 => (fL_digest_6  fb ct ln n a4 a5))))) else none))))
def fL_digest (fb : Nat → Int64) (ct : Int32) (ln : Int32) : Option (Int64) := (fL_digest_6  fb ct ln 10 (7 : Int64) (0 : Int32))
set_option maxHeartbeats 1000000 in
set_option maxRecDepth 100000 in
theorem wL_digest_42 {p : Program} {l : Launch} {e : Env} {s : State} {m : MethodId} {args : Array Value} {below : List Frame} {meth : Method} {c : Code} {A : Nat → Prop} {Q : State → Prop} {G : va_G} {k : Nat → ClassId} {ad : Nat → Nat} {sv : Int32} {kE : Int32} {kR : Int32} {fb : Nat → Int64} {ft : Nat → Int64} {fs : Nat → Int64} {rws : Nat → Int64} {nx : Int32} {ct : Int32} {ch : Nat → Int32} {ln : Int32} {o : Int64} (C0 : zCx p s m args meth c wsL_digest cL_digest RL (some .long) 5) (hl9 : l.stackTraces = false) (hK : zKK G k A s s.heap) (hA : ∀ q : Nat, s.heap.size ≤ q → A q) (hret : zRL p l e rmL_digest s m args below meth c cL_digest G A 419 2514 Q (zC ad k sv kE kR fb ft fs rws nx ct ch ln) o)  {d1_33 d2_33 : Nat} (k33 : Int64 → Int32 → Option (Int64)) (hk33 : ∀ (x1 : Int64) (x3 : Int32), k33 x1 x3 = some o → ∀ (ca cb : Nat), ca + d1_33 ≤ 419 → cb + d2_33 ≤ 2514 → ∀ (H : Heap) (locs : List Loc) (ls : Array Slot), zWd G A s (zC ad k sv kE kR fb ft fs rws nx ct ch ln) H locs → lv_has ls 5 [(0, .ref (ad 0)), (1, .long x1), (3, .int x3)] → W p l e rmL_digest s m args below meth c H locs ca cb Q (F0 m 33 ls [])) : ∀ (n : Nat) (x1 : Int64) (x3 : Int32) (x4 : Int32), fL_digest_42 k33 fb ct ln n x1 x3 x4 = some o → ∀ (ca cb : Nat), ca + (n * 2 + 1 + d1_33) ≤ 419 → cb + (n * 12 + 6 + d2_33) ≤ 2514 → ∀ (H : Heap) (locs : List Loc) (ls : Array Slot), zWd G A s (zC ad k sv kE kR fb ft fs rws nx ct ch ln) H locs → lv_has ls 5 [(0, .ref (ad 0)), (1, .long x1), (3, .int x3), (4, .int x4)] → W p l e rmL_digest s m args below meth c H locs ca cb Q (F0 m 42 ls []) := by
  obtain ⟨hx, hb, hr, hml, hown, hts, hlocks⟩ := id C0
  intro n
  induction n with
  | zero => intro x1 x3 x4 hF; exact nomatch hF
  | succ n ih =>
    intro x1 x3 x4 hF ca cb hca hcb H locs ls hw hl
    rw [fL_digest_42] at hF
    refine lv_iload hx hb dL_digest_42 (lv_at hl 3 rfl) ?_
    refine lv_iconst (v := (4 : Int32)) hx hb dL_digest_44 (by decide) ?_
    refine lv_icmp_ge (tgt := 69) hx hb dL_digest_45 (by decide) (fun hc => ?_) (fun hc => ?_)
    · have hF := zif_t hc hF
      refine lv_ldc2 (v := (31 : Int64)) hx hb hown (hts (.constantLong RL 141 (31)) (by decide +kernel)) dL_digest_69 ?_
      refine lv_lload_n hx hb dL_digest_72 rfl (lv_at hl 1 rfl) ?_
      refine lv_lmul hx hb dL_digest_73 ?_
      refine lv_aload_n hx hb dL_digest_74 rfl (lv_at hl 0 rfl) ?_
      refine lv_iload_n hx hb dL_digest_75 rfl (lv_at hl 2 rfl) ?_
      obtain ⟨u1, hq2, hF⟩ := zbd_t hF
      refine zgoXI4 (o0 := u1.1) (w' := (zC ad k sv kE kR fb ft fs rws nx ct ch ln)) (wa := []) (wc := (zC ad k sv kE kR fb ft fs rws nx ct ch ln)) (wc' := (zC ad k sv kE kR fb ft fs rws nx ct ch ln)) (wr := []) hw (zap_nil _) (zap_nil _) hA (zVx4 (wa := []) (wc := (zC ad k sv kE kR fb ft fs rws nx ct ch ln)) (wr := []) (As := [.int x3]) (rest := [.long ((31 : Int64) * x1)]) ⟨hx, hb, hml, hown, hts⟩ (mX4_picture l hl9 G k ad H.size sv kE kR fb ft fs rws nx ct ch ln x3 u1 hq2) (cwV 1 hts gL_digest_X4_picture rfl rfl rfl kdX4_picture ⟨Nat.le_of_ble_eq_true rfl, Nat.le_of_ble_eq_true rfl⟩) hK hA hw (zap_nil _) 0 rfl rfl rfl rfl hl.1 rfl (Nat.le_of_ble_eq_true rfl) dL_digest_76 ⟨(by show _ ≤ 419; omega), (by show _ ≤ 2514; omega)⟩) rfl (fun h03 H locs q9 E9 ce9 hw g1 g2 g3 g4 => ?_) (fun h03 H locs hw => ?_)
      · exact nomatch (zif_f h03 hF)
      have hF := zif_t h03 hF
      refine lv_i2l hx hb dL_digest_79 rfl ?_
      refine lv_ladd hx hb dL_digest_80 ?_
      refine lv_topl (fun a4 ea4 => ?_)
      have hF := zbn_t ea4 hF
      refine lv_lstore_n (lv' := [(1, .long a4), (0, .ref (ad 0)), (3, .int x3), (4, .int x4)]) hx hb dL_digest_81 rfl hl (by decide) rfl (fun ls hl => ?_)
      obtain ⟨a5, ea5⟩ : ∃ z : Int32, z = x3 + (1 : Int32) := ⟨_, rfl⟩
      have hF := zbn_t ea5 hF
      refine lv_iinc (v := a5) (lv' := [(3, .int a5), (1, .long a4), (0, .ref (ad 0)), (4, .int x4)]) hx hb dL_digest_82 hl (k := 2) rfl (by rw [ea5]; rfl) (by decide) rfl (fun ls hl => ?_)
      refine lv_goto (tgt := 33) hx hb dL_digest_85 (by decide) ?_
      exact hk33 _ _ hF _ _ (by omega) (by omega) _ _ _ hw (lv_sub hl [2, 1, 0] rfl)
    · have hF := zif_f hc hF
      refine lv_ldc2 (v := (31 : Int64)) hx hb hown (hts (.constantLong RL 141 (31)) (by decide +kernel)) dL_digest_48 ?_
      refine lv_lload_n hx hb dL_digest_51 rfl (lv_at hl 1 rfl) ?_
      refine lv_lmul hx hb dL_digest_52 ?_
      refine lv_aload_n hx hb dL_digest_53 rfl (lv_at hl 0 rfl) ?_
      refine lv_iload_n hx hb dL_digest_54 rfl (lv_at hl 2 rfl) ?_
      refine lv_iload hx hb dL_digest_55 (lv_at hl 3 rfl) ?_
      obtain ⟨u6, hq7, hF⟩ := zbd_t hF
      refine zgoXI4 (o0 := u6.1) (w' := (zC ad k sv kE kR fb ft fs rws nx ct ch ln)) (wa := []) (wc := (zC ad k sv kE kR fb ft fs rws nx ct ch ln)) (wc' := (zC ad k sv kE kR fb ft fs rws nx ct ch ln)) (wr := []) hw (zap_nil _) (zap_nil _) hA (zVx4 (wa := []) (wc := (zC ad k sv kE kR fb ft fs rws nx ct ch ln)) (wr := []) (As := [.int x3, .int x4]) (rest := [.long ((31 : Int64) * x1)]) ⟨hx, hb, hml, hown, hts⟩ (mX4_square l hl9 G k ad H.size sv kE kR fb ft fs rws nx ct ch ln x3 x4 u6 hq7) (cwV 2 hts gL_digest_X4_square rfl rfl rfl kdX4_square ⟨Nat.le_of_ble_eq_true rfl, Nat.le_of_ble_eq_true rfl⟩) hK hA hw (zap_nil _) 0 rfl rfl rfl rfl hl.1 rfl (Nat.le_of_ble_eq_true rfl) dL_digest_57 ⟨(by show _ ≤ 419; omega), (by show _ ≤ 2514; omega)⟩) rfl (fun h08 H locs q9 E9 ce9 hw g1 g2 g3 g4 => ?_) (fun h08 H locs hw => ?_)
      · exact nomatch (zif_f h08 hF)
      have hF := zif_t h08 hF
      refine lv_i2l hx hb dL_digest_60 rfl ?_
      refine lv_ladd hx hb dL_digest_61 ?_
      refine lv_topl (fun a9 ea9 => ?_)
      have hF := zbn_t ea9 hF
      refine lv_lstore_n (lv' := [(1, .long a9), (0, .ref (ad 0)), (3, .int x3), (4, .int x4)]) hx hb dL_digest_62 rfl hl (by decide) rfl (fun ls hl => ?_)
      obtain ⟨a10, ea10⟩ : ∃ z : Int32, z = x4 + (1 : Int32) := ⟨_, rfl⟩
      have hF := zbn_t ea10 hF
      refine lv_iinc (v := a10) (lv' := [(4, .int a10), (1, .long a9), (0, .ref (ad 0)), (3, .int x3)]) hx hb dL_digest_63 hl (k := 3) rfl (by rw [ea10]; rfl) (by decide) rfl (fun ls hl => ?_)
      refine lv_goto (tgt := 42) hx hb dL_digest_66 (by decide) ?_
      exact ih _ _ _ hF _ _ (by omega) (by omega) _ _ _ hw (lv_sub hl [2, 1, 3, 0] rfl)
set_option maxHeartbeats 1000000 in
set_option maxRecDepth 100000 in
theorem wL_digest_33 {p : Program} {l : Launch} {e : Env} {s : State} {m : MethodId} {args : Array Value} {below : List Frame} {meth : Method} {c : Code} {A : Nat → Prop} {Q : State → Prop} {G : va_G} {k : Nat → ClassId} {ad : Nat → Nat} {sv : Int32} {kE : Int32} {kR : Int32} {fb : Nat → Int64} {ft : Nat → Int64} {fs : Nat → Int64} {rws : Nat → Int64} {nx : Int32} {ct : Int32} {ch : Nat → Int32} {ln : Int32} {o : Int64} (C0 : zCx p s m args meth c wsL_digest cL_digest RL (some .long) 5) (hl9 : l.stackTraces = false) (hK : zKK G k A s s.heap) (hA : ∀ q : Nat, s.heap.size ≤ q → A q) (hret : zRL p l e rmL_digest s m args below meth c cL_digest G A 419 2514 Q (zC ad k sv kE kR fb ft fs rws nx ct ch ln) o)   : ∀ (n : Nat) (x1 : Int64) (x3 : Int32), fL_digest_33  fb ct ln n x1 x3 = some o → ∀ (ca cb : Nat), ca + (n * 11 + 2) ≤ 419 → cb + (n * 66 + 12) ≤ 2514 → ∀ (H : Heap) (locs : List Loc) (ls : Array Slot), zWd G A s (zC ad k sv kE kR fb ft fs rws nx ct ch ln) H locs → lv_has ls 5 [(0, .ref (ad 0)), (1, .long x1), (3, .int x3)] → W p l e rmL_digest s m args below meth c H locs ca cb Q (F0 m 33 ls []) := by
  obtain ⟨hx, hb, hr, hml, hown, hts, hlocks⟩ := id C0
  intro n
  induction n with
  | zero => intro x1 x3 hF; exact nomatch hF
  | succ n ih =>
    intro x1 x3 hF ca cb hca hcb H locs ls hw hl
    rw [fL_digest_33] at hF
    refine lv_iload_n hx hb dL_digest_33 rfl (lv_at hl 2 rfl) ?_
    refine lv_bipush (v := (36 : Int32)) hx hb dL_digest_34 (by decide) ?_
    refine lv_icmp_ge (tgt := 88) hx hb dL_digest_36 (by decide) (fun hc => ?_) (fun hc => ?_)
    · have hF := zif_t hc hF
      refine lv_ldc2 (v := (31 : Int64)) hx hb hown (hts (.constantLong RL 141 (31)) (by decide +kernel)) dL_digest_88 ?_
      refine lv_ldc2 (v := (31 : Int64)) hx hb hown (hts (.constantLong RL 141 (31)) (by decide +kernel)) dL_digest_91 ?_
      refine lv_lload_n hx hb dL_digest_94 rfl (lv_at hl 1 rfl) ?_
      refine lv_lmul hx hb dL_digest_95 ?_
      refine lv_aload_n hx hb dL_digest_96 rfl (lv_at hl 0 rfl) ?_
      refine lv_iconst (v := (0 : Int32)) hx hb dL_digest_97 (by decide) ?_
      obtain ⟨u1, hq2, hF⟩ := zbd_t hF
      refine zgoXI4 (o0 := u1.1) (w' := (zC ad k sv kE kR fb ft fs rws nx ct ch ln)) (wa := []) (wc := (zC ad k sv kE kR fb ft fs rws nx ct ch ln)) (wc' := (zC ad k sv kE kR fb ft fs rws nx ct ch ln)) (wr := []) hw (zap_nil _) (zap_nil _) hA (zVx4 (wa := []) (wc := (zC ad k sv kE kR fb ft fs rws nx ct ch ln)) (wr := []) (As := [.int (0 : Int32)]) (rest := [.long ((31 : Int64) * x1), .long (31 : Int64)]) ⟨hx, hb, hml, hown, hts⟩ (mX4_sealed l hl9 G k ad H.size sv kE kR fb ft fs rws nx ct ch ln (0 : Int32) u1 hq2) (cwV 1 hts gL_digest_X4_sealed rfl rfl rfl kdX4_sealed ⟨Nat.le_of_ble_eq_true rfl, Nat.le_of_ble_eq_true rfl⟩) hK hA hw (zap_nil _) 0 rfl rfl rfl rfl hl.1 rfl (Nat.le_of_ble_eq_true rfl) dL_digest_98 ⟨(by show _ ≤ 419; omega), (by show _ ≤ 2514; omega)⟩) rfl (fun h03 H locs q9 E9 ce9 hw g1 g2 g3 g4 => ?_) (fun h03 H locs hw => ?_)
      · exact nomatch (zif_f h03 hF)
      have hF := zif_t h03 hF
      refine lv_i2l hx hb dL_digest_101 rfl ?_
      refine lv_ladd hx hb dL_digest_102 ?_
      refine lv_lmul hx hb dL_digest_103 ?_
      refine lv_aload_n hx hb dL_digest_104 rfl (lv_at hl 0 rfl) ?_
      refine lv_iconst (v := (1 : Int32)) hx hb dL_digest_105 (by decide) ?_
      obtain ⟨u4, hq5, hF⟩ := zbd_t hF
      refine zgoXI4 (o0 := u4.1) (w' := (zC ad k sv kE kR fb ft fs rws nx ct ch ln)) (wa := []) (wc := (zC ad k sv kE kR fb ft fs rws nx ct ch ln)) (wc' := (zC ad k sv kE kR fb ft fs rws nx ct ch ln)) (wr := []) hw (zap_nil _) (zap_nil _) hA (zVx4 (wa := []) (wc := (zC ad k sv kE kR fb ft fs rws nx ct ch ln)) (wr := []) (As := [.int (1 : Int32)]) (rest := [.long ((31 : Int64) * (((31 : Int64) * x1) + u1.2.toInt64))]) ⟨hx, hb, hml, hown, hts⟩ (mX4_sealed l hl9 G k ad H.size sv kE kR fb ft fs rws nx ct ch ln (1 : Int32) u4 hq5) (cwV 1 hts gL_digest_X4_sealed rfl rfl rfl kdX4_sealed ⟨Nat.le_of_ble_eq_true rfl, Nat.le_of_ble_eq_true rfl⟩) hK hA hw (zap_nil _) 0 rfl rfl rfl rfl hl.1 rfl (Nat.le_of_ble_eq_true rfl) dL_digest_106 ⟨(by show _ ≤ 419; omega), (by show _ ≤ 2514; omega)⟩) rfl (fun h06 H locs q9 E9 ce9 hw g1 g2 g3 g4 => ?_) (fun h06 H locs hw => ?_)
      · exact nomatch (zif_f h06 hF)
      have hF := zif_t h06 hF
      refine lv_i2l hx hb dL_digest_109 rfl ?_
      refine lv_ladd hx hb dL_digest_110 ?_
      obtain rfl := Option.some.inj hF
      refine W.widen (k := 419) (n := 2514) (by omega) (by omega) ?_
      exact hret _ _ _ _  hw dL_digest_111
    · have hF := zif_f hc hF
      refine lv_iconst (v := (0 : Int32)) hx hb dL_digest_39 (by decide) ?_
      refine lv_istore (lv' := [(4, .int (0 : Int32)), (0, .ref (ad 0)), (1, .long x1), (3, .int x3)]) hx hb dL_digest_40 hl (by decide) rfl (fun ls hl => ?_)
      exact wL_digest_42 C0 hl9 hK hA hret (fun z0 z1 => fL_digest_33  fb ct ln n z0 z1) ih  5 _ _ _ hF _ _ (by omega) (by omega) _ _ _ hw (lv_sub hl [1, 2, 3, 0] rfl)
set_option maxHeartbeats 1000000 in
set_option maxRecDepth 100000 in
theorem wL_digest_6 {p : Program} {l : Launch} {e : Env} {s : State} {m : MethodId} {args : Array Value} {below : List Frame} {meth : Method} {c : Code} {A : Nat → Prop} {Q : State → Prop} {G : va_G} {k : Nat → ClassId} {ad : Nat → Nat} {sv : Int32} {kE : Int32} {kR : Int32} {fb : Nat → Int64} {ft : Nat → Int64} {fs : Nat → Int64} {rws : Nat → Int64} {nx : Int32} {ct : Int32} {ch : Nat → Int32} {ln : Int32} {o : Int64} (C0 : zCx p s m args meth c wsL_digest cL_digest RL (some .long) 5) (hl9 : l.stackTraces = false) (hK : zKK G k A s s.heap) (hA : ∀ q : Nat, s.heap.size ≤ q → A q) (hret : zRL p l e rmL_digest s m args below meth c cL_digest G A 419 2514 Q (zC ad k sv kE kR fb ft fs rws nx ct ch ln) o)   : ∀ (n : Nat) (x1 : Int64) (x3 : Int32), fL_digest_6  fb ct ln n x1 x3 = some o → ∀ (ca cb : Nat), ca + (n * 1 + 409) ≤ 419 → cb + (n * 6 + 2454) ≤ 2514 → ∀ (H : Heap) (locs : List Loc) (ls : Array Slot), zWd G A s (zC ad k sv kE kR fb ft fs rws nx ct ch ln) H locs → lv_has ls 5 [(0, .ref (ad 0)), (1, .long x1), (3, .int x3)] → W p l e rmL_digest s m args below meth c H locs ca cb Q (F0 m 6 ls []) := by
  obtain ⟨hx, hb, hr, hml, hown, hts, hlocks⟩ := id C0
  intro n
  induction n with
  | zero => intro x1 x3 hF; exact nomatch hF
  | succ n ih =>
    intro x1 x3 hF ca cb hca hcb H locs ls hw hl
    rw [fL_digest_6] at hF
    refine lv_iload_n hx hb dL_digest_6 rfl (lv_at hl 2 rfl) ?_
    refine lv_bipush (v := (9 : Int32)) hx hb dL_digest_7 (by decide) ?_
    refine lv_icmp_ge (tgt := 31) hx hb dL_digest_9 (by decide) (fun hc => ?_) (fun hc => ?_)
    · have hF := zif_t hc hF
      refine lv_iconst (v := (0 : Int32)) hx hb dL_digest_31 (by decide) ?_
      refine lv_istore_n (lv' := [(3, .int (0 : Int32)), (0, .ref (ad 0)), (1, .long x1)]) hx hb dL_digest_32 rfl hl (by decide) rfl (fun ls hl => ?_)
      exact wL_digest_33 C0 hl9 hK hA hret   37 _ _ hF _ _ (by omega) (by omega) _ _ _ hw (lv_sub hl [1, 2, 0] rfl)
    · have hF := zif_f hc hF
      refine lv_ldc2 (v := (31 : Int64)) hx hb hown (hts (.constantLong RL 141 (31)) (by decide +kernel)) dL_digest_12 ?_
      refine lv_lload_n hx hb dL_digest_15 rfl (lv_at hl 1 rfl) ?_
      refine lv_lmul hx hb dL_digest_16 ?_
      refine lv_aload_n hx hb dL_digest_17 rfl (lv_at hl 0 rfl) ?_
      refine lv_iload_n hx hb dL_digest_18 rfl (lv_at hl 2 rfl) ?_
      obtain ⟨u1, hq2, hF⟩ := zbd_t hF
      refine zgoXI4 (o0 := u1.1) (w' := (zC ad k sv kE kR fb ft fs rws nx ct ch ln)) (wa := []) (wc := (zC ad k sv kE kR fb ft fs rws nx ct ch ln)) (wc' := (zC ad k sv kE kR fb ft fs rws nx ct ch ln)) (wr := []) hw (zap_nil _) (zap_nil _) hA (zVx4 (wa := []) (wc := (zC ad k sv kE kR fb ft fs rws nx ct ch ln)) (wr := []) (As := [.int x3]) (rest := [.long ((31 : Int64) * x1)]) ⟨hx, hb, hml, hown, hts⟩ (mX4_account l hl9 G k ad H.size sv kE kR fb ft fs rws nx ct ch ln x3 u1 hq2) (cwV 1 hts gL_digest_X4_account rfl rfl rfl kdX4_account ⟨Nat.le_of_ble_eq_true rfl, Nat.le_of_ble_eq_true rfl⟩) hK hA hw (zap_nil _) 0 rfl rfl rfl rfl hl.1 rfl (Nat.le_of_ble_eq_true rfl) dL_digest_19 ⟨(by show _ ≤ 419; omega), (by show _ ≤ 2514; omega)⟩) rfl (fun h03 H locs q9 E9 ce9 hw g1 g2 g3 g4 => ?_) (fun h03 H locs hw => ?_)
      · exact nomatch (zif_f h03 hF)
      have hF := zif_t h03 hF
      refine lv_i2l hx hb dL_digest_22 rfl ?_
      refine lv_ladd hx hb dL_digest_23 ?_
      refine lv_topl (fun a4 ea4 => ?_)
      have hF := zbn_t ea4 hF
      refine lv_lstore_n (lv' := [(1, .long a4), (0, .ref (ad 0)), (3, .int x3)]) hx hb dL_digest_24 rfl hl (by decide) rfl (fun ls hl => ?_)
      obtain ⟨a5, ea5⟩ : ∃ z : Int32, z = x3 + (1 : Int32) := ⟨_, rfl⟩
      have hF := zbn_t ea5 hF
      refine lv_iinc (v := a5) (lv' := [(3, .int a5), (1, .long a4), (0, .ref (ad 0))]) hx hb dL_digest_25 hl (k := 2) rfl (by rw [ea5]; rfl) (by decide) rfl (fun ls hl => ?_)
      refine lv_goto (tgt := 6) hx hb dL_digest_28 (by decide) ?_
      exact ih _ _ hF _ _ (by omega) (by omega) _ _ _ hw (lv_sub hl [2, 1, 0] rfl)
set_option maxHeartbeats 1000000 in
set_option maxRecDepth 100000 in
theorem mL_digest (l : Launch) (hl9 : l.stackTraces = false) (G : va_G) (k : Nat → ClassId) (ad : Nat → Nat) (sz : Nat) (sv : Int32) (kE : Int32) (kR : Int32) (fb : Nat → Int64) (ft : Nat → Int64) (fs : Nat → Int64) (rws : Nat → Int64) (nx : Int32) (ct : Int32) (ch : Nat → Int32) (ln : Int32)  (o : Int64) (hF : fL_digest fb ct ln = some o) : zMLc l yL_digest wsL_digest rmL_digest G k (zC ad k sv kE kR fb ft fs rws nx ct ch ln) sz [.ref (ad 0)] 419 2514 o (zC ad k sv kE kR fb ft fs rws nx ct ch ln) := by
  refine zof_Lc (cc := cL_digest) (nL := 5) (own := RL) (by decide) rfl rfl (Nat.le_of_ble_eq_true rfl) ?_
  intro p e s m args below meth c A Q C0 hK hA hret ls hl hw
  have hl : lv_has ls 5 [(0, .ref (ad 0))] := hl
  obtain ⟨hx, hb, hr, hml, hown, hts, hlocks⟩ := id C0
  obtain ⟨H, hH⟩ : ∃ z, z = s.heap := ⟨_, rfl⟩
  rw [← hH] at hw ⊢
  obtain ⟨ca, hca⟩ : ∃ z : Nat, z = 0 := ⟨_, rfl⟩
  obtain ⟨cb, hcb⟩ : ∃ z : Nat, z = 0 := ⟨_, rfl⟩
  refine W.widen (k := ca) (n := cb) (Nat.zero_le _) (Nat.zero_le _) ?_
  unfold fL_digest at hF
  refine lv_ldc2 (v := (7 : Int64)) hx hb hown (hts (.constantLong RL 139 (7)) (by decide +kernel)) dL_digest_0 ?_
  refine lv_lstore_n (lv' := [(1, .long (7 : Int64)), (0, .ref (ad 0))]) hx hb dL_digest_3 rfl hl (by decide) rfl (fun ls hl => ?_)
  refine lv_iconst (v := (0 : Int32)) hx hb dL_digest_4 (by decide) ?_
  refine lv_istore_n (lv' := [(3, .int (0 : Int32)), (1, .long (7 : Int64)), (0, .ref (ad 0))]) hx hb dL_digest_5 rfl hl (by decide) rfl (fun ls hl => ?_)
  exact wL_digest_6 C0 hl9 hK hA hret   10 _ _ hF _ _ (by omega) (by omega) _ _ _ hw (lv_sub hl [2, 1, 0] rfl)

/-! SealedBoardLaw.countMoves(LSealedBoard;)I -/
abbrev rmL_countMoves : Room := { frames := 9, cells := 259, slots := 1554, locals := 147 }
theorem kdL_countMoves : yL_countMoves.cls ≠ "java/lang/invoke/MethodHandle" ∧ yL_countMoves.cls ≠ "java/lang/invoke/VarHandle" ∧ (parseMethodDescriptor yL_countMoves.desc).map (fun d => d.parameters.length) = some 1 := by decide +kernel
def fL_countMoves_45 (k4 : Int32 → Int32 → Option (Int32)) (fb : Nat → Int64) (ct : Int32) (ln : Int32) (x2 : Int32) (s0 : Int32) (s1 : Int32) : Option (Int32) := (zbn (s1 + s0) (fun a1 => (zbn (x2 + (1 : Int32)) (fun a2 => (k4 a1 a2)))))
def fL_countMoves_44 (k4 : Int32 → Int32 → Option (Int32)) (fb : Nat → Int64) (ct : Int32) (ln : Int32) (x2 : Int32) (s0 : Int32) : Option (Int32) := (fL_countMoves_45 k4 fb ct ln  x2 (0 : Int32) s0)
def fL_countMoves_4  (fb : Nat → Int64) (ct : Int32) (ln : Int32) : Nat → Int32 → Int32 → Option (Int32)
  | 0, _, _ => none
  | n + 1, x1, x2 => (if (36 : Int32) ≤ x2 then (some (x1)) else (zbd (fX4_square fb x2 (0 : Int32)) (fun u1 => (if u1.1 = 0 then (if u1.2 = (1 : Int32) then (zbd (fX4_square fb x2 (1 : Int32)) (fun u4 => (if u4.1 = 0 then (zbd (fX4_account fb ct ln (7 : Int32)) (fun u7 => (if u7.1 = 0 then (if u4.2 = u7.2 then (zbd (fL_moves fb x2) (fun u10 => (fL_countMoves_45 (fun z0 z1 => fL_countMoves_4  fb ct ln n z0 z1) fb ct ln  x2 u10 x1))) else (fL_countMoves_44 (fun z0 z1 => fL_countMoves_4  fb ct ln n z0 z1) fb ct ln  x2 x1)) else none))) else none))) else (fL_countMoves_44 (fun z0 z1 => fL_countMoves_4  fb ct ln n z0 z1) fb ct ln  x2 x1)) else none))))
def fL_countMoves (fb : Nat → Int64) (ct : Int32) (ln : Int32) : Option (Int32) := (fL_countMoves_4  fb ct ln 37 (0 : Int32) (0 : Int32))
set_option maxHeartbeats 1000000 in
set_option maxRecDepth 100000 in
theorem wL_countMoves_45 {p : Program} {l : Launch} {e : Env} {s : State} {m : MethodId} {args : Array Value} {below : List Frame} {meth : Method} {c : Code} {A : Nat → Prop} {Q : State → Prop} {G : va_G} {k : Nat → ClassId} {ad : Nat → Nat} {sv : Int32} {kE : Int32} {kR : Int32} {fb : Nat → Int64} {ft : Nat → Int64} {fs : Nat → Int64} {rws : Nat → Int64} {nx : Int32} {ct : Int32} {ch : Nat → Int32} {ln : Int32} {o : Int32} (C0 : zCx p s m args meth c wsL_countMoves cL_countMoves RL (some .int) 3) (hl9 : l.stackTraces = false) (hK : zKK G k A s s.heap) (hA : ∀ q : Nat, s.heap.size ≤ q → A q) (hret : zRI p l e rmL_countMoves s m args below meth c cL_countMoves G A 259 1554 Q .int (zC ad k sv kE kR fb ft fs rws nx ct ch ln) o)  {d1_4 d2_4 : Nat} (k4 : Int32 → Int32 → Option (Int32)) (hk4 : ∀ (x1 : Int32) (x2 : Int32), k4 x1 x2 = some o → ∀ (ca cb : Nat), ca + d1_4 ≤ 259 → cb + d2_4 ≤ 1554 → ∀ (H : Heap) (locs : List Loc) (ls : Array Slot), zWd G A s (zC ad k sv kE kR fb ft fs rws nx ct ch ln) H locs → lv_has ls 3 [(0, .ref (ad 0)), (1, .int x1), (2, .int x2)] → W p l e rmL_countMoves s m args below meth c H locs ca cb Q (F0 m 4 ls [])) : ∀ (x2 : Int32) (s0 : Int32) (s1 : Int32), fL_countMoves_45 k4 fb ct ln x2 s0 s1 = some o → ∀ (ca cb : Nat), ca + (0 + d1_4) ≤ 259 → cb + (0 + d2_4) ≤ 1554 → ∀ (H : Heap) (locs : List Loc) (ls : Array Slot), zWd G A s (zC ad k sv kE kR fb ft fs rws nx ct ch ln) H locs → lv_has ls 3 [(0, .ref (ad 0)), (2, .int x2)] → W p l e rmL_countMoves s m args below meth c H locs ca cb Q (F0 m 45 ls [.int s0, .int s1]) := by
  obtain ⟨hx, hb, hr, hml, hown, hts, hlocks⟩ := id C0
  intro x2 s0 s1 hF ca cb hca hcb H locs ls hw hl
  unfold fL_countMoves_45 at hF
  refine lv_iadd hx hb dL_countMoves_45 ?_
  refine lv_topi (fun a1 ea1 => ?_)
  have hF := zbn_t ea1 hF
  refine lv_istore_n (lv' := [(1, .int a1), (0, .ref (ad 0)), (2, .int x2)]) hx hb dL_countMoves_46 rfl hl (by decide) rfl (fun ls hl => ?_)
  obtain ⟨a2, ea2⟩ : ∃ z : Int32, z = x2 + (1 : Int32) := ⟨_, rfl⟩
  have hF := zbn_t ea2 hF
  refine lv_iinc (v := a2) (lv' := [(2, .int a2), (1, .int a1), (0, .ref (ad 0))]) hx hb dL_countMoves_47 hl (k := 2) rfl (by rw [ea2]; rfl) (by decide) rfl (fun ls hl => ?_)
  refine lv_goto (tgt := 4) hx hb dL_countMoves_50 (by decide) ?_
  exact hk4 _ _ hF _ _ (by omega) (by omega) _ _ _ hw (lv_sub hl [2, 1, 0] rfl)
set_option maxHeartbeats 1000000 in
set_option maxRecDepth 100000 in
theorem wL_countMoves_44 {p : Program} {l : Launch} {e : Env} {s : State} {m : MethodId} {args : Array Value} {below : List Frame} {meth : Method} {c : Code} {A : Nat → Prop} {Q : State → Prop} {G : va_G} {k : Nat → ClassId} {ad : Nat → Nat} {sv : Int32} {kE : Int32} {kR : Int32} {fb : Nat → Int64} {ft : Nat → Int64} {fs : Nat → Int64} {rws : Nat → Int64} {nx : Int32} {ct : Int32} {ch : Nat → Int32} {ln : Int32} {o : Int32} (C0 : zCx p s m args meth c wsL_countMoves cL_countMoves RL (some .int) 3) (hl9 : l.stackTraces = false) (hK : zKK G k A s s.heap) (hA : ∀ q : Nat, s.heap.size ≤ q → A q) (hret : zRI p l e rmL_countMoves s m args below meth c cL_countMoves G A 259 1554 Q .int (zC ad k sv kE kR fb ft fs rws nx ct ch ln) o)  {d1_4 d2_4 : Nat} (k4 : Int32 → Int32 → Option (Int32)) (hk4 : ∀ (x1 : Int32) (x2 : Int32), k4 x1 x2 = some o → ∀ (ca cb : Nat), ca + d1_4 ≤ 259 → cb + d2_4 ≤ 1554 → ∀ (H : Heap) (locs : List Loc) (ls : Array Slot), zWd G A s (zC ad k sv kE kR fb ft fs rws nx ct ch ln) H locs → lv_has ls 3 [(0, .ref (ad 0)), (1, .int x1), (2, .int x2)] → W p l e rmL_countMoves s m args below meth c H locs ca cb Q (F0 m 4 ls [])) : ∀ (x2 : Int32) (s0 : Int32), fL_countMoves_44 k4 fb ct ln x2 s0 = some o → ∀ (ca cb : Nat), ca + (0 + d1_4) ≤ 259 → cb + (0 + d2_4) ≤ 1554 → ∀ (H : Heap) (locs : List Loc) (ls : Array Slot), zWd G A s (zC ad k sv kE kR fb ft fs rws nx ct ch ln) H locs → lv_has ls 3 [(0, .ref (ad 0)), (2, .int x2)] → W p l e rmL_countMoves s m args below meth c H locs ca cb Q (F0 m 44 ls [.int s0]) := by
  obtain ⟨hx, hb, hr, hml, hown, hts, hlocks⟩ := id C0
  intro x2 s0 hF ca cb hca hcb H locs ls hw hl
  unfold fL_countMoves_44 at hF
  refine lv_iconst (v := (0 : Int32)) hx hb dL_countMoves_44 (by decide) ?_
  exact wL_countMoves_45 C0 hl9 hK hA hret k4 hk4   _ _ _ hF _ _ (by omega) (by omega) _ _ _ hw (lv_sub hl [0, 1] rfl)
set_option maxHeartbeats 1000000 in
set_option maxRecDepth 100000 in
theorem wL_countMoves_4 {p : Program} {l : Launch} {e : Env} {s : State} {m : MethodId} {args : Array Value} {below : List Frame} {meth : Method} {c : Code} {A : Nat → Prop} {Q : State → Prop} {G : va_G} {k : Nat → ClassId} {ad : Nat → Nat} {sv : Int32} {kE : Int32} {kR : Int32} {fb : Nat → Int64} {ft : Nat → Int64} {fs : Nat → Int64} {rws : Nat → Int64} {nx : Int32} {ct : Int32} {ch : Nat → Int32} {ln : Int32} {o : Int32} (C0 : zCx p s m args meth c wsL_countMoves cL_countMoves RL (some .int) 3) (hl9 : l.stackTraces = false) (hK : zKK G k A s s.heap) (hA : ∀ q : Nat, s.heap.size ≤ q → A q) (hret : zRI p l e rmL_countMoves s m args below meth c cL_countMoves G A 259 1554 Q .int (zC ad k sv kE kR fb ft fs rws nx ct ch ln) o)   : ∀ (n : Nat) (x1 : Int32) (x2 : Int32), fL_countMoves_4  fb ct ln n x1 x2 = some o → ∀ (ca cb : Nat), ca + (n * 7 + 0) ≤ 259 → cb + (n * 42 + 0) ≤ 1554 → ∀ (H : Heap) (locs : List Loc) (ls : Array Slot), zWd G A s (zC ad k sv kE kR fb ft fs rws nx ct ch ln) H locs → lv_has ls 3 [(0, .ref (ad 0)), (1, .int x1), (2, .int x2)] → W p l e rmL_countMoves s m args below meth c H locs ca cb Q (F0 m 4 ls []) := by
  obtain ⟨hx, hb, hr, hml, hown, hts, hlocks⟩ := id C0
  intro n
  induction n with
  | zero => intro x1 x2 hF; exact nomatch hF
  | succ n ih =>
    intro x1 x2 hF ca cb hca hcb H locs ls hw hl
    rw [fL_countMoves_4] at hF
    refine lv_iload_n hx hb dL_countMoves_4 rfl (lv_at hl 2 rfl) ?_
    refine lv_bipush (v := (36 : Int32)) hx hb dL_countMoves_5 (by decide) ?_
    refine lv_icmp_ge (tgt := 53) hx hb dL_countMoves_7 (by decide) (fun hc => ?_) (fun hc => ?_)
    · have hF := zif_t hc hF
      refine lv_iload_n hx hb dL_countMoves_53 rfl (lv_at hl 1 rfl) ?_
      obtain rfl := Option.some.inj hF
      refine W.widen (k := 259) (n := 1554) (by omega) (by omega) ?_
      exact hret _ _ _ _ rfl hw dL_countMoves_54
    · have hF := zif_f hc hF
      refine lv_iload_n hx hb dL_countMoves_10 rfl (lv_at hl 1 rfl) ?_
      refine lv_aload_n hx hb dL_countMoves_11 rfl (lv_at hl 0 rfl) ?_
      refine lv_iload_n hx hb dL_countMoves_12 rfl (lv_at hl 2 rfl) ?_
      refine lv_iconst (v := (0 : Int32)) hx hb dL_countMoves_13 (by decide) ?_
      obtain ⟨u1, hq2, hF⟩ := zbd_t hF
      refine zgoXI4 (o0 := u1.1) (w' := (zC ad k sv kE kR fb ft fs rws nx ct ch ln)) (wa := []) (wc := (zC ad k sv kE kR fb ft fs rws nx ct ch ln)) (wc' := (zC ad k sv kE kR fb ft fs rws nx ct ch ln)) (wr := []) hw (zap_nil _) (zap_nil _) hA (zVx4 (wa := []) (wc := (zC ad k sv kE kR fb ft fs rws nx ct ch ln)) (wr := []) (As := [.int x2, .int (0 : Int32)]) (rest := [.int x1]) ⟨hx, hb, hml, hown, hts⟩ (mX4_square l hl9 G k ad H.size sv kE kR fb ft fs rws nx ct ch ln x2 (0 : Int32) u1 hq2) (cwV 2 hts gL_countMoves_X4_square rfl rfl rfl kdX4_square ⟨Nat.le_of_ble_eq_true rfl, Nat.le_of_ble_eq_true rfl⟩) hK hA hw (zap_nil _) 0 rfl rfl rfl rfl hl.1 rfl (Nat.le_of_ble_eq_true rfl) dL_countMoves_14 ⟨(by show _ ≤ 259; omega), (by show _ ≤ 1554; omega)⟩) rfl (fun h03 H locs q9 E9 ce9 hw g1 g2 g3 g4 => ?_) (fun h03 H locs hw => ?_)
      · exact nomatch (zif_f h03 hF)
      have hF := zif_t h03 hF
      refine lv_iconst (v := (1 : Int32)) hx hb dL_countMoves_17 (by decide) ?_
      refine lv_icmp_ne (tgt := 44) hx hb dL_countMoves_18 (by decide) (fun hc => ?_) (fun hc => ?_)
      · have hF := zif_f hc hF
        exact wL_countMoves_44 C0 hl9 hK hA hret (fun z0 z1 => fL_countMoves_4  fb ct ln n z0 z1) ih   _ _ hF _ _ (by omega) (by omega) _ _ _ hw (lv_sub hl [0, 2] rfl)
      · have hF := zif_t hc hF
        refine lv_aload_n hx hb dL_countMoves_21 rfl (lv_at hl 0 rfl) ?_
        refine lv_iload_n hx hb dL_countMoves_22 rfl (lv_at hl 2 rfl) ?_
        refine lv_iconst (v := (1 : Int32)) hx hb dL_countMoves_23 (by decide) ?_
        obtain ⟨u4, hq5, hF⟩ := zbd_t hF
        refine zgoXI4 (o0 := u4.1) (w' := (zC ad k sv kE kR fb ft fs rws nx ct ch ln)) (wa := []) (wc := (zC ad k sv kE kR fb ft fs rws nx ct ch ln)) (wc' := (zC ad k sv kE kR fb ft fs rws nx ct ch ln)) (wr := []) hw (zap_nil _) (zap_nil _) hA (zVx4 (wa := []) (wc := (zC ad k sv kE kR fb ft fs rws nx ct ch ln)) (wr := []) (As := [.int x2, .int (1 : Int32)]) (rest := [.int x1]) ⟨hx, hb, hml, hown, hts⟩ (mX4_square l hl9 G k ad H.size sv kE kR fb ft fs rws nx ct ch ln x2 (1 : Int32) u4 hq5) (cwV 2 hts gL_countMoves_X4_square rfl rfl rfl kdX4_square ⟨Nat.le_of_ble_eq_true rfl, Nat.le_of_ble_eq_true rfl⟩) hK hA hw (zap_nil _) 0 rfl rfl rfl rfl hl.1 rfl (Nat.le_of_ble_eq_true rfl) dL_countMoves_24 ⟨(by show _ ≤ 259; omega), (by show _ ≤ 1554; omega)⟩) rfl (fun h06 H locs q9 E9 ce9 hw g1 g2 g3 g4 => ?_) (fun h06 H locs hw => ?_)
        · exact nomatch (zif_f h06 hF)
        have hF := zif_t h06 hF
        refine lv_aload_n hx hb dL_countMoves_27 rfl (lv_at hl 0 rfl) ?_
        refine lv_bipush (v := (7 : Int32)) hx hb dL_countMoves_28 (by decide) ?_
        obtain ⟨u7, hq8, hF⟩ := zbd_t hF
        refine zgoXI4 (o0 := u7.1) (w' := (zC ad k sv kE kR fb ft fs rws nx ct ch ln)) (wa := []) (wc := (zC ad k sv kE kR fb ft fs rws nx ct ch ln)) (wc' := (zC ad k sv kE kR fb ft fs rws nx ct ch ln)) (wr := []) hw (zap_nil _) (zap_nil _) hA (zVx4 (wa := []) (wc := (zC ad k sv kE kR fb ft fs rws nx ct ch ln)) (wr := []) (As := [.int (7 : Int32)]) (rest := [.int u4.2, .int x1]) ⟨hx, hb, hml, hown, hts⟩ (mX4_account l hl9 G k ad H.size sv kE kR fb ft fs rws nx ct ch ln (7 : Int32) u7 hq8) (cwV 1 hts gL_countMoves_X4_account rfl rfl rfl kdX4_account ⟨Nat.le_of_ble_eq_true rfl, Nat.le_of_ble_eq_true rfl⟩) hK hA hw (zap_nil _) 0 rfl rfl rfl rfl hl.1 rfl (Nat.le_of_ble_eq_true rfl) dL_countMoves_30 ⟨(by show _ ≤ 259; omega), (by show _ ≤ 1554; omega)⟩) rfl (fun h09 H locs q9 E9 ce9 hw g1 g2 g3 g4 => ?_) (fun h09 H locs hw => ?_)
        · exact nomatch (zif_f h09 hF)
        have hF := zif_t h09 hF
        refine lv_icmp_ne (tgt := 44) hx hb dL_countMoves_33 (by decide) (fun hc => ?_) (fun hc => ?_)
        · have hF := zif_f hc hF
          exact wL_countMoves_44 C0 hl9 hK hA hret (fun z0 z1 => fL_countMoves_4  fb ct ln n z0 z1) ih   _ _ hF _ _ (by omega) (by omega) _ _ _ hw (lv_sub hl [0, 2] rfl)
        · have hF := zif_t hc hF
          refine lv_aload_n hx hb dL_countMoves_36 rfl (lv_at hl 0 rfl) ?_
          refine lv_iload_n hx hb dL_countMoves_37 rfl (lv_at hl 2 rfl) ?_
          obtain ⟨u10, hq11, hF⟩ := zbd_t hF
          refine zgoI4 (w' := (zC ad k sv kE kR fb ft fs rws nx ct ch ln)) (wa := []) (wc := (zC ad k sv kE kR fb ft fs rws nx ct ch ln)) (wc' := (zC ad k sv kE kR fb ft fs rws nx ct ch ln)) (wr := []) hw (zap_nil _) (zap_nil _) hA (zSW4 (wa := []) (wc := (zC ad k sv kE kR fb ft fs rws nx ct ch ln)) (wr := []) (As := [.ref (ad 0), .int x2]) (rest := [.int x1]) ⟨hx, hb, hml, hown, hts⟩ (mL_moves l hl9 G k ad H.size sv kE kR fb ft fs rws nx ct ch ln x2 u10 hq11) (vx_cwSW 2 hts gL_countMoves_L_moves rfl rfl rfl kdL_moves ⟨Nat.le_of_ble_eq_true rfl, Nat.le_of_ble_eq_true rfl⟩) hK hA hw (zap_nil _) rfl hl.1 rfl (Nat.le_of_ble_eq_true rfl) dL_countMoves_38 ⟨(by show _ ≤ 259; omega), (by show _ ≤ 1554; omega)⟩) rfl (fun H locs hw => ?_)
          refine lv_goto (tgt := 45) hx hb dL_countMoves_41 (by decide) ?_
          exact wL_countMoves_45 C0 hl9 hK hA hret (fun z0 z1 => fL_countMoves_4  fb ct ln n z0 z1) ih   _ _ _ hF _ _ (by omega) (by omega) _ _ _ hw (lv_sub hl [0, 2] rfl)
set_option maxHeartbeats 1000000 in
set_option maxRecDepth 100000 in
theorem mL_countMoves (l : Launch) (hl9 : l.stackTraces = false) (G : va_G) (k : Nat → ClassId) (ad : Nat → Nat) (sz : Nat) (sv : Int32) (kE : Int32) (kR : Int32) (fb : Nat → Int64) (ft : Nat → Int64) (fs : Nat → Int64) (rws : Nat → Int64) (nx : Int32) (ct : Int32) (ch : Nat → Int32) (ln : Int32)  (o : Int32) (hF : fL_countMoves fb ct ln = some o) : zMIc l yL_countMoves wsL_countMoves rmL_countMoves G k (zC ad k sv kE kR fb ft fs rws nx ct ch ln) sz [.ref (ad 0)] 259 1554 o (zC ad k sv kE kR fb ft fs rws nx ct ch ln) := by
  refine zof_Ic (cc := cL_countMoves) (nL := 3) (own := RL) (rt := .int) (by decide) rfl rfl (Nat.le_of_ble_eq_true rfl) ?_
  intro p e s m args below meth c A Q C0 hK hA hret ls hl hw
  have hl : lv_has ls 3 [(0, .ref (ad 0))] := hl
  obtain ⟨hx, hb, hr, hml, hown, hts, hlocks⟩ := id C0
  obtain ⟨H, hH⟩ : ∃ z, z = s.heap := ⟨_, rfl⟩
  rw [← hH] at hw ⊢
  obtain ⟨ca, hca⟩ : ∃ z : Nat, z = 0 := ⟨_, rfl⟩
  obtain ⟨cb, hcb⟩ : ∃ z : Nat, z = 0 := ⟨_, rfl⟩
  refine W.widen (k := ca) (n := cb) (Nat.zero_le _) (Nat.zero_le _) ?_
  unfold fL_countMoves at hF
  refine lv_iconst (v := (0 : Int32)) hx hb dL_countMoves_0 (by decide) ?_
  refine lv_istore_n (lv' := [(1, .int (0 : Int32)), (0, .ref (ad 0))]) hx hb dL_countMoves_1 rfl hl (by decide) rfl (fun ls hl => ?_)
  refine lv_iconst (v := (0 : Int32)) hx hb dL_countMoves_2 (by decide) ?_
  refine lv_istore_n (lv' := [(2, .int (0 : Int32)), (1, .int (0 : Int32)), (0, .ref (ad 0))]) hx hb dL_countMoves_3 rfl hl (by decide) rfl (fun ls hl => ?_)
  exact wL_countMoves_4 C0 hl9 hK hA hret   37 _ _ hF _ _ (by omega) (by omega) _ _ _ hw (lv_sub hl [2, 1, 0] rfl)

/-! SealedBoardLaw.areMoves(LSealedBoard;)Z -/
abbrev rmL_areMoves : Room := { frames := 10, cells := 4169, slots := 25014, locals := 200 }
theorem kdL_areMoves : yL_areMoves.cls ≠ "java/lang/invoke/MethodHandle" ∧ yL_areMoves.cls ≠ "java/lang/invoke/VarHandle" ∧ (parseMethodDescriptor yL_areMoves.desc).map (fun d => d.parameters.length) = some 1 := by decide +kernel
def fL_areMoves_278  (ln : Int32) (kR : Int32) (fb : Nat → Int64) (ft : Nat → Int64) (rws : Nat → Int64) (nx : Int32) (ct : Int32) (s0 : Int32) : Option (Int32 × Int32 × (Nat → Int64) × (Nat → Int64) × (Nat → Int64) × Int32 × Int32) := (zck (zbo s0) (some (s0, kR, fb, ft, rws, nx, ct)))
def fL_areMoves_277  (ln : Int32) (kR : Int32) (fb : Nat → Int64) (ft : Nat → Int64) (rws : Nat → Int64) (nx : Int32) (ct : Int32) : Option (Int32 × Int32 × (Nat → Int64) × (Nat → Int64) × (Nat → Int64) × Int32 × Int32) := (fL_areMoves_278  ln  kR fb ft rws nx ct (0 : Int32))
def fL_areMoves_261  (ln : Int32) (kR : Int32) (fb : Nat → Int64) (ft : Nat → Int64) (rws : Nat → Int64) (nx : Int32) (ct : Int32) (s0 : Int32) : Option (Int32 × Int32 × (Nat → Int64) × (Nat → Int64) × (Nat → Int64) × Int32 × Int32) := (if s0 = 0 then (fL_areMoves_277  ln  kR fb ft rws nx ct) else (zbd (fL_undo fb rws nx ct) (fun u1 => (if u1.1 < 0 then (fL_areMoves_277  ln  kR u1.2.1 ft rws u1.2.2.1 u1.2.2.2) else (fL_areMoves_278  ln  kR u1.2.1 ft rws u1.2.2.1 u1.2.2.2 (1 : Int32))))))
def fL_areMoves_260  (ln : Int32) (kR : Int32) (fb : Nat → Int64) (ft : Nat → Int64) (rws : Nat → Int64) (nx : Int32) (ct : Int32) : Option (Int32 × Int32 × (Nat → Int64) × (Nat → Int64) × (Nat → Int64) × Int32 × Int32) := (fL_areMoves_261  ln  kR fb ft rws nx ct (0 : Int32))
def fL_areMoves_137  (ln : Int32) (kR : Int32) (fb : Nat → Int64) (ft : Nat → Int64) (rws : Nat → Int64) (nx : Int32) (ct : Int32) (x1 : Int32) (x2 : Int32) (x3 : Int32) : Option (Int32 × Int32 × (Nat → Int64) × (Nat → Int64) × (Nat → Int64) × Int32 × Int32) := (if x2 = 0 then (zck (zbo x2) (some (x2, kR, fb, ft, rws, nx, ct))) else (if x1 < 0 then (zck (zbo x2) (some (x2, kR, fb, ft, rws, nx, ct))) else (zbd (fX4_account fb ct ln (7 : Int32)) (fun u3 => (if u3.1 = 0 then (zbd (fL_captures fb ft (x1 / (36 : Int32)) (x1 - x1 / (36 : Int32) * (36 : Int32))) (fun u6 => (zbd (fX4_account fb ct ln ((1 : Int32) - u3.2)) (fun u8 => (if u8.1 = 0 then (zbd (fX4_account fb ct ln ((4 : Int32) + u3.2)) (fun u11 => (if u11.1 = 0 then (zbd (fL_move kR fb rws nx ct (x1 / (36 : Int32)) (x1 - x1 / (36 : Int32) * (36 : Int32))) (fun u14 => (if u14.1 = u6.1 then (zbd (fX4_account u14.2.2.1 u14.2.2.2.2.2 ln ((1 : Int32) - u3.2)) (fun u16 => (if u16.1 = 0 then (if u16.2 = (u8.2 - u6.1) then (zbd (fX4_account u14.2.2.1 u14.2.2.2.2.2 ln ((4 : Int32) + u3.2)) (fun u19 => (if u19.1 = 0 then (if u19.2 = (u11.2 + ((2 : Int32) * u6.1)) then (zbd (fX4_sealed u14.2.2.1 ((1 : Int32) - u3.2)) (fun u22 => (if u22.1 = 0 then (if (((10 : Int32) * u6.1) + u22.2) = x3 then (fL_areMoves_261  ln  u14.2.1 u14.2.2.1 u6.2 u14.2.2.2.1 u14.2.2.2.2.1 u14.2.2.2.2.2 (1 : Int32)) else (fL_areMoves_260  ln  u14.2.1 u14.2.2.1 u6.2 u14.2.2.2.1 u14.2.2.2.2.1 u14.2.2.2.2.2)) else none))) else (fL_areMoves_260  ln  u14.2.1 u14.2.2.1 u6.2 u14.2.2.2.1 u14.2.2.2.2.1 u14.2.2.2.2.2)) else none))) else (fL_areMoves_260  ln  u14.2.1 u14.2.2.1 u6.2 u14.2.2.2.1 u14.2.2.2.2.1 u14.2.2.2.2.2)) else none))) else (fL_areMoves_260  ln  u14.2.1 u14.2.2.1 u6.2 u14.2.2.2.1 u14.2.2.2.2.1 u14.2.2.2.2.2)))) else none))) else none))))) else none)))))
def fL_areMoves_130 (k75 : Int32 → (Nat → Int64) → (Nat → Int64) → (Nat → Int64) → Int32 → Int32 → Int32 → Int32 → Int32 → Int32 → Option (Int32 × Int32 × (Nat → Int64) × (Nat → Int64) × (Nat → Int64) × Int32 × Int32)) (ln : Int32) (kR : Int32) (fb : Nat → Int64) (ft : Nat → Int64) (rws : Nat → Int64) (nx : Int32) (ct : Int32) (x1 : Int32) (x3 : Int32) (x4 : Int32) (s0 : Int32) : Option (Int32 × Int32 × (Nat → Int64) × (Nat → Int64) × (Nat → Int64) × Int32 × Int32) := (zbn (x4 + (1 : Int32)) (fun a1 => (k75 kR fb ft rws nx ct x1 s0 x3 a1)))
def fL_areMoves_129 (k75 : Int32 → (Nat → Int64) → (Nat → Int64) → (Nat → Int64) → Int32 → Int32 → Int32 → Int32 → Int32 → Int32 → Option (Int32 × Int32 × (Nat → Int64) × (Nat → Int64) × (Nat → Int64) × Int32 × Int32)) (ln : Int32) (kR : Int32) (fb : Nat → Int64) (ft : Nat → Int64) (rws : Nat → Int64) (nx : Int32) (ct : Int32) (x1 : Int32) (x3 : Int32) (x4 : Int32) : Option (Int32 × Int32 × (Nat → Int64) × (Nat → Int64) × (Nat → Int64) × Int32 × Int32) := (fL_areMoves_130 k75 ln  kR fb ft rws nx ct x1 x3 x4 (0 : Int32))
def fL_areMoves_125 (k75 : Int32 → (Nat → Int64) → (Nat → Int64) → (Nat → Int64) → Int32 → Int32 → Int32 → Int32 → Int32 → Int32 → Option (Int32 × Int32 × (Nat → Int64) × (Nat → Int64) × (Nat → Int64) × Int32 × Int32)) (ln : Int32) (kR : Int32) (fb : Nat → Int64) (ft : Nat → Int64) (rws : Nat → Int64) (nx : Int32) (ct : Int32) (x1 : Int32) (x3 : Int32) (x4 : Int32) : Option (Int32 × Int32 × (Nat → Int64) × (Nat → Int64) × (Nat → Int64) × Int32 × Int32) := (fL_areMoves_130 k75 ln  kR fb ft rws nx ct x1 x3 x4 (1 : Int32))
def fL_areMoves_75  (ln : Int32) : Nat → Int32 → (Nat → Int64) → (Nat → Int64) → (Nat → Int64) → Int32 → Int32 → Int32 → Int32 → Int32 → Int32 → Option (Int32 × Int32 × (Nat → Int64) × (Nat → Int64) × (Nat → Int64) × Int32 × Int32)
  | 0, _, _, _, _, _, _, _, _, _, _ => none
  | n + 1, kR, fb, ft, rws, nx, ct, x1, x2, x3, x4 => (if x2 = 0 then (fL_areMoves_137  ln  kR fb ft rws nx ct x1 x2 x3) else (if x1 < 0 then (fL_areMoves_137  ln  kR fb ft rws nx ct x1 x2 x3) else (if (1296 : Int32) ≤ x4 then (fL_areMoves_137  ln  kR fb ft rws nx ct x1 x2 x3) else (zbd (fL_worth fb ft (x4 / (36 : Int32)) (x4 - x4 / (36 : Int32) * (36 : Int32))) (fun u1 => (if x3 < u1.1 then (fL_areMoves_129 (fun z0 z1 z2 z3 z4 z5 z6 z7 z8 z9 => fL_areMoves_75  ln n z0 z1 z2 z3 z4 z5 z6 z7 z8 z9) ln  kR fb u1.2 rws nx ct x1 x3 x4) else (if x1 ≤ x4 then (fL_areMoves_125 (fun z0 z1 z2 z3 z4 z5 z6 z7 z8 z9 => fL_areMoves_75  ln n z0 z1 z2 z3 z4 z5 z6 z7 z8 z9) ln  kR fb u1.2 rws nx ct x1 x3 x4) else (if x3 ≤ u1.1 then (fL_areMoves_129 (fun z0 z1 z2 z3 z4 z5 z6 z7 z8 z9 => fL_areMoves_75  ln n z0 z1 z2 z3 z4 z5 z6 z7 z8 z9) ln  kR fb u1.2 rws nx ct x1 x3 x4) else (fL_areMoves_125 (fun z0 z1 z2 z3 z4 z5 z6 z7 z8 z9 => fL_areMoves_75  ln n z0 z1 z2 z3 z4 z5 z6 z7 z8 z9) ln  kR fb u1.2 rws nx ct x1 x3 x4)))))))))
def fL_areMoves_71  (ln : Int32) (kR : Int32) (fb : Nat → Int64) (ft : Nat → Int64) (rws : Nat → Int64) (nx : Int32) (ct : Int32) (x1 : Int32) (x2 : Int32) (s0 : Int32) : Option (Int32 × Int32 × (Nat → Int64) × (Nat → Int64) × (Nat → Int64) × Int32 × Int32) := (fL_areMoves_75  ln 1297 kR fb ft rws nx ct x1 x2 s0 (0 : Int32))
def fL_areMoves_70  (ln : Int32) (kR : Int32) (fb : Nat → Int64) (ft : Nat → Int64) (rws : Nat → Int64) (nx : Int32) (ct : Int32) (x1 : Int32) (x2 : Int32) : Option (Int32 × Int32 × (Nat → Int64) × (Nat → Int64) × (Nat → Int64) × Int32 × Int32) := (fL_areMoves_71  ln  kR fb ft rws nx ct x1 x2 (0 : Int32))
def fL_areMoves_46  (ln : Int32) (kR : Int32) (fb : Nat → Int64) (ft : Nat → Int64) (rws : Nat → Int64) (nx : Int32) (ct : Int32) (x1 : Int32) (s0 : Int32) : Option (Int32 × Int32 × (Nat → Int64) × (Nat → Int64) × (Nat → Int64) × Int32 × Int32) := (if s0 = 0 then (fL_areMoves_70  ln  kR fb ft rws nx ct x1 s0) else (if x1 < 0 then (fL_areMoves_70  ln  kR fb ft rws nx ct x1 s0) else (zbd (fL_worth fb ft (x1 / (36 : Int32)) (x1 - x1 / (36 : Int32) * (36 : Int32))) (fun u1 => (fL_areMoves_71  ln  kR fb u1.2 rws nx ct x1 s0 u1.1)))))
def fL_areMoves_38  (ln : Int32) (kR : Int32) (fb : Nat → Int64) (ft : Nat → Int64) (rws : Nat → Int64) (nx : Int32) (ct : Int32) (x1 : Int32) (s0 : Int32) (s1 : Int32) : Option (Int32 × Int32 × (Nat → Int64) × (Nat → Int64) × (Nat → Int64) × Int32 × Int32) := (if s1 = s0 then (fL_areMoves_46  ln  kR fb ft rws nx ct x1 (1 : Int32)) else (fL_areMoves_46  ln  kR fb ft rws nx ct x1 (0 : Int32)))
def fL_areMoves_33  (ln : Int32) (kR : Int32) (fb : Nat → Int64) (ft : Nat → Int64) (rws : Nat → Int64) (nx : Int32) (ct : Int32) (x1 : Int32) (s0 : Int32) : Option (Int32 × Int32 × (Nat → Int64) × (Nat → Int64) × (Nat → Int64) × Int32 × Int32) := (fL_areMoves_38  ln  kR fb ft rws nx ct x1 (1 : Int32) s0)
def fL_areMoves_17  (ln : Int32) (kR : Int32) (fb : Nat → Int64) (ft : Nat → Int64) (rws : Nat → Int64) (nx : Int32) (ct : Int32) (x1 : Int32) (s0 : Int32) : Option (Int32 × Int32 × (Nat → Int64) × (Nat → Int64) × (Nat → Int64) × Int32 × Int32) := (zbd (fX4_account fb ct ln (8 : Int32)) (fun u1 => (if u1.1 = 0 then (if 0 < u1.2 then (fL_areMoves_33  ln  kR fb ft rws nx ct x1 s0) else (zbd (fL_countMoves fb ct ln) (fun u4 => (if u4 = 0 then (fL_areMoves_33  ln  kR fb ft rws nx ct x1 s0) else (fL_areMoves_38  ln  kR fb ft rws nx ct x1 (0 : Int32) s0))))) else none)))
def fL_areMoves (kR : Int32) (fb : Nat → Int64) (ft : Nat → Int64) (rws : Nat → Int64) (nx : Int32) (ct : Int32) (ln : Int32) : Option (Int32 × Int32 × (Nat → Int64) × (Nat → Int64) × (Nat → Int64) × Int32 × Int32) := (zbd (fL_best fb ft) (fun u1 => (if u1.1 = (-1000 : Int32) then (fL_areMoves_17  ln  kR fb u1.2 rws nx ct u1.1 (1 : Int32)) else (fL_areMoves_17  ln  kR fb u1.2 rws nx ct u1.1 (0 : Int32)))))
set_option maxHeartbeats 1000000 in
set_option maxRecDepth 100000 in
theorem wL_areMoves_278 {p : Program} {l : Launch} {e : Env} {s : State} {m : MethodId} {args : Array Value} {below : List Frame} {meth : Method} {c : Code} {A : Nat → Prop} {Q : State → Prop} {G : va_G} {k : Nat → ClassId} {ad : Nat → Nat} {sv : Int32} {kE : Int32} {fs : Nat → Int64} {ch : Nat → Int32} {ln : Int32} {o : Int32 × Int32 × (Nat → Int64) × (Nat → Int64) × (Nat → Int64) × Int32 × Int32} (C0 : zCx p s m args meth c wsL_areMoves cL_areMoves RL (some .boolean) 8) (hl9 : l.stackTraces = false) (hK : zKK G k A s s.heap) (hA : ∀ q : Nat, s.heap.size ≤ q → A q) (hret : zRI p l e rmL_areMoves s m args below meth c cL_areMoves G A 4169 25014 Q .boolean (zC ad k sv kE o.2.1 o.2.2.1 o.2.2.2.1 fs o.2.2.2.2.1 o.2.2.2.2.2.1 o.2.2.2.2.2.2 ch ln) o.1)   : ∀ (kR : Int32) (fb : Nat → Int64) (ft : Nat → Int64) (rws : Nat → Int64) (nx : Int32) (ct : Int32) (s0 : Int32), fL_areMoves_278  ln kR fb ft rws nx ct s0 = some o → ∀ (ca cb : Nat), ca + (0) ≤ 4169 → cb + (0) ≤ 25014 → ∀ (H : Heap) (locs : List Loc) (ls : Array Slot), zWd G A s (zC ad k sv kE kR fb ft fs rws nx ct ch ln) H locs → lv_has ls 8 [] → W p l e rmL_areMoves s m args below meth c H locs ca cb Q (F0 m 278 ls [.int s0]) := by
  obtain ⟨hx, hb, hr, hml, hown, hts, hlocks⟩ := id C0
  intro kR fb ft rws nx ct s0 hF ca cb hca hcb H locs ls hw hl
  unfold fL_areMoves_278 at hF
  refine lv_istore_n (lv' := [(2, .int s0)]) hx hb dL_areMoves_278 rfl hl (by decide) rfl (fun ls hl => ?_)
  refine lv_iload_n hx hb dL_areMoves_279 rfl (lv_at hl 0 rfl) ?_
  obtain ⟨hz1, hF⟩ := zck_t hF
  obtain rfl := Option.some.inj hF
  refine W.widen (k := 4169) (n := 25014) (by omega) (by omega) ?_
  exact hret _ _ _ _ (zbo_n hz1) hw dL_areMoves_280
set_option maxHeartbeats 1000000 in
set_option maxRecDepth 100000 in
theorem wL_areMoves_277 {p : Program} {l : Launch} {e : Env} {s : State} {m : MethodId} {args : Array Value} {below : List Frame} {meth : Method} {c : Code} {A : Nat → Prop} {Q : State → Prop} {G : va_G} {k : Nat → ClassId} {ad : Nat → Nat} {sv : Int32} {kE : Int32} {fs : Nat → Int64} {ch : Nat → Int32} {ln : Int32} {o : Int32 × Int32 × (Nat → Int64) × (Nat → Int64) × (Nat → Int64) × Int32 × Int32} (C0 : zCx p s m args meth c wsL_areMoves cL_areMoves RL (some .boolean) 8) (hl9 : l.stackTraces = false) (hK : zKK G k A s s.heap) (hA : ∀ q : Nat, s.heap.size ≤ q → A q) (hret : zRI p l e rmL_areMoves s m args below meth c cL_areMoves G A 4169 25014 Q .boolean (zC ad k sv kE o.2.1 o.2.2.1 o.2.2.2.1 fs o.2.2.2.2.1 o.2.2.2.2.2.1 o.2.2.2.2.2.2 ch ln) o.1)   : ∀ (kR : Int32) (fb : Nat → Int64) (ft : Nat → Int64) (rws : Nat → Int64) (nx : Int32) (ct : Int32), fL_areMoves_277  ln kR fb ft rws nx ct = some o → ∀ (ca cb : Nat), ca + (0) ≤ 4169 → cb + (0) ≤ 25014 → ∀ (H : Heap) (locs : List Loc) (ls : Array Slot), zWd G A s (zC ad k sv kE kR fb ft fs rws nx ct ch ln) H locs → lv_has ls 8 [] → W p l e rmL_areMoves s m args below meth c H locs ca cb Q (F0 m 277 ls []) := by
  obtain ⟨hx, hb, hr, hml, hown, hts, hlocks⟩ := id C0
  intro kR fb ft rws nx ct hF ca cb hca hcb H locs ls hw hl
  unfold fL_areMoves_277 at hF
  refine lv_iconst (v := (0 : Int32)) hx hb dL_areMoves_277 (by decide) ?_
  exact wL_areMoves_278 C0 hl9 hK hA hret    _ _ _ _ _ _ _ hF _ _ (by omega) (by omega) _ _ _ hw (lv_sub hl [] rfl)
set_option maxHeartbeats 1000000 in
set_option maxRecDepth 100000 in
theorem wL_areMoves_261 {p : Program} {l : Launch} {e : Env} {s : State} {m : MethodId} {args : Array Value} {below : List Frame} {meth : Method} {c : Code} {A : Nat → Prop} {Q : State → Prop} {G : va_G} {k : Nat → ClassId} {ad : Nat → Nat} {sv : Int32} {kE : Int32} {fs : Nat → Int64} {ch : Nat → Int32} {ln : Int32} {o : Int32 × Int32 × (Nat → Int64) × (Nat → Int64) × (Nat → Int64) × Int32 × Int32} (C0 : zCx p s m args meth c wsL_areMoves cL_areMoves RL (some .boolean) 8) (hl9 : l.stackTraces = false) (hK : zKK G k A s s.heap) (hA : ∀ q : Nat, s.heap.size ≤ q → A q) (hret : zRI p l e rmL_areMoves s m args below meth c cL_areMoves G A 4169 25014 Q .boolean (zC ad k sv kE o.2.1 o.2.2.1 o.2.2.2.1 fs o.2.2.2.2.1 o.2.2.2.2.2.1 o.2.2.2.2.2.2 ch ln) o.1)   : ∀ (kR : Int32) (fb : Nat → Int64) (ft : Nat → Int64) (rws : Nat → Int64) (nx : Int32) (ct : Int32) (s0 : Int32), fL_areMoves_261  ln kR fb ft rws nx ct s0 = some o → ∀ (ca cb : Nat), ca + (1) ≤ 4169 → cb + (6) ≤ 25014 → ∀ (H : Heap) (locs : List Loc) (ls : Array Slot), zWd G A s (zC ad k sv kE kR fb ft fs rws nx ct ch ln) H locs → lv_has ls 8 [(0, .ref (ad 0))] → W p l e rmL_areMoves s m args below meth c H locs ca cb Q (F0 m 261 ls [.int s0]) := by
  obtain ⟨hx, hb, hr, hml, hown, hts, hlocks⟩ := id C0
  intro kR fb ft rws nx ct s0 hF ca cb hca hcb H locs ls hw hl
  unfold fL_areMoves_261 at hF
  refine lv_istore_n (lv' := [(2, .int s0), (0, .ref (ad 0))]) hx hb dL_areMoves_261 rfl hl (by decide) rfl (fun ls hl => ?_)
  refine lv_iload_n hx hb dL_areMoves_262 rfl (lv_at hl 0 rfl) ?_
  refine lv_if_eq (tgt := 277) hx hb dL_areMoves_263 (by decide) (fun hc => ?_) (fun hc => ?_)
  · have hF := zif_t hc hF
    exact wL_areMoves_277 C0 hl9 hK hA hret    _ _ _ _ _ _ hF _ _ (by omega) (by omega) _ _ _ hw (lv_sub hl [] rfl)
  · have hF := zif_f hc hF
    refine lv_aload_n hx hb dL_areMoves_266 rfl (lv_at hl 1 rfl) ?_
    obtain ⟨u1, hq2, hF⟩ := zbd_t hF
    refine zgoI4 (w' := (zC ad k sv kE kR u1.2.1 ft fs rws u1.2.2.1 u1.2.2.2 ch ln)) (wa := []) (wc := (zC ad k sv kE kR fb ft fs rws nx ct ch ln)) (wc' := (zC ad k sv kE kR u1.2.1 ft fs rws u1.2.2.1 u1.2.2.2 ch ln)) (wr := []) hw (zap_nil _) (zap_nil _) hA (zSW4 (wa := []) (wc := (zC ad k sv kE kR fb ft fs rws nx ct ch ln)) (wr := []) (As := [.ref (ad 0)]) (rest := []) ⟨hx, hb, hml, hown, hts⟩ (mL_undo l hl9 G k ad H.size sv kE kR fb ft fs rws nx ct ch ln  u1 hq2) (vx_cwSW 1 hts gL_areMoves_L_undo rfl rfl rfl kdL_undo ⟨Nat.le_of_ble_eq_true rfl, Nat.le_of_ble_eq_true rfl⟩) hK hA hw (zap_nil _) rfl hl.1 rfl (Nat.le_of_ble_eq_true rfl) dL_areMoves_267 ⟨(by show _ ≤ 4169; omega), (by show _ ≤ 25014; omega)⟩) rfl (fun H locs hw => ?_)
    refine lv_if_lt (tgt := 277) hx hb dL_areMoves_270 (by decide) (fun hc => ?_) (fun hc => ?_)
    · have hF := zif_t hc hF
      exact wL_areMoves_277 C0 hl9 hK hA hret    _ _ _ _ _ _ hF _ _ (by omega) (by omega) _ _ _ hw (lv_sub hl [] rfl)
    · have hF := zif_f hc hF
      refine lv_iconst (v := (1 : Int32)) hx hb dL_areMoves_273 (by decide) ?_
      refine lv_goto (tgt := 278) hx hb dL_areMoves_274 (by decide) ?_
      exact wL_areMoves_278 C0 hl9 hK hA hret    _ _ _ _ _ _ _ hF _ _ (by omega) (by omega) _ _ _ hw (lv_sub hl [] rfl)
set_option maxHeartbeats 1000000 in
set_option maxRecDepth 100000 in
theorem wL_areMoves_260 {p : Program} {l : Launch} {e : Env} {s : State} {m : MethodId} {args : Array Value} {below : List Frame} {meth : Method} {c : Code} {A : Nat → Prop} {Q : State → Prop} {G : va_G} {k : Nat → ClassId} {ad : Nat → Nat} {sv : Int32} {kE : Int32} {fs : Nat → Int64} {ch : Nat → Int32} {ln : Int32} {o : Int32 × Int32 × (Nat → Int64) × (Nat → Int64) × (Nat → Int64) × Int32 × Int32} (C0 : zCx p s m args meth c wsL_areMoves cL_areMoves RL (some .boolean) 8) (hl9 : l.stackTraces = false) (hK : zKK G k A s s.heap) (hA : ∀ q : Nat, s.heap.size ≤ q → A q) (hret : zRI p l e rmL_areMoves s m args below meth c cL_areMoves G A 4169 25014 Q .boolean (zC ad k sv kE o.2.1 o.2.2.1 o.2.2.2.1 fs o.2.2.2.2.1 o.2.2.2.2.2.1 o.2.2.2.2.2.2 ch ln) o.1)   : ∀ (kR : Int32) (fb : Nat → Int64) (ft : Nat → Int64) (rws : Nat → Int64) (nx : Int32) (ct : Int32), fL_areMoves_260  ln kR fb ft rws nx ct = some o → ∀ (ca cb : Nat), ca + (1) ≤ 4169 → cb + (6) ≤ 25014 → ∀ (H : Heap) (locs : List Loc) (ls : Array Slot), zWd G A s (zC ad k sv kE kR fb ft fs rws nx ct ch ln) H locs → lv_has ls 8 [(0, .ref (ad 0))] → W p l e rmL_areMoves s m args below meth c H locs ca cb Q (F0 m 260 ls []) := by
  obtain ⟨hx, hb, hr, hml, hown, hts, hlocks⟩ := id C0
  intro kR fb ft rws nx ct hF ca cb hca hcb H locs ls hw hl
  unfold fL_areMoves_260 at hF
  refine lv_iconst (v := (0 : Int32)) hx hb dL_areMoves_260 (by decide) ?_
  exact wL_areMoves_261 C0 hl9 hK hA hret    _ _ _ _ _ _ _ hF _ _ (by omega) (by omega) _ _ _ hw (lv_sub hl [0] rfl)
set_option maxHeartbeats 1000000 in
set_option maxRecDepth 100000 in
theorem wL_areMoves_137 {p : Program} {l : Launch} {e : Env} {s : State} {m : MethodId} {args : Array Value} {below : List Frame} {meth : Method} {c : Code} {A : Nat → Prop} {Q : State → Prop} {G : va_G} {k : Nat → ClassId} {ad : Nat → Nat} {sv : Int32} {kE : Int32} {fs : Nat → Int64} {ch : Nat → Int32} {ln : Int32} {o : Int32 × Int32 × (Nat → Int64) × (Nat → Int64) × (Nat → Int64) × Int32 × Int32} (C0 : zCx p s m args meth c wsL_areMoves cL_areMoves RL (some .boolean) 8) (hl9 : l.stackTraces = false) (hK : zKK G k A s s.heap) (hA : ∀ q : Nat, s.heap.size ≤ q → A q) (hret : zRI p l e rmL_areMoves s m args below meth c cL_areMoves G A 4169 25014 Q .boolean (zC ad k sv kE o.2.1 o.2.2.1 o.2.2.2.1 fs o.2.2.2.2.1 o.2.2.2.2.2.1 o.2.2.2.2.2.2 ch ln) o.1)   : ∀ (kR : Int32) (fb : Nat → Int64) (ft : Nat → Int64) (rws : Nat → Int64) (nx : Int32) (ct : Int32) (x1 : Int32) (x2 : Int32) (x3 : Int32), fL_areMoves_137  ln kR fb ft rws nx ct x1 x2 x3 = some o → ∀ (ca cb : Nat), ca + (14) ≤ 4169 → cb + (84) ≤ 25014 → ∀ (H : Heap) (locs : List Loc) (ls : Array Slot), zWd G A s (zC ad k sv kE kR fb ft fs rws nx ct ch ln) H locs → lv_has ls 8 [(0, .ref (ad 0)), (1, .int x1), (2, .int x2), (3, .int x3)] → W p l e rmL_areMoves s m args below meth c H locs ca cb Q (F0 m 137 ls []) := by
  obtain ⟨hx, hb, hr, hml, hown, hts, hlocks⟩ := id C0
  intro kR fb ft rws nx ct x1 x2 x3 hF ca cb hca hcb H locs ls hw hl
  unfold fL_areMoves_137 at hF
  refine lv_iload_n hx hb dL_areMoves_137 rfl (lv_at hl 2 rfl) ?_
  refine lv_if_eq (tgt := 279) hx hb dL_areMoves_138 (by decide) (fun hc => ?_) (fun hc => ?_)
  · have hF := zif_t hc hF
    refine lv_iload_n hx hb dL_areMoves_279 rfl (lv_at hl 2 rfl) ?_
    obtain ⟨hz1, hF⟩ := zck_t hF
    obtain rfl := Option.some.inj hF
    refine W.widen (k := 4169) (n := 25014) (by omega) (by omega) ?_
    exact hret _ _ _ _ (zbo_n hz1) hw dL_areMoves_280
  · have hF := zif_f hc hF
    refine lv_iload_n hx hb dL_areMoves_141 rfl (lv_at hl 1 rfl) ?_
    refine lv_if_lt (tgt := 279) hx hb dL_areMoves_142 (by decide) (fun hc => ?_) (fun hc => ?_)
    · have hF := zif_t hc hF
      refine lv_iload_n hx hb dL_areMoves_279 rfl (lv_at hl 2 rfl) ?_
      obtain ⟨hz2, hF⟩ := zck_t hF
      obtain rfl := Option.some.inj hF
      refine W.widen (k := 4169) (n := 25014) (by omega) (by omega) ?_
      exact hret _ _ _ _ (zbo_n hz2) hw dL_areMoves_280
    · have hF := zif_f hc hF
      refine lv_aload_n hx hb dL_areMoves_145 rfl (lv_at hl 0 rfl) ?_
      refine lv_bipush (v := (7 : Int32)) hx hb dL_areMoves_146 (by decide) ?_
      obtain ⟨u3, hq4, hF⟩ := zbd_t hF
      refine zgoXI4 (o0 := u3.1) (w' := (zC ad k sv kE kR fb ft fs rws nx ct ch ln)) (wa := []) (wc := (zC ad k sv kE kR fb ft fs rws nx ct ch ln)) (wc' := (zC ad k sv kE kR fb ft fs rws nx ct ch ln)) (wr := []) hw (zap_nil _) (zap_nil _) hA (zVx4 (wa := []) (wc := (zC ad k sv kE kR fb ft fs rws nx ct ch ln)) (wr := []) (As := [.int (7 : Int32)]) (rest := []) ⟨hx, hb, hml, hown, hts⟩ (mX4_account l hl9 G k ad H.size sv kE kR fb ft fs rws nx ct ch ln (7 : Int32) u3 hq4) (cwV 1 hts gL_areMoves_X4_account rfl rfl rfl kdX4_account ⟨Nat.le_of_ble_eq_true rfl, Nat.le_of_ble_eq_true rfl⟩) hK hA hw (zap_nil _) 0 rfl rfl rfl rfl hl.1 rfl (Nat.le_of_ble_eq_true rfl) dL_areMoves_148 ⟨(by show _ ≤ 4169; omega), (by show _ ≤ 25014; omega)⟩) rfl (fun h05 H locs q9 E9 ce9 hw g1 g2 g3 g4 => ?_) (fun h05 H locs hw => ?_)
      · exact nomatch (zif_f h05 hF)
      have hF := zif_t h05 hF
      refine lv_istore (lv' := [(4, .int u3.2), (0, .ref (ad 0)), (1, .int x1), (2, .int x2), (3, .int x3)]) hx hb dL_areMoves_151 hl (by decide) rfl (fun ls hl => ?_)
      refine lv_aload_n hx hb dL_areMoves_153 rfl (lv_at hl 1 rfl) ?_
      refine lv_iload_n hx hb dL_areMoves_154 rfl (lv_at hl 2 rfl) ?_
      refine lv_bipush (v := (36 : Int32)) hx hb dL_areMoves_155 (by decide) ?_
      refine lv_idiv hx hb dL_areMoves_157 (by decide) ?_
      refine lv_iload_n hx hb dL_areMoves_158 rfl (lv_at hl 2 rfl) ?_
      refine lv_bipush (v := (36 : Int32)) hx hb dL_areMoves_159 (by decide) ?_
      refine lv_irem hx hb dL_areMoves_161 (by decide) ?_
      obtain ⟨u6, hq7, hF⟩ := zbd_t hF
      refine zgoI4 (w' := (zC ad k sv kE kR fb u6.2 fs rws nx ct ch ln)) (wa := []) (wc := (zC ad k sv kE kR fb ft fs rws nx ct ch ln)) (wc' := (zC ad k sv kE kR fb u6.2 fs rws nx ct ch ln)) (wr := []) hw (zap_nil _) (zap_nil _) hA (zSW4 (wa := []) (wc := (zC ad k sv kE kR fb ft fs rws nx ct ch ln)) (wr := []) (As := [.ref (ad 0), .int (x1 / (36 : Int32)), .int (x1 - x1 / (36 : Int32) * (36 : Int32))]) (rest := []) ⟨hx, hb, hml, hown, hts⟩ (mL_captures l hl9 G k ad H.size sv kE kR fb ft fs rws nx ct ch ln (x1 / (36 : Int32)) (x1 - x1 / (36 : Int32) * (36 : Int32)) u6 hq7) (vx_cwSW 3 hts gL_areMoves_L_captures rfl rfl rfl kdL_captures ⟨Nat.le_of_ble_eq_true rfl, Nat.le_of_ble_eq_true rfl⟩) hK hA hw (zap_nil _) rfl hl.1 rfl (Nat.le_of_ble_eq_true rfl) dL_areMoves_162 ⟨(by show _ ≤ 4169; omega), (by show _ ≤ 25014; omega)⟩) rfl (fun H locs hw => ?_)
      refine lv_istore (lv' := [(5, .int u6.1), (4, .int u3.2), (0, .ref (ad 0)), (1, .int x1), (2, .int x2), (3, .int x3)]) hx hb dL_areMoves_165 hl (by decide) rfl (fun ls hl => ?_)
      refine lv_aload_n hx hb dL_areMoves_167 rfl (lv_at hl 2 rfl) ?_
      refine lv_iconst (v := (1 : Int32)) hx hb dL_areMoves_168 (by decide) ?_
      refine lv_iload hx hb dL_areMoves_169 (lv_at hl 1 rfl) ?_
      refine lv_isub hx hb dL_areMoves_171 ?_
      obtain ⟨u8, hq9, hF⟩ := zbd_t hF
      refine zgoXI4 (o0 := u8.1) (w' := (zC ad k sv kE kR fb u6.2 fs rws nx ct ch ln)) (wa := []) (wc := (zC ad k sv kE kR fb u6.2 fs rws nx ct ch ln)) (wc' := (zC ad k sv kE kR fb u6.2 fs rws nx ct ch ln)) (wr := []) hw (zap_nil _) (zap_nil _) hA (zVx4 (wa := []) (wc := (zC ad k sv kE kR fb u6.2 fs rws nx ct ch ln)) (wr := []) (As := [.int ((1 : Int32) - u3.2)]) (rest := []) ⟨hx, hb, hml, hown, hts⟩ (mX4_account l hl9 G k ad H.size sv kE kR fb u6.2 fs rws nx ct ch ln ((1 : Int32) - u3.2) u8 hq9) (cwV 1 hts gL_areMoves_X4_account rfl rfl rfl kdX4_account ⟨Nat.le_of_ble_eq_true rfl, Nat.le_of_ble_eq_true rfl⟩) hK hA hw (zap_nil _) 0 rfl rfl rfl rfl hl.1 rfl (Nat.le_of_ble_eq_true rfl) dL_areMoves_172 ⟨(by show _ ≤ 4169; omega), (by show _ ≤ 25014; omega)⟩) rfl (fun h010 H locs q9 E9 ce9 hw g1 g2 g3 g4 => ?_) (fun h010 H locs hw => ?_)
      · exact nomatch (zif_f h010 hF)
      have hF := zif_t h010 hF
      refine lv_istore (lv' := [(6, .int u8.2), (5, .int u6.1), (4, .int u3.2), (0, .ref (ad 0)), (1, .int x1), (2, .int x2), (3, .int x3)]) hx hb dL_areMoves_175 hl (by decide) rfl (fun ls hl => ?_)
      refine lv_aload_n hx hb dL_areMoves_177 rfl (lv_at hl 3 rfl) ?_
      refine lv_iconst (v := (4 : Int32)) hx hb dL_areMoves_178 (by decide) ?_
      refine lv_iload hx hb dL_areMoves_179 (lv_at hl 2 rfl) ?_
      refine lv_iadd hx hb dL_areMoves_181 ?_
      obtain ⟨u11, hq12, hF⟩ := zbd_t hF
      refine zgoXI4 (o0 := u11.1) (w' := (zC ad k sv kE kR fb u6.2 fs rws nx ct ch ln)) (wa := []) (wc := (zC ad k sv kE kR fb u6.2 fs rws nx ct ch ln)) (wc' := (zC ad k sv kE kR fb u6.2 fs rws nx ct ch ln)) (wr := []) hw (zap_nil _) (zap_nil _) hA (zVx4 (wa := []) (wc := (zC ad k sv kE kR fb u6.2 fs rws nx ct ch ln)) (wr := []) (As := [.int ((4 : Int32) + u3.2)]) (rest := []) ⟨hx, hb, hml, hown, hts⟩ (mX4_account l hl9 G k ad H.size sv kE kR fb u6.2 fs rws nx ct ch ln ((4 : Int32) + u3.2) u11 hq12) (cwV 1 hts gL_areMoves_X4_account rfl rfl rfl kdX4_account ⟨Nat.le_of_ble_eq_true rfl, Nat.le_of_ble_eq_true rfl⟩) hK hA hw (zap_nil _) 0 rfl rfl rfl rfl hl.1 rfl (Nat.le_of_ble_eq_true rfl) dL_areMoves_182 ⟨(by show _ ≤ 4169; omega), (by show _ ≤ 25014; omega)⟩) rfl (fun h013 H locs q9 E9 ce9 hw g1 g2 g3 g4 => ?_) (fun h013 H locs hw => ?_)
      · exact nomatch (zif_f h013 hF)
      have hF := zif_t h013 hF
      refine lv_istore (lv' := [(7, .int u11.2), (6, .int u8.2), (5, .int u6.1), (4, .int u3.2), (0, .ref (ad 0)), (1, .int x1), (2, .int x2), (3, .int x3)]) hx hb dL_areMoves_185 hl (by decide) rfl (fun ls hl => ?_)
      refine lv_aload_n hx hb dL_areMoves_187 rfl (lv_at hl 4 rfl) ?_
      refine lv_iload_n hx hb dL_areMoves_188 rfl (lv_at hl 5 rfl) ?_
      refine lv_bipush (v := (36 : Int32)) hx hb dL_areMoves_189 (by decide) ?_
      refine lv_idiv hx hb dL_areMoves_191 (by decide) ?_
      refine lv_iload_n hx hb dL_areMoves_192 rfl (lv_at hl 5 rfl) ?_
      refine lv_bipush (v := (36 : Int32)) hx hb dL_areMoves_193 (by decide) ?_
      refine lv_irem hx hb dL_areMoves_195 (by decide) ?_
      obtain ⟨u14, hq15, hF⟩ := zbd_t hF
      refine zgoI4 (w' := (zC ad k sv kE u14.2.1 u14.2.2.1 u6.2 fs u14.2.2.2.1 u14.2.2.2.2.1 u14.2.2.2.2.2 ch ln)) (wa := []) (wc := (zC ad k sv kE kR fb u6.2 fs rws nx ct ch ln)) (wc' := (zC ad k sv kE u14.2.1 u14.2.2.1 u6.2 fs u14.2.2.2.1 u14.2.2.2.2.1 u14.2.2.2.2.2 ch ln)) (wr := []) hw (zap_nil _) (zap_nil _) hA (zSW4 (wa := []) (wc := (zC ad k sv kE kR fb u6.2 fs rws nx ct ch ln)) (wr := []) (As := [.ref (ad 0), .int (x1 / (36 : Int32)), .int (x1 - x1 / (36 : Int32) * (36 : Int32))]) (rest := []) ⟨hx, hb, hml, hown, hts⟩ (mL_move l hl9 G k ad H.size sv kE kR fb u6.2 fs rws nx ct ch ln (x1 / (36 : Int32)) (x1 - x1 / (36 : Int32) * (36 : Int32)) u14 hq15) (vx_cwSW 3 hts gL_areMoves_L_move rfl rfl rfl kdL_move ⟨Nat.le_of_ble_eq_true rfl, Nat.le_of_ble_eq_true rfl⟩) hK hA hw (zap_nil _) rfl hl.1 rfl (Nat.le_of_ble_eq_true rfl) dL_areMoves_196 ⟨(by show _ ≤ 4169; omega), (by show _ ≤ 25014; omega)⟩) rfl (fun H locs hw => ?_)
      refine lv_iload hx hb dL_areMoves_199 (lv_at hl 2 rfl) ?_
      refine lv_icmp_ne (tgt := 260) hx hb dL_areMoves_201 (by decide) (fun hc => ?_) (fun hc => ?_)
      · have hF := zif_f hc hF
        exact wL_areMoves_260 C0 hl9 hK hA hret    _ _ _ _ _ _ hF _ _ (by omega) (by omega) _ _ _ hw (lv_sub hl [4] rfl)
      · have hF := zif_t hc hF
        refine lv_aload_n hx hb dL_areMoves_204 rfl (lv_at hl 4 rfl) ?_
        refine lv_iconst (v := (1 : Int32)) hx hb dL_areMoves_205 (by decide) ?_
        refine lv_iload hx hb dL_areMoves_206 (lv_at hl 3 rfl) ?_
        refine lv_isub hx hb dL_areMoves_208 ?_
        obtain ⟨u16, hq17, hF⟩ := zbd_t hF
        refine zgoXI4 (o0 := u16.1) (w' := (zC ad k sv kE u14.2.1 u14.2.2.1 u6.2 fs u14.2.2.2.1 u14.2.2.2.2.1 u14.2.2.2.2.2 ch ln)) (wa := []) (wc := (zC ad k sv kE u14.2.1 u14.2.2.1 u6.2 fs u14.2.2.2.1 u14.2.2.2.2.1 u14.2.2.2.2.2 ch ln)) (wc' := (zC ad k sv kE u14.2.1 u14.2.2.1 u6.2 fs u14.2.2.2.1 u14.2.2.2.2.1 u14.2.2.2.2.2 ch ln)) (wr := []) hw (zap_nil _) (zap_nil _) hA (zVx4 (wa := []) (wc := (zC ad k sv kE u14.2.1 u14.2.2.1 u6.2 fs u14.2.2.2.1 u14.2.2.2.2.1 u14.2.2.2.2.2 ch ln)) (wr := []) (As := [.int ((1 : Int32) - u3.2)]) (rest := []) ⟨hx, hb, hml, hown, hts⟩ (mX4_account l hl9 G k ad H.size sv kE u14.2.1 u14.2.2.1 u6.2 fs u14.2.2.2.1 u14.2.2.2.2.1 u14.2.2.2.2.2 ch ln ((1 : Int32) - u3.2) u16 hq17) (cwV 1 hts gL_areMoves_X4_account rfl rfl rfl kdX4_account ⟨Nat.le_of_ble_eq_true rfl, Nat.le_of_ble_eq_true rfl⟩) hK hA hw (zap_nil _) 0 rfl rfl rfl rfl hl.1 rfl (Nat.le_of_ble_eq_true rfl) dL_areMoves_209 ⟨(by show _ ≤ 4169; omega), (by show _ ≤ 25014; omega)⟩) rfl (fun h018 H locs q9 E9 ce9 hw g1 g2 g3 g4 => ?_) (fun h018 H locs hw => ?_)
        · exact nomatch (zif_f h018 hF)
        have hF := zif_t h018 hF
        refine lv_iload hx hb dL_areMoves_212 (lv_at hl 1 rfl) ?_
        refine lv_iload hx hb dL_areMoves_214 (lv_at hl 2 rfl) ?_
        refine lv_isub hx hb dL_areMoves_216 ?_
        refine lv_icmp_ne (tgt := 260) hx hb dL_areMoves_217 (by decide) (fun hc => ?_) (fun hc => ?_)
        · have hF := zif_f hc hF
          exact wL_areMoves_260 C0 hl9 hK hA hret    _ _ _ _ _ _ hF _ _ (by omega) (by omega) _ _ _ hw (lv_sub hl [4] rfl)
        · have hF := zif_t hc hF
          refine lv_aload_n hx hb dL_areMoves_220 rfl (lv_at hl 4 rfl) ?_
          refine lv_iconst (v := (4 : Int32)) hx hb dL_areMoves_221 (by decide) ?_
          refine lv_iload hx hb dL_areMoves_222 (lv_at hl 3 rfl) ?_
          refine lv_iadd hx hb dL_areMoves_224 ?_
          obtain ⟨u19, hq20, hF⟩ := zbd_t hF
          refine zgoXI4 (o0 := u19.1) (w' := (zC ad k sv kE u14.2.1 u14.2.2.1 u6.2 fs u14.2.2.2.1 u14.2.2.2.2.1 u14.2.2.2.2.2 ch ln)) (wa := []) (wc := (zC ad k sv kE u14.2.1 u14.2.2.1 u6.2 fs u14.2.2.2.1 u14.2.2.2.2.1 u14.2.2.2.2.2 ch ln)) (wc' := (zC ad k sv kE u14.2.1 u14.2.2.1 u6.2 fs u14.2.2.2.1 u14.2.2.2.2.1 u14.2.2.2.2.2 ch ln)) (wr := []) hw (zap_nil _) (zap_nil _) hA (zVx4 (wa := []) (wc := (zC ad k sv kE u14.2.1 u14.2.2.1 u6.2 fs u14.2.2.2.1 u14.2.2.2.2.1 u14.2.2.2.2.2 ch ln)) (wr := []) (As := [.int ((4 : Int32) + u3.2)]) (rest := []) ⟨hx, hb, hml, hown, hts⟩ (mX4_account l hl9 G k ad H.size sv kE u14.2.1 u14.2.2.1 u6.2 fs u14.2.2.2.1 u14.2.2.2.2.1 u14.2.2.2.2.2 ch ln ((4 : Int32) + u3.2) u19 hq20) (cwV 1 hts gL_areMoves_X4_account rfl rfl rfl kdX4_account ⟨Nat.le_of_ble_eq_true rfl, Nat.le_of_ble_eq_true rfl⟩) hK hA hw (zap_nil _) 0 rfl rfl rfl rfl hl.1 rfl (Nat.le_of_ble_eq_true rfl) dL_areMoves_225 ⟨(by show _ ≤ 4169; omega), (by show _ ≤ 25014; omega)⟩) rfl (fun h021 H locs q9 E9 ce9 hw g1 g2 g3 g4 => ?_) (fun h021 H locs hw => ?_)
          · exact nomatch (zif_f h021 hF)
          have hF := zif_t h021 hF
          refine lv_iload hx hb dL_areMoves_228 (lv_at hl 0 rfl) ?_
          refine lv_iconst (v := (2 : Int32)) hx hb dL_areMoves_230 (by decide) ?_
          refine lv_iload hx hb dL_areMoves_231 (lv_at hl 2 rfl) ?_
          refine lv_imul hx hb dL_areMoves_233 ?_
          refine lv_iadd hx hb dL_areMoves_234 ?_
          refine lv_icmp_ne (tgt := 260) hx hb dL_areMoves_235 (by decide) (fun hc => ?_) (fun hc => ?_)
          · have hF := zif_f hc hF
            exact wL_areMoves_260 C0 hl9 hK hA hret    _ _ _ _ _ _ hF _ _ (by omega) (by omega) _ _ _ hw (lv_sub hl [4] rfl)
          · have hF := zif_t hc hF
            refine lv_bipush (v := (10 : Int32)) hx hb dL_areMoves_238 (by decide) ?_
            refine lv_iload hx hb dL_areMoves_240 (lv_at hl 2 rfl) ?_
            refine lv_imul hx hb dL_areMoves_242 ?_
            refine lv_aload_n hx hb dL_areMoves_243 rfl (lv_at hl 4 rfl) ?_
            refine lv_iconst (v := (1 : Int32)) hx hb dL_areMoves_244 (by decide) ?_
            refine lv_iload hx hb dL_areMoves_245 (lv_at hl 3 rfl) ?_
            refine lv_isub hx hb dL_areMoves_247 ?_
            obtain ⟨u22, hq23, hF⟩ := zbd_t hF
            refine zgoXI4 (o0 := u22.1) (w' := (zC ad k sv kE u14.2.1 u14.2.2.1 u6.2 fs u14.2.2.2.1 u14.2.2.2.2.1 u14.2.2.2.2.2 ch ln)) (wa := []) (wc := (zC ad k sv kE u14.2.1 u14.2.2.1 u6.2 fs u14.2.2.2.1 u14.2.2.2.2.1 u14.2.2.2.2.2 ch ln)) (wc' := (zC ad k sv kE u14.2.1 u14.2.2.1 u6.2 fs u14.2.2.2.1 u14.2.2.2.2.1 u14.2.2.2.2.2 ch ln)) (wr := []) hw (zap_nil _) (zap_nil _) hA (zVx4 (wa := []) (wc := (zC ad k sv kE u14.2.1 u14.2.2.1 u6.2 fs u14.2.2.2.1 u14.2.2.2.2.1 u14.2.2.2.2.2 ch ln)) (wr := []) (As := [.int ((1 : Int32) - u3.2)]) (rest := [.int ((10 : Int32) * u6.1)]) ⟨hx, hb, hml, hown, hts⟩ (mX4_sealed l hl9 G k ad H.size sv kE u14.2.1 u14.2.2.1 u6.2 fs u14.2.2.2.1 u14.2.2.2.2.1 u14.2.2.2.2.2 ch ln ((1 : Int32) - u3.2) u22 hq23) (cwV 1 hts gL_areMoves_X4_sealed rfl rfl rfl kdX4_sealed ⟨Nat.le_of_ble_eq_true rfl, Nat.le_of_ble_eq_true rfl⟩) hK hA hw (zap_nil _) 0 rfl rfl rfl rfl hl.1 rfl (Nat.le_of_ble_eq_true rfl) dL_areMoves_248 ⟨(by show _ ≤ 4169; omega), (by show _ ≤ 25014; omega)⟩) rfl (fun h024 H locs q9 E9 ce9 hw g1 g2 g3 g4 => ?_) (fun h024 H locs hw => ?_)
            · exact nomatch (zif_f h024 hF)
            have hF := zif_t h024 hF
            refine lv_iadd hx hb dL_areMoves_251 ?_
            refine lv_iload_n hx hb dL_areMoves_252 rfl (lv_at hl 7 rfl) ?_
            refine lv_icmp_ne (tgt := 260) hx hb dL_areMoves_253 (by decide) (fun hc => ?_) (fun hc => ?_)
            · have hF := zif_f hc hF
              exact wL_areMoves_260 C0 hl9 hK hA hret    _ _ _ _ _ _ hF _ _ (by omega) (by omega) _ _ _ hw (lv_sub hl [4] rfl)
            · have hF := zif_t hc hF
              refine lv_iconst (v := (1 : Int32)) hx hb dL_areMoves_256 (by decide) ?_
              refine lv_goto (tgt := 261) hx hb dL_areMoves_257 (by decide) ?_
              exact wL_areMoves_261 C0 hl9 hK hA hret    _ _ _ _ _ _ _ hF _ _ (by omega) (by omega) _ _ _ hw (lv_sub hl [4] rfl)
set_option maxHeartbeats 1000000 in
set_option maxRecDepth 100000 in
theorem wL_areMoves_130 {p : Program} {l : Launch} {e : Env} {s : State} {m : MethodId} {args : Array Value} {below : List Frame} {meth : Method} {c : Code} {A : Nat → Prop} {Q : State → Prop} {G : va_G} {k : Nat → ClassId} {ad : Nat → Nat} {sv : Int32} {kE : Int32} {fs : Nat → Int64} {ch : Nat → Int32} {ln : Int32} {o : Int32 × Int32 × (Nat → Int64) × (Nat → Int64) × (Nat → Int64) × Int32 × Int32} (C0 : zCx p s m args meth c wsL_areMoves cL_areMoves RL (some .boolean) 8) (hl9 : l.stackTraces = false) (hK : zKK G k A s s.heap) (hA : ∀ q : Nat, s.heap.size ≤ q → A q) (hret : zRI p l e rmL_areMoves s m args below meth c cL_areMoves G A 4169 25014 Q .boolean (zC ad k sv kE o.2.1 o.2.2.1 o.2.2.2.1 fs o.2.2.2.2.1 o.2.2.2.2.2.1 o.2.2.2.2.2.2 ch ln) o.1)  {d1_75 d2_75 : Nat} (k75 : Int32 → (Nat → Int64) → (Nat → Int64) → (Nat → Int64) → Int32 → Int32 → Int32 → Int32 → Int32 → Int32 → Option (Int32 × Int32 × (Nat → Int64) × (Nat → Int64) × (Nat → Int64) × Int32 × Int32)) (hk75 : ∀ (kR : Int32) (fb : Nat → Int64) (ft : Nat → Int64) (rws : Nat → Int64) (nx : Int32) (ct : Int32) (x1 : Int32) (x2 : Int32) (x3 : Int32) (x4 : Int32), k75 kR fb ft rws nx ct x1 x2 x3 x4 = some o → ∀ (ca cb : Nat), ca + d1_75 ≤ 4169 → cb + d2_75 ≤ 25014 → ∀ (H : Heap) (locs : List Loc) (ls : Array Slot), zWd G A s (zC ad k sv kE kR fb ft fs rws nx ct ch ln) H locs → lv_has ls 8 [(0, .ref (ad 0)), (1, .int x1), (2, .int x2), (3, .int x3), (4, .int x4)] → W p l e rmL_areMoves s m args below meth c H locs ca cb Q (F0 m 75 ls [])) : ∀ (kR : Int32) (fb : Nat → Int64) (ft : Nat → Int64) (rws : Nat → Int64) (nx : Int32) (ct : Int32) (x1 : Int32) (x3 : Int32) (x4 : Int32) (s0 : Int32), fL_areMoves_130 k75 ln kR fb ft rws nx ct x1 x3 x4 s0 = some o → ∀ (ca cb : Nat), ca + (0 + d1_75) ≤ 4169 → cb + (0 + d2_75) ≤ 25014 → ∀ (H : Heap) (locs : List Loc) (ls : Array Slot), zWd G A s (zC ad k sv kE kR fb ft fs rws nx ct ch ln) H locs → lv_has ls 8 [(0, .ref (ad 0)), (1, .int x1), (3, .int x3), (4, .int x4)] → W p l e rmL_areMoves s m args below meth c H locs ca cb Q (F0 m 130 ls [.int s0]) := by
  obtain ⟨hx, hb, hr, hml, hown, hts, hlocks⟩ := id C0
  intro kR fb ft rws nx ct x1 x3 x4 s0 hF ca cb hca hcb H locs ls hw hl
  unfold fL_areMoves_130 at hF
  refine lv_istore_n (lv' := [(2, .int s0), (0, .ref (ad 0)), (1, .int x1), (3, .int x3), (4, .int x4)]) hx hb dL_areMoves_130 rfl hl (by decide) rfl (fun ls hl => ?_)
  obtain ⟨a1, ea1⟩ : ∃ z : Int32, z = x4 + (1 : Int32) := ⟨_, rfl⟩
  have hF := zbn_t ea1 hF
  refine lv_iinc (v := a1) (lv' := [(4, .int a1), (2, .int s0), (0, .ref (ad 0)), (1, .int x1), (3, .int x3)]) hx hb dL_areMoves_131 hl (k := 4) rfl (by rw [ea1]; rfl) (by decide) rfl (fun ls hl => ?_)
  refine lv_goto (tgt := 75) hx hb dL_areMoves_134 (by decide) ?_
  exact hk75 _ _ _ _ _ _ _ _ _ _ hF _ _ (by omega) (by omega) _ _ _ hw (lv_sub hl [2, 3, 1, 4, 0] rfl)
set_option maxHeartbeats 1000000 in
set_option maxRecDepth 100000 in
theorem wL_areMoves_129 {p : Program} {l : Launch} {e : Env} {s : State} {m : MethodId} {args : Array Value} {below : List Frame} {meth : Method} {c : Code} {A : Nat → Prop} {Q : State → Prop} {G : va_G} {k : Nat → ClassId} {ad : Nat → Nat} {sv : Int32} {kE : Int32} {fs : Nat → Int64} {ch : Nat → Int32} {ln : Int32} {o : Int32 × Int32 × (Nat → Int64) × (Nat → Int64) × (Nat → Int64) × Int32 × Int32} (C0 : zCx p s m args meth c wsL_areMoves cL_areMoves RL (some .boolean) 8) (hl9 : l.stackTraces = false) (hK : zKK G k A s s.heap) (hA : ∀ q : Nat, s.heap.size ≤ q → A q) (hret : zRI p l e rmL_areMoves s m args below meth c cL_areMoves G A 4169 25014 Q .boolean (zC ad k sv kE o.2.1 o.2.2.1 o.2.2.2.1 fs o.2.2.2.2.1 o.2.2.2.2.2.1 o.2.2.2.2.2.2 ch ln) o.1)  {d1_75 d2_75 : Nat} (k75 : Int32 → (Nat → Int64) → (Nat → Int64) → (Nat → Int64) → Int32 → Int32 → Int32 → Int32 → Int32 → Int32 → Option (Int32 × Int32 × (Nat → Int64) × (Nat → Int64) × (Nat → Int64) × Int32 × Int32)) (hk75 : ∀ (kR : Int32) (fb : Nat → Int64) (ft : Nat → Int64) (rws : Nat → Int64) (nx : Int32) (ct : Int32) (x1 : Int32) (x2 : Int32) (x3 : Int32) (x4 : Int32), k75 kR fb ft rws nx ct x1 x2 x3 x4 = some o → ∀ (ca cb : Nat), ca + d1_75 ≤ 4169 → cb + d2_75 ≤ 25014 → ∀ (H : Heap) (locs : List Loc) (ls : Array Slot), zWd G A s (zC ad k sv kE kR fb ft fs rws nx ct ch ln) H locs → lv_has ls 8 [(0, .ref (ad 0)), (1, .int x1), (2, .int x2), (3, .int x3), (4, .int x4)] → W p l e rmL_areMoves s m args below meth c H locs ca cb Q (F0 m 75 ls [])) : ∀ (kR : Int32) (fb : Nat → Int64) (ft : Nat → Int64) (rws : Nat → Int64) (nx : Int32) (ct : Int32) (x1 : Int32) (x3 : Int32) (x4 : Int32), fL_areMoves_129 k75 ln kR fb ft rws nx ct x1 x3 x4 = some o → ∀ (ca cb : Nat), ca + (0 + d1_75) ≤ 4169 → cb + (0 + d2_75) ≤ 25014 → ∀ (H : Heap) (locs : List Loc) (ls : Array Slot), zWd G A s (zC ad k sv kE kR fb ft fs rws nx ct ch ln) H locs → lv_has ls 8 [(0, .ref (ad 0)), (1, .int x1), (3, .int x3), (4, .int x4)] → W p l e rmL_areMoves s m args below meth c H locs ca cb Q (F0 m 129 ls []) := by
  obtain ⟨hx, hb, hr, hml, hown, hts, hlocks⟩ := id C0
  intro kR fb ft rws nx ct x1 x3 x4 hF ca cb hca hcb H locs ls hw hl
  unfold fL_areMoves_129 at hF
  refine lv_iconst (v := (0 : Int32)) hx hb dL_areMoves_129 (by decide) ?_
  exact wL_areMoves_130 C0 hl9 hK hA hret k75 hk75   _ _ _ _ _ _ _ _ _ _ hF _ _ (by omega) (by omega) _ _ _ hw (lv_sub hl [0, 1, 2, 3] rfl)
set_option maxHeartbeats 1000000 in
set_option maxRecDepth 100000 in
theorem wL_areMoves_125 {p : Program} {l : Launch} {e : Env} {s : State} {m : MethodId} {args : Array Value} {below : List Frame} {meth : Method} {c : Code} {A : Nat → Prop} {Q : State → Prop} {G : va_G} {k : Nat → ClassId} {ad : Nat → Nat} {sv : Int32} {kE : Int32} {fs : Nat → Int64} {ch : Nat → Int32} {ln : Int32} {o : Int32 × Int32 × (Nat → Int64) × (Nat → Int64) × (Nat → Int64) × Int32 × Int32} (C0 : zCx p s m args meth c wsL_areMoves cL_areMoves RL (some .boolean) 8) (hl9 : l.stackTraces = false) (hK : zKK G k A s s.heap) (hA : ∀ q : Nat, s.heap.size ≤ q → A q) (hret : zRI p l e rmL_areMoves s m args below meth c cL_areMoves G A 4169 25014 Q .boolean (zC ad k sv kE o.2.1 o.2.2.1 o.2.2.2.1 fs o.2.2.2.2.1 o.2.2.2.2.2.1 o.2.2.2.2.2.2 ch ln) o.1)  {d1_75 d2_75 : Nat} (k75 : Int32 → (Nat → Int64) → (Nat → Int64) → (Nat → Int64) → Int32 → Int32 → Int32 → Int32 → Int32 → Int32 → Option (Int32 × Int32 × (Nat → Int64) × (Nat → Int64) × (Nat → Int64) × Int32 × Int32)) (hk75 : ∀ (kR : Int32) (fb : Nat → Int64) (ft : Nat → Int64) (rws : Nat → Int64) (nx : Int32) (ct : Int32) (x1 : Int32) (x2 : Int32) (x3 : Int32) (x4 : Int32), k75 kR fb ft rws nx ct x1 x2 x3 x4 = some o → ∀ (ca cb : Nat), ca + d1_75 ≤ 4169 → cb + d2_75 ≤ 25014 → ∀ (H : Heap) (locs : List Loc) (ls : Array Slot), zWd G A s (zC ad k sv kE kR fb ft fs rws nx ct ch ln) H locs → lv_has ls 8 [(0, .ref (ad 0)), (1, .int x1), (2, .int x2), (3, .int x3), (4, .int x4)] → W p l e rmL_areMoves s m args below meth c H locs ca cb Q (F0 m 75 ls [])) : ∀ (kR : Int32) (fb : Nat → Int64) (ft : Nat → Int64) (rws : Nat → Int64) (nx : Int32) (ct : Int32) (x1 : Int32) (x3 : Int32) (x4 : Int32), fL_areMoves_125 k75 ln kR fb ft rws nx ct x1 x3 x4 = some o → ∀ (ca cb : Nat), ca + (0 + d1_75) ≤ 4169 → cb + (0 + d2_75) ≤ 25014 → ∀ (H : Heap) (locs : List Loc) (ls : Array Slot), zWd G A s (zC ad k sv kE kR fb ft fs rws nx ct ch ln) H locs → lv_has ls 8 [(0, .ref (ad 0)), (1, .int x1), (3, .int x3), (4, .int x4)] → W p l e rmL_areMoves s m args below meth c H locs ca cb Q (F0 m 125 ls []) := by
  obtain ⟨hx, hb, hr, hml, hown, hts, hlocks⟩ := id C0
  intro kR fb ft rws nx ct x1 x3 x4 hF ca cb hca hcb H locs ls hw hl
  unfold fL_areMoves_125 at hF
  refine lv_iconst (v := (1 : Int32)) hx hb dL_areMoves_125 (by decide) ?_
  refine lv_goto (tgt := 130) hx hb dL_areMoves_126 (by decide) ?_
  exact wL_areMoves_130 C0 hl9 hK hA hret k75 hk75   _ _ _ _ _ _ _ _ _ _ hF _ _ (by omega) (by omega) _ _ _ hw (lv_sub hl [0, 1, 2, 3] rfl)
set_option maxHeartbeats 1000000 in
set_option maxRecDepth 100000 in
theorem wL_areMoves_75 {p : Program} {l : Launch} {e : Env} {s : State} {m : MethodId} {args : Array Value} {below : List Frame} {meth : Method} {c : Code} {A : Nat → Prop} {Q : State → Prop} {G : va_G} {k : Nat → ClassId} {ad : Nat → Nat} {sv : Int32} {kE : Int32} {fs : Nat → Int64} {ch : Nat → Int32} {ln : Int32} {o : Int32 × Int32 × (Nat → Int64) × (Nat → Int64) × (Nat → Int64) × Int32 × Int32} (C0 : zCx p s m args meth c wsL_areMoves cL_areMoves RL (some .boolean) 8) (hl9 : l.stackTraces = false) (hK : zKK G k A s s.heap) (hA : ∀ q : Nat, s.heap.size ≤ q → A q) (hret : zRI p l e rmL_areMoves s m args below meth c cL_areMoves G A 4169 25014 Q .boolean (zC ad k sv kE o.2.1 o.2.2.1 o.2.2.2.1 fs o.2.2.2.2.1 o.2.2.2.2.2.1 o.2.2.2.2.2.2 ch ln) o.1)   : ∀ (n : Nat) (kR : Int32) (fb : Nat → Int64) (ft : Nat → Int64) (rws : Nat → Int64) (nx : Int32) (ct : Int32) (x1 : Int32) (x2 : Int32) (x3 : Int32) (x4 : Int32), fL_areMoves_75  ln n kR fb ft rws nx ct x1 x2 x3 x4 = some o → ∀ (ca cb : Nat), ca + (n * 3 + 14) ≤ 4169 → cb + (n * 18 + 84) ≤ 25014 → ∀ (H : Heap) (locs : List Loc) (ls : Array Slot), zWd G A s (zC ad k sv kE kR fb ft fs rws nx ct ch ln) H locs → lv_has ls 8 [(0, .ref (ad 0)), (1, .int x1), (2, .int x2), (3, .int x3), (4, .int x4)] → W p l e rmL_areMoves s m args below meth c H locs ca cb Q (F0 m 75 ls []) := by
  obtain ⟨hx, hb, hr, hml, hown, hts, hlocks⟩ := id C0
  intro n
  induction n with
  | zero => intro kR fb ft rws nx ct x1 x2 x3 x4 hF; exact nomatch hF
  | succ n ih =>
    intro kR fb ft rws nx ct x1 x2 x3 x4 hF ca cb hca hcb H locs ls hw hl
    rw [fL_areMoves_75] at hF
    refine lv_iload_n hx hb dL_areMoves_75 rfl (lv_at hl 2 rfl) ?_
    refine lv_if_eq (tgt := 137) hx hb dL_areMoves_76 (by decide) (fun hc => ?_) (fun hc => ?_)
    · have hF := zif_t hc hF
      exact wL_areMoves_137 C0 hl9 hK hA hret    _ _ _ _ _ _ _ _ _ hF _ _ (by omega) (by omega) _ _ _ hw (lv_sub hl [0, 1, 2, 3] rfl)
    · have hF := zif_f hc hF
      refine lv_iload_n hx hb dL_areMoves_79 rfl (lv_at hl 1 rfl) ?_
      refine lv_if_lt (tgt := 137) hx hb dL_areMoves_80 (by decide) (fun hc => ?_) (fun hc => ?_)
      · have hF := zif_t hc hF
        exact wL_areMoves_137 C0 hl9 hK hA hret    _ _ _ _ _ _ _ _ _ hF _ _ (by omega) (by omega) _ _ _ hw (lv_sub hl [0, 1, 2, 3] rfl)
      · have hF := zif_f hc hF
        refine lv_iload hx hb dL_areMoves_83 (lv_at hl 4 rfl) ?_
        refine lv_sipush (v := (1296 : Int32)) hx hb dL_areMoves_85 (by decide) ?_
        refine lv_icmp_ge (tgt := 137) hx hb dL_areMoves_88 (by decide) (fun hc => ?_) (fun hc => ?_)
        · have hF := zif_t hc hF
          exact wL_areMoves_137 C0 hl9 hK hA hret    _ _ _ _ _ _ _ _ _ hF _ _ (by omega) (by omega) _ _ _ hw (lv_sub hl [0, 1, 2, 3] rfl)
        · have hF := zif_f hc hF
          refine lv_aload_n hx hb dL_areMoves_91 rfl (lv_at hl 0 rfl) ?_
          refine lv_iload hx hb dL_areMoves_92 (lv_at hl 4 rfl) ?_
          refine lv_bipush (v := (36 : Int32)) hx hb dL_areMoves_94 (by decide) ?_
          refine lv_idiv hx hb dL_areMoves_96 (by decide) ?_
          refine lv_iload hx hb dL_areMoves_97 (lv_at hl 4 rfl) ?_
          refine lv_bipush (v := (36 : Int32)) hx hb dL_areMoves_99 (by decide) ?_
          refine lv_irem hx hb dL_areMoves_101 (by decide) ?_
          obtain ⟨u1, hq2, hF⟩ := zbd_t hF
          refine zgoI4 (w' := (zC ad k sv kE kR fb u1.2 fs rws nx ct ch ln)) (wa := []) (wc := (zC ad k sv kE kR fb ft fs rws nx ct ch ln)) (wc' := (zC ad k sv kE kR fb u1.2 fs rws nx ct ch ln)) (wr := []) hw (zap_nil _) (zap_nil _) hA (zSW4 (wa := []) (wc := (zC ad k sv kE kR fb ft fs rws nx ct ch ln)) (wr := []) (As := [.ref (ad 0), .int (x4 / (36 : Int32)), .int (x4 - x4 / (36 : Int32) * (36 : Int32))]) (rest := []) ⟨hx, hb, hml, hown, hts⟩ (mL_worth l hl9 G k ad H.size sv kE kR fb ft fs rws nx ct ch ln (x4 / (36 : Int32)) (x4 - x4 / (36 : Int32) * (36 : Int32)) u1 hq2) (vx_cwSW 3 hts gL_areMoves_L_worth rfl rfl rfl kdL_worth ⟨Nat.le_of_ble_eq_true rfl, Nat.le_of_ble_eq_true rfl⟩) hK hA hw (zap_nil _) rfl hl.1 rfl (Nat.le_of_ble_eq_true rfl) dL_areMoves_102 ⟨(by show _ ≤ 4169; omega), (by show _ ≤ 25014; omega)⟩) rfl (fun H locs hw => ?_)
          refine lv_istore (lv' := [(5, .int u1.1), (0, .ref (ad 0)), (1, .int x1), (2, .int x2), (3, .int x3), (4, .int x4)]) hx hb dL_areMoves_105 hl (by decide) rfl (fun ls hl => ?_)
          refine lv_iload hx hb dL_areMoves_107 (lv_at hl 0 rfl) ?_
          refine lv_iload_n hx hb dL_areMoves_109 rfl (lv_at hl 4 rfl) ?_
          refine lv_icmp_gt (tgt := 129) hx hb dL_areMoves_110 (by decide) (fun hc => ?_) (fun hc => ?_)
          · have hF := zif_t hc hF
            exact wL_areMoves_129 C0 hl9 hK hA hret (fun z0 z1 z2 z3 z4 z5 z6 z7 z8 z9 => fL_areMoves_75  ln n z0 z1 z2 z3 z4 z5 z6 z7 z8 z9) ih   _ _ _ _ _ _ _ _ _ hF _ _ (by omega) (by omega) _ _ _ hw (lv_sub hl [1, 2, 4, 5] rfl)
          · have hF := zif_f hc hF
            refine lv_iload hx hb dL_areMoves_113 (lv_at hl 5 rfl) ?_
            refine lv_iload_n hx hb dL_areMoves_115 rfl (lv_at hl 2 rfl) ?_
            refine lv_icmp_ge (tgt := 125) hx hb dL_areMoves_116 (by decide) (fun hc => ?_) (fun hc => ?_)
            · have hF := zif_t hc hF
              exact wL_areMoves_125 C0 hl9 hK hA hret (fun z0 z1 z2 z3 z4 z5 z6 z7 z8 z9 => fL_areMoves_75  ln n z0 z1 z2 z3 z4 z5 z6 z7 z8 z9) ih   _ _ _ _ _ _ _ _ _ hF _ _ (by omega) (by omega) _ _ _ hw (lv_sub hl [1, 2, 4, 5] rfl)
            · have hF := zif_f hc hF
              refine lv_iload hx hb dL_areMoves_119 (lv_at hl 0 rfl) ?_
              refine lv_iload_n hx hb dL_areMoves_121 rfl (lv_at hl 4 rfl) ?_
              refine lv_icmp_ge (tgt := 129) hx hb dL_areMoves_122 (by decide) (fun hc => ?_) (fun hc => ?_)
              · have hF := zif_t hc hF
                exact wL_areMoves_129 C0 hl9 hK hA hret (fun z0 z1 z2 z3 z4 z5 z6 z7 z8 z9 => fL_areMoves_75  ln n z0 z1 z2 z3 z4 z5 z6 z7 z8 z9) ih   _ _ _ _ _ _ _ _ _ hF _ _ (by omega) (by omega) _ _ _ hw (lv_sub hl [1, 2, 4, 5] rfl)
              · have hF := zif_f hc hF
                exact wL_areMoves_125 C0 hl9 hK hA hret (fun z0 z1 z2 z3 z4 z5 z6 z7 z8 z9 => fL_areMoves_75  ln n z0 z1 z2 z3 z4 z5 z6 z7 z8 z9) ih   _ _ _ _ _ _ _ _ _ hF _ _ (by omega) (by omega) _ _ _ hw (lv_sub hl [1, 2, 4, 5] rfl)
set_option maxHeartbeats 1000000 in
set_option maxRecDepth 100000 in
theorem wL_areMoves_71 {p : Program} {l : Launch} {e : Env} {s : State} {m : MethodId} {args : Array Value} {below : List Frame} {meth : Method} {c : Code} {A : Nat → Prop} {Q : State → Prop} {G : va_G} {k : Nat → ClassId} {ad : Nat → Nat} {sv : Int32} {kE : Int32} {fs : Nat → Int64} {ch : Nat → Int32} {ln : Int32} {o : Int32 × Int32 × (Nat → Int64) × (Nat → Int64) × (Nat → Int64) × Int32 × Int32} (C0 : zCx p s m args meth c wsL_areMoves cL_areMoves RL (some .boolean) 8) (hl9 : l.stackTraces = false) (hK : zKK G k A s s.heap) (hA : ∀ q : Nat, s.heap.size ≤ q → A q) (hret : zRI p l e rmL_areMoves s m args below meth c cL_areMoves G A 4169 25014 Q .boolean (zC ad k sv kE o.2.1 o.2.2.1 o.2.2.2.1 fs o.2.2.2.2.1 o.2.2.2.2.2.1 o.2.2.2.2.2.2 ch ln) o.1)   : ∀ (kR : Int32) (fb : Nat → Int64) (ft : Nat → Int64) (rws : Nat → Int64) (nx : Int32) (ct : Int32) (x1 : Int32) (x2 : Int32) (s0 : Int32), fL_areMoves_71  ln kR fb ft rws nx ct x1 x2 s0 = some o → ∀ (ca cb : Nat), ca + (3905) ≤ 4169 → cb + (23430) ≤ 25014 → ∀ (H : Heap) (locs : List Loc) (ls : Array Slot), zWd G A s (zC ad k sv kE kR fb ft fs rws nx ct ch ln) H locs → lv_has ls 8 [(0, .ref (ad 0)), (1, .int x1), (2, .int x2)] → W p l e rmL_areMoves s m args below meth c H locs ca cb Q (F0 m 71 ls [.int s0]) := by
  obtain ⟨hx, hb, hr, hml, hown, hts, hlocks⟩ := id C0
  intro kR fb ft rws nx ct x1 x2 s0 hF ca cb hca hcb H locs ls hw hl
  unfold fL_areMoves_71 at hF
  refine lv_istore_n (lv' := [(3, .int s0), (0, .ref (ad 0)), (1, .int x1), (2, .int x2)]) hx hb dL_areMoves_71 rfl hl (by decide) rfl (fun ls hl => ?_)
  refine lv_iconst (v := (0 : Int32)) hx hb dL_areMoves_72 (by decide) ?_
  refine lv_istore (lv' := [(4, .int (0 : Int32)), (3, .int s0), (0, .ref (ad 0)), (1, .int x1), (2, .int x2)]) hx hb dL_areMoves_73 hl (by decide) rfl (fun ls hl => ?_)
  exact wL_areMoves_75 C0 hl9 hK hA hret   1297 _ _ _ _ _ _ _ _ _ _ hF _ _ (by omega) (by omega) _ _ _ hw (lv_sub hl [2, 3, 4, 1, 0] rfl)
set_option maxHeartbeats 1000000 in
set_option maxRecDepth 100000 in
theorem wL_areMoves_70 {p : Program} {l : Launch} {e : Env} {s : State} {m : MethodId} {args : Array Value} {below : List Frame} {meth : Method} {c : Code} {A : Nat → Prop} {Q : State → Prop} {G : va_G} {k : Nat → ClassId} {ad : Nat → Nat} {sv : Int32} {kE : Int32} {fs : Nat → Int64} {ch : Nat → Int32} {ln : Int32} {o : Int32 × Int32 × (Nat → Int64) × (Nat → Int64) × (Nat → Int64) × Int32 × Int32} (C0 : zCx p s m args meth c wsL_areMoves cL_areMoves RL (some .boolean) 8) (hl9 : l.stackTraces = false) (hK : zKK G k A s s.heap) (hA : ∀ q : Nat, s.heap.size ≤ q → A q) (hret : zRI p l e rmL_areMoves s m args below meth c cL_areMoves G A 4169 25014 Q .boolean (zC ad k sv kE o.2.1 o.2.2.1 o.2.2.2.1 fs o.2.2.2.2.1 o.2.2.2.2.2.1 o.2.2.2.2.2.2 ch ln) o.1)   : ∀ (kR : Int32) (fb : Nat → Int64) (ft : Nat → Int64) (rws : Nat → Int64) (nx : Int32) (ct : Int32) (x1 : Int32) (x2 : Int32), fL_areMoves_70  ln kR fb ft rws nx ct x1 x2 = some o → ∀ (ca cb : Nat), ca + (3905) ≤ 4169 → cb + (23430) ≤ 25014 → ∀ (H : Heap) (locs : List Loc) (ls : Array Slot), zWd G A s (zC ad k sv kE kR fb ft fs rws nx ct ch ln) H locs → lv_has ls 8 [(0, .ref (ad 0)), (1, .int x1), (2, .int x2)] → W p l e rmL_areMoves s m args below meth c H locs ca cb Q (F0 m 70 ls []) := by
  obtain ⟨hx, hb, hr, hml, hown, hts, hlocks⟩ := id C0
  intro kR fb ft rws nx ct x1 x2 hF ca cb hca hcb H locs ls hw hl
  unfold fL_areMoves_70 at hF
  refine lv_iconst (v := (0 : Int32)) hx hb dL_areMoves_70 (by decide) ?_
  exact wL_areMoves_71 C0 hl9 hK hA hret    _ _ _ _ _ _ _ _ _ hF _ _ (by omega) (by omega) _ _ _ hw (lv_sub hl [0, 1, 2] rfl)
set_option maxHeartbeats 1000000 in
set_option maxRecDepth 100000 in
theorem wL_areMoves_46 {p : Program} {l : Launch} {e : Env} {s : State} {m : MethodId} {args : Array Value} {below : List Frame} {meth : Method} {c : Code} {A : Nat → Prop} {Q : State → Prop} {G : va_G} {k : Nat → ClassId} {ad : Nat → Nat} {sv : Int32} {kE : Int32} {fs : Nat → Int64} {ch : Nat → Int32} {ln : Int32} {o : Int32 × Int32 × (Nat → Int64) × (Nat → Int64) × (Nat → Int64) × Int32 × Int32} (C0 : zCx p s m args meth c wsL_areMoves cL_areMoves RL (some .boolean) 8) (hl9 : l.stackTraces = false) (hK : zKK G k A s s.heap) (hA : ∀ q : Nat, s.heap.size ≤ q → A q) (hret : zRI p l e rmL_areMoves s m args below meth c cL_areMoves G A 4169 25014 Q .boolean (zC ad k sv kE o.2.1 o.2.2.1 o.2.2.2.1 fs o.2.2.2.2.1 o.2.2.2.2.2.1 o.2.2.2.2.2.2 ch ln) o.1)   : ∀ (kR : Int32) (fb : Nat → Int64) (ft : Nat → Int64) (rws : Nat → Int64) (nx : Int32) (ct : Int32) (x1 : Int32) (s0 : Int32), fL_areMoves_46  ln kR fb ft rws nx ct x1 s0 = some o → ∀ (ca cb : Nat), ca + (3908) ≤ 4169 → cb + (23448) ≤ 25014 → ∀ (H : Heap) (locs : List Loc) (ls : Array Slot), zWd G A s (zC ad k sv kE kR fb ft fs rws nx ct ch ln) H locs → lv_has ls 8 [(0, .ref (ad 0)), (1, .int x1)] → W p l e rmL_areMoves s m args below meth c H locs ca cb Q (F0 m 46 ls [.int s0]) := by
  obtain ⟨hx, hb, hr, hml, hown, hts, hlocks⟩ := id C0
  intro kR fb ft rws nx ct x1 s0 hF ca cb hca hcb H locs ls hw hl
  unfold fL_areMoves_46 at hF
  refine lv_istore_n (lv' := [(2, .int s0), (0, .ref (ad 0)), (1, .int x1)]) hx hb dL_areMoves_46 rfl hl (by decide) rfl (fun ls hl => ?_)
  refine lv_iload_n hx hb dL_areMoves_47 rfl (lv_at hl 0 rfl) ?_
  refine lv_if_eq (tgt := 70) hx hb dL_areMoves_48 (by decide) (fun hc => ?_) (fun hc => ?_)
  · have hF := zif_t hc hF
    exact wL_areMoves_70 C0 hl9 hK hA hret    _ _ _ _ _ _ _ _ hF _ _ (by omega) (by omega) _ _ _ hw (lv_sub hl [1, 2, 0] rfl)
  · have hF := zif_f hc hF
    refine lv_iload_n hx hb dL_areMoves_51 rfl (lv_at hl 2 rfl) ?_
    refine lv_if_lt (tgt := 70) hx hb dL_areMoves_52 (by decide) (fun hc => ?_) (fun hc => ?_)
    · have hF := zif_t hc hF
      exact wL_areMoves_70 C0 hl9 hK hA hret    _ _ _ _ _ _ _ _ hF _ _ (by omega) (by omega) _ _ _ hw (lv_sub hl [1, 2, 0] rfl)
    · have hF := zif_f hc hF
      refine lv_aload_n hx hb dL_areMoves_55 rfl (lv_at hl 1 rfl) ?_
      refine lv_iload_n hx hb dL_areMoves_56 rfl (lv_at hl 2 rfl) ?_
      refine lv_bipush (v := (36 : Int32)) hx hb dL_areMoves_57 (by decide) ?_
      refine lv_idiv hx hb dL_areMoves_59 (by decide) ?_
      refine lv_iload_n hx hb dL_areMoves_60 rfl (lv_at hl 2 rfl) ?_
      refine lv_bipush (v := (36 : Int32)) hx hb dL_areMoves_61 (by decide) ?_
      refine lv_irem hx hb dL_areMoves_63 (by decide) ?_
      obtain ⟨u1, hq2, hF⟩ := zbd_t hF
      refine zgoI4 (w' := (zC ad k sv kE kR fb u1.2 fs rws nx ct ch ln)) (wa := []) (wc := (zC ad k sv kE kR fb ft fs rws nx ct ch ln)) (wc' := (zC ad k sv kE kR fb u1.2 fs rws nx ct ch ln)) (wr := []) hw (zap_nil _) (zap_nil _) hA (zSW4 (wa := []) (wc := (zC ad k sv kE kR fb ft fs rws nx ct ch ln)) (wr := []) (As := [.ref (ad 0), .int (x1 / (36 : Int32)), .int (x1 - x1 / (36 : Int32) * (36 : Int32))]) (rest := []) ⟨hx, hb, hml, hown, hts⟩ (mL_worth l hl9 G k ad H.size sv kE kR fb ft fs rws nx ct ch ln (x1 / (36 : Int32)) (x1 - x1 / (36 : Int32) * (36 : Int32)) u1 hq2) (vx_cwSW 3 hts gL_areMoves_L_worth rfl rfl rfl kdL_worth ⟨Nat.le_of_ble_eq_true rfl, Nat.le_of_ble_eq_true rfl⟩) hK hA hw (zap_nil _) rfl hl.1 rfl (Nat.le_of_ble_eq_true rfl) dL_areMoves_64 ⟨(by show _ ≤ 4169; omega), (by show _ ≤ 25014; omega)⟩) rfl (fun H locs hw => ?_)
      refine lv_goto (tgt := 71) hx hb dL_areMoves_67 (by decide) ?_
      exact wL_areMoves_71 C0 hl9 hK hA hret    _ _ _ _ _ _ _ _ _ hF _ _ (by omega) (by omega) _ _ _ hw (lv_sub hl [1, 2, 0] rfl)
set_option maxHeartbeats 1000000 in
set_option maxRecDepth 100000 in
theorem wL_areMoves_38 {p : Program} {l : Launch} {e : Env} {s : State} {m : MethodId} {args : Array Value} {below : List Frame} {meth : Method} {c : Code} {A : Nat → Prop} {Q : State → Prop} {G : va_G} {k : Nat → ClassId} {ad : Nat → Nat} {sv : Int32} {kE : Int32} {fs : Nat → Int64} {ch : Nat → Int32} {ln : Int32} {o : Int32 × Int32 × (Nat → Int64) × (Nat → Int64) × (Nat → Int64) × Int32 × Int32} (C0 : zCx p s m args meth c wsL_areMoves cL_areMoves RL (some .boolean) 8) (hl9 : l.stackTraces = false) (hK : zKK G k A s s.heap) (hA : ∀ q : Nat, s.heap.size ≤ q → A q) (hret : zRI p l e rmL_areMoves s m args below meth c cL_areMoves G A 4169 25014 Q .boolean (zC ad k sv kE o.2.1 o.2.2.1 o.2.2.2.1 fs o.2.2.2.2.1 o.2.2.2.2.2.1 o.2.2.2.2.2.2 ch ln) o.1)   : ∀ (kR : Int32) (fb : Nat → Int64) (ft : Nat → Int64) (rws : Nat → Int64) (nx : Int32) (ct : Int32) (x1 : Int32) (s0 : Int32) (s1 : Int32), fL_areMoves_38  ln kR fb ft rws nx ct x1 s0 s1 = some o → ∀ (ca cb : Nat), ca + (3908) ≤ 4169 → cb + (23448) ≤ 25014 → ∀ (H : Heap) (locs : List Loc) (ls : Array Slot), zWd G A s (zC ad k sv kE kR fb ft fs rws nx ct ch ln) H locs → lv_has ls 8 [(0, .ref (ad 0)), (1, .int x1)] → W p l e rmL_areMoves s m args below meth c H locs ca cb Q (F0 m 38 ls [.int s0, .int s1]) := by
  obtain ⟨hx, hb, hr, hml, hown, hts, hlocks⟩ := id C0
  intro kR fb ft rws nx ct x1 s0 s1 hF ca cb hca hcb H locs ls hw hl
  unfold fL_areMoves_38 at hF
  refine lv_icmp_ne (tgt := 45) hx hb dL_areMoves_38 (by decide) (fun hc => ?_) (fun hc => ?_)
  · have hF := zif_f hc hF
    refine lv_iconst (v := (0 : Int32)) hx hb dL_areMoves_45 (by decide) ?_
    exact wL_areMoves_46 C0 hl9 hK hA hret    _ _ _ _ _ _ _ _ hF _ _ (by omega) (by omega) _ _ _ hw (lv_sub hl [0, 1] rfl)
  · have hF := zif_t hc hF
    refine lv_iconst (v := (1 : Int32)) hx hb dL_areMoves_41 (by decide) ?_
    refine lv_goto (tgt := 46) hx hb dL_areMoves_42 (by decide) ?_
    exact wL_areMoves_46 C0 hl9 hK hA hret    _ _ _ _ _ _ _ _ hF _ _ (by omega) (by omega) _ _ _ hw (lv_sub hl [0, 1] rfl)
set_option maxHeartbeats 1000000 in
set_option maxRecDepth 100000 in
theorem wL_areMoves_33 {p : Program} {l : Launch} {e : Env} {s : State} {m : MethodId} {args : Array Value} {below : List Frame} {meth : Method} {c : Code} {A : Nat → Prop} {Q : State → Prop} {G : va_G} {k : Nat → ClassId} {ad : Nat → Nat} {sv : Int32} {kE : Int32} {fs : Nat → Int64} {ch : Nat → Int32} {ln : Int32} {o : Int32 × Int32 × (Nat → Int64) × (Nat → Int64) × (Nat → Int64) × Int32 × Int32} (C0 : zCx p s m args meth c wsL_areMoves cL_areMoves RL (some .boolean) 8) (hl9 : l.stackTraces = false) (hK : zKK G k A s s.heap) (hA : ∀ q : Nat, s.heap.size ≤ q → A q) (hret : zRI p l e rmL_areMoves s m args below meth c cL_areMoves G A 4169 25014 Q .boolean (zC ad k sv kE o.2.1 o.2.2.1 o.2.2.2.1 fs o.2.2.2.2.1 o.2.2.2.2.2.1 o.2.2.2.2.2.2 ch ln) o.1)   : ∀ (kR : Int32) (fb : Nat → Int64) (ft : Nat → Int64) (rws : Nat → Int64) (nx : Int32) (ct : Int32) (x1 : Int32) (s0 : Int32), fL_areMoves_33  ln kR fb ft rws nx ct x1 s0 = some o → ∀ (ca cb : Nat), ca + (3908) ≤ 4169 → cb + (23448) ≤ 25014 → ∀ (H : Heap) (locs : List Loc) (ls : Array Slot), zWd G A s (zC ad k sv kE kR fb ft fs rws nx ct ch ln) H locs → lv_has ls 8 [(0, .ref (ad 0)), (1, .int x1)] → W p l e rmL_areMoves s m args below meth c H locs ca cb Q (F0 m 33 ls [.int s0]) := by
  obtain ⟨hx, hb, hr, hml, hown, hts, hlocks⟩ := id C0
  intro kR fb ft rws nx ct x1 s0 hF ca cb hca hcb H locs ls hw hl
  unfold fL_areMoves_33 at hF
  refine lv_iconst (v := (1 : Int32)) hx hb dL_areMoves_33 (by decide) ?_
  refine lv_goto (tgt := 38) hx hb dL_areMoves_34 (by decide) ?_
  exact wL_areMoves_38 C0 hl9 hK hA hret    _ _ _ _ _ _ _ _ _ hF _ _ (by omega) (by omega) _ _ _ hw (lv_sub hl [0, 1] rfl)
set_option maxHeartbeats 1000000 in
set_option maxRecDepth 100000 in
theorem wL_areMoves_17 {p : Program} {l : Launch} {e : Env} {s : State} {m : MethodId} {args : Array Value} {below : List Frame} {meth : Method} {c : Code} {A : Nat → Prop} {Q : State → Prop} {G : va_G} {k : Nat → ClassId} {ad : Nat → Nat} {sv : Int32} {kE : Int32} {fs : Nat → Int64} {ch : Nat → Int32} {ln : Int32} {o : Int32 × Int32 × (Nat → Int64) × (Nat → Int64) × (Nat → Int64) × Int32 × Int32} (C0 : zCx p s m args meth c wsL_areMoves cL_areMoves RL (some .boolean) 8) (hl9 : l.stackTraces = false) (hK : zKK G k A s s.heap) (hA : ∀ q : Nat, s.heap.size ≤ q → A q) (hret : zRI p l e rmL_areMoves s m args below meth c cL_areMoves G A 4169 25014 Q .boolean (zC ad k sv kE o.2.1 o.2.2.1 o.2.2.2.1 fs o.2.2.2.2.1 o.2.2.2.2.2.1 o.2.2.2.2.2.2 ch ln) o.1)   : ∀ (kR : Int32) (fb : Nat → Int64) (ft : Nat → Int64) (rws : Nat → Int64) (nx : Int32) (ct : Int32) (x1 : Int32) (s0 : Int32), fL_areMoves_17  ln kR fb ft rws nx ct x1 s0 = some o → ∀ (ca cb : Nat), ca + (4168) ≤ 4169 → cb + (25008) ≤ 25014 → ∀ (H : Heap) (locs : List Loc) (ls : Array Slot), zWd G A s (zC ad k sv kE kR fb ft fs rws nx ct ch ln) H locs → lv_has ls 8 [(0, .ref (ad 0)), (1, .int x1)] → W p l e rmL_areMoves s m args below meth c H locs ca cb Q (F0 m 17 ls [.int s0]) := by
  obtain ⟨hx, hb, hr, hml, hown, hts, hlocks⟩ := id C0
  intro kR fb ft rws nx ct x1 s0 hF ca cb hca hcb H locs ls hw hl
  unfold fL_areMoves_17 at hF
  refine lv_aload_n hx hb dL_areMoves_17 rfl (lv_at hl 0 rfl) ?_
  refine lv_bipush (v := (8 : Int32)) hx hb dL_areMoves_18 (by decide) ?_
  obtain ⟨u1, hq2, hF⟩ := zbd_t hF
  refine zgoXI4 (o0 := u1.1) (w' := (zC ad k sv kE kR fb ft fs rws nx ct ch ln)) (wa := []) (wc := (zC ad k sv kE kR fb ft fs rws nx ct ch ln)) (wc' := (zC ad k sv kE kR fb ft fs rws nx ct ch ln)) (wr := []) hw (zap_nil _) (zap_nil _) hA (zVx4 (wa := []) (wc := (zC ad k sv kE kR fb ft fs rws nx ct ch ln)) (wr := []) (As := [.int (8 : Int32)]) (rest := [.int s0]) ⟨hx, hb, hml, hown, hts⟩ (mX4_account l hl9 G k ad H.size sv kE kR fb ft fs rws nx ct ch ln (8 : Int32) u1 hq2) (cwV 1 hts gL_areMoves_X4_account rfl rfl rfl kdX4_account ⟨Nat.le_of_ble_eq_true rfl, Nat.le_of_ble_eq_true rfl⟩) hK hA hw (zap_nil _) 0 rfl rfl rfl rfl hl.1 rfl (Nat.le_of_ble_eq_true rfl) dL_areMoves_20 ⟨(by show _ ≤ 4169; omega), (by show _ ≤ 25014; omega)⟩) rfl (fun h03 H locs q9 E9 ce9 hw g1 g2 g3 g4 => ?_) (fun h03 H locs hw => ?_)
  · exact nomatch (zif_f h03 hF)
  have hF := zif_t h03 hF
  refine lv_if_gt (tgt := 33) hx hb dL_areMoves_23 (by decide) (fun hc => ?_) (fun hc => ?_)
  · have hF := zif_t hc hF
    exact wL_areMoves_33 C0 hl9 hK hA hret    _ _ _ _ _ _ _ _ hF _ _ (by omega) (by omega) _ _ _ hw (lv_sub hl [0, 1] rfl)
  · have hF := zif_f hc hF
    refine lv_aload_n hx hb dL_areMoves_26 rfl (lv_at hl 0 rfl) ?_
    obtain ⟨u4, hq5, hF⟩ := zbd_t hF
    refine zgoI4 (w' := (zC ad k sv kE kR fb ft fs rws nx ct ch ln)) (wa := []) (wc := (zC ad k sv kE kR fb ft fs rws nx ct ch ln)) (wc' := (zC ad k sv kE kR fb ft fs rws nx ct ch ln)) (wr := []) hw (zap_nil _) (zap_nil _) hA (zS4 (wa := []) (wc := (zC ad k sv kE kR fb ft fs rws nx ct ch ln)) (wr := []) (As := [.ref (ad 0)]) (rest := [.int s0]) ⟨hx, hb, hml, hown, hts⟩ (mL_countMoves l hl9 G k ad H.size sv kE kR fb ft fs rws nx ct ch ln  u4 hq5) (va_cwS 1 hts gL_areMoves_L_countMoves rfl rfl rfl kdL_countMoves ⟨Nat.le_of_ble_eq_true rfl, Nat.le_of_ble_eq_true rfl⟩) hK hA hw (zap_nil _) rfl hl.1 rfl (Nat.le_of_ble_eq_true rfl) dL_areMoves_27 ⟨(by show _ ≤ 4169; omega), (by show _ ≤ 25014; omega)⟩) rfl (fun H locs hw => ?_)
    refine lv_if_ne (tgt := 37) hx hb dL_areMoves_30 (by decide) (fun hc => ?_) (fun hc => ?_)
    · have hF := zif_f hc hF
      refine lv_iconst (v := (0 : Int32)) hx hb dL_areMoves_37 (by decide) ?_
      exact wL_areMoves_38 C0 hl9 hK hA hret    _ _ _ _ _ _ _ _ _ hF _ _ (by omega) (by omega) _ _ _ hw (lv_sub hl [0, 1] rfl)
    · have hF := zif_t hc hF
      exact wL_areMoves_33 C0 hl9 hK hA hret    _ _ _ _ _ _ _ _ hF _ _ (by omega) (by omega) _ _ _ hw (lv_sub hl [0, 1] rfl)
set_option maxHeartbeats 1000000 in
set_option maxRecDepth 100000 in
theorem mL_areMoves (l : Launch) (hl9 : l.stackTraces = false) (G : va_G) (k : Nat → ClassId) (ad : Nat → Nat) (sz : Nat) (sv : Int32) (kE : Int32) (kR : Int32) (fb : Nat → Int64) (ft : Nat → Int64) (fs : Nat → Int64) (rws : Nat → Int64) (nx : Int32) (ct : Int32) (ch : Nat → Int32) (ln : Int32)  (o : Int32 × Int32 × (Nat → Int64) × (Nat → Int64) × (Nat → Int64) × Int32 × Int32) (hF : fL_areMoves kR fb ft rws nx ct ln = some o) : zMIc l yL_areMoves wsL_areMoves rmL_areMoves G k (zC ad k sv kE kR fb ft fs rws nx ct ch ln) sz [.ref (ad 0)] 4169 25014 o.1 (zC ad k sv kE o.2.1 o.2.2.1 o.2.2.2.1 fs o.2.2.2.2.1 o.2.2.2.2.2.1 o.2.2.2.2.2.2 ch ln) := by
  refine zof_Ic (cc := cL_areMoves) (nL := 8) (own := RL) (rt := .boolean) (by decide) rfl rfl (Nat.le_of_ble_eq_true rfl) ?_
  intro p e s m args below meth c A Q C0 hK hA hret ls hl hw
  have hl : lv_has ls 8 [(0, .ref (ad 0))] := hl
  obtain ⟨hx, hb, hr, hml, hown, hts, hlocks⟩ := id C0
  obtain ⟨H, hH⟩ : ∃ z, z = s.heap := ⟨_, rfl⟩
  rw [← hH] at hw ⊢
  obtain ⟨ca, hca⟩ : ∃ z : Nat, z = 0 := ⟨_, rfl⟩
  obtain ⟨cb, hcb⟩ : ∃ z : Nat, z = 0 := ⟨_, rfl⟩
  refine W.widen (k := ca) (n := cb) (Nat.zero_le _) (Nat.zero_le _) ?_
  unfold fL_areMoves at hF
  refine lv_aload_n hx hb dL_areMoves_0 rfl (lv_at hl 0 rfl) ?_
  obtain ⟨u1, hq2, hF⟩ := zbd_t hF
  refine zgoI4 (w' := (zC ad k sv kE kR fb u1.2 fs rws nx ct ch ln)) (wa := []) (wc := (zC ad k sv kE kR fb ft fs rws nx ct ch ln)) (wc' := (zC ad k sv kE kR fb u1.2 fs rws nx ct ch ln)) (wr := []) hw (zap_nil _) (zap_nil _) hA (zSW4 (wa := []) (wc := (zC ad k sv kE kR fb ft fs rws nx ct ch ln)) (wr := []) (As := [.ref (ad 0)]) (rest := []) ⟨hx, hb, hml, hown, hts⟩ (mL_best l hl9 G k ad H.size sv kE kR fb ft fs rws nx ct ch ln  u1 hq2) (vx_cwSW 1 hts gL_areMoves_L_best rfl rfl rfl kdL_best ⟨Nat.le_of_ble_eq_true rfl, Nat.le_of_ble_eq_true rfl⟩) hK hA hw (zap_nil _) rfl hl.1 rfl (Nat.le_of_ble_eq_true rfl) dL_areMoves_1 ⟨(by show _ ≤ 4169; omega), (by show _ ≤ 25014; omega)⟩) rfl (fun H locs hw => ?_)
  refine lv_istore_n (lv' := [(1, .int u1.1), (0, .ref (ad 0))]) hx hb dL_areMoves_4 rfl hl (by decide) rfl (fun ls hl => ?_)
  refine lv_iload_n hx hb dL_areMoves_5 rfl (lv_at hl 0 rfl) ?_
  refine lv_sipush (v := (-1000 : Int32)) hx hb dL_areMoves_6 (by decide) ?_
  refine lv_icmp_ne (tgt := 16) hx hb dL_areMoves_9 (by decide) (fun hc => ?_) (fun hc => ?_)
  · have hF := zif_f hc hF
    refine lv_iconst (v := (0 : Int32)) hx hb dL_areMoves_16 (by decide) ?_
    exact wL_areMoves_17 C0 hl9 hK hA hret    _ _ _ _ _ _ _ _ hF _ _ (by omega) (by omega) _ _ _ hw (lv_sub hl [1, 0] rfl)
  · have hF := zif_t hc hF
    refine lv_iconst (v := (1 : Int32)) hx hb dL_areMoves_12 (by decide) ?_
    refine lv_goto (tgt := 17) hx hb dL_areMoves_13 (by decide) ?_
    exact wL_areMoves_17 C0 hl9 hK hA hret    _ _ _ _ _ _ _ _ hF _ _ (by omega) (by omega) _ _ _ hw (lv_sub hl [1, 0] rfl)

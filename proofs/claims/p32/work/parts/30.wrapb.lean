/-! SealedBoardLaw.best(LSealedBoard;)I -/
abbrev rmL_best : Room := { frames := 7, cells := 1, slots := 6, locals := 178 }
theorem kdL_best : yL_best.cls ≠ "java/lang/invoke/MethodHandle" ∧ yL_best.cls ≠ "java/lang/invoke/VarHandle" ∧ (parseMethodDescriptor yL_best.desc).map (fun d => d.parameters.length) = some 1 := by decide +kernel
def fL_best (fb : Nat → Int64) (ft : Nat → Int64) : Option (Int32 × (Nat → Int64)) := (zbd (fX4_best fb ft) (fun u1 => (if u1.1 = 0 then (some (u1.2.1, u1.2.2)) else (if u1.1 = 5 then (some ((-1000 : Int32), u1.2.2)) else none))))
set_option maxHeartbeats 1000000 in
set_option maxRecDepth 100000 in
theorem mL_best (l : Launch) (hl9 : l.stackTraces = false) (G : va_G) (k : Nat → ClassId) (ad : Nat → Nat) (sz : Nat) (sv : Int32) (kE : Int32) (kR : Int32) (fb : Nat → Int64) (ft : Nat → Int64) (fs : Nat → Int64) (rws : Nat → Int64) (nx : Int32) (ct : Int32) (ch : Nat → Int32) (ln : Int32)  (o : Int32 × (Nat → Int64)) (hF : fL_best fb ft = some o) : zMIc l yL_best wsL_best rmL_best G k (zC ad k sv kE kR fb ft fs rws nx ct ch ln) sz [.ref (ad 0)] 1 6 o.1 (zC ad k sv kE kR fb o.2 fs rws nx ct ch ln) := by
  refine zof_Wc (cc := cL_best) (nL := 3) (own := RL) (rt := .int) (by decide) rfl rfl (Nat.le_of_ble_eq_true rfl) ?_
  intro p e s m args below meth c A Q C0 hK hA hret hTab ls hl hw
  have hl : lv_has ls 3 [(0, .ref (ad 0))] := hl
  obtain ⟨hx, hb, hr, hml, hown, hts, hlocks⟩ := id C0
  obtain ⟨H, hH⟩ : ∃ z, z = s.heap := ⟨_, rfl⟩
  rw [← hH] at hw ⊢
  obtain ⟨ca, hca⟩ : ∃ z : Nat, z = 0 := ⟨_, rfl⟩
  obtain ⟨cb, hcb⟩ : ∃ z : Nat, z = 0 := ⟨_, rfl⟩
  refine W.widen (k := ca) (n := cb) (Nat.zero_le _) (Nat.zero_le _) ?_
  unfold fL_best at hF
  refine lv_sipush (v := (-1000 : Int32)) hx hb dL_best_0 (by decide) ?_
  refine lv_istore_n (lv' := [(1, .int (-1000 : Int32)), (0, .ref (ad 0))]) hx hb dL_best_3 rfl hl (by decide) rfl (fun ls hl => ?_)
  refine lv_aload_n hx hb dL_best_4 rfl (lv_at hl 1 rfl) ?_
  obtain ⟨u1, hq2, hF⟩ := zbd_t hF
  refine zgoXI4 (o0 := u1.1) (w' := (zC ad k sv kE kR fb u1.2.2 fs rws nx ct ch ln)) (wa := []) (wc := (zC ad k sv kE kR fb ft fs rws nx ct ch ln)) (wc' := (zC ad k sv kE kR fb u1.2.2 fs rws nx ct ch ln)) (wr := []) hw (zap_nil _) (zap_nil _) hA (zVx4 (wa := []) (wc := (zC ad k sv kE kR fb ft fs rws nx ct ch ln)) (wr := []) (As := []) (rest := []) ⟨hx, hb, hml, hown, hts⟩ (mX4_best l hl9 G k ad H.size sv kE kR fb ft fs rws nx ct ch ln  u1 hq2) (cwV 0 hts gL_best_X4_best rfl rfl rfl kdX4_best ⟨Nat.le_of_ble_eq_true rfl, Nat.le_of_ble_eq_true rfl⟩) hK hA hw (zap_nil _) 0 rfl rfl rfl rfl hl.1 rfl (Nat.le_of_ble_eq_true rfl) dL_best_5 ⟨(by show _ ≤ 1; omega), (by show _ ≤ 6; omega)⟩) rfl (fun h03 H locs q9 E9 ce9 hw g1 g2 g3 g4 => ?_) (fun h03 H locs hw => ?_)
  · have hF := zif_f h03 hF
    have hw : zWd G A s (zC ad k sv kE kR fb u1.2.2 fs rws nx ct ch ln) H locs := hw
    by_cases hc4 : u1.1 = 5
    · have hF := zif_t hc4 hF
      have gE : E9 = "java/util/NoSuchElementException" := g4.trans (by rw [hc4]; rfl)
      subst gE
      refine vx_catch (name := "java/util/NoSuchElementException") (E := "java/util/NoSuchElementException") hown [] ⟨4, 9, 12, 42⟩ [] (by rw [hTab]; rfl) (fun _ h9 => nomatch h9) (by decide) (by decide) (hts (.classLink RL 42 "java/util/NoSuchElementException") (by decide +kernel)) (va_Nw.use rfl (hK.2.cast (by decide))) g1 g2 g3 ?_
      refine lv_astore_n (lv' := [(2, .ref q9), (1, .int (-1000 : Int32)), (0, .ref (ad 0))]) hx hb dL_best_12 rfl hl (by decide) rfl (fun ls hl => ?_)
      refine lv_sipush (v := (-1000 : Int32)) hx hb dL_best_13 (by decide) ?_
      obtain rfl := Option.some.inj hF
      refine W.widen (k := 1) (n := 6) (by omega) (by omega) ?_
      exact hret _ _ _ _ rfl hw dL_best_16
    have hF := zif_f hc4 hF
    exact nomatch hF
  have hF := zif_t h03 hF
  have hw : zWd G A s (zC ad k sv kE kR fb u1.2.2 fs rws nx ct ch ln) H locs := hw
  refine lv_istore_n (lv' := [(1, .int u1.2.1), (0, .ref (ad 0))]) hx hb dL_best_8 rfl hl (by decide) rfl (fun ls hl => ?_)
  refine lv_goto (tgt := 17) hx hb dL_best_9 (by decide) ?_
  refine lv_iload_n hx hb dL_best_17 rfl (lv_at hl 0 rfl) ?_
  obtain rfl := Option.some.inj hF
  refine W.widen (k := 1) (n := 6) (by omega) (by omega) ?_
  exact hret _ _ _ _ rfl hw dL_best_18

/-! SealedBoardLaw.worth(LSealedBoard;II)I -/
abbrev rmL_worth : Room := { frames := 8, cells := 3, slots := 18, locals := 150 }
theorem kdL_worth : yL_worth.cls ≠ "java/lang/invoke/MethodHandle" ∧ yL_worth.cls ≠ "java/lang/invoke/VarHandle" ∧ (parseMethodDescriptor yL_worth.desc).map (fun d => d.parameters.length) = some 3 := by decide +kernel
def fL_worth (fb : Nat → Int64) (ft : Nat → Int64) (p1 : Int32) (p2 : Int32) : Option (Int32 × (Nat → Int64)) := (zbd (fX4_worth fb ft p1 p2) (fun u1 => (if u1.1 = 0 then (some (u1.2.1, u1.2.2)) else (if u1.1 = 1 then (some ((-1000 : Int32), u1.2.2)) else (if u1.1 = 5 then (some ((-1000 : Int32), u1.2.2)) else none)))))
set_option maxHeartbeats 1000000 in
set_option maxRecDepth 100000 in
theorem mL_worth (l : Launch) (hl9 : l.stackTraces = false) (G : va_G) (k : Nat → ClassId) (ad : Nat → Nat) (sz : Nat) (sv : Int32) (kE : Int32) (kR : Int32) (fb : Nat → Int64) (ft : Nat → Int64) (fs : Nat → Int64) (rws : Nat → Int64) (nx : Int32) (ct : Int32) (ch : Nat → Int32) (ln : Int32) (p1 : Int32) (p2 : Int32) (o : Int32 × (Nat → Int64)) (hF : fL_worth fb ft p1 p2 = some o) : zMIc l yL_worth wsL_worth rmL_worth G k (zC ad k sv kE kR fb ft fs rws nx ct ch ln) sz [.ref (ad 0), .int p1, .int p2] 3 18 o.1 (zC ad k sv kE kR fb o.2 fs rws nx ct ch ln) := by
  refine zof_Wc (cc := cL_worth) (nL := 5) (own := RL) (rt := .int) (by decide) rfl rfl (Nat.le_of_ble_eq_true rfl) ?_
  intro p e s m args below meth c A Q C0 hK hA hret hTab ls hl hw
  have hl : lv_has ls 5 [(0, .ref (ad 0)), (1, .int p1), (2, .int p2)] := hl
  obtain ⟨hx, hb, hr, hml, hown, hts, hlocks⟩ := id C0
  obtain ⟨H, hH⟩ : ∃ z, z = s.heap := ⟨_, rfl⟩
  rw [← hH] at hw ⊢
  obtain ⟨ca, hca⟩ : ∃ z : Nat, z = 0 := ⟨_, rfl⟩
  obtain ⟨cb, hcb⟩ : ∃ z : Nat, z = 0 := ⟨_, rfl⟩
  refine W.widen (k := ca) (n := cb) (Nat.zero_le _) (Nat.zero_le _) ?_
  unfold fL_worth at hF
  refine lv_sipush (v := (-1000 : Int32)) hx hb dL_worth_0 (by decide) ?_
  refine lv_istore_n (lv' := [(3, .int (-1000 : Int32)), (0, .ref (ad 0)), (1, .int p1), (2, .int p2)]) hx hb dL_worth_3 rfl hl (by decide) rfl (fun ls hl => ?_)
  refine lv_aload_n hx hb dL_worth_4 rfl (lv_at hl 1 rfl) ?_
  refine lv_iload_n hx hb dL_worth_5 rfl (lv_at hl 2 rfl) ?_
  refine lv_iload_n hx hb dL_worth_6 rfl (lv_at hl 3 rfl) ?_
  obtain ⟨u1, hq2, hF⟩ := zbd_t hF
  refine zgoXI4 (o0 := u1.1) (w' := (zC ad k sv kE kR fb u1.2.2 fs rws nx ct ch ln)) (wa := []) (wc := (zC ad k sv kE kR fb ft fs rws nx ct ch ln)) (wc' := (zC ad k sv kE kR fb u1.2.2 fs rws nx ct ch ln)) (wr := []) hw (zap_nil _) (zap_nil _) hA (zVx4 (wa := []) (wc := (zC ad k sv kE kR fb ft fs rws nx ct ch ln)) (wr := []) (As := [.int p1, .int p2]) (rest := []) ⟨hx, hb, hml, hown, hts⟩ (mX4_worth l hl9 G k ad H.size sv kE kR fb ft fs rws nx ct ch ln p1 p2 u1 hq2) (cwV 2 hts gL_worth_X4_worth rfl rfl rfl kdX4_worth ⟨Nat.le_of_ble_eq_true rfl, Nat.le_of_ble_eq_true rfl⟩) hK hA hw (zap_nil _) 0 rfl rfl rfl rfl hl.1 rfl (Nat.le_of_ble_eq_true rfl) dL_worth_7 ⟨(by show _ ≤ 3; omega), (by show _ ≤ 18; omega)⟩) rfl (fun h03 H locs q9 E9 ce9 hw g1 g2 g3 g4 => ?_) (fun h03 H locs hw => ?_)
  · have hF := zif_f h03 hF
    have hw : zWd G A s (zC ad k sv kE kR fb u1.2.2 fs rws nx ct ch ln) H locs := hw
    by_cases hc4 : u1.1 = 1
    · have hF := zif_t hc4 hF
      have gE : E9 = "java/lang/IndexOutOfBoundsException" := g4.trans (by rw [hc4]; rfl)
      subst gE
      refine vx_catch (name := "java/lang/IndexOutOfBoundsException") (E := "java/lang/IndexOutOfBoundsException") hown [] ⟨4, 11, 14, 17⟩ [⟨4, 11, 20, 42⟩] (by rw [hTab]; rfl) (fun _ h9 => nomatch h9) (by decide) (by decide) (hts (.classLink RL 17 "java/lang/IndexOutOfBoundsException") (by decide +kernel)) (va_Nw.use rfl (hK.2.cast (by decide))) g1 g2 g3 ?_
      refine lv_astore (lv' := [(4, .ref q9), (3, .int (-1000 : Int32)), (0, .ref (ad 0)), (1, .int p1), (2, .int p2)]) hx hb dL_worth_14 hl (by decide) rfl (fun ls hl => ?_)
      refine lv_sipush (v := (-1000 : Int32)) hx hb dL_worth_16 (by decide) ?_
      obtain rfl := Option.some.inj hF
      refine W.widen (k := 3) (n := 18) (by omega) (by omega) ?_
      exact hret _ _ _ _ rfl hw dL_worth_19
    have hF := zif_f hc4 hF
    by_cases hc5 : u1.1 = 5
    · have hF := zif_t hc5 hF
      have gE : E9 = "java/util/NoSuchElementException" := g4.trans (by rw [hc5]; rfl)
      subst gE
      refine vx_catch (name := "java/util/NoSuchElementException") (E := "java/util/NoSuchElementException") hown [⟨4, 11, 14, 17⟩] ⟨4, 11, 20, 42⟩ [] (by rw [hTab]; rfl) (List.forall_mem_cons.mpr ⟨Or.inr ⟨by decide, "java/lang/IndexOutOfBoundsException", (hts (.classLink RL 17 "java/lang/IndexOutOfBoundsException") (by decide +kernel)), hK.2.nc (q := ("java/util/NoSuchElementException", "java/lang/IndexOutOfBoundsException")) (by decide)⟩, (fun _ h9 => nomatch h9)⟩) (by decide) (by decide) (hts (.classLink RL 42 "java/util/NoSuchElementException") (by decide +kernel)) (va_Nw.use rfl (hK.2.cast (by decide))) g1 g2 g3 ?_
      refine lv_astore (lv' := [(4, .ref q9), (3, .int (-1000 : Int32)), (0, .ref (ad 0)), (1, .int p1), (2, .int p2)]) hx hb dL_worth_20 hl (by decide) rfl (fun ls hl => ?_)
      refine lv_sipush (v := (-1000 : Int32)) hx hb dL_worth_22 (by decide) ?_
      obtain rfl := Option.some.inj hF
      refine W.widen (k := 3) (n := 18) (by omega) (by omega) ?_
      exact hret _ _ _ _ rfl hw dL_worth_25
    have hF := zif_f hc5 hF
    exact nomatch hF
  have hF := zif_t h03 hF
  have hw : zWd G A s (zC ad k sv kE kR fb u1.2.2 fs rws nx ct ch ln) H locs := hw
  refine lv_istore_n (lv' := [(3, .int u1.2.1), (0, .ref (ad 0)), (1, .int p1), (2, .int p2)]) hx hb dL_worth_10 rfl hl (by decide) rfl (fun ls hl => ?_)
  refine lv_goto (tgt := 26) hx hb dL_worth_11 (by decide) ?_
  refine lv_iload_n hx hb dL_worth_26 rfl (lv_at hl 0 rfl) ?_
  obtain rfl := Option.some.inj hF
  refine W.widen (k := 3) (n := 18) (by omega) (by omega) ?_
  exact hret _ _ _ _ rfl hw dL_worth_27

/-! SealedBoardLaw.room(LSealedBoard;II)I -/
abbrev rmL_room : Room := { frames := 8, cells := 3, slots := 18, locals := 126 }
theorem kdL_room : yL_room.cls ≠ "java/lang/invoke/MethodHandle" ∧ yL_room.cls ≠ "java/lang/invoke/VarHandle" ∧ (parseMethodDescriptor yL_room.desc).map (fun d => d.parameters.length) = some 3 := by decide +kernel
def fL_room (fb : Nat → Int64) (p1 : Int32) (p2 : Int32) : Option (Int32) := (zbd (fX4_room fb p1 p2) (fun u1 => (if u1.1 = 0 then (some (u1.2)) else (if u1.1 = 1 then (some ((-1000 : Int32))) else (if u1.1 = 5 then (some ((-1000 : Int32))) else none)))))
set_option maxHeartbeats 1000000 in
set_option maxRecDepth 100000 in
theorem mL_room (l : Launch) (hl9 : l.stackTraces = false) (G : va_G) (k : Nat → ClassId) (ad : Nat → Nat) (sz : Nat) (sv : Int32) (kE : Int32) (kR : Int32) (fb : Nat → Int64) (ft : Nat → Int64) (fs : Nat → Int64) (rws : Nat → Int64) (nx : Int32) (ct : Int32) (ch : Nat → Int32) (ln : Int32) (p1 : Int32) (p2 : Int32) (o : Int32) (hF : fL_room fb p1 p2 = some o) : zMIc l yL_room wsL_room rmL_room G k (zC ad k sv kE kR fb ft fs rws nx ct ch ln) sz [.ref (ad 0), .int p1, .int p2] 3 18 o (zC ad k sv kE kR fb ft fs rws nx ct ch ln) := by
  refine zof_Wc (cc := cL_room) (nL := 5) (own := RL) (rt := .int) (by decide) rfl rfl (Nat.le_of_ble_eq_true rfl) ?_
  intro p e s m args below meth c A Q C0 hK hA hret hTab ls hl hw
  have hl : lv_has ls 5 [(0, .ref (ad 0)), (1, .int p1), (2, .int p2)] := hl
  obtain ⟨hx, hb, hr, hml, hown, hts, hlocks⟩ := id C0
  obtain ⟨H, hH⟩ : ∃ z, z = s.heap := ⟨_, rfl⟩
  rw [← hH] at hw ⊢
  obtain ⟨ca, hca⟩ : ∃ z : Nat, z = 0 := ⟨_, rfl⟩
  obtain ⟨cb, hcb⟩ : ∃ z : Nat, z = 0 := ⟨_, rfl⟩
  refine W.widen (k := ca) (n := cb) (Nat.zero_le _) (Nat.zero_le _) ?_
  unfold fL_room at hF
  refine lv_sipush (v := (-1000 : Int32)) hx hb dL_room_0 (by decide) ?_
  refine lv_istore_n (lv' := [(3, .int (-1000 : Int32)), (0, .ref (ad 0)), (1, .int p1), (2, .int p2)]) hx hb dL_room_3 rfl hl (by decide) rfl (fun ls hl => ?_)
  refine lv_aload_n hx hb dL_room_4 rfl (lv_at hl 1 rfl) ?_
  refine lv_iload_n hx hb dL_room_5 rfl (lv_at hl 2 rfl) ?_
  refine lv_iload_n hx hb dL_room_6 rfl (lv_at hl 3 rfl) ?_
  obtain ⟨u1, hq2, hF⟩ := zbd_t hF
  refine zgoXI4 (o0 := u1.1) (w' := (zC ad k sv kE kR fb ft fs rws nx ct ch ln)) (wa := []) (wc := (zC ad k sv kE kR fb ft fs rws nx ct ch ln)) (wc' := (zC ad k sv kE kR fb ft fs rws nx ct ch ln)) (wr := []) hw (zap_nil _) (zap_nil _) hA (zVx4 (wa := []) (wc := (zC ad k sv kE kR fb ft fs rws nx ct ch ln)) (wr := []) (As := [.int p1, .int p2]) (rest := []) ⟨hx, hb, hml, hown, hts⟩ (mX4_room l hl9 G k ad H.size sv kE kR fb ft fs rws nx ct ch ln p1 p2 u1 hq2) (cwV 2 hts gL_room_X4_room rfl rfl rfl kdX4_room ⟨Nat.le_of_ble_eq_true rfl, Nat.le_of_ble_eq_true rfl⟩) hK hA hw (zap_nil _) 0 rfl rfl rfl rfl hl.1 rfl (Nat.le_of_ble_eq_true rfl) dL_room_7 ⟨(by show _ ≤ 3; omega), (by show _ ≤ 18; omega)⟩) rfl (fun h03 H locs q9 E9 ce9 hw g1 g2 g3 g4 => ?_) (fun h03 H locs hw => ?_)
  · have hF := zif_f h03 hF
    have hw : zWd G A s (zC ad k sv kE kR fb ft fs rws nx ct ch ln) H locs := hw
    by_cases hc4 : u1.1 = 1
    · have hF := zif_t hc4 hF
      have gE : E9 = "java/lang/IndexOutOfBoundsException" := g4.trans (by rw [hc4]; rfl)
      subst gE
      refine vx_catch (name := "java/lang/IndexOutOfBoundsException") (E := "java/lang/IndexOutOfBoundsException") hown [] ⟨4, 11, 14, 17⟩ [⟨4, 11, 20, 42⟩] (by rw [hTab]; rfl) (fun _ h9 => nomatch h9) (by decide) (by decide) (hts (.classLink RL 17 "java/lang/IndexOutOfBoundsException") (by decide +kernel)) (va_Nw.use rfl (hK.2.cast (by decide))) g1 g2 g3 ?_
      refine lv_astore (lv' := [(4, .ref q9), (3, .int (-1000 : Int32)), (0, .ref (ad 0)), (1, .int p1), (2, .int p2)]) hx hb dL_room_14 hl (by decide) rfl (fun ls hl => ?_)
      refine lv_sipush (v := (-1000 : Int32)) hx hb dL_room_16 (by decide) ?_
      obtain rfl := Option.some.inj hF
      refine W.widen (k := 3) (n := 18) (by omega) (by omega) ?_
      exact hret _ _ _ _ rfl hw dL_room_19
    have hF := zif_f hc4 hF
    by_cases hc5 : u1.1 = 5
    · have hF := zif_t hc5 hF
      have gE : E9 = "java/util/NoSuchElementException" := g4.trans (by rw [hc5]; rfl)
      subst gE
      refine vx_catch (name := "java/util/NoSuchElementException") (E := "java/util/NoSuchElementException") hown [⟨4, 11, 14, 17⟩] ⟨4, 11, 20, 42⟩ [] (by rw [hTab]; rfl) (List.forall_mem_cons.mpr ⟨Or.inr ⟨by decide, "java/lang/IndexOutOfBoundsException", (hts (.classLink RL 17 "java/lang/IndexOutOfBoundsException") (by decide +kernel)), hK.2.nc (q := ("java/util/NoSuchElementException", "java/lang/IndexOutOfBoundsException")) (by decide)⟩, (fun _ h9 => nomatch h9)⟩) (by decide) (by decide) (hts (.classLink RL 42 "java/util/NoSuchElementException") (by decide +kernel)) (va_Nw.use rfl (hK.2.cast (by decide))) g1 g2 g3 ?_
      refine lv_astore (lv' := [(4, .ref q9), (3, .int (-1000 : Int32)), (0, .ref (ad 0)), (1, .int p1), (2, .int p2)]) hx hb dL_room_20 hl (by decide) rfl (fun ls hl => ?_)
      refine lv_sipush (v := (-1000 : Int32)) hx hb dL_room_22 (by decide) ?_
      obtain rfl := Option.some.inj hF
      refine W.widen (k := 3) (n := 18) (by omega) (by omega) ?_
      exact hret _ _ _ _ rfl hw dL_room_25
    have hF := zif_f hc5 hF
    exact nomatch hF
  have hF := zif_t h03 hF
  have hw : zWd G A s (zC ad k sv kE kR fb ft fs rws nx ct ch ln) H locs := hw
  refine lv_istore_n (lv' := [(3, .int u1.2), (0, .ref (ad 0)), (1, .int p1), (2, .int p2)]) hx hb dL_room_10 rfl hl (by decide) rfl (fun ls hl => ?_)
  refine lv_goto (tgt := 26) hx hb dL_room_11 (by decide) ?_
  refine lv_iload_n hx hb dL_room_26 rfl (lv_at hl 0 rfl) ?_
  obtain rfl := Option.some.inj hF
  refine W.widen (k := 3) (n := 18) (by omega) (by omega) ?_
  exact hret _ _ _ _ rfl hw dL_room_27

/-! SealedBoardLaw.steps(LSealedBoard;II)I -/
abbrev rmL_steps : Room := { frames := 8, cells := 3, slots := 18, locals := 125 }
theorem kdL_steps : yL_steps.cls ≠ "java/lang/invoke/MethodHandle" ∧ yL_steps.cls ≠ "java/lang/invoke/VarHandle" ∧ (parseMethodDescriptor yL_steps.desc).map (fun d => d.parameters.length) = some 3 := by decide +kernel
def fL_steps (fb : Nat → Int64) (p1 : Int32) (p2 : Int32) : Option (Int32) := (zbd (fX4_steps fb p1 p2) (fun u1 => (if u1.1 = 0 then (some (u1.2)) else (if u1.1 = 1 then (some ((-1000 : Int32))) else (if u1.1 = 5 then (some ((-1000 : Int32))) else none)))))
set_option maxHeartbeats 1000000 in
set_option maxRecDepth 100000 in
theorem mL_steps (l : Launch) (hl9 : l.stackTraces = false) (G : va_G) (k : Nat → ClassId) (ad : Nat → Nat) (sz : Nat) (sv : Int32) (kE : Int32) (kR : Int32) (fb : Nat → Int64) (ft : Nat → Int64) (fs : Nat → Int64) (rws : Nat → Int64) (nx : Int32) (ct : Int32) (ch : Nat → Int32) (ln : Int32) (p1 : Int32) (p2 : Int32) (o : Int32) (hF : fL_steps fb p1 p2 = some o) : zMIc l yL_steps wsL_steps rmL_steps G k (zC ad k sv kE kR fb ft fs rws nx ct ch ln) sz [.ref (ad 0), .int p1, .int p2] 3 18 o (zC ad k sv kE kR fb ft fs rws nx ct ch ln) := by
  refine zof_Wc (cc := cL_steps) (nL := 5) (own := RL) (rt := .int) (by decide) rfl rfl (Nat.le_of_ble_eq_true rfl) ?_
  intro p e s m args below meth c A Q C0 hK hA hret hTab ls hl hw
  have hl : lv_has ls 5 [(0, .ref (ad 0)), (1, .int p1), (2, .int p2)] := hl
  obtain ⟨hx, hb, hr, hml, hown, hts, hlocks⟩ := id C0
  obtain ⟨H, hH⟩ : ∃ z, z = s.heap := ⟨_, rfl⟩
  rw [← hH] at hw ⊢
  obtain ⟨ca, hca⟩ : ∃ z : Nat, z = 0 := ⟨_, rfl⟩
  obtain ⟨cb, hcb⟩ : ∃ z : Nat, z = 0 := ⟨_, rfl⟩
  refine W.widen (k := ca) (n := cb) (Nat.zero_le _) (Nat.zero_le _) ?_
  unfold fL_steps at hF
  refine lv_sipush (v := (-1000 : Int32)) hx hb dL_steps_0 (by decide) ?_
  refine lv_istore_n (lv' := [(3, .int (-1000 : Int32)), (0, .ref (ad 0)), (1, .int p1), (2, .int p2)]) hx hb dL_steps_3 rfl hl (by decide) rfl (fun ls hl => ?_)
  refine lv_aload_n hx hb dL_steps_4 rfl (lv_at hl 1 rfl) ?_
  refine lv_iload_n hx hb dL_steps_5 rfl (lv_at hl 2 rfl) ?_
  refine lv_iload_n hx hb dL_steps_6 rfl (lv_at hl 3 rfl) ?_
  obtain ⟨u1, hq2, hF⟩ := zbd_t hF
  refine zgoXI4 (o0 := u1.1) (w' := (zC ad k sv kE kR fb ft fs rws nx ct ch ln)) (wa := []) (wc := (zC ad k sv kE kR fb ft fs rws nx ct ch ln)) (wc' := (zC ad k sv kE kR fb ft fs rws nx ct ch ln)) (wr := []) hw (zap_nil _) (zap_nil _) hA (zVx4 (wa := []) (wc := (zC ad k sv kE kR fb ft fs rws nx ct ch ln)) (wr := []) (As := [.int p1, .int p2]) (rest := []) ⟨hx, hb, hml, hown, hts⟩ (mX4_steps l hl9 G k ad H.size sv kE kR fb ft fs rws nx ct ch ln p1 p2 u1 hq2) (cwV 2 hts gL_steps_X4_steps rfl rfl rfl kdX4_steps ⟨Nat.le_of_ble_eq_true rfl, Nat.le_of_ble_eq_true rfl⟩) hK hA hw (zap_nil _) 0 rfl rfl rfl rfl hl.1 rfl (Nat.le_of_ble_eq_true rfl) dL_steps_7 ⟨(by show _ ≤ 3; omega), (by show _ ≤ 18; omega)⟩) rfl (fun h03 H locs q9 E9 ce9 hw g1 g2 g3 g4 => ?_) (fun h03 H locs hw => ?_)
  · have hF := zif_f h03 hF
    have hw : zWd G A s (zC ad k sv kE kR fb ft fs rws nx ct ch ln) H locs := hw
    by_cases hc4 : u1.1 = 1
    · have hF := zif_t hc4 hF
      have gE : E9 = "java/lang/IndexOutOfBoundsException" := g4.trans (by rw [hc4]; rfl)
      subst gE
      refine vx_catch (name := "java/lang/IndexOutOfBoundsException") (E := "java/lang/IndexOutOfBoundsException") hown [] ⟨4, 11, 14, 17⟩ [⟨4, 11, 20, 42⟩] (by rw [hTab]; rfl) (fun _ h9 => nomatch h9) (by decide) (by decide) (hts (.classLink RL 17 "java/lang/IndexOutOfBoundsException") (by decide +kernel)) (va_Nw.use rfl (hK.2.cast (by decide))) g1 g2 g3 ?_
      refine lv_astore (lv' := [(4, .ref q9), (3, .int (-1000 : Int32)), (0, .ref (ad 0)), (1, .int p1), (2, .int p2)]) hx hb dL_steps_14 hl (by decide) rfl (fun ls hl => ?_)
      refine lv_sipush (v := (-1000 : Int32)) hx hb dL_steps_16 (by decide) ?_
      obtain rfl := Option.some.inj hF
      refine W.widen (k := 3) (n := 18) (by omega) (by omega) ?_
      exact hret _ _ _ _ rfl hw dL_steps_19
    have hF := zif_f hc4 hF
    by_cases hc5 : u1.1 = 5
    · have hF := zif_t hc5 hF
      have gE : E9 = "java/util/NoSuchElementException" := g4.trans (by rw [hc5]; rfl)
      subst gE
      refine vx_catch (name := "java/util/NoSuchElementException") (E := "java/util/NoSuchElementException") hown [⟨4, 11, 14, 17⟩] ⟨4, 11, 20, 42⟩ [] (by rw [hTab]; rfl) (List.forall_mem_cons.mpr ⟨Or.inr ⟨by decide, "java/lang/IndexOutOfBoundsException", (hts (.classLink RL 17 "java/lang/IndexOutOfBoundsException") (by decide +kernel)), hK.2.nc (q := ("java/util/NoSuchElementException", "java/lang/IndexOutOfBoundsException")) (by decide)⟩, (fun _ h9 => nomatch h9)⟩) (by decide) (by decide) (hts (.classLink RL 42 "java/util/NoSuchElementException") (by decide +kernel)) (va_Nw.use rfl (hK.2.cast (by decide))) g1 g2 g3 ?_
      refine lv_astore (lv' := [(4, .ref q9), (3, .int (-1000 : Int32)), (0, .ref (ad 0)), (1, .int p1), (2, .int p2)]) hx hb dL_steps_20 hl (by decide) rfl (fun ls hl => ?_)
      refine lv_sipush (v := (-1000 : Int32)) hx hb dL_steps_22 (by decide) ?_
      obtain rfl := Option.some.inj hF
      refine W.widen (k := 3) (n := 18) (by omega) (by omega) ?_
      exact hret _ _ _ _ rfl hw dL_steps_25
    have hF := zif_f hc5 hF
    exact nomatch hF
  have hF := zif_t h03 hF
  have hw : zWd G A s (zC ad k sv kE kR fb ft fs rws nx ct ch ln) H locs := hw
  refine lv_istore_n (lv' := [(3, .int u1.2), (0, .ref (ad 0)), (1, .int p1), (2, .int p2)]) hx hb dL_steps_10 rfl hl (by decide) rfl (fun ls hl => ?_)
  refine lv_goto (tgt := 26) hx hb dL_steps_11 (by decide) ?_
  refine lv_iload_n hx hb dL_steps_26 rfl (lv_at hl 0 rfl) ?_
  obtain rfl := Option.some.inj hF
  refine W.widen (k := 3) (n := 18) (by omega) (by omega) ?_
  exact hret _ _ _ _ rfl hw dL_steps_27

/-! SealedBoardLaw.sealedShare(LSealedBoard;I)D -/
abbrev rmL_sealedShare : Room := { frames := 8, cells := 2, slots := 12, locals := 127 }
theorem kdL_sealedShare : yL_sealedShare.cls ≠ "java/lang/invoke/MethodHandle" ∧ yL_sealedShare.cls ≠ "java/lang/invoke/VarHandle" ∧ (parseMethodDescriptor yL_sealedShare.desc).map (fun d => d.parameters.length) = some 2 := by decide +kernel
def fL_sealedShare (fb : Nat → Int64) (p1 : Int32) : Option (UInt64) := (zbd (fX4_sealedShare fb p1) (fun u1 => (if u1.1 = 0 then (some (u1.2)) else (if u1.1 = 1 then (some ((13830554455654793216 : UInt64))) else (if u1.1 = 6 then (some ((13830554455654793216 : UInt64))) else none)))))
set_option maxHeartbeats 1000000 in
set_option maxRecDepth 100000 in
theorem mL_sealedShare (l : Launch) (hl9 : l.stackTraces = false) (G : va_G) (k : Nat → ClassId) (ad : Nat → Nat) (sz : Nat) (sv : Int32) (kE : Int32) (kR : Int32) (fb : Nat → Int64) (ft : Nat → Int64) (fs : Nat → Int64) (rws : Nat → Int64) (nx : Int32) (ct : Int32) (ch : Nat → Int32) (ln : Int32) (p1 : Int32) (o : UInt64) (hF : fL_sealedShare fb p1 = some o) : zMDc l yL_sealedShare wsL_sealedShare rmL_sealedShare G k (zC ad k sv kE kR fb ft fs rws nx ct ch ln) sz [.ref (ad 0), .int p1] 2 12 o (zC ad k sv kE kR fb ft fs rws nx ct ch ln) := by
  refine zof_WDc (cc := cL_sealedShare) (nL := 5) (own := RL) (by decide) rfl rfl (Nat.le_of_ble_eq_true rfl) ?_
  intro p e s m args below meth c A Q C0 hK hA hret hTab ls hl hw
  have hl : lv_has ls 5 [(0, .ref (ad 0)), (1, .int p1)] := hl
  obtain ⟨hx, hb, hr, hml, hown, hts, hlocks⟩ := id C0
  obtain ⟨H, hH⟩ : ∃ z, z = s.heap := ⟨_, rfl⟩
  rw [← hH] at hw ⊢
  obtain ⟨ca, hca⟩ : ∃ z : Nat, z = 0 := ⟨_, rfl⟩
  obtain ⟨cb, hcb⟩ : ∃ z : Nat, z = 0 := ⟨_, rfl⟩
  refine W.widen (k := ca) (n := cb) (Nat.zero_le _) (Nat.zero_le _) ?_
  unfold fL_sealedShare at hF
  refine lv_ldc2d (v := (13830554455654793216 : UInt64)) hx hb hown (hts (.constantDouble RL 60 (13830554455654793216)) (by decide +kernel)) dL_sealedShare_0 ?_
  refine lv_dstore_n (lv' := [(2, .double (13830554455654793216 : UInt64)), (0, .ref (ad 0)), (1, .int p1)]) hx hb dL_sealedShare_3 rfl hl (by decide) rfl (fun ls hl => ?_)
  refine lv_aload_n hx hb dL_sealedShare_4 rfl (lv_at hl 1 rfl) ?_
  refine lv_iload_n hx hb dL_sealedShare_5 rfl (lv_at hl 2 rfl) ?_
  obtain ⟨u1, hq2, hF⟩ := zbd_t hF
  refine zgoXD4 (o0 := u1.1) (w' := (zC ad k sv kE kR fb ft fs rws nx ct ch ln)) (wa := []) (wc := (zC ad k sv kE kR fb ft fs rws nx ct ch ln)) (wc' := (zC ad k sv kE kR fb ft fs rws nx ct ch ln)) (wr := []) hw (zap_nil _) (zap_nil _) hA (zVx4 (wa := []) (wc := (zC ad k sv kE kR fb ft fs rws nx ct ch ln)) (wr := []) (As := [.int p1]) (rest := []) ⟨hx, hb, hml, hown, hts⟩ (mX4_sealedShare l hl9 G k ad H.size sv kE kR fb ft fs rws nx ct ch ln p1 u1 hq2) (cwV 1 hts gL_sealedShare_X4_sealedShare rfl rfl rfl kdX4_sealedShare ⟨Nat.le_of_ble_eq_true rfl, Nat.le_of_ble_eq_true rfl⟩) hK hA hw (zap_nil _) 0 rfl rfl rfl rfl hl.1 rfl (Nat.le_of_ble_eq_true rfl) dL_sealedShare_6 ⟨(by show _ ≤ 2; omega), (by show _ ≤ 12; omega)⟩) rfl (fun h03 H locs q9 E9 ce9 hw g1 g2 g3 g4 => ?_) (fun h03 H locs hw => ?_)
  · have hF := zif_f h03 hF
    have hw : zWd G A s (zC ad k sv kE kR fb ft fs rws nx ct ch ln) H locs := hw
    by_cases hc4 : u1.1 = 1
    · have hF := zif_t hc4 hF
      have gE : E9 = "java/lang/IndexOutOfBoundsException" := g4.trans (by rw [hc4]; rfl)
      subst gE
      refine vx_catch (name := "java/lang/IndexOutOfBoundsException") (E := "java/lang/IndexOutOfBoundsException") hown [] ⟨4, 10, 13, 17⟩ [⟨4, 10, 19, 66⟩] (by rw [hTab]; rfl) (fun _ h9 => nomatch h9) (by decide) (by decide) (hts (.classLink RL 17 "java/lang/IndexOutOfBoundsException") (by decide +kernel)) (va_Nw.use rfl (hK.2.cast (by decide))) g1 g2 g3 ?_
      refine lv_astore (lv' := [(4, .ref q9), (2, .double (13830554455654793216 : UInt64)), (0, .ref (ad 0)), (1, .int p1)]) hx hb dL_sealedShare_13 hl (by decide) rfl (fun ls hl => ?_)
      refine lv_ldc2d (v := (13830554455654793216 : UInt64)) hx hb hown (hts (.constantDouble RL 60 (13830554455654793216)) (by decide +kernel)) dL_sealedShare_15 ?_
      obtain rfl := Option.some.inj hF
      refine W.widen (k := 2) (n := 12) (by omega) (by omega) ?_
      exact hret _ _ _ _  hw dL_sealedShare_18
    have hF := zif_f hc4 hF
    by_cases hc5 : u1.1 = 6
    · have hF := zif_t hc5 hF
      have gE : E9 = "java/lang/ArithmeticException" := g4.trans (by rw [hc5]; rfl)
      subst gE
      refine vx_catch (name := "java/lang/ArithmeticException") (E := "java/lang/ArithmeticException") hown [⟨4, 10, 13, 17⟩] ⟨4, 10, 19, 66⟩ [] (by rw [hTab]; rfl) (List.forall_mem_cons.mpr ⟨Or.inr ⟨by decide, "java/lang/IndexOutOfBoundsException", (hts (.classLink RL 17 "java/lang/IndexOutOfBoundsException") (by decide +kernel)), hK.2.nc (q := ("java/lang/ArithmeticException", "java/lang/IndexOutOfBoundsException")) (by decide)⟩, (fun _ h9 => nomatch h9)⟩) (by decide) (by decide) (hts (.classLink RL 66 "java/lang/ArithmeticException") (by decide +kernel)) (va_Nw.use rfl (hK.2.cast (by decide))) g1 g2 g3 ?_
      refine lv_astore (lv' := [(4, .ref q9), (2, .double (13830554455654793216 : UInt64)), (0, .ref (ad 0)), (1, .int p1)]) hx hb dL_sealedShare_19 hl (by decide) rfl (fun ls hl => ?_)
      refine lv_ldc2d (v := (13830554455654793216 : UInt64)) hx hb hown (hts (.constantDouble RL 60 (13830554455654793216)) (by decide +kernel)) dL_sealedShare_21 ?_
      obtain rfl := Option.some.inj hF
      refine W.widen (k := 2) (n := 12) (by omega) (by omega) ?_
      exact hret _ _ _ _  hw dL_sealedShare_24
    have hF := zif_f hc5 hF
    exact nomatch hF
  have hF := zif_t h03 hF
  have hw : zWd G A s (zC ad k sv kE kR fb ft fs rws nx ct ch ln) H locs := hw
  refine lv_dstore_n (lv' := [(2, .double u1.2), (0, .ref (ad 0)), (1, .int p1)]) hx hb dL_sealedShare_9 rfl hl (by decide) rfl (fun ls hl => ?_)
  refine lv_goto (tgt := 25) hx hb dL_sealedShare_10 (by decide) ?_
  refine lv_dload_n hx hb dL_sealedShare_25 rfl (lv_at hl 0 rfl) ?_
  obtain rfl := Option.some.inj hF
  refine W.widen (k := 2) (n := 12) (by omega) (by omega) ?_
  exact hret _ _ _ _  hw dL_sealedShare_26

/-! SealedBoardLaw.undo(LSealedBoard;)I -/
abbrev rmL_undo : Room := { frames := 7, cells := 1, slots := 6, locals := 102 }
theorem kdL_undo : yL_undo.cls ≠ "java/lang/invoke/MethodHandle" ∧ yL_undo.cls ≠ "java/lang/invoke/VarHandle" ∧ (parseMethodDescriptor yL_undo.desc).map (fun d => d.parameters.length) = some 1 := by decide +kernel
def fL_undo (fb : Nat → Int64) (rws : Nat → Int64) (nx : Int32) (ct : Int32) : Option (Int32 × (Nat → Int64) × Int32 × Int32) := (zbd (fX4_undo fb rws nx ct) (fun u1 => (if u1.1 = 0 then (some (u1.2.1, u1.2.2.1, u1.2.2.2.1, u1.2.2.2.2)) else (if u1.1 = 5 then (some ((-100000000 : Int32), u1.2.2.1, u1.2.2.2.1, u1.2.2.2.2)) else none))))
set_option maxHeartbeats 1000000 in
set_option maxRecDepth 100000 in
theorem mL_undo (l : Launch) (hl9 : l.stackTraces = false) (G : va_G) (k : Nat → ClassId) (ad : Nat → Nat) (sz : Nat) (sv : Int32) (kE : Int32) (kR : Int32) (fb : Nat → Int64) (ft : Nat → Int64) (fs : Nat → Int64) (rws : Nat → Int64) (nx : Int32) (ct : Int32) (ch : Nat → Int32) (ln : Int32)  (o : Int32 × (Nat → Int64) × Int32 × Int32) (hF : fL_undo fb rws nx ct = some o) : zMIc l yL_undo wsL_undo rmL_undo G k (zC ad k sv kE kR fb ft fs rws nx ct ch ln) sz [.ref (ad 0)] 1 6 o.1 (zC ad k sv kE kR o.2.1 ft fs rws o.2.2.1 o.2.2.2 ch ln) := by
  refine zof_Wc (cc := cL_undo) (nL := 3) (own := RL) (rt := .int) (by decide) rfl rfl (Nat.le_of_ble_eq_true rfl) ?_
  intro p e s m args below meth c A Q C0 hK hA hret hTab ls hl hw
  have hl : lv_has ls 3 [(0, .ref (ad 0))] := hl
  obtain ⟨hx, hb, hr, hml, hown, hts, hlocks⟩ := id C0
  obtain ⟨H, hH⟩ : ∃ z, z = s.heap := ⟨_, rfl⟩
  rw [← hH] at hw ⊢
  obtain ⟨ca, hca⟩ : ∃ z : Nat, z = 0 := ⟨_, rfl⟩
  obtain ⟨cb, hcb⟩ : ∃ z : Nat, z = 0 := ⟨_, rfl⟩
  refine W.widen (k := ca) (n := cb) (Nat.zero_le _) (Nat.zero_le _) ?_
  unfold fL_undo at hF
  refine lv_ldc (v := (-100000000 : Int32)) hx hb hown (hts (.constant RL 10 (-100000000)) (by decide +kernel)) dL_undo_0 ?_
  refine lv_istore_n (lv' := [(1, .int (-100000000 : Int32)), (0, .ref (ad 0))]) hx hb dL_undo_2 rfl hl (by decide) rfl (fun ls hl => ?_)
  refine lv_aload_n hx hb dL_undo_3 rfl (lv_at hl 1 rfl) ?_
  obtain ⟨u1, hq2, hF⟩ := zbd_t hF
  refine zgoXI4 (o0 := u1.1) (w' := (zC ad k sv kE kR u1.2.2.1 ft fs rws u1.2.2.2.1 u1.2.2.2.2 ch ln)) (wa := []) (wc := (zC ad k sv kE kR fb ft fs rws nx ct ch ln)) (wc' := (zC ad k sv kE kR u1.2.2.1 ft fs rws u1.2.2.2.1 u1.2.2.2.2 ch ln)) (wr := []) hw (zap_nil _) (zap_nil _) hA (zVx4 (wa := []) (wc := (zC ad k sv kE kR fb ft fs rws nx ct ch ln)) (wr := []) (As := []) (rest := []) ⟨hx, hb, hml, hown, hts⟩ (mX4_undo l hl9 G k ad H.size sv kE kR fb ft fs rws nx ct ch ln  u1 hq2) (cwV 0 hts gL_undo_X4_undo rfl rfl rfl kdX4_undo ⟨Nat.le_of_ble_eq_true rfl, Nat.le_of_ble_eq_true rfl⟩) hK hA hw (zap_nil _) 0 rfl rfl rfl rfl hl.1 rfl (Nat.le_of_ble_eq_true rfl) dL_undo_4 ⟨(by show _ ≤ 1; omega), (by show _ ≤ 6; omega)⟩) rfl (fun h03 H locs q9 E9 ce9 hw g1 g2 g3 g4 => ?_) (fun h03 H locs hw => ?_)
  · have hF := zif_f h03 hF
    have hw : zWd G A s (zC ad k sv kE kR u1.2.2.1 ft fs rws u1.2.2.2.1 u1.2.2.2.2 ch ln) H locs := hw
    by_cases hc4 : u1.1 = 5
    · have hF := zif_t hc4 hF
      have gE : E9 = "java/util/NoSuchElementException" := g4.trans (by rw [hc4]; rfl)
      subst gE
      refine vx_catch (name := "java/util/NoSuchElementException") (E := "java/util/NoSuchElementException") hown [] ⟨3, 8, 11, 42⟩ [] (by rw [hTab]; rfl) (fun _ h9 => nomatch h9) (by decide) (by decide) (hts (.classLink RL 42 "java/util/NoSuchElementException") (by decide +kernel)) (va_Nw.use rfl (hK.2.cast (by decide))) g1 g2 g3 ?_
      refine lv_astore_n (lv' := [(2, .ref q9), (1, .int (-100000000 : Int32)), (0, .ref (ad 0))]) hx hb dL_undo_11 rfl hl (by decide) rfl (fun ls hl => ?_)
      refine lv_ldc (v := (-100000000 : Int32)) hx hb hown (hts (.constant RL 10 (-100000000)) (by decide +kernel)) dL_undo_12 ?_
      obtain rfl := Option.some.inj hF
      refine W.widen (k := 1) (n := 6) (by omega) (by omega) ?_
      exact hret _ _ _ _ rfl hw dL_undo_14
    have hF := zif_f hc4 hF
    exact nomatch hF
  have hF := zif_t h03 hF
  have hw : zWd G A s (zC ad k sv kE kR u1.2.2.1 ft fs rws u1.2.2.2.1 u1.2.2.2.2 ch ln) H locs := hw
  refine lv_istore_n (lv' := [(1, .int u1.2.1), (0, .ref (ad 0))]) hx hb dL_undo_7 rfl hl (by decide) rfl (fun ls hl => ?_)
  refine lv_goto (tgt := 15) hx hb dL_undo_8 (by decide) ?_
  refine lv_iload_n hx hb dL_undo_15 rfl (lv_at hl 0 rfl) ?_
  obtain rfl := Option.some.inj hF
  refine W.widen (k := 1) (n := 6) (by omega) (by omega) ?_
  exact hret _ _ _ _ rfl hw dL_undo_16

/-! SealedBoardLaw.restore(LSealedBoard;)I -/
abbrev rmL_restore : Room := { frames := 7, cells := 1, slots := 6, locals := 102 }
theorem kdL_restore : yL_restore.cls ≠ "java/lang/invoke/MethodHandle" ∧ yL_restore.cls ≠ "java/lang/invoke/VarHandle" ∧ (parseMethodDescriptor yL_restore.desc).map (fun d => d.parameters.length) = some 1 := by decide +kernel
def fL_restore (sv : Int32) (fb : Nat → Int64) (fs : Nat → Int64) (ct : Int32) : Option (Int32 × (Nat → Int64) × Int32) := (zbd (fX4_restore sv fb fs ct) (fun u1 => (if u1.1 = 0 then (some (u1.2.1, u1.2.2.1, u1.2.2.2)) else (if u1.1 = 3 then (some ((-100000000 : Int32), u1.2.2.1, u1.2.2.2)) else none))))
set_option maxHeartbeats 1000000 in
set_option maxRecDepth 100000 in
theorem mL_restore (l : Launch) (hl9 : l.stackTraces = false) (G : va_G) (k : Nat → ClassId) (ad : Nat → Nat) (sz : Nat) (sv : Int32) (kE : Int32) (kR : Int32) (fb : Nat → Int64) (ft : Nat → Int64) (fs : Nat → Int64) (rws : Nat → Int64) (nx : Int32) (ct : Int32) (ch : Nat → Int32) (ln : Int32)  (o : Int32 × (Nat → Int64) × Int32) (hF : fL_restore sv fb fs ct = some o) : zMIc l yL_restore wsL_restore rmL_restore G k (zC ad k sv kE kR fb ft fs rws nx ct ch ln) sz [.ref (ad 0)] 1 6 o.1 (zC ad k sv kE kR o.2.1 ft fs rws nx o.2.2 ch ln) := by
  refine zof_Wc (cc := cL_restore) (nL := 3) (own := RL) (rt := .int) (by decide) rfl rfl (Nat.le_of_ble_eq_true rfl) ?_
  intro p e s m args below meth c A Q C0 hK hA hret hTab ls hl hw
  have hl : lv_has ls 3 [(0, .ref (ad 0))] := hl
  obtain ⟨hx, hb, hr, hml, hown, hts, hlocks⟩ := id C0
  obtain ⟨H, hH⟩ : ∃ z, z = s.heap := ⟨_, rfl⟩
  rw [← hH] at hw ⊢
  obtain ⟨ca, hca⟩ : ∃ z : Nat, z = 0 := ⟨_, rfl⟩
  obtain ⟨cb, hcb⟩ : ∃ z : Nat, z = 0 := ⟨_, rfl⟩
  refine W.widen (k := ca) (n := cb) (Nat.zero_le _) (Nat.zero_le _) ?_
  unfold fL_restore at hF
  refine lv_ldc (v := (-100000000 : Int32)) hx hb hown (hts (.constant RL 10 (-100000000)) (by decide +kernel)) dL_restore_0 ?_
  refine lv_istore_n (lv' := [(1, .int (-100000000 : Int32)), (0, .ref (ad 0))]) hx hb dL_restore_2 rfl hl (by decide) rfl (fun ls hl => ?_)
  refine lv_aload_n hx hb dL_restore_3 rfl (lv_at hl 1 rfl) ?_
  obtain ⟨u1, hq2, hF⟩ := zbd_t hF
  refine zgoXI4 (o0 := u1.1) (w' := (zC ad k sv kE kR u1.2.2.1 ft fs rws nx u1.2.2.2 ch ln)) (wa := []) (wc := (zC ad k sv kE kR fb ft fs rws nx ct ch ln)) (wc' := (zC ad k sv kE kR u1.2.2.1 ft fs rws nx u1.2.2.2 ch ln)) (wr := []) hw (zap_nil _) (zap_nil _) hA (zVx4 (wa := []) (wc := (zC ad k sv kE kR fb ft fs rws nx ct ch ln)) (wr := []) (As := []) (rest := []) ⟨hx, hb, hml, hown, hts⟩ (mX4_restore l hl9 G k ad H.size sv kE kR fb ft fs rws nx ct ch ln  u1 hq2) (cwV 0 hts gL_restore_X4_restore rfl rfl rfl kdX4_restore ⟨Nat.le_of_ble_eq_true rfl, Nat.le_of_ble_eq_true rfl⟩) hK hA hw (zap_nil _) 0 rfl rfl rfl rfl hl.1 rfl (Nat.le_of_ble_eq_true rfl) dL_restore_4 ⟨(by show _ ≤ 1; omega), (by show _ ≤ 6; omega)⟩) rfl (fun h03 H locs q9 E9 ce9 hw g1 g2 g3 g4 => ?_) (fun h03 H locs hw => ?_)
  · have hF := zif_f h03 hF
    have hw : zWd G A s (zC ad k sv kE kR u1.2.2.1 ft fs rws nx u1.2.2.2 ch ln) H locs := hw
    by_cases hc4 : u1.1 = 3
    · have hF := zif_t hc4 hF
      have gE : E9 = "java/lang/IllegalStateException" := g4.trans (by rw [hc4]; rfl)
      subst gE
      refine vx_catch (name := "java/lang/IllegalStateException") (E := "java/lang/IllegalStateException") hown [] ⟨3, 8, 11, 21⟩ [] (by rw [hTab]; rfl) (fun _ h9 => nomatch h9) (by decide) (by decide) (hts (.classLink RL 21 "java/lang/IllegalStateException") (by decide +kernel)) (va_Nw.use rfl (hK.2.cast (by decide))) g1 g2 g3 ?_
      refine lv_astore_n (lv' := [(2, .ref q9), (1, .int (-100000000 : Int32)), (0, .ref (ad 0))]) hx hb dL_restore_11 rfl hl (by decide) rfl (fun ls hl => ?_)
      refine lv_ldc (v := (-100000000 : Int32)) hx hb hown (hts (.constant RL 10 (-100000000)) (by decide +kernel)) dL_restore_12 ?_
      obtain rfl := Option.some.inj hF
      refine W.widen (k := 1) (n := 6) (by omega) (by omega) ?_
      exact hret _ _ _ _ rfl hw dL_restore_14
    have hF := zif_f hc4 hF
    exact nomatch hF
  have hF := zif_t h03 hF
  have hw : zWd G A s (zC ad k sv kE kR u1.2.2.1 ft fs rws nx u1.2.2.2 ch ln) H locs := hw
  refine lv_istore_n (lv' := [(1, .int u1.2.1), (0, .ref (ad 0))]) hx hb dL_restore_7 rfl hl (by decide) rfl (fun ls hl => ?_)
  refine lv_goto (tgt := 15) hx hb dL_restore_8 (by decide) ?_
  refine lv_iload_n hx hb dL_restore_15 rfl (lv_at hl 0 rfl) ?_
  obtain rfl := Option.some.inj hF
  refine W.widen (k := 1) (n := 6) (by omega) (by omega) ?_
  exact hret _ _ _ _ rfl hw dL_restore_16

/-! SealedBoardLaw.read(LSealedBoard;)I -/
abbrev rmL_read : Room := { frames := 8, cells := 1, slots := 6, locals := 168 }
theorem kdL_read : yL_read.cls ≠ "java/lang/invoke/MethodHandle" ∧ yL_read.cls ≠ "java/lang/invoke/VarHandle" ∧ (parseMethodDescriptor yL_read.desc).map (fun d => d.parameters.length) = some 1 := by decide +kernel
def fL_read (kE : Int32) (kR : Int32) (fb : Nat → Int64) (ft : Nat → Int64) (rws : Nat → Int64) (nx : Int32) (ct : Int32) (ch : Nat → Int32) (ln : Int32) : Option (Int32 × Int32 × Int32 × (Nat → Int64) × (Nat → Int64) × (Nat → Int64) × Int32 × Int32 × Int32) := (zbd (fX4_read kE kR fb ft rws nx ct ch ln) (fun u1 => (if u1.1 = 0 then (some (u1.2.1, u1.2.2.1, u1.2.2.2.1, u1.2.2.2.2.1, u1.2.2.2.2.2.1, u1.2.2.2.2.2.2.1, u1.2.2.2.2.2.2.2.1, u1.2.2.2.2.2.2.2.2.1, u1.2.2.2.2.2.2.2.2.2)) else (if u1.1 = 2 then (some ((-100000000 : Int32), u1.2.2.1, u1.2.2.2.1, u1.2.2.2.2.1, u1.2.2.2.2.2.1, u1.2.2.2.2.2.2.1, u1.2.2.2.2.2.2.2.1, u1.2.2.2.2.2.2.2.2.1, u1.2.2.2.2.2.2.2.2.2)) else (if u1.1 = 4 then (some ((-100000000 : Int32), u1.2.2.1, u1.2.2.2.1, u1.2.2.2.2.1, u1.2.2.2.2.2.1, u1.2.2.2.2.2.2.1, u1.2.2.2.2.2.2.2.1, u1.2.2.2.2.2.2.2.2.1, u1.2.2.2.2.2.2.2.2.2)) else none)))))
set_option maxHeartbeats 1000000 in
set_option maxRecDepth 100000 in
theorem mL_read (l : Launch) (hl9 : l.stackTraces = false) (G : va_G) (k : Nat → ClassId) (ad : Nat → Nat) (sz : Nat) (sv : Int32) (kE : Int32) (kR : Int32) (fb : Nat → Int64) (ft : Nat → Int64) (fs : Nat → Int64) (rws : Nat → Int64) (nx : Int32) (ct : Int32) (ch : Nat → Int32) (ln : Int32)  (o : Int32 × Int32 × Int32 × (Nat → Int64) × (Nat → Int64) × (Nat → Int64) × Int32 × Int32 × Int32) (hF : fL_read kE kR fb ft rws nx ct ch ln = some o) : zMIc l yL_read wsL_read rmL_read G k (zC ad k sv kE kR fb ft fs rws nx ct ch ln) sz [.ref (ad 0)] 1 6 o.1 (zC ad k sv o.2.1 o.2.2.1 o.2.2.2.1 o.2.2.2.2.1 fs o.2.2.2.2.2.1 o.2.2.2.2.2.2.1 o.2.2.2.2.2.2.2.1 ch o.2.2.2.2.2.2.2.2) := by
  refine zof_Wc (cc := cL_read) (nL := 3) (own := RL) (rt := .int) (by decide) rfl rfl (Nat.le_of_ble_eq_true rfl) ?_
  intro p e s m args below meth c A Q C0 hK hA hret hTab ls hl hw
  have hl : lv_has ls 3 [(0, .ref (ad 0))] := hl
  obtain ⟨hx, hb, hr, hml, hown, hts, hlocks⟩ := id C0
  obtain ⟨H, hH⟩ : ∃ z, z = s.heap := ⟨_, rfl⟩
  rw [← hH] at hw ⊢
  obtain ⟨ca, hca⟩ : ∃ z : Nat, z = 0 := ⟨_, rfl⟩
  obtain ⟨cb, hcb⟩ : ∃ z : Nat, z = 0 := ⟨_, rfl⟩
  refine W.widen (k := ca) (n := cb) (Nat.zero_le _) (Nat.zero_le _) ?_
  unfold fL_read at hF
  refine lv_ldc (v := (-100000000 : Int32)) hx hb hown (hts (.constant RL 10 (-100000000)) (by decide +kernel)) dL_read_0 ?_
  refine lv_istore_n (lv' := [(1, .int (-100000000 : Int32)), (0, .ref (ad 0))]) hx hb dL_read_2 rfl hl (by decide) rfl (fun ls hl => ?_)
  refine lv_aload_n hx hb dL_read_3 rfl (lv_at hl 1 rfl) ?_
  obtain ⟨u1, hq2, hF⟩ := zbd_t hF
  refine zgoXI4 (o0 := u1.1) (w' := (zC ad k sv u1.2.2.1 u1.2.2.2.1 u1.2.2.2.2.1 u1.2.2.2.2.2.1 fs u1.2.2.2.2.2.2.1 u1.2.2.2.2.2.2.2.1 u1.2.2.2.2.2.2.2.2.1 ch u1.2.2.2.2.2.2.2.2.2)) (wa := []) (wc := (zC ad k sv kE kR fb ft fs rws nx ct ch ln)) (wc' := (zC ad k sv u1.2.2.1 u1.2.2.2.1 u1.2.2.2.2.1 u1.2.2.2.2.2.1 fs u1.2.2.2.2.2.2.1 u1.2.2.2.2.2.2.2.1 u1.2.2.2.2.2.2.2.2.1 ch u1.2.2.2.2.2.2.2.2.2)) (wr := []) hw (zap_nil _) (zap_nil _) hA (zVx4 (wa := []) (wc := (zC ad k sv kE kR fb ft fs rws nx ct ch ln)) (wr := []) (As := []) (rest := []) ⟨hx, hb, hml, hown, hts⟩ (mX4_read l hl9 G k ad H.size sv kE kR fb ft fs rws nx ct ch ln  u1 hq2) (cwV 0 hts gL_read_X4_read rfl rfl rfl kdX4_read ⟨Nat.le_of_ble_eq_true rfl, Nat.le_of_ble_eq_true rfl⟩) hK hA hw (zap_nil _) 0 rfl rfl rfl rfl hl.1 rfl (Nat.le_of_ble_eq_true rfl) dL_read_4 ⟨(by show _ ≤ 1; omega), (by show _ ≤ 6; omega)⟩) rfl (fun h03 H locs q9 E9 ce9 hw g1 g2 g3 g4 => ?_) (fun h03 H locs hw => ?_)
  · have hF := zif_f h03 hF
    have hw : zWd G A s (zC ad k sv u1.2.2.1 u1.2.2.2.1 u1.2.2.2.2.1 u1.2.2.2.2.2.1 fs u1.2.2.2.2.2.2.1 u1.2.2.2.2.2.2.2.1 u1.2.2.2.2.2.2.2.2.1 ch u1.2.2.2.2.2.2.2.2.2) H locs := hw
    by_cases hc4 : u1.1 = 2
    · have hF := zif_t hc4 hF
      have gE : E9 = "java/lang/IllegalArgumentException" := g4.trans (by rw [hc4]; rfl)
      subst gE
      refine vx_catch (name := "java/lang/IllegalArgumentException") (E := "java/lang/IllegalArgumentException") hown [] ⟨3, 8, 11, 19⟩ [⟨3, 8, 15, 31⟩] (by rw [hTab]; rfl) (fun _ h9 => nomatch h9) (by decide) (by decide) (hts (.classLink RL 19 "java/lang/IllegalArgumentException") (by decide +kernel)) (va_Nw.use rfl (hK.2.cast (by decide))) g1 g2 g3 ?_
      refine lv_astore_n (lv' := [(2, .ref q9), (1, .int (-100000000 : Int32)), (0, .ref (ad 0))]) hx hb dL_read_11 rfl hl (by decide) rfl (fun ls hl => ?_)
      refine lv_ldc (v := (-100000000 : Int32)) hx hb hown (hts (.constant RL 10 (-100000000)) (by decide +kernel)) dL_read_12 ?_
      obtain rfl := Option.some.inj hF
      refine W.widen (k := 1) (n := 6) (by omega) (by omega) ?_
      exact hret _ _ _ _ rfl hw dL_read_14
    have hF := zif_f hc4 hF
    by_cases hc5 : u1.1 = 4
    · have hF := zif_t hc5 hF
      have gE : E9 = "java/lang/UnsupportedOperationException" := g4.trans (by rw [hc5]; rfl)
      subst gE
      refine vx_catch (name := "java/lang/UnsupportedOperationException") (E := "java/lang/UnsupportedOperationException") hown [⟨3, 8, 11, 19⟩] ⟨3, 8, 15, 31⟩ [] (by rw [hTab]; rfl) (List.forall_mem_cons.mpr ⟨Or.inr ⟨by decide, "java/lang/IllegalArgumentException", (hts (.classLink RL 19 "java/lang/IllegalArgumentException") (by decide +kernel)), hK.2.nc (q := ("java/lang/UnsupportedOperationException", "java/lang/IllegalArgumentException")) (by decide)⟩, (fun _ h9 => nomatch h9)⟩) (by decide) (by decide) (hts (.classLink RL 31 "java/lang/UnsupportedOperationException") (by decide +kernel)) (va_Nw.use rfl (hK.2.cast (by decide))) g1 g2 g3 ?_
      refine lv_astore_n (lv' := [(2, .ref q9), (1, .int (-100000000 : Int32)), (0, .ref (ad 0))]) hx hb dL_read_15 rfl hl (by decide) rfl (fun ls hl => ?_)
      refine lv_ldc (v := (-100000000 : Int32)) hx hb hown (hts (.constant RL 10 (-100000000)) (by decide +kernel)) dL_read_16 ?_
      obtain rfl := Option.some.inj hF
      refine W.widen (k := 1) (n := 6) (by omega) (by omega) ?_
      exact hret _ _ _ _ rfl hw dL_read_18
    have hF := zif_f hc5 hF
    exact nomatch hF
  have hF := zif_t h03 hF
  have hw : zWd G A s (zC ad k sv u1.2.2.1 u1.2.2.2.1 u1.2.2.2.2.1 u1.2.2.2.2.2.1 fs u1.2.2.2.2.2.2.1 u1.2.2.2.2.2.2.2.1 u1.2.2.2.2.2.2.2.2.1 ch u1.2.2.2.2.2.2.2.2.2) H locs := hw
  refine lv_istore_n (lv' := [(1, .int u1.2.1), (0, .ref (ad 0))]) hx hb dL_read_7 rfl hl (by decide) rfl (fun ls hl => ?_)
  refine lv_goto (tgt := 19) hx hb dL_read_8 (by decide) ?_
  refine lv_iload_n hx hb dL_read_19 rfl (lv_at hl 0 rfl) ?_
  obtain rfl := Option.some.inj hF
  refine W.widen (k := 1) (n := 6) (by omega) (by omega) ?_
  exact hret _ _ _ _ rfl hw dL_read_20

/-! SealedBoardLaw.append(LSealedBoard;C)Z -/
abbrev rmL_append : Room := { frames := 7, cells := 1, slots := 6, locals := 103 }
theorem kdL_append : yL_append.cls ≠ "java/lang/invoke/MethodHandle" ∧ yL_append.cls ≠ "java/lang/invoke/VarHandle" ∧ (parseMethodDescriptor yL_append.desc).map (fun d => d.parameters.length) = some 2 := by decide +kernel
def fL_append (ch : Nat → Int32) (ln : Int32) (p1 : Int32) : Option (Int32 × (Nat → Int32) × Int32) := (zbd (fX4_append ch ln p1) (fun u1 => (if u1.1 = 0 then (some ((1 : Int32), u1.2.2.1, u1.2.2.2)) else (if u1.1 = 2 then (some ((0 : Int32), u1.2.2.1, u1.2.2.2)) else (if u1.1 = 3 then (some ((0 : Int32), u1.2.2.1, u1.2.2.2)) else none)))))
set_option maxHeartbeats 1000000 in
set_option maxRecDepth 100000 in
theorem mL_append (l : Launch) (hl9 : l.stackTraces = false) (G : va_G) (k : Nat → ClassId) (ad : Nat → Nat) (sz : Nat) (sv : Int32) (kE : Int32) (kR : Int32) (fb : Nat → Int64) (ft : Nat → Int64) (fs : Nat → Int64) (rws : Nat → Int64) (nx : Int32) (ct : Int32) (ch : Nat → Int32) (ln : Int32) (p1 : Int32) (o : Int32 × (Nat → Int32) × Int32) (hF : fL_append ch ln p1 = some o) : zMIc l yL_append wsL_append rmL_append G k (zC ad k sv kE kR fb ft fs rws nx ct ch ln) sz [.ref (ad 0), .int p1] 1 6 o.1 (zC ad k sv kE kR fb ft fs rws nx ct o.2.1 o.2.2) := by
  refine zof_Wc (cc := cL_append) (nL := 3) (own := RL) (rt := .boolean) (by decide) rfl rfl (Nat.le_of_ble_eq_true rfl) ?_
  intro p e s m args below meth c A Q C0 hK hA hret hTab ls hl hw
  have hl : lv_has ls 3 [(0, .ref (ad 0)), (1, .int p1)] := hl
  obtain ⟨hx, hb, hr, hml, hown, hts, hlocks⟩ := id C0
  obtain ⟨H, hH⟩ : ∃ z, z = s.heap := ⟨_, rfl⟩
  rw [← hH] at hw ⊢
  obtain ⟨ca, hca⟩ : ∃ z : Nat, z = 0 := ⟨_, rfl⟩
  obtain ⟨cb, hcb⟩ : ∃ z : Nat, z = 0 := ⟨_, rfl⟩
  refine W.widen (k := ca) (n := cb) (Nat.zero_le _) (Nat.zero_le _) ?_
  unfold fL_append at hF
  refine lv_aload_n hx hb dL_append_0 rfl (lv_at hl 0 rfl) ?_
  refine lv_iload_n hx hb dL_append_1 rfl (lv_at hl 1 rfl) ?_
  obtain ⟨u1, hq2, hF⟩ := zbd_t hF
  refine zgoXI4 (o0 := u1.1) (w' := (zC ad k sv kE kR fb ft fs rws nx ct u1.2.2.1 u1.2.2.2)) (wa := []) (wc := (zC ad k sv kE kR fb ft fs rws nx ct ch ln)) (wc' := (zC ad k sv kE kR fb ft fs rws nx ct u1.2.2.1 u1.2.2.2)) (wr := []) hw (zap_nil _) (zap_nil _) hA (zVx4 (wa := []) (wc := (zC ad k sv kE kR fb ft fs rws nx ct ch ln)) (wr := []) (As := [.int p1]) (rest := []) ⟨hx, hb, hml, hown, hts⟩ (mX4_append l hl9 G k ad H.size sv kE kR fb ft fs rws nx ct ch ln p1 u1 hq2) (cwV 1 hts gL_append_X4_append rfl rfl rfl kdX4_append ⟨Nat.le_of_ble_eq_true rfl, Nat.le_of_ble_eq_true rfl⟩) hK hA hw (zap_nil _) 0 rfl rfl rfl rfl hl.1 rfl (Nat.le_of_ble_eq_true rfl) dL_append_2 ⟨(by show _ ≤ 1; omega), (by show _ ≤ 6; omega)⟩) rfl (fun h03 H locs q9 E9 ce9 hw g1 g2 g3 g4 => ?_) (fun h03 H locs hw => ?_)
  · have hF := zif_f h03 hF
    have hw : zWd G A s (zC ad k sv kE kR fb ft fs rws nx ct u1.2.2.1 u1.2.2.2) H locs := hw
    by_cases hc4 : u1.1 = 2
    · have hF := zif_t hc4 hF
      have gE : E9 = "java/lang/IllegalArgumentException" := g4.trans (by rw [hc4]; rfl)
      subst gE
      refine vx_catch (name := "java/lang/IllegalArgumentException") (E := "java/lang/IllegalArgumentException") hown [] ⟨0, 6, 9, 19⟩ [⟨0, 6, 12, 21⟩] (by rw [hTab]; rfl) (fun _ h9 => nomatch h9) (by decide) (by decide) (hts (.classLink RL 19 "java/lang/IllegalArgumentException") (by decide +kernel)) (va_Nw.use rfl (hK.2.cast (by decide))) g1 g2 g3 ?_
      refine lv_astore_n (lv' := [(2, .ref q9), (0, .ref (ad 0)), (1, .int p1)]) hx hb dL_append_9 rfl hl (by decide) rfl (fun ls hl => ?_)
      refine lv_iconst (v := (0 : Int32)) hx hb dL_append_10 (by decide) ?_
      obtain rfl := Option.some.inj hF
      refine W.widen (k := 1) (n := 6) (by omega) (by omega) ?_
      exact hret _ _ _ _ (zbo_n (x := (0 : Int32)) (by decide)) hw dL_append_11
    have hF := zif_f hc4 hF
    by_cases hc5 : u1.1 = 3
    · have hF := zif_t hc5 hF
      have gE : E9 = "java/lang/IllegalStateException" := g4.trans (by rw [hc5]; rfl)
      subst gE
      refine vx_catch (name := "java/lang/IllegalStateException") (E := "java/lang/IllegalStateException") hown [⟨0, 6, 9, 19⟩] ⟨0, 6, 12, 21⟩ [] (by rw [hTab]; rfl) (List.forall_mem_cons.mpr ⟨Or.inr ⟨by decide, "java/lang/IllegalArgumentException", (hts (.classLink RL 19 "java/lang/IllegalArgumentException") (by decide +kernel)), hK.2.nc (q := ("java/lang/IllegalStateException", "java/lang/IllegalArgumentException")) (by decide)⟩, (fun _ h9 => nomatch h9)⟩) (by decide) (by decide) (hts (.classLink RL 21 "java/lang/IllegalStateException") (by decide +kernel)) (va_Nw.use rfl (hK.2.cast (by decide))) g1 g2 g3 ?_
      refine lv_astore_n (lv' := [(2, .ref q9), (0, .ref (ad 0)), (1, .int p1)]) hx hb dL_append_12 rfl hl (by decide) rfl (fun ls hl => ?_)
      refine lv_iconst (v := (0 : Int32)) hx hb dL_append_13 (by decide) ?_
      obtain rfl := Option.some.inj hF
      refine W.widen (k := 1) (n := 6) (by omega) (by omega) ?_
      exact hret _ _ _ _ (zbo_n (x := (0 : Int32)) (by decide)) hw dL_append_14
    have hF := zif_f hc5 hF
    exact nomatch hF
  have hF := zif_t h03 hF
  have hw : zWd G A s (zC ad k sv kE kR fb ft fs rws nx ct u1.2.2.1 u1.2.2.2) H locs := hw
  refine lv_pop hx hb dL_append_5 rfl ?_
  refine lv_goto (tgt := 15) hx hb dL_append_6 (by decide) ?_
  refine lv_iconst (v := (1 : Int32)) hx hb dL_append_15 (by decide) ?_
  obtain rfl := Option.some.inj hF
  refine W.widen (k := 1) (n := 6) (by omega) (by omega) ?_
  exact hret _ _ _ _ (zbo_n (x := (1 : Int32)) (by decide)) hw dL_append_16

/-! SealedBoardLaw.room(LSealedBoard;II[J)I -/
abbrev rmL_room : Room := { frames := 8, cells := 3, slots := 18, locals := 126 }
theorem kdL_room : yL_room.cls ≠ "java/lang/invoke/MethodHandle" ∧ yL_room.cls ≠ "java/lang/invoke/VarHandle" ∧ (parseMethodDescriptor yL_room.desc).map (fun d => d.parameters.length) = some 4 := by decide +kernel
def fL_room (fb : Nat → Int64) (oo : Nat → Int64) (p1 : Int32) (p2 : Int32) : Option (Int32 × (Nat → Int64)) := (zbd (fX4_room fb p1 p2) (fun u1 => (if u1.1 = 0 then (zck (zin (0 : Int32) 1) (some ((0 : Int32), (vp_updL oo (0 : Int32).toNatClampNeg u1.2.toInt64)))) else (if u1.1 = 1 then (some ((1 : Int32), oo)) else (if u1.1 = 5 then (some ((2 : Int32), oo)) else none)))))
set_option maxHeartbeats 400000 in
set_option maxRecDepth 100000 in
theorem mL_room (l : Launch) (hl9 : l.stackTraces = false) (G : va_G) (k : Nat → ClassId) (ad : Nat → Nat) (ob : Nat) (sz : Nat) (sv : Int32) (kE : Int32) (kR : Int32) (fb : Nat → Int64) (ft : Nat → Int64) (fs : Nat → Int64) (rws : Nat → Int64) (nx : Int32) (ct : Int32) (ch : Nat → Int32) (ln : Int32) (oo : Nat → Int64) (p1 : Int32) (p2 : Int32) (o : Int32 × (Nat → Int64)) (hF : fL_room fb oo p1 p2 = some o) : zMIc l yL_room wsL_room rmL_room G k (zCO ad ob k sv kE kR fb ft fs rws nx ct ch ln oo) sz [.ref (ad 0), .int p1, .int p2, .ref ob] 3 18 o.1 (zCO ad ob k sv kE kR fb ft fs rws nx ct ch ln o.2) := by
  refine zof_W (cc := cL_room) (nL := 5) (own := RL) (by decide) rfl rfl (Nat.le_of_ble_eq_true rfl) ?_
  intro p e s m args below meth c A Q C0 hK hA hret hTab ls hl hw
  have hl : lv_has ls 5 [(0, .ref (ad 0)), (1, .int p1), (2, .int p2), (3, .ref ob)] := hl
  obtain ⟨hx, hb, hr, hml, hown, hts, hlocks⟩ := id C0
  obtain ⟨H, hH⟩ : ∃ z, z = s.heap := ⟨_, rfl⟩
  rw [← hH] at hw ⊢
  unfold fL_room at hF
  refine lv_aload_n hx hb dL_room_0 rfl (lv_at hl 3 rfl) ?_
  refine lv_iconst (v := (0 : Int32)) hx hb dL_room_1 (by decide) ?_
  refine lv_aload_n hx hb dL_room_2 rfl (lv_at hl 0 rfl) ?_
  refine lv_iload_n hx hb dL_room_3 rfl (lv_at hl 1 rfl) ?_
  refine lv_iload_n hx hb dL_room_4 rfl (lv_at hl 2 rfl) ?_
  obtain ⟨u1, hq2, hF⟩ := zbd_t hF
  refine zgoXI3 (o0 := u1.1) (wa := []) (wc := (zC ad k sv kE kR fb ft fs rws nx ct ch ln)) (wc' := (zC ad k sv kE kR fb ft fs rws nx ct ch ln)) (wr := [(ob, .inl (k 0, 1, .inr (.inl oo)))]) hw hA (zVx3 (wa := []) (wc := (zC ad k sv kE kR fb ft fs rws nx ct ch ln)) (wr := [(ob, .inl (k 0, 1, .inr (.inl oo)))]) (As := [.int p1, .int p2]) (rest := [.int (0 : Int32), .ref ob]) ⟨hx, hb, hml, hown, hts⟩ (mX4_room l hl9 G k ad H.size sv kE kR fb ft fs rws nx ct ch ln p1 p2 u1 hq2) (cwV 2 hts gL_room_X4_room rfl rfl rfl kdX4_room ⟨Nat.le_of_ble_eq_true rfl, Nat.le_of_ble_eq_true rfl⟩) hK hA hw 0 rfl rfl rfl rfl hl.1 rfl (Nat.le_of_ble_eq_true rfl) dL_room_5 ⟨Nat.le_of_ble_eq_true rfl, Nat.le_of_ble_eq_true rfl⟩) rfl (fun h04 H locs q9 E9 ce9 hw g1 g2 g3 g4 => ?_) (fun h04 H locs hw => ?_)
  · have hF := zif_f h04 hF
    have hw : zWd G A s (zCO ad ob k sv kE kR fb ft fs rws nx ct ch ln oo) H locs := hw
    by_cases hc5 : u1.1 = 1
    · have hF := zif_t hc5 hF
      have gE : E9 = "java/lang/IndexOutOfBoundsException" := g4.trans (by rw [hc5]; rfl)
      subst gE
      refine vx_catch (name := "java/lang/IndexOutOfBoundsException") (E := "java/lang/IndexOutOfBoundsException") hown [] ⟨0, 10, 13, 13⟩ [⟨0, 10, 17, 42⟩] (by rw [hTab]; rfl) (fun _ h9 => nomatch h9) (by decide) (by decide) (hts (.classLink RL 13 "java/lang/IndexOutOfBoundsException") (by decide +kernel)) (va_Nw.use rfl (hK.2.cast (by decide))) g1 g2 g3 ?_
      refine lv_astore (lv' := [(4, .ref q9), (0, .ref (ad 0)), (1, .int p1), (2, .int p2), (3, .ref ob)]) hx hb dL_room_13 hl (by decide) rfl (fun ls hl => ?_)
      refine lv_iconst (v := (1 : Int32)) hx hb dL_room_15 (by decide) ?_
      obtain rfl := Option.some.inj hF
      exact hret _ _ _ _ rfl hw dL_room_16
    have hF := zif_f hc5 hF
    by_cases hc6 : u1.1 = 5
    · have hF := zif_t hc6 hF
      have gE : E9 = "java/util/NoSuchElementException" := g4.trans (by rw [hc6]; rfl)
      subst gE
      refine vx_catch (name := "java/util/NoSuchElementException") (E := "java/util/NoSuchElementException") hown [⟨0, 10, 13, 13⟩] ⟨0, 10, 17, 42⟩ [] (by rw [hTab]; rfl) (List.forall_mem_cons.mpr ⟨Or.inr ⟨by decide, "java/lang/IndexOutOfBoundsException", (hts (.classLink RL 13 "java/lang/IndexOutOfBoundsException") (by decide +kernel)), hK.2.nc (q := ("java/util/NoSuchElementException", "java/lang/IndexOutOfBoundsException")) (by decide)⟩, (fun _ h9 => nomatch h9)⟩) (by decide) (by decide) (hts (.classLink RL 42 "java/util/NoSuchElementException") (by decide +kernel)) (va_Nw.use rfl (hK.2.cast (by decide))) g1 g2 g3 ?_
      refine lv_astore (lv' := [(4, .ref q9), (0, .ref (ad 0)), (1, .int p1), (2, .int p2), (3, .ref ob)]) hx hb dL_room_17 hl (by decide) rfl (fun ls hl => ?_)
      refine lv_iconst (v := (2 : Int32)) hx hb dL_room_19 (by decide) ?_
      obtain rfl := Option.some.inj hF
      exact hret _ _ _ _ rfl hw dL_room_20
    have hF := zif_f hc6 hF
    exact nomatch hF
  have hF := zif_t h04 hF
  have hw : zWd G A s (zCO ad ob k sv kE kR fb ft fs rws nx ct ch ln oo) H locs := hw
  refine lv_i2l hx hb dL_room_8 rfl ?_
  obtain ⟨hi3, hF⟩ := zck_in hF
  refine va_last hx hb hK.1 hw.1 hw.2.1 hw.2.2 11 0 rfl rfl hi3 dL_room_9 (fun H locs hP hD hS => ?_)
  have hw : zWd G A s (zCO ad ob k sv kE kR fb ft fs rws nx ct ch ln (vp_updL oo (0 : Int32).toNatClampNeg u1.2.toInt64)) H locs := ⟨hP, hD, hS⟩
  refine lv_goto (tgt := 21) hx hb dL_room_10 (by decide) ?_
  refine lv_iconst (v := (0 : Int32)) hx hb dL_room_21 (by decide) ?_
  obtain rfl := Option.some.inj hF
  exact hret _ _ _ _ rfl hw dL_room_22

/-! SealedBoardLaw.roomOf(LSealedBoard;III[J)I -/
abbrev rmL_roomOf : Room := { frames := 8, cells := 2, slots := 12, locals := 128 }
theorem kdL_roomOf : yL_roomOf.cls ≠ "java/lang/invoke/MethodHandle" ∧ yL_roomOf.cls ≠ "java/lang/invoke/VarHandle" ∧ (parseMethodDescriptor yL_roomOf.desc).map (fun d => d.parameters.length) = some 5 := by decide +kernel
def fL_roomOf (fb : Nat → Int64) (oo : Nat → Int64) (p1 : Int32) (p2 : Int32) (p3 : Int32) : Option (Int32 × (Nat → Int64)) := (zbd (fX4_roomOf fb p1 p2 p3) (fun u1 => (if u1.1 = 0 then (zck (zin (0 : Int32) 1) (some ((0 : Int32), (vp_updL oo (0 : Int32).toNatClampNeg u1.2.toInt64)))) else (if u1.1 = 1 then (some ((1 : Int32), oo)) else (if u1.1 = 2 then (some ((2 : Int32), oo)) else none)))))
set_option maxHeartbeats 400000 in
set_option maxRecDepth 100000 in
theorem mL_roomOf (l : Launch) (hl9 : l.stackTraces = false) (G : va_G) (k : Nat → ClassId) (ad : Nat → Nat) (ob : Nat) (sz : Nat) (sv : Int32) (kE : Int32) (kR : Int32) (fb : Nat → Int64) (ft : Nat → Int64) (fs : Nat → Int64) (rws : Nat → Int64) (nx : Int32) (ct : Int32) (ch : Nat → Int32) (ln : Int32) (oo : Nat → Int64) (p1 : Int32) (p2 : Int32) (p3 : Int32) (o : Int32 × (Nat → Int64)) (hF : fL_roomOf fb oo p1 p2 p3 = some o) : zMIc l yL_roomOf wsL_roomOf rmL_roomOf G k (zCO ad ob k sv kE kR fb ft fs rws nx ct ch ln oo) sz [.ref (ad 0), .int p1, .int p2, .int p3, .ref ob] 2 12 o.1 (zCO ad ob k sv kE kR fb ft fs rws nx ct ch ln o.2) := by
  refine zof_W (cc := cL_roomOf) (nL := 6) (own := RL) (by decide) rfl rfl (Nat.le_of_ble_eq_true rfl) ?_
  intro p e s m args below meth c A Q C0 hK hA hret hTab ls hl hw
  have hl : lv_has ls 6 [(0, .ref (ad 0)), (1, .int p1), (2, .int p2), (3, .int p3), (4, .ref ob)] := hl
  obtain ⟨hx, hb, hr, hml, hown, hts, hlocks⟩ := id C0
  obtain ⟨H, hH⟩ : ∃ z, z = s.heap := ⟨_, rfl⟩
  rw [← hH] at hw ⊢
  unfold fL_roomOf at hF
  refine lv_aload hx hb dL_roomOf_0 (lv_at hl 4 rfl) ?_
  refine lv_iconst (v := (0 : Int32)) hx hb dL_roomOf_2 (by decide) ?_
  refine lv_aload_n hx hb dL_roomOf_3 rfl (lv_at hl 0 rfl) ?_
  refine lv_iload_n hx hb dL_roomOf_4 rfl (lv_at hl 1 rfl) ?_
  refine lv_iload_n hx hb dL_roomOf_5 rfl (lv_at hl 2 rfl) ?_
  refine lv_iload_n hx hb dL_roomOf_6 rfl (lv_at hl 3 rfl) ?_
  obtain ⟨u1, hq2, hF⟩ := zbd_t hF
  refine zgoXI3 (o0 := u1.1) (wa := []) (wc := (zC ad k sv kE kR fb ft fs rws nx ct ch ln)) (wc' := (zC ad k sv kE kR fb ft fs rws nx ct ch ln)) (wr := [(ob, .inl (k 0, 1, .inr (.inl oo)))]) hw hA (zVx3 (wa := []) (wc := (zC ad k sv kE kR fb ft fs rws nx ct ch ln)) (wr := [(ob, .inl (k 0, 1, .inr (.inl oo)))]) (As := [.int p1, .int p2, .int p3]) (rest := [.int (0 : Int32), .ref ob]) ⟨hx, hb, hml, hown, hts⟩ (mX4_roomOf l hl9 G k ad H.size sv kE kR fb ft fs rws nx ct ch ln p1 p2 p3 u1 hq2) (cwV 3 hts gL_roomOf_X4_roomOf rfl rfl rfl kdX4_roomOf ⟨Nat.le_of_ble_eq_true rfl, Nat.le_of_ble_eq_true rfl⟩) hK hA hw 0 rfl rfl rfl rfl hl.1 rfl (Nat.le_of_ble_eq_true rfl) dL_roomOf_7 ⟨Nat.le_of_ble_eq_true rfl, Nat.le_of_ble_eq_true rfl⟩) rfl (fun h04 H locs q9 E9 ce9 hw g1 g2 g3 g4 => ?_) (fun h04 H locs hw => ?_)
  · have hF := zif_f h04 hF
    have hw : zWd G A s (zCO ad ob k sv kE kR fb ft fs rws nx ct ch ln oo) H locs := hw
    by_cases hc5 : u1.1 = 1
    · have hF := zif_t hc5 hF
      have gE : E9 = "java/lang/IndexOutOfBoundsException" := g4.trans (by rw [hc5]; rfl)
      subst gE
      refine vx_catch (name := "java/lang/IndexOutOfBoundsException") (E := "java/lang/IndexOutOfBoundsException") hown [] ⟨0, 12, 15, 13⟩ [⟨0, 12, 19, 15⟩] (by rw [hTab]; rfl) (fun _ h9 => nomatch h9) (by decide) (by decide) (hts (.classLink RL 13 "java/lang/IndexOutOfBoundsException") (by decide +kernel)) (va_Nw.use rfl (hK.2.cast (by decide))) g1 g2 g3 ?_
      refine lv_astore (lv' := [(5, .ref q9), (0, .ref (ad 0)), (1, .int p1), (2, .int p2), (3, .int p3), (4, .ref ob)]) hx hb dL_roomOf_15 hl (by decide) rfl (fun ls hl => ?_)
      refine lv_iconst (v := (1 : Int32)) hx hb dL_roomOf_17 (by decide) ?_
      obtain rfl := Option.some.inj hF
      exact hret _ _ _ _ rfl hw dL_roomOf_18
    have hF := zif_f hc5 hF
    by_cases hc6 : u1.1 = 2
    · have hF := zif_t hc6 hF
      have gE : E9 = "java/lang/IllegalArgumentException" := g4.trans (by rw [hc6]; rfl)
      subst gE
      refine vx_catch (name := "java/lang/IllegalArgumentException") (E := "java/lang/IllegalArgumentException") hown [⟨0, 12, 15, 13⟩] ⟨0, 12, 19, 15⟩ [] (by rw [hTab]; rfl) (List.forall_mem_cons.mpr ⟨Or.inr ⟨by decide, "java/lang/IndexOutOfBoundsException", (hts (.classLink RL 13 "java/lang/IndexOutOfBoundsException") (by decide +kernel)), hK.2.nc (q := ("java/lang/IllegalArgumentException", "java/lang/IndexOutOfBoundsException")) (by decide)⟩, (fun _ h9 => nomatch h9)⟩) (by decide) (by decide) (hts (.classLink RL 15 "java/lang/IllegalArgumentException") (by decide +kernel)) (va_Nw.use rfl (hK.2.cast (by decide))) g1 g2 g3 ?_
      refine lv_astore (lv' := [(5, .ref q9), (0, .ref (ad 0)), (1, .int p1), (2, .int p2), (3, .int p3), (4, .ref ob)]) hx hb dL_roomOf_19 hl (by decide) rfl (fun ls hl => ?_)
      refine lv_iconst (v := (2 : Int32)) hx hb dL_roomOf_21 (by decide) ?_
      obtain rfl := Option.some.inj hF
      exact hret _ _ _ _ rfl hw dL_roomOf_22
    have hF := zif_f hc6 hF
    exact nomatch hF
  have hF := zif_t h04 hF
  have hw : zWd G A s (zCO ad ob k sv kE kR fb ft fs rws nx ct ch ln oo) H locs := hw
  refine lv_i2l hx hb dL_roomOf_10 rfl ?_
  obtain ⟨hi3, hF⟩ := zck_in hF
  refine va_last hx hb hK.1 hw.1 hw.2.1 hw.2.2 11 0 rfl rfl hi3 dL_roomOf_11 (fun H locs hP hD hS => ?_)
  have hw : zWd G A s (zCO ad ob k sv kE kR fb ft fs rws nx ct ch ln (vp_updL oo (0 : Int32).toNatClampNeg u1.2.toInt64)) H locs := ⟨hP, hD, hS⟩
  refine lv_goto (tgt := 23) hx hb dL_roomOf_12 (by decide) ?_
  refine lv_iconst (v := (0 : Int32)) hx hb dL_roomOf_23 (by decide) ?_
  obtain rfl := Option.some.inj hF
  exact hret _ _ _ _ rfl hw dL_roomOf_24

/-! SealedBoardLaw.sealed(LSealedBoard;I[J)I -/
abbrev rmL_sealed : Room := { frames := 8, cells := 1, slots := 6, locals := 126 }
theorem kdL_sealed : yL_sealed.cls ≠ "java/lang/invoke/MethodHandle" ∧ yL_sealed.cls ≠ "java/lang/invoke/VarHandle" ∧ (parseMethodDescriptor yL_sealed.desc).map (fun d => d.parameters.length) = some 3 := by decide +kernel
def fL_sealed (fb : Nat → Int64) (oo : Nat → Int64) (p1 : Int32) : Option (Int32 × (Nat → Int64)) := (zbd (fX4_sealed fb p1) (fun u1 => (if u1.1 = 0 then (zck (zin (0 : Int32) 1) (some ((0 : Int32), (vp_updL oo (0 : Int32).toNatClampNeg u1.2.toInt64)))) else (if u1.1 = 1 then (some ((1 : Int32), oo)) else none))))
set_option maxHeartbeats 400000 in
set_option maxRecDepth 100000 in
theorem mL_sealed (l : Launch) (hl9 : l.stackTraces = false) (G : va_G) (k : Nat → ClassId) (ad : Nat → Nat) (ob : Nat) (sz : Nat) (sv : Int32) (kE : Int32) (kR : Int32) (fb : Nat → Int64) (ft : Nat → Int64) (fs : Nat → Int64) (rws : Nat → Int64) (nx : Int32) (ct : Int32) (ch : Nat → Int32) (ln : Int32) (oo : Nat → Int64) (p1 : Int32) (o : Int32 × (Nat → Int64)) (hF : fL_sealed fb oo p1 = some o) : zMIc l yL_sealed wsL_sealed rmL_sealed G k (zCO ad ob k sv kE kR fb ft fs rws nx ct ch ln oo) sz [.ref (ad 0), .int p1, .ref ob] 1 6 o.1 (zCO ad ob k sv kE kR fb ft fs rws nx ct ch ln o.2) := by
  refine zof_W (cc := cL_sealed) (nL := 4) (own := RL) (by decide) rfl rfl (Nat.le_of_ble_eq_true rfl) ?_
  intro p e s m args below meth c A Q C0 hK hA hret hTab ls hl hw
  have hl : lv_has ls 4 [(0, .ref (ad 0)), (1, .int p1), (2, .ref ob)] := hl
  obtain ⟨hx, hb, hr, hml, hown, hts, hlocks⟩ := id C0
  obtain ⟨H, hH⟩ : ∃ z, z = s.heap := ⟨_, rfl⟩
  rw [← hH] at hw ⊢
  unfold fL_sealed at hF
  refine lv_aload_n hx hb dL_sealed_0 rfl (lv_at hl 2 rfl) ?_
  refine lv_iconst (v := (0 : Int32)) hx hb dL_sealed_1 (by decide) ?_
  refine lv_aload_n hx hb dL_sealed_2 rfl (lv_at hl 0 rfl) ?_
  refine lv_iload_n hx hb dL_sealed_3 rfl (lv_at hl 1 rfl) ?_
  obtain ⟨u1, hq2, hF⟩ := zbd_t hF
  refine zgoXI3 (o0 := u1.1) (wa := []) (wc := (zC ad k sv kE kR fb ft fs rws nx ct ch ln)) (wc' := (zC ad k sv kE kR fb ft fs rws nx ct ch ln)) (wr := [(ob, .inl (k 0, 1, .inr (.inl oo)))]) hw hA (zVx3 (wa := []) (wc := (zC ad k sv kE kR fb ft fs rws nx ct ch ln)) (wr := [(ob, .inl (k 0, 1, .inr (.inl oo)))]) (As := [.int p1]) (rest := [.int (0 : Int32), .ref ob]) ⟨hx, hb, hml, hown, hts⟩ (mX4_sealed l hl9 G k ad H.size sv kE kR fb ft fs rws nx ct ch ln p1 u1 hq2) (cwV 1 hts gL_sealed_X4_sealed rfl rfl rfl kdX4_sealed ⟨Nat.le_of_ble_eq_true rfl, Nat.le_of_ble_eq_true rfl⟩) hK hA hw 0 rfl rfl rfl rfl hl.1 rfl (Nat.le_of_ble_eq_true rfl) dL_sealed_4 ⟨Nat.le_of_ble_eq_true rfl, Nat.le_of_ble_eq_true rfl⟩) rfl (fun h04 H locs q9 E9 ce9 hw g1 g2 g3 g4 => ?_) (fun h04 H locs hw => ?_)
  · have hF := zif_f h04 hF
    have hw : zWd G A s (zCO ad ob k sv kE kR fb ft fs rws nx ct ch ln oo) H locs := hw
    by_cases hc5 : u1.1 = 1
    · have hF := zif_t hc5 hF
      have gE : E9 = "java/lang/IndexOutOfBoundsException" := g4.trans (by rw [hc5]; rfl)
      subst gE
      refine vx_catch (name := "java/lang/IndexOutOfBoundsException") (E := "java/lang/IndexOutOfBoundsException") hown [] ⟨0, 9, 12, 13⟩ [] (by rw [hTab]; rfl) (fun _ h9 => nomatch h9) (by decide) (by decide) (hts (.classLink RL 13 "java/lang/IndexOutOfBoundsException") (by decide +kernel)) (va_Nw.use rfl (hK.2.cast (by decide))) g1 g2 g3 ?_
      refine lv_astore_n (lv' := [(3, .ref q9), (0, .ref (ad 0)), (1, .int p1), (2, .ref ob)]) hx hb dL_sealed_12 rfl hl (by decide) rfl (fun ls hl => ?_)
      refine lv_iconst (v := (1 : Int32)) hx hb dL_sealed_13 (by decide) ?_
      obtain rfl := Option.some.inj hF
      exact hret _ _ _ _ rfl hw dL_sealed_14
    have hF := zif_f hc5 hF
    exact nomatch hF
  have hF := zif_t h04 hF
  have hw : zWd G A s (zCO ad ob k sv kE kR fb ft fs rws nx ct ch ln oo) H locs := hw
  refine lv_i2l hx hb dL_sealed_7 rfl ?_
  obtain ⟨hi3, hF⟩ := zck_in hF
  refine va_last hx hb hK.1 hw.1 hw.2.1 hw.2.2 11 0 rfl rfl hi3 dL_sealed_8 (fun H locs hP hD hS => ?_)
  have hw : zWd G A s (zCO ad ob k sv kE kR fb ft fs rws nx ct ch ln (vp_updL oo (0 : Int32).toNatClampNeg u1.2.toInt64)) H locs := ⟨hP, hD, hS⟩
  refine lv_goto (tgt := 15) hx hb dL_sealed_9 (by decide) ?_
  refine lv_iconst (v := (0 : Int32)) hx hb dL_sealed_15 (by decide) ?_
  obtain rfl := Option.some.inj hF
  exact hret _ _ _ _ rfl hw dL_sealed_16

/-! SealedBoardLaw.sealedAgain(LSealedBoard;I[J)I -/
abbrev rmL_sealedAgain : Room := { frames := 8, cells := 1, slots := 6, locals := 123 }
theorem kdL_sealedAgain : yL_sealedAgain.cls ≠ "java/lang/invoke/MethodHandle" ∧ yL_sealedAgain.cls ≠ "java/lang/invoke/VarHandle" ∧ (parseMethodDescriptor yL_sealedAgain.desc).map (fun d => d.parameters.length) = some 3 := by decide +kernel
def fL_sealedAgain (fb : Nat → Int64) (oo : Nat → Int64) (p1 : Int32) : Option (Int32 × (Nat → Int64)) := (zbd (fX4_sealedAgain fb p1) (fun u1 => (if u1.1 = 0 then (zck (zin (0 : Int32) 1) (some ((0 : Int32), (vp_updL oo (0 : Int32).toNatClampNeg u1.2.toInt64)))) else (if u1.1 = 1 then (some ((1 : Int32), oo)) else none))))
set_option maxHeartbeats 400000 in
set_option maxRecDepth 100000 in
theorem mL_sealedAgain (l : Launch) (hl9 : l.stackTraces = false) (G : va_G) (k : Nat → ClassId) (ad : Nat → Nat) (ob : Nat) (sz : Nat) (sv : Int32) (kE : Int32) (kR : Int32) (fb : Nat → Int64) (ft : Nat → Int64) (fs : Nat → Int64) (rws : Nat → Int64) (nx : Int32) (ct : Int32) (ch : Nat → Int32) (ln : Int32) (oo : Nat → Int64) (p1 : Int32) (o : Int32 × (Nat → Int64)) (hF : fL_sealedAgain fb oo p1 = some o) : zMIc l yL_sealedAgain wsL_sealedAgain rmL_sealedAgain G k (zCO ad ob k sv kE kR fb ft fs rws nx ct ch ln oo) sz [.ref (ad 0), .int p1, .ref ob] 1 6 o.1 (zCO ad ob k sv kE kR fb ft fs rws nx ct ch ln o.2) := by
  refine zof_W (cc := cL_sealedAgain) (nL := 4) (own := RL) (by decide) rfl rfl (Nat.le_of_ble_eq_true rfl) ?_
  intro p e s m args below meth c A Q C0 hK hA hret hTab ls hl hw
  have hl : lv_has ls 4 [(0, .ref (ad 0)), (1, .int p1), (2, .ref ob)] := hl
  obtain ⟨hx, hb, hr, hml, hown, hts, hlocks⟩ := id C0
  obtain ⟨H, hH⟩ : ∃ z, z = s.heap := ⟨_, rfl⟩
  rw [← hH] at hw ⊢
  unfold fL_sealedAgain at hF
  refine lv_aload_n hx hb dL_sealedAgain_0 rfl (lv_at hl 2 rfl) ?_
  refine lv_iconst (v := (0 : Int32)) hx hb dL_sealedAgain_1 (by decide) ?_
  refine lv_aload_n hx hb dL_sealedAgain_2 rfl (lv_at hl 0 rfl) ?_
  refine lv_iload_n hx hb dL_sealedAgain_3 rfl (lv_at hl 1 rfl) ?_
  obtain ⟨u1, hq2, hF⟩ := zbd_t hF
  refine zgoXI3 (o0 := u1.1) (wa := []) (wc := (zC ad k sv kE kR fb ft fs rws nx ct ch ln)) (wc' := (zC ad k sv kE kR fb ft fs rws nx ct ch ln)) (wr := [(ob, .inl (k 0, 1, .inr (.inl oo)))]) hw hA (zVx3 (wa := []) (wc := (zC ad k sv kE kR fb ft fs rws nx ct ch ln)) (wr := [(ob, .inl (k 0, 1, .inr (.inl oo)))]) (As := [.int p1]) (rest := [.int (0 : Int32), .ref ob]) ⟨hx, hb, hml, hown, hts⟩ (mX4_sealedAgain l hl9 G k ad H.size sv kE kR fb ft fs rws nx ct ch ln p1 u1 hq2) (cwV 1 hts gL_sealedAgain_X4_sealedAgain rfl rfl rfl kdX4_sealedAgain ⟨Nat.le_of_ble_eq_true rfl, Nat.le_of_ble_eq_true rfl⟩) hK hA hw 0 rfl rfl rfl rfl hl.1 rfl (Nat.le_of_ble_eq_true rfl) dL_sealedAgain_4 ⟨Nat.le_of_ble_eq_true rfl, Nat.le_of_ble_eq_true rfl⟩) rfl (fun h04 H locs q9 E9 ce9 hw g1 g2 g3 g4 => ?_) (fun h04 H locs hw => ?_)
  · have hF := zif_f h04 hF
    have hw : zWd G A s (zCO ad ob k sv kE kR fb ft fs rws nx ct ch ln oo) H locs := hw
    by_cases hc5 : u1.1 = 1
    · have hF := zif_t hc5 hF
      have gE : E9 = "java/lang/IndexOutOfBoundsException" := g4.trans (by rw [hc5]; rfl)
      subst gE
      refine vx_catch (name := "java/lang/IndexOutOfBoundsException") (E := "java/lang/IndexOutOfBoundsException") hown [] ⟨0, 9, 12, 13⟩ [] (by rw [hTab]; rfl) (fun _ h9 => nomatch h9) (by decide) (by decide) (hts (.classLink RL 13 "java/lang/IndexOutOfBoundsException") (by decide +kernel)) (va_Nw.use rfl (hK.2.cast (by decide))) g1 g2 g3 ?_
      refine lv_astore_n (lv' := [(3, .ref q9), (0, .ref (ad 0)), (1, .int p1), (2, .ref ob)]) hx hb dL_sealedAgain_12 rfl hl (by decide) rfl (fun ls hl => ?_)
      refine lv_iconst (v := (1 : Int32)) hx hb dL_sealedAgain_13 (by decide) ?_
      obtain rfl := Option.some.inj hF
      exact hret _ _ _ _ rfl hw dL_sealedAgain_14
    have hF := zif_f hc5 hF
    exact nomatch hF
  have hF := zif_t h04 hF
  have hw : zWd G A s (zCO ad ob k sv kE kR fb ft fs rws nx ct ch ln oo) H locs := hw
  refine lv_i2l hx hb dL_sealedAgain_7 rfl ?_
  obtain ⟨hi3, hF⟩ := zck_in hF
  refine va_last hx hb hK.1 hw.1 hw.2.1 hw.2.2 11 0 rfl rfl hi3 dL_sealedAgain_8 (fun H locs hP hD hS => ?_)
  have hw : zWd G A s (zCO ad ob k sv kE kR fb ft fs rws nx ct ch ln (vp_updL oo (0 : Int32).toNatClampNeg u1.2.toInt64)) H locs := ⟨hP, hD, hS⟩
  refine lv_goto (tgt := 15) hx hb dL_sealedAgain_9 (by decide) ?_
  refine lv_iconst (v := (0 : Int32)) hx hb dL_sealedAgain_15 (by decide) ?_
  obtain rfl := Option.some.inj hF
  exact hret _ _ _ _ rfl hw dL_sealedAgain_16

/-! SealedBoardLaw.steps(LSealedBoard;II[J)I -/
abbrev rmL_steps : Room := { frames := 8, cells := 3, slots := 18, locals := 125 }
theorem kdL_steps : yL_steps.cls ≠ "java/lang/invoke/MethodHandle" ∧ yL_steps.cls ≠ "java/lang/invoke/VarHandle" ∧ (parseMethodDescriptor yL_steps.desc).map (fun d => d.parameters.length) = some 4 := by decide +kernel
def fL_steps (fb : Nat → Int64) (oo : Nat → Int64) (p1 : Int32) (p2 : Int32) : Option (Int32 × (Nat → Int64)) := (zbd (fX4_steps fb p1 p2) (fun u1 => (if u1.1 = 0 then (zck (zin (0 : Int32) 1) (some ((0 : Int32), (vp_updL oo (0 : Int32).toNatClampNeg u1.2.toInt64)))) else (if u1.1 = 1 then (some ((1 : Int32), oo)) else (if u1.1 = 5 then (some ((2 : Int32), oo)) else none)))))
set_option maxHeartbeats 400000 in
set_option maxRecDepth 100000 in
theorem mL_steps (l : Launch) (hl9 : l.stackTraces = false) (G : va_G) (k : Nat → ClassId) (ad : Nat → Nat) (ob : Nat) (sz : Nat) (sv : Int32) (kE : Int32) (kR : Int32) (fb : Nat → Int64) (ft : Nat → Int64) (fs : Nat → Int64) (rws : Nat → Int64) (nx : Int32) (ct : Int32) (ch : Nat → Int32) (ln : Int32) (oo : Nat → Int64) (p1 : Int32) (p2 : Int32) (o : Int32 × (Nat → Int64)) (hF : fL_steps fb oo p1 p2 = some o) : zMIc l yL_steps wsL_steps rmL_steps G k (zCO ad ob k sv kE kR fb ft fs rws nx ct ch ln oo) sz [.ref (ad 0), .int p1, .int p2, .ref ob] 3 18 o.1 (zCO ad ob k sv kE kR fb ft fs rws nx ct ch ln o.2) := by
  refine zof_W (cc := cL_steps) (nL := 5) (own := RL) (by decide) rfl rfl (Nat.le_of_ble_eq_true rfl) ?_
  intro p e s m args below meth c A Q C0 hK hA hret hTab ls hl hw
  have hl : lv_has ls 5 [(0, .ref (ad 0)), (1, .int p1), (2, .int p2), (3, .ref ob)] := hl
  obtain ⟨hx, hb, hr, hml, hown, hts, hlocks⟩ := id C0
  obtain ⟨H, hH⟩ : ∃ z, z = s.heap := ⟨_, rfl⟩
  rw [← hH] at hw ⊢
  unfold fL_steps at hF
  refine lv_aload_n hx hb dL_steps_0 rfl (lv_at hl 3 rfl) ?_
  refine lv_iconst (v := (0 : Int32)) hx hb dL_steps_1 (by decide) ?_
  refine lv_aload_n hx hb dL_steps_2 rfl (lv_at hl 0 rfl) ?_
  refine lv_iload_n hx hb dL_steps_3 rfl (lv_at hl 1 rfl) ?_
  refine lv_iload_n hx hb dL_steps_4 rfl (lv_at hl 2 rfl) ?_
  obtain ⟨u1, hq2, hF⟩ := zbd_t hF
  refine zgoXI3 (o0 := u1.1) (wa := []) (wc := (zC ad k sv kE kR fb ft fs rws nx ct ch ln)) (wc' := (zC ad k sv kE kR fb ft fs rws nx ct ch ln)) (wr := [(ob, .inl (k 0, 1, .inr (.inl oo)))]) hw hA (zVx3 (wa := []) (wc := (zC ad k sv kE kR fb ft fs rws nx ct ch ln)) (wr := [(ob, .inl (k 0, 1, .inr (.inl oo)))]) (As := [.int p1, .int p2]) (rest := [.int (0 : Int32), .ref ob]) ⟨hx, hb, hml, hown, hts⟩ (mX4_steps l hl9 G k ad H.size sv kE kR fb ft fs rws nx ct ch ln p1 p2 u1 hq2) (cwV 2 hts gL_steps_X4_steps rfl rfl rfl kdX4_steps ⟨Nat.le_of_ble_eq_true rfl, Nat.le_of_ble_eq_true rfl⟩) hK hA hw 0 rfl rfl rfl rfl hl.1 rfl (Nat.le_of_ble_eq_true rfl) dL_steps_5 ⟨Nat.le_of_ble_eq_true rfl, Nat.le_of_ble_eq_true rfl⟩) rfl (fun h04 H locs q9 E9 ce9 hw g1 g2 g3 g4 => ?_) (fun h04 H locs hw => ?_)
  · have hF := zif_f h04 hF
    have hw : zWd G A s (zCO ad ob k sv kE kR fb ft fs rws nx ct ch ln oo) H locs := hw
    by_cases hc5 : u1.1 = 1
    · have hF := zif_t hc5 hF
      have gE : E9 = "java/lang/IndexOutOfBoundsException" := g4.trans (by rw [hc5]; rfl)
      subst gE
      refine vx_catch (name := "java/lang/IndexOutOfBoundsException") (E := "java/lang/IndexOutOfBoundsException") hown [] ⟨0, 10, 13, 13⟩ [⟨0, 10, 17, 42⟩] (by rw [hTab]; rfl) (fun _ h9 => nomatch h9) (by decide) (by decide) (hts (.classLink RL 13 "java/lang/IndexOutOfBoundsException") (by decide +kernel)) (va_Nw.use rfl (hK.2.cast (by decide))) g1 g2 g3 ?_
      refine lv_astore (lv' := [(4, .ref q9), (0, .ref (ad 0)), (1, .int p1), (2, .int p2), (3, .ref ob)]) hx hb dL_steps_13 hl (by decide) rfl (fun ls hl => ?_)
      refine lv_iconst (v := (1 : Int32)) hx hb dL_steps_15 (by decide) ?_
      obtain rfl := Option.some.inj hF
      exact hret _ _ _ _ rfl hw dL_steps_16
    have hF := zif_f hc5 hF
    by_cases hc6 : u1.1 = 5
    · have hF := zif_t hc6 hF
      have gE : E9 = "java/util/NoSuchElementException" := g4.trans (by rw [hc6]; rfl)
      subst gE
      refine vx_catch (name := "java/util/NoSuchElementException") (E := "java/util/NoSuchElementException") hown [⟨0, 10, 13, 13⟩] ⟨0, 10, 17, 42⟩ [] (by rw [hTab]; rfl) (List.forall_mem_cons.mpr ⟨Or.inr ⟨by decide, "java/lang/IndexOutOfBoundsException", (hts (.classLink RL 13 "java/lang/IndexOutOfBoundsException") (by decide +kernel)), hK.2.nc (q := ("java/util/NoSuchElementException", "java/lang/IndexOutOfBoundsException")) (by decide)⟩, (fun _ h9 => nomatch h9)⟩) (by decide) (by decide) (hts (.classLink RL 42 "java/util/NoSuchElementException") (by decide +kernel)) (va_Nw.use rfl (hK.2.cast (by decide))) g1 g2 g3 ?_
      refine lv_astore (lv' := [(4, .ref q9), (0, .ref (ad 0)), (1, .int p1), (2, .int p2), (3, .ref ob)]) hx hb dL_steps_17 hl (by decide) rfl (fun ls hl => ?_)
      refine lv_iconst (v := (2 : Int32)) hx hb dL_steps_19 (by decide) ?_
      obtain rfl := Option.some.inj hF
      exact hret _ _ _ _ rfl hw dL_steps_20
    have hF := zif_f hc6 hF
    exact nomatch hF
  have hF := zif_t h04 hF
  have hw : zWd G A s (zCO ad ob k sv kE kR fb ft fs rws nx ct ch ln oo) H locs := hw
  refine lv_i2l hx hb dL_steps_8 rfl ?_
  obtain ⟨hi3, hF⟩ := zck_in hF
  refine va_last hx hb hK.1 hw.1 hw.2.1 hw.2.2 11 0 rfl rfl hi3 dL_steps_9 (fun H locs hP hD hS => ?_)
  have hw : zWd G A s (zCO ad ob k sv kE kR fb ft fs rws nx ct ch ln (vp_updL oo (0 : Int32).toNatClampNeg u1.2.toInt64)) H locs := ⟨hP, hD, hS⟩
  refine lv_goto (tgt := 21) hx hb dL_steps_10 (by decide) ?_
  refine lv_iconst (v := (0 : Int32)) hx hb dL_steps_21 (by decide) ?_
  obtain rfl := Option.some.inj hF
  exact hret _ _ _ _ rfl hw dL_steps_22

/-! SealedBoardLaw.sealedShare(LSealedBoard;I[D)I -/
abbrev rmL_sealedShare : Room := { frames := 8, cells := 2, slots := 12, locals := 127 }
theorem kdL_sealedShare : yL_sealedShare.cls ≠ "java/lang/invoke/MethodHandle" ∧ yL_sealedShare.cls ≠ "java/lang/invoke/VarHandle" ∧ (parseMethodDescriptor yL_sealedShare.desc).map (fun d => d.parameters.length) = some 3 := by decide +kernel
def fL_sealedShare (fb : Nat → Int64) (od_ : Nat → UInt64) (p1 : Int32) : Option (Int32 × (Nat → UInt64)) := (zbd (fX4_sealedShare fb p1) (fun u1 => (if u1.1 = 0 then (zck (zin (0 : Int32) 1) (some ((0 : Int32), (vf_upd od_ (0 : Int32).toNatClampNeg u1.2)))) else (if u1.1 = 1 then (some ((1 : Int32), od_)) else (if u1.1 = 6 then (some ((2 : Int32), od_)) else none)))))
set_option maxHeartbeats 400000 in
set_option maxRecDepth 100000 in
theorem mL_sealedShare (l : Launch) (hl9 : l.stackTraces = false) (G : va_G) (k : Nat → ClassId) (ad : Nat → Nat) (od : Nat) (sz : Nat) (sv : Int32) (kE : Int32) (kR : Int32) (fb : Nat → Int64) (ft : Nat → Int64) (fs : Nat → Int64) (rws : Nat → Int64) (nx : Int32) (ct : Int32) (ch : Nat → Int32) (ln : Int32) (od_ : Nat → UInt64) (p1 : Int32) (o : Int32 × (Nat → UInt64)) (hF : fL_sealedShare fb od_ p1 = some o) : zMIc l yL_sealedShare wsL_sealedShare rmL_sealedShare G k (zOC ad od k sv kE kR fb ft fs rws nx ct ch ln od_) sz [.ref (ad 0), .int p1, .ref od] 2 12 o.1 (zOC ad od k sv kE kR fb ft fs rws nx ct ch ln o.2) := by
  refine zof_W (cc := cL_sealedShare) (nL := 4) (own := RL) (by decide) rfl rfl (Nat.le_of_ble_eq_true rfl) ?_
  intro p e s m args below meth c A Q C0 hK hA hret hTab ls hl hw
  have hl : lv_has ls 4 [(0, .ref (ad 0)), (1, .int p1), (2, .ref od)] := hl
  obtain ⟨hx, hb, hr, hml, hown, hts, hlocks⟩ := id C0
  obtain ⟨H, hH⟩ : ∃ z, z = s.heap := ⟨_, rfl⟩
  rw [← hH] at hw ⊢
  unfold fL_sealedShare at hF
  refine lv_aload_n hx hb dL_sealedShare_0 rfl (lv_at hl 2 rfl) ?_
  refine lv_iconst (v := (0 : Int32)) hx hb dL_sealedShare_1 (by decide) ?_
  refine lv_aload_n hx hb dL_sealedShare_2 rfl (lv_at hl 0 rfl) ?_
  refine lv_iload_n hx hb dL_sealedShare_3 rfl (lv_at hl 1 rfl) ?_
  obtain ⟨u1, hq2, hF⟩ := zbd_t hF
  refine zgoXD3 (o0 := u1.1) (wa := [(od, .inl (k 5, 1, .inr (.inr (.inr (.inl od_)))))]) (wc := (zC ad k sv kE kR fb ft fs rws nx ct ch ln)) (wc' := (zC ad k sv kE kR fb ft fs rws nx ct ch ln)) (wr := []) hw hA (zVx3 (wa := [(od, .inl (k 5, 1, .inr (.inr (.inr (.inl od_)))))]) (wc := (zC ad k sv kE kR fb ft fs rws nx ct ch ln)) (wr := []) (As := [.int p1]) (rest := [.int (0 : Int32), .ref od]) ⟨hx, hb, hml, hown, hts⟩ (mX4_sealedShare l hl9 G k ad H.size sv kE kR fb ft fs rws nx ct ch ln p1 u1 hq2) (cwV 1 hts gL_sealedShare_X4_sealedShare rfl rfl rfl kdX4_sealedShare ⟨Nat.le_of_ble_eq_true rfl, Nat.le_of_ble_eq_true rfl⟩) hK hA hw 0 rfl rfl rfl rfl hl.1 rfl (Nat.le_of_ble_eq_true rfl) dL_sealedShare_4 ⟨Nat.le_of_ble_eq_true rfl, Nat.le_of_ble_eq_true rfl⟩) rfl (fun h04 H locs q9 E9 ce9 hw g1 g2 g3 g4 => ?_) (fun h04 H locs hw => ?_)
  · have hF := zif_f h04 hF
    have hw : zWd G A s (zOC ad od k sv kE kR fb ft fs rws nx ct ch ln od_) H locs := hw
    by_cases hc5 : u1.1 = 1
    · have hF := zif_t hc5 hF
      have gE : E9 = "java/lang/IndexOutOfBoundsException" := g4.trans (by rw [hc5]; rfl)
      subst gE
      refine vx_catch (name := "java/lang/IndexOutOfBoundsException") (E := "java/lang/IndexOutOfBoundsException") hown [] ⟨0, 8, 11, 13⟩ [⟨0, 8, 14, 79⟩] (by rw [hTab]; rfl) (fun _ h9 => nomatch h9) (by decide) (by decide) (hts (.classLink RL 13 "java/lang/IndexOutOfBoundsException") (by decide +kernel)) (va_Nw.use rfl (hK.2.cast (by decide))) g1 g2 g3 ?_
      refine lv_astore_n (lv' := [(3, .ref q9), (0, .ref (ad 0)), (1, .int p1), (2, .ref od)]) hx hb dL_sealedShare_11 rfl hl (by decide) rfl (fun ls hl => ?_)
      refine lv_iconst (v := (1 : Int32)) hx hb dL_sealedShare_12 (by decide) ?_
      obtain rfl := Option.some.inj hF
      exact hret _ _ _ _ rfl hw dL_sealedShare_13
    have hF := zif_f hc5 hF
    by_cases hc6 : u1.1 = 6
    · have hF := zif_t hc6 hF
      have gE : E9 = "java/lang/ArithmeticException" := g4.trans (by rw [hc6]; rfl)
      subst gE
      refine vx_catch (name := "java/lang/ArithmeticException") (E := "java/lang/ArithmeticException") hown [⟨0, 8, 11, 13⟩] ⟨0, 8, 14, 79⟩ [] (by rw [hTab]; rfl) (List.forall_mem_cons.mpr ⟨Or.inr ⟨by decide, "java/lang/IndexOutOfBoundsException", (hts (.classLink RL 13 "java/lang/IndexOutOfBoundsException") (by decide +kernel)), hK.2.nc (q := ("java/lang/ArithmeticException", "java/lang/IndexOutOfBoundsException")) (by decide)⟩, (fun _ h9 => nomatch h9)⟩) (by decide) (by decide) (hts (.classLink RL 79 "java/lang/ArithmeticException") (by decide +kernel)) (va_Nw.use rfl (hK.2.cast (by decide))) g1 g2 g3 ?_
      refine lv_astore_n (lv' := [(3, .ref q9), (0, .ref (ad 0)), (1, .int p1), (2, .ref od)]) hx hb dL_sealedShare_14 rfl hl (by decide) rfl (fun ls hl => ?_)
      refine lv_iconst (v := (2 : Int32)) hx hb dL_sealedShare_15 (by decide) ?_
      obtain rfl := Option.some.inj hF
      exact hret _ _ _ _ rfl hw dL_sealedShare_16
    have hF := zif_f hc6 hF
    exact nomatch hF
  have hF := zif_t h04 hF
  have hw : zWd G A s (zOC ad od k sv kE kR fb ft fs rws nx ct ch ln od_) H locs := hw
  obtain ⟨hi3, hF⟩ := zck_in hF
  refine va_dast hx hb hK.1 hw.1 hw.2.1 hw.2.2 0 5 rfl rfl hi3 dL_sealedShare_7 (fun H locs hP hD hS => ?_)
  have hw : zWd G A s (zOC ad od k sv kE kR fb ft fs rws nx ct ch ln (vf_upd od_ (0 : Int32).toNatClampNeg u1.2)) H locs := ⟨hP, hD, hS⟩
  refine lv_goto (tgt := 17) hx hb dL_sealedShare_8 (by decide) ?_
  refine lv_iconst (v := (0 : Int32)) hx hb dL_sealedShare_17 (by decide) ?_
  obtain rfl := Option.some.inj hF
  exact hret _ _ _ _ rfl hw dL_sealedShare_18

/-! SealedBoardLaw.append(LSealedBoard;C[J)I -/
abbrev rmL_append : Room := { frames := 7, cells := 1, slots := 6, locals := 103 }
theorem kdL_append : yL_append.cls ≠ "java/lang/invoke/MethodHandle" ∧ yL_append.cls ≠ "java/lang/invoke/VarHandle" ∧ (parseMethodDescriptor yL_append.desc).map (fun d => d.parameters.length) = some 3 := by decide +kernel
def fL_append (ch : Nat → Int32) (ln : Int32) (oo : Nat → Int64) (p1 : Int32) : Option (Int32 × (Nat → Int32) × Int32 × (Nat → Int64)) := (zbd (fX4_append ch ln p1) (fun u1 => (if u1.1 = 0 then (zck (zin (0 : Int32) 1) (some ((0 : Int32), u1.2.2.1, u1.2.2.2, (vp_updL oo (0 : Int32).toNatClampNeg u1.2.1.toInt64)))) else (if u1.1 = 2 then (some ((1 : Int32), u1.2.2.1, u1.2.2.2, oo)) else (if u1.1 = 3 then (some ((2 : Int32), u1.2.2.1, u1.2.2.2, oo)) else none)))))
set_option maxHeartbeats 400000 in
set_option maxRecDepth 100000 in
theorem mL_append (l : Launch) (hl9 : l.stackTraces = false) (G : va_G) (k : Nat → ClassId) (ad : Nat → Nat) (ob : Nat) (sz : Nat) (sv : Int32) (kE : Int32) (kR : Int32) (fb : Nat → Int64) (ft : Nat → Int64) (fs : Nat → Int64) (rws : Nat → Int64) (nx : Int32) (ct : Int32) (ch : Nat → Int32) (ln : Int32) (oo : Nat → Int64) (p1 : Int32) (o : Int32 × (Nat → Int32) × Int32 × (Nat → Int64)) (hF : fL_append ch ln oo p1 = some o) : zMIc l yL_append wsL_append rmL_append G k (zCO ad ob k sv kE kR fb ft fs rws nx ct ch ln oo) sz [.ref (ad 0), .int p1, .ref ob] 1 6 o.1 (zCO ad ob k sv kE kR fb ft fs rws nx ct o.2.1 o.2.2.1 o.2.2.2) := by
  refine zof_W (cc := cL_append) (nL := 4) (own := RL) (by decide) rfl rfl (Nat.le_of_ble_eq_true rfl) ?_
  intro p e s m args below meth c A Q C0 hK hA hret hTab ls hl hw
  have hl : lv_has ls 4 [(0, .ref (ad 0)), (1, .int p1), (2, .ref ob)] := hl
  obtain ⟨hx, hb, hr, hml, hown, hts, hlocks⟩ := id C0
  obtain ⟨H, hH⟩ : ∃ z, z = s.heap := ⟨_, rfl⟩
  rw [← hH] at hw ⊢
  unfold fL_append at hF
  refine lv_aload_n hx hb dL_append_0 rfl (lv_at hl 2 rfl) ?_
  refine lv_iconst (v := (0 : Int32)) hx hb dL_append_1 (by decide) ?_
  refine lv_aload_n hx hb dL_append_2 rfl (lv_at hl 0 rfl) ?_
  refine lv_iload_n hx hb dL_append_3 rfl (lv_at hl 1 rfl) ?_
  obtain ⟨u1, hq2, hF⟩ := zbd_t hF
  refine zgoXI3 (o0 := u1.1) (wa := []) (wc := (zC ad k sv kE kR fb ft fs rws nx ct ch ln)) (wc' := (zC ad k sv kE kR fb ft fs rws nx ct u1.2.2.1 u1.2.2.2)) (wr := [(ob, .inl (k 0, 1, .inr (.inl oo)))]) hw hA (zVx3 (wa := []) (wc := (zC ad k sv kE kR fb ft fs rws nx ct ch ln)) (wr := [(ob, .inl (k 0, 1, .inr (.inl oo)))]) (As := [.int p1]) (rest := [.int (0 : Int32), .ref ob]) ⟨hx, hb, hml, hown, hts⟩ (mX4_append l hl9 G k ad H.size sv kE kR fb ft fs rws nx ct ch ln p1 u1 hq2) (cwV 1 hts gL_append_X4_append rfl rfl rfl kdX4_append ⟨Nat.le_of_ble_eq_true rfl, Nat.le_of_ble_eq_true rfl⟩) hK hA hw 0 rfl rfl rfl rfl hl.1 rfl (Nat.le_of_ble_eq_true rfl) dL_append_4 ⟨Nat.le_of_ble_eq_true rfl, Nat.le_of_ble_eq_true rfl⟩) rfl (fun h04 H locs q9 E9 ce9 hw g1 g2 g3 g4 => ?_) (fun h04 H locs hw => ?_)
  · have hF := zif_f h04 hF
    have hw : zWd G A s (zCO ad ob k sv kE kR fb ft fs rws nx ct u1.2.2.1 u1.2.2.2 oo) H locs := hw
    by_cases hc5 : u1.1 = 2
    · have hF := zif_t hc5 hF
      have gE : E9 = "java/lang/IllegalArgumentException" := g4.trans (by rw [hc5]; rfl)
      subst gE
      refine vx_catch (name := "java/lang/IllegalArgumentException") (E := "java/lang/IllegalArgumentException") hown [] ⟨0, 9, 12, 15⟩ [⟨0, 9, 15, 17⟩] (by rw [hTab]; rfl) (fun _ h9 => nomatch h9) (by decide) (by decide) (hts (.classLink RL 15 "java/lang/IllegalArgumentException") (by decide +kernel)) (va_Nw.use rfl (hK.2.cast (by decide))) g1 g2 g3 ?_
      refine lv_astore_n (lv' := [(3, .ref q9), (0, .ref (ad 0)), (1, .int p1), (2, .ref ob)]) hx hb dL_append_12 rfl hl (by decide) rfl (fun ls hl => ?_)
      refine lv_iconst (v := (1 : Int32)) hx hb dL_append_13 (by decide) ?_
      obtain rfl := Option.some.inj hF
      exact hret _ _ _ _ rfl hw dL_append_14
    have hF := zif_f hc5 hF
    by_cases hc6 : u1.1 = 3
    · have hF := zif_t hc6 hF
      have gE : E9 = "java/lang/IllegalStateException" := g4.trans (by rw [hc6]; rfl)
      subst gE
      refine vx_catch (name := "java/lang/IllegalStateException") (E := "java/lang/IllegalStateException") hown [⟨0, 9, 12, 15⟩] ⟨0, 9, 15, 17⟩ [] (by rw [hTab]; rfl) (List.forall_mem_cons.mpr ⟨Or.inr ⟨by decide, "java/lang/IllegalArgumentException", (hts (.classLink RL 15 "java/lang/IllegalArgumentException") (by decide +kernel)), hK.2.nc (q := ("java/lang/IllegalStateException", "java/lang/IllegalArgumentException")) (by decide)⟩, (fun _ h9 => nomatch h9)⟩) (by decide) (by decide) (hts (.classLink RL 17 "java/lang/IllegalStateException") (by decide +kernel)) (va_Nw.use rfl (hK.2.cast (by decide))) g1 g2 g3 ?_
      refine lv_astore_n (lv' := [(3, .ref q9), (0, .ref (ad 0)), (1, .int p1), (2, .ref ob)]) hx hb dL_append_15 rfl hl (by decide) rfl (fun ls hl => ?_)
      refine lv_iconst (v := (2 : Int32)) hx hb dL_append_16 (by decide) ?_
      obtain rfl := Option.some.inj hF
      exact hret _ _ _ _ rfl hw dL_append_17
    have hF := zif_f hc6 hF
    exact nomatch hF
  have hF := zif_t h04 hF
  have hw : zWd G A s (zCO ad ob k sv kE kR fb ft fs rws nx ct u1.2.2.1 u1.2.2.2 oo) H locs := hw
  refine lv_i2l hx hb dL_append_7 rfl ?_
  obtain ⟨hi3, hF⟩ := zck_in hF
  refine va_last hx hb hK.1 hw.1 hw.2.1 hw.2.2 11 0 rfl rfl hi3 dL_append_8 (fun H locs hP hD hS => ?_)
  have hw : zWd G A s (zCO ad ob k sv kE kR fb ft fs rws nx ct u1.2.2.1 u1.2.2.2 (vp_updL oo (0 : Int32).toNatClampNeg u1.2.1.toInt64)) H locs := ⟨hP, hD, hS⟩
  refine lv_goto (tgt := 18) hx hb dL_append_9 (by decide) ?_
  refine lv_iconst (v := (0 : Int32)) hx hb dL_append_18 (by decide) ?_
  obtain rfl := Option.some.inj hF
  exact hret _ _ _ _ rfl hw dL_append_19

/-! SealedBoardLaw.read(LSealedBoard;[J)I -/
abbrev rmL_read : Room := { frames := 8, cells := 1, slots := 6, locals := 168 }
theorem kdL_read : yL_read.cls ≠ "java/lang/invoke/MethodHandle" ∧ yL_read.cls ≠ "java/lang/invoke/VarHandle" ∧ (parseMethodDescriptor yL_read.desc).map (fun d => d.parameters.length) = some 2 := by decide +kernel
def fL_read (kE : Int32) (kR : Int32) (fb : Nat → Int64) (ft : Nat → Int64) (rws : Nat → Int64) (nx : Int32) (ct : Int32) (ch : Nat → Int32) (ln : Int32) (oo : Nat → Int64) : Option (Int32 × Int32 × Int32 × (Nat → Int64) × (Nat → Int64) × (Nat → Int64) × Int32 × Int32 × Int32 × (Nat → Int64)) := (zbd (fX4_read kE kR fb ft rws nx ct ch ln) (fun u1 => (if u1.1 = 0 then (zck (zin (0 : Int32) 1) (some ((0 : Int32), u1.2.2.1, u1.2.2.2.1, u1.2.2.2.2.1, u1.2.2.2.2.2.1, u1.2.2.2.2.2.2.1, u1.2.2.2.2.2.2.2.1, u1.2.2.2.2.2.2.2.2.1, u1.2.2.2.2.2.2.2.2.2, (vp_updL oo (0 : Int32).toNatClampNeg u1.2.1.toInt64)))) else (if u1.1 = 2 then (some ((1 : Int32), u1.2.2.1, u1.2.2.2.1, u1.2.2.2.2.1, u1.2.2.2.2.2.1, u1.2.2.2.2.2.2.1, u1.2.2.2.2.2.2.2.1, u1.2.2.2.2.2.2.2.2.1, u1.2.2.2.2.2.2.2.2.2, oo)) else (if u1.1 = 4 then (some ((2 : Int32), u1.2.2.1, u1.2.2.2.1, u1.2.2.2.2.1, u1.2.2.2.2.2.1, u1.2.2.2.2.2.2.1, u1.2.2.2.2.2.2.2.1, u1.2.2.2.2.2.2.2.2.1, u1.2.2.2.2.2.2.2.2.2, oo)) else none)))))
set_option maxHeartbeats 400000 in
set_option maxRecDepth 100000 in
theorem mL_read (l : Launch) (hl9 : l.stackTraces = false) (G : va_G) (k : Nat → ClassId) (ad : Nat → Nat) (ob : Nat) (sz : Nat) (sv : Int32) (kE : Int32) (kR : Int32) (fb : Nat → Int64) (ft : Nat → Int64) (fs : Nat → Int64) (rws : Nat → Int64) (nx : Int32) (ct : Int32) (ch : Nat → Int32) (ln : Int32) (oo : Nat → Int64)  (o : Int32 × Int32 × Int32 × (Nat → Int64) × (Nat → Int64) × (Nat → Int64) × Int32 × Int32 × Int32 × (Nat → Int64)) (hF : fL_read kE kR fb ft rws nx ct ch ln oo = some o) : zMIc l yL_read wsL_read rmL_read G k (zCO ad ob k sv kE kR fb ft fs rws nx ct ch ln oo) sz [.ref (ad 0), .ref ob] 1 6 o.1 (zCO ad ob k sv o.2.1 o.2.2.1 o.2.2.2.1 o.2.2.2.2.1 fs o.2.2.2.2.2.1 o.2.2.2.2.2.2.1 o.2.2.2.2.2.2.2.1 ch o.2.2.2.2.2.2.2.2.1 o.2.2.2.2.2.2.2.2.2) := by
  refine zof_W (cc := cL_read) (nL := 3) (own := RL) (by decide) rfl rfl (Nat.le_of_ble_eq_true rfl) ?_
  intro p e s m args below meth c A Q C0 hK hA hret hTab ls hl hw
  have hl : lv_has ls 3 [(0, .ref (ad 0)), (1, .ref ob)] := hl
  obtain ⟨hx, hb, hr, hml, hown, hts, hlocks⟩ := id C0
  obtain ⟨H, hH⟩ : ∃ z, z = s.heap := ⟨_, rfl⟩
  rw [← hH] at hw ⊢
  unfold fL_read at hF
  refine lv_aload_n hx hb dL_read_0 rfl (lv_at hl 1 rfl) ?_
  refine lv_iconst (v := (0 : Int32)) hx hb dL_read_1 (by decide) ?_
  refine lv_aload_n hx hb dL_read_2 rfl (lv_at hl 0 rfl) ?_
  obtain ⟨u1, hq2, hF⟩ := zbd_t hF
  refine zgoXI3 (o0 := u1.1) (wa := []) (wc := (zC ad k sv kE kR fb ft fs rws nx ct ch ln)) (wc' := (zC ad k sv u1.2.2.1 u1.2.2.2.1 u1.2.2.2.2.1 u1.2.2.2.2.2.1 fs u1.2.2.2.2.2.2.1 u1.2.2.2.2.2.2.2.1 u1.2.2.2.2.2.2.2.2.1 ch u1.2.2.2.2.2.2.2.2.2)) (wr := [(ob, .inl (k 0, 1, .inr (.inl oo)))]) hw hA (zVx3 (wa := []) (wc := (zC ad k sv kE kR fb ft fs rws nx ct ch ln)) (wr := [(ob, .inl (k 0, 1, .inr (.inl oo)))]) (As := []) (rest := [.int (0 : Int32), .ref ob]) ⟨hx, hb, hml, hown, hts⟩ (mX4_read l hl9 G k ad H.size sv kE kR fb ft fs rws nx ct ch ln  u1 hq2) (cwV 0 hts gL_read_X4_read rfl rfl rfl kdX4_read ⟨Nat.le_of_ble_eq_true rfl, Nat.le_of_ble_eq_true rfl⟩) hK hA hw 0 rfl rfl rfl rfl hl.1 rfl (Nat.le_of_ble_eq_true rfl) dL_read_3 ⟨Nat.le_of_ble_eq_true rfl, Nat.le_of_ble_eq_true rfl⟩) rfl (fun h04 H locs q9 E9 ce9 hw g1 g2 g3 g4 => ?_) (fun h04 H locs hw => ?_)
  · have hF := zif_f h04 hF
    have hw : zWd G A s (zCO ad ob k sv u1.2.2.1 u1.2.2.2.1 u1.2.2.2.2.1 u1.2.2.2.2.2.1 fs u1.2.2.2.2.2.2.1 u1.2.2.2.2.2.2.2.1 u1.2.2.2.2.2.2.2.2.1 ch u1.2.2.2.2.2.2.2.2.2 oo) H locs := hw
    by_cases hc5 : u1.1 = 2
    · have hF := zif_t hc5 hF
      have gE : E9 = "java/lang/IllegalArgumentException" := g4.trans (by rw [hc5]; rfl)
      subst gE
      refine vx_catch (name := "java/lang/IllegalArgumentException") (E := "java/lang/IllegalArgumentException") hown [] ⟨0, 8, 11, 15⟩ [⟨0, 8, 14, 27⟩] (by rw [hTab]; rfl) (fun _ h9 => nomatch h9) (by decide) (by decide) (hts (.classLink RL 15 "java/lang/IllegalArgumentException") (by decide +kernel)) (va_Nw.use rfl (hK.2.cast (by decide))) g1 g2 g3 ?_
      refine lv_astore_n (lv' := [(2, .ref q9), (0, .ref (ad 0)), (1, .ref ob)]) hx hb dL_read_11 rfl hl (by decide) rfl (fun ls hl => ?_)
      refine lv_iconst (v := (1 : Int32)) hx hb dL_read_12 (by decide) ?_
      obtain rfl := Option.some.inj hF
      exact hret _ _ _ _ rfl hw dL_read_13
    have hF := zif_f hc5 hF
    by_cases hc6 : u1.1 = 4
    · have hF := zif_t hc6 hF
      have gE : E9 = "java/lang/UnsupportedOperationException" := g4.trans (by rw [hc6]; rfl)
      subst gE
      refine vx_catch (name := "java/lang/UnsupportedOperationException") (E := "java/lang/UnsupportedOperationException") hown [⟨0, 8, 11, 15⟩] ⟨0, 8, 14, 27⟩ [] (by rw [hTab]; rfl) (List.forall_mem_cons.mpr ⟨Or.inr ⟨by decide, "java/lang/IllegalArgumentException", (hts (.classLink RL 15 "java/lang/IllegalArgumentException") (by decide +kernel)), hK.2.nc (q := ("java/lang/UnsupportedOperationException", "java/lang/IllegalArgumentException")) (by decide)⟩, (fun _ h9 => nomatch h9)⟩) (by decide) (by decide) (hts (.classLink RL 27 "java/lang/UnsupportedOperationException") (by decide +kernel)) (va_Nw.use rfl (hK.2.cast (by decide))) g1 g2 g3 ?_
      refine lv_astore_n (lv' := [(2, .ref q9), (0, .ref (ad 0)), (1, .ref ob)]) hx hb dL_read_14 rfl hl (by decide) rfl (fun ls hl => ?_)
      refine lv_iconst (v := (2 : Int32)) hx hb dL_read_15 (by decide) ?_
      obtain rfl := Option.some.inj hF
      exact hret _ _ _ _ rfl hw dL_read_16
    have hF := zif_f hc6 hF
    exact nomatch hF
  have hF := zif_t h04 hF
  have hw : zWd G A s (zCO ad ob k sv u1.2.2.1 u1.2.2.2.1 u1.2.2.2.2.1 u1.2.2.2.2.2.1 fs u1.2.2.2.2.2.2.1 u1.2.2.2.2.2.2.2.1 u1.2.2.2.2.2.2.2.2.1 ch u1.2.2.2.2.2.2.2.2.2 oo) H locs := hw
  refine lv_i2l hx hb dL_read_6 rfl ?_
  obtain ⟨hi3, hF⟩ := zck_in hF
  refine va_last hx hb hK.1 hw.1 hw.2.1 hw.2.2 11 0 rfl rfl hi3 dL_read_7 (fun H locs hP hD hS => ?_)
  have hw : zWd G A s (zCO ad ob k sv u1.2.2.1 u1.2.2.2.1 u1.2.2.2.2.1 u1.2.2.2.2.2.1 fs u1.2.2.2.2.2.2.1 u1.2.2.2.2.2.2.2.1 u1.2.2.2.2.2.2.2.2.1 ch u1.2.2.2.2.2.2.2.2.2 (vp_updL oo (0 : Int32).toNatClampNeg u1.2.1.toInt64)) H locs := ⟨hP, hD, hS⟩
  refine lv_goto (tgt := 17) hx hb dL_read_8 (by decide) ?_
  refine lv_iconst (v := (0 : Int32)) hx hb dL_read_17 (by decide) ?_
  obtain rfl := Option.some.inj hF
  exact hret _ _ _ _ rfl hw dL_read_18

/-! SealedBoardLaw.errorPosition(LSealedBoard;[J)I -/
abbrev rmL_errorPosition : Room := { frames := 7, cells := 1, slots := 6, locals := 102 }
theorem kdL_errorPosition : yL_errorPosition.cls ≠ "java/lang/invoke/MethodHandle" ∧ yL_errorPosition.cls ≠ "java/lang/invoke/VarHandle" ∧ (parseMethodDescriptor yL_errorPosition.desc).map (fun d => d.parameters.length) = some 2 := by decide +kernel
def fL_errorPosition (kE : Int32) (oo : Nat → Int64) : Option (Int32 × (Nat → Int64)) := (zbd (fX4_errorPosition kE) (fun u1 => (if u1.1 = 0 then (zck (zin (0 : Int32) 1) (some ((0 : Int32), (vp_updL oo (0 : Int32).toNatClampNeg u1.2.toInt64)))) else (if u1.1 = 5 then (some ((1 : Int32), oo)) else none))))
set_option maxHeartbeats 400000 in
set_option maxRecDepth 100000 in
theorem mL_errorPosition (l : Launch) (hl9 : l.stackTraces = false) (G : va_G) (k : Nat → ClassId) (ad : Nat → Nat) (ob : Nat) (sz : Nat) (sv : Int32) (kE : Int32) (kR : Int32) (fb : Nat → Int64) (ft : Nat → Int64) (fs : Nat → Int64) (rws : Nat → Int64) (nx : Int32) (ct : Int32) (ch : Nat → Int32) (ln : Int32) (oo : Nat → Int64)  (o : Int32 × (Nat → Int64)) (hF : fL_errorPosition kE oo = some o) : zMIc l yL_errorPosition wsL_errorPosition rmL_errorPosition G k (zCO ad ob k sv kE kR fb ft fs rws nx ct ch ln oo) sz [.ref (ad 0), .ref ob] 1 6 o.1 (zCO ad ob k sv kE kR fb ft fs rws nx ct ch ln o.2) := by
  refine zof_W (cc := cL_errorPosition) (nL := 3) (own := RL) (by decide) rfl rfl (Nat.le_of_ble_eq_true rfl) ?_
  intro p e s m args below meth c A Q C0 hK hA hret hTab ls hl hw
  have hl : lv_has ls 3 [(0, .ref (ad 0)), (1, .ref ob)] := hl
  obtain ⟨hx, hb, hr, hml, hown, hts, hlocks⟩ := id C0
  obtain ⟨H, hH⟩ : ∃ z, z = s.heap := ⟨_, rfl⟩
  rw [← hH] at hw ⊢
  unfold fL_errorPosition at hF
  refine lv_aload_n hx hb dL_errorPosition_0 rfl (lv_at hl 1 rfl) ?_
  refine lv_iconst (v := (0 : Int32)) hx hb dL_errorPosition_1 (by decide) ?_
  refine lv_aload_n hx hb dL_errorPosition_2 rfl (lv_at hl 0 rfl) ?_
  obtain ⟨u1, hq2, hF⟩ := zbd_t hF
  refine zgoXI3 (o0 := u1.1) (wa := []) (wc := (zC ad k sv kE kR fb ft fs rws nx ct ch ln)) (wc' := (zC ad k sv kE kR fb ft fs rws nx ct ch ln)) (wr := [(ob, .inl (k 0, 1, .inr (.inl oo)))]) hw hA (zVx3 (wa := []) (wc := (zC ad k sv kE kR fb ft fs rws nx ct ch ln)) (wr := [(ob, .inl (k 0, 1, .inr (.inl oo)))]) (As := []) (rest := [.int (0 : Int32), .ref ob]) ⟨hx, hb, hml, hown, hts⟩ (mX4_errorPosition l hl9 G k ad H.size sv kE kR fb ft fs rws nx ct ch ln  u1 hq2) (cwV 0 hts gL_errorPosition_X4_errorPosition rfl rfl rfl kdX4_errorPosition ⟨Nat.le_of_ble_eq_true rfl, Nat.le_of_ble_eq_true rfl⟩) hK hA hw 0 rfl rfl rfl rfl hl.1 rfl (Nat.le_of_ble_eq_true rfl) dL_errorPosition_3 ⟨Nat.le_of_ble_eq_true rfl, Nat.le_of_ble_eq_true rfl⟩) rfl (fun h04 H locs q9 E9 ce9 hw g1 g2 g3 g4 => ?_) (fun h04 H locs hw => ?_)
  · have hF := zif_f h04 hF
    have hw : zWd G A s (zCO ad ob k sv kE kR fb ft fs rws nx ct ch ln oo) H locs := hw
    by_cases hc5 : u1.1 = 5
    · have hF := zif_t hc5 hF
      have gE : E9 = "java/util/NoSuchElementException" := g4.trans (by rw [hc5]; rfl)
      subst gE
      refine vx_catch (name := "java/util/NoSuchElementException") (E := "java/util/NoSuchElementException") hown [] ⟨0, 8, 11, 42⟩ [] (by rw [hTab]; rfl) (fun _ h9 => nomatch h9) (by decide) (by decide) (hts (.classLink RL 42 "java/util/NoSuchElementException") (by decide +kernel)) (va_Nw.use rfl (hK.2.cast (by decide))) g1 g2 g3 ?_
      refine lv_astore_n (lv' := [(2, .ref q9), (0, .ref (ad 0)), (1, .ref ob)]) hx hb dL_errorPosition_11 rfl hl (by decide) rfl (fun ls hl => ?_)
      refine lv_iconst (v := (1 : Int32)) hx hb dL_errorPosition_12 (by decide) ?_
      obtain rfl := Option.some.inj hF
      exact hret _ _ _ _ rfl hw dL_errorPosition_13
    have hF := zif_f hc5 hF
    exact nomatch hF
  have hF := zif_t h04 hF
  have hw : zWd G A s (zCO ad ob k sv kE kR fb ft fs rws nx ct ch ln oo) H locs := hw
  refine lv_i2l hx hb dL_errorPosition_6 rfl ?_
  obtain ⟨hi3, hF⟩ := zck_in hF
  refine va_last hx hb hK.1 hw.1 hw.2.1 hw.2.2 11 0 rfl rfl hi3 dL_errorPosition_7 (fun H locs hP hD hS => ?_)
  have hw : zWd G A s (zCO ad ob k sv kE kR fb ft fs rws nx ct ch ln (vp_updL oo (0 : Int32).toNatClampNeg u1.2.toInt64)) H locs := ⟨hP, hD, hS⟩
  refine lv_goto (tgt := 14) hx hb dL_errorPosition_8 (by decide) ?_
  refine lv_iconst (v := (0 : Int32)) hx hb dL_errorPosition_14 (by decide) ?_
  obtain rfl := Option.some.inj hF
  exact hret _ _ _ _ rfl hw dL_errorPosition_15

/-! SealedBoardLaw.reason(LSealedBoard;Z[J)I -/
abbrev rmL_reason : Room := { frames := 7, cells := 1, slots := 6, locals := 103 }
theorem kdL_reason : yL_reason.cls ≠ "java/lang/invoke/MethodHandle" ∧ yL_reason.cls ≠ "java/lang/invoke/VarHandle" ∧ (parseMethodDescriptor yL_reason.desc).map (fun d => d.parameters.length) = some 3 := by decide +kernel
def fL_reason (kR : Int32) (oo : Nat → Int64) (p1 : Int32) : Option (Int32 × (Nat → Int64)) := (zbd (fX4_reason kR p1) (fun u1 => (if u1.1 = 0 then (zck (zin (0 : Int32) 1) (some ((0 : Int32), (vp_updL oo (0 : Int32).toNatClampNeg u1.2.toInt64)))) else (if u1.1 = 5 then (some ((1 : Int32), oo)) else none))))
set_option maxHeartbeats 400000 in
set_option maxRecDepth 100000 in
theorem mL_reason (l : Launch) (hl9 : l.stackTraces = false) (G : va_G) (k : Nat → ClassId) (ad : Nat → Nat) (ob : Nat) (sz : Nat) (sv : Int32) (kE : Int32) (kR : Int32) (fb : Nat → Int64) (ft : Nat → Int64) (fs : Nat → Int64) (rws : Nat → Int64) (nx : Int32) (ct : Int32) (ch : Nat → Int32) (ln : Int32) (oo : Nat → Int64) (p1 : Int32) (o : Int32 × (Nat → Int64)) (hF : fL_reason kR oo p1 = some o) : zMIc l yL_reason wsL_reason rmL_reason G k (zCO ad ob k sv kE kR fb ft fs rws nx ct ch ln oo) sz [.ref (ad 0), .int p1, .ref ob] 1 6 o.1 (zCO ad ob k sv kE kR fb ft fs rws nx ct ch ln o.2) := by
  refine zof_W (cc := cL_reason) (nL := 4) (own := RL) (by decide) rfl rfl (Nat.le_of_ble_eq_true rfl) ?_
  intro p e s m args below meth c A Q C0 hK hA hret hTab ls hl hw
  have hl : lv_has ls 4 [(0, .ref (ad 0)), (1, .int p1), (2, .ref ob)] := hl
  obtain ⟨hx, hb, hr, hml, hown, hts, hlocks⟩ := id C0
  obtain ⟨H, hH⟩ : ∃ z, z = s.heap := ⟨_, rfl⟩
  rw [← hH] at hw ⊢
  unfold fL_reason at hF
  refine lv_aload_n hx hb dL_reason_0 rfl (lv_at hl 2 rfl) ?_
  refine lv_iconst (v := (0 : Int32)) hx hb dL_reason_1 (by decide) ?_
  refine lv_aload_n hx hb dL_reason_2 rfl (lv_at hl 0 rfl) ?_
  refine lv_iload_n hx hb dL_reason_3 rfl (lv_at hl 1 rfl) ?_
  obtain ⟨u1, hq2, hF⟩ := zbd_t hF
  refine zgoXI3 (o0 := u1.1) (wa := []) (wc := (zC ad k sv kE kR fb ft fs rws nx ct ch ln)) (wc' := (zC ad k sv kE kR fb ft fs rws nx ct ch ln)) (wr := [(ob, .inl (k 0, 1, .inr (.inl oo)))]) hw hA (zVx3 (wa := []) (wc := (zC ad k sv kE kR fb ft fs rws nx ct ch ln)) (wr := [(ob, .inl (k 0, 1, .inr (.inl oo)))]) (As := [.int p1]) (rest := [.int (0 : Int32), .ref ob]) ⟨hx, hb, hml, hown, hts⟩ (mX4_reason l hl9 G k ad H.size sv kE kR fb ft fs rws nx ct ch ln p1 u1 hq2) (cwV 1 hts gL_reason_X4_reason rfl rfl rfl kdX4_reason ⟨Nat.le_of_ble_eq_true rfl, Nat.le_of_ble_eq_true rfl⟩) hK hA hw 0 rfl rfl rfl rfl hl.1 rfl (Nat.le_of_ble_eq_true rfl) dL_reason_4 ⟨Nat.le_of_ble_eq_true rfl, Nat.le_of_ble_eq_true rfl⟩) rfl (fun h04 H locs q9 E9 ce9 hw g1 g2 g3 g4 => ?_) (fun h04 H locs hw => ?_)
  · have hF := zif_f h04 hF
    have hw : zWd G A s (zCO ad ob k sv kE kR fb ft fs rws nx ct ch ln oo) H locs := hw
    by_cases hc5 : u1.1 = 5
    · have hF := zif_t hc5 hF
      have gE : E9 = "java/util/NoSuchElementException" := g4.trans (by rw [hc5]; rfl)
      subst gE
      refine vx_catch (name := "java/util/NoSuchElementException") (E := "java/util/NoSuchElementException") hown [] ⟨0, 9, 12, 42⟩ [] (by rw [hTab]; rfl) (fun _ h9 => nomatch h9) (by decide) (by decide) (hts (.classLink RL 42 "java/util/NoSuchElementException") (by decide +kernel)) (va_Nw.use rfl (hK.2.cast (by decide))) g1 g2 g3 ?_
      refine lv_astore_n (lv' := [(3, .ref q9), (0, .ref (ad 0)), (1, .int p1), (2, .ref ob)]) hx hb dL_reason_12 rfl hl (by decide) rfl (fun ls hl => ?_)
      refine lv_iconst (v := (1 : Int32)) hx hb dL_reason_13 (by decide) ?_
      obtain rfl := Option.some.inj hF
      exact hret _ _ _ _ rfl hw dL_reason_14
    have hF := zif_f hc5 hF
    exact nomatch hF
  have hF := zif_t h04 hF
  have hw : zWd G A s (zCO ad ob k sv kE kR fb ft fs rws nx ct ch ln oo) H locs := hw
  refine lv_i2l hx hb dL_reason_7 rfl ?_
  obtain ⟨hi3, hF⟩ := zck_in hF
  refine va_last hx hb hK.1 hw.1 hw.2.1 hw.2.2 11 0 rfl rfl hi3 dL_reason_8 (fun H locs hP hD hS => ?_)
  have hw : zWd G A s (zCO ad ob k sv kE kR fb ft fs rws nx ct ch ln (vp_updL oo (0 : Int32).toNatClampNeg u1.2.toInt64)) H locs := ⟨hP, hD, hS⟩
  refine lv_goto (tgt := 15) hx hb dL_reason_9 (by decide) ?_
  refine lv_iconst (v := (0 : Int32)) hx hb dL_reason_15 (by decide) ?_
  obtain rfl := Option.some.inj hF
  exact hret _ _ _ _ rfl hw dL_reason_16

/-! SealedBoardLaw.picture(LSealedBoard;I[J)I -/
abbrev rmL_picture : Room := { frames := 8, cells := 1, slots := 6, locals := 124 }
theorem kdL_picture : yL_picture.cls ≠ "java/lang/invoke/MethodHandle" ∧ yL_picture.cls ≠ "java/lang/invoke/VarHandle" ∧ (parseMethodDescriptor yL_picture.desc).map (fun d => d.parameters.length) = some 3 := by decide +kernel
def fL_picture (fb : Nat → Int64) (oo : Nat → Int64) (p1 : Int32) : Option (Int32 × (Nat → Int64)) := (zbd (fX4_picture fb p1) (fun u1 => (if u1.1 = 0 then (zck (zin (0 : Int32) 1) (some ((0 : Int32), (vp_updL oo (0 : Int32).toNatClampNeg u1.2.toInt64)))) else (if u1.1 = 1 then (some ((1 : Int32), oo)) else none))))
set_option maxHeartbeats 400000 in
set_option maxRecDepth 100000 in
theorem mL_picture (l : Launch) (hl9 : l.stackTraces = false) (G : va_G) (k : Nat → ClassId) (ad : Nat → Nat) (ob : Nat) (sz : Nat) (sv : Int32) (kE : Int32) (kR : Int32) (fb : Nat → Int64) (ft : Nat → Int64) (fs : Nat → Int64) (rws : Nat → Int64) (nx : Int32) (ct : Int32) (ch : Nat → Int32) (ln : Int32) (oo : Nat → Int64) (p1 : Int32) (o : Int32 × (Nat → Int64)) (hF : fL_picture fb oo p1 = some o) : zMIc l yL_picture wsL_picture rmL_picture G k (zCO ad ob k sv kE kR fb ft fs rws nx ct ch ln oo) sz [.ref (ad 0), .int p1, .ref ob] 1 6 o.1 (zCO ad ob k sv kE kR fb ft fs rws nx ct ch ln o.2) := by
  refine zof_W (cc := cL_picture) (nL := 4) (own := RL) (by decide) rfl rfl (Nat.le_of_ble_eq_true rfl) ?_
  intro p e s m args below meth c A Q C0 hK hA hret hTab ls hl hw
  have hl : lv_has ls 4 [(0, .ref (ad 0)), (1, .int p1), (2, .ref ob)] := hl
  obtain ⟨hx, hb, hr, hml, hown, hts, hlocks⟩ := id C0
  obtain ⟨H, hH⟩ : ∃ z, z = s.heap := ⟨_, rfl⟩
  rw [← hH] at hw ⊢
  unfold fL_picture at hF
  refine lv_aload_n hx hb dL_picture_0 rfl (lv_at hl 2 rfl) ?_
  refine lv_iconst (v := (0 : Int32)) hx hb dL_picture_1 (by decide) ?_
  refine lv_aload_n hx hb dL_picture_2 rfl (lv_at hl 0 rfl) ?_
  refine lv_iload_n hx hb dL_picture_3 rfl (lv_at hl 1 rfl) ?_
  obtain ⟨u1, hq2, hF⟩ := zbd_t hF
  refine zgoXI3 (o0 := u1.1) (wa := []) (wc := (zC ad k sv kE kR fb ft fs rws nx ct ch ln)) (wc' := (zC ad k sv kE kR fb ft fs rws nx ct ch ln)) (wr := [(ob, .inl (k 0, 1, .inr (.inl oo)))]) hw hA (zVx3 (wa := []) (wc := (zC ad k sv kE kR fb ft fs rws nx ct ch ln)) (wr := [(ob, .inl (k 0, 1, .inr (.inl oo)))]) (As := [.int p1]) (rest := [.int (0 : Int32), .ref ob]) ⟨hx, hb, hml, hown, hts⟩ (mX4_picture l hl9 G k ad H.size sv kE kR fb ft fs rws nx ct ch ln p1 u1 hq2) (cwV 1 hts gL_picture_X4_picture rfl rfl rfl kdX4_picture ⟨Nat.le_of_ble_eq_true rfl, Nat.le_of_ble_eq_true rfl⟩) hK hA hw 0 rfl rfl rfl rfl hl.1 rfl (Nat.le_of_ble_eq_true rfl) dL_picture_4 ⟨Nat.le_of_ble_eq_true rfl, Nat.le_of_ble_eq_true rfl⟩) rfl (fun h04 H locs q9 E9 ce9 hw g1 g2 g3 g4 => ?_) (fun h04 H locs hw => ?_)
  · have hF := zif_f h04 hF
    have hw : zWd G A s (zCO ad ob k sv kE kR fb ft fs rws nx ct ch ln oo) H locs := hw
    by_cases hc5 : u1.1 = 1
    · have hF := zif_t hc5 hF
      have gE : E9 = "java/lang/IndexOutOfBoundsException" := g4.trans (by rw [hc5]; rfl)
      subst gE
      refine vx_catch (name := "java/lang/IndexOutOfBoundsException") (E := "java/lang/IndexOutOfBoundsException") hown [] ⟨0, 9, 12, 13⟩ [] (by rw [hTab]; rfl) (fun _ h9 => nomatch h9) (by decide) (by decide) (hts (.classLink RL 13 "java/lang/IndexOutOfBoundsException") (by decide +kernel)) (va_Nw.use rfl (hK.2.cast (by decide))) g1 g2 g3 ?_
      refine lv_astore_n (lv' := [(3, .ref q9), (0, .ref (ad 0)), (1, .int p1), (2, .ref ob)]) hx hb dL_picture_12 rfl hl (by decide) rfl (fun ls hl => ?_)
      refine lv_iconst (v := (1 : Int32)) hx hb dL_picture_13 (by decide) ?_
      obtain rfl := Option.some.inj hF
      exact hret _ _ _ _ rfl hw dL_picture_14
    have hF := zif_f hc5 hF
    exact nomatch hF
  have hF := zif_t h04 hF
  have hw : zWd G A s (zCO ad ob k sv kE kR fb ft fs rws nx ct ch ln oo) H locs := hw
  refine lv_i2l hx hb dL_picture_7 rfl ?_
  obtain ⟨hi3, hF⟩ := zck_in hF
  refine va_last hx hb hK.1 hw.1 hw.2.1 hw.2.2 11 0 rfl rfl hi3 dL_picture_8 (fun H locs hP hD hS => ?_)
  have hw : zWd G A s (zCO ad ob k sv kE kR fb ft fs rws nx ct ch ln (vp_updL oo (0 : Int32).toNatClampNeg u1.2.toInt64)) H locs := ⟨hP, hD, hS⟩
  refine lv_goto (tgt := 15) hx hb dL_picture_9 (by decide) ?_
  refine lv_iconst (v := (0 : Int32)) hx hb dL_picture_15 (by decide) ?_
  obtain rfl := Option.some.inj hF
  exact hret _ _ _ _ rfl hw dL_picture_16

/-! SealedBoardLaw.account(LSealedBoard;I[J)I -/
abbrev rmL_account : Room := { frames := 7, cells := 1, slots := 6, locals := 103 }
theorem kdL_account : yL_account.cls ≠ "java/lang/invoke/MethodHandle" ∧ yL_account.cls ≠ "java/lang/invoke/VarHandle" ∧ (parseMethodDescriptor yL_account.desc).map (fun d => d.parameters.length) = some 3 := by decide +kernel
def fL_account (fb : Nat → Int64) (ct : Int32) (ln : Int32) (oo : Nat → Int64) (p1 : Int32) : Option (Int32 × (Nat → Int64)) := (zbd (fX4_account fb ct ln p1) (fun u1 => (if u1.1 = 0 then (zck (zin (0 : Int32) 1) (some ((0 : Int32), (vp_updL oo (0 : Int32).toNatClampNeg u1.2.toInt64)))) else (if u1.1 = 2 then (some ((1 : Int32), oo)) else none))))
set_option maxHeartbeats 400000 in
set_option maxRecDepth 100000 in
theorem mL_account (l : Launch) (hl9 : l.stackTraces = false) (G : va_G) (k : Nat → ClassId) (ad : Nat → Nat) (ob : Nat) (sz : Nat) (sv : Int32) (kE : Int32) (kR : Int32) (fb : Nat → Int64) (ft : Nat → Int64) (fs : Nat → Int64) (rws : Nat → Int64) (nx : Int32) (ct : Int32) (ch : Nat → Int32) (ln : Int32) (oo : Nat → Int64) (p1 : Int32) (o : Int32 × (Nat → Int64)) (hF : fL_account fb ct ln oo p1 = some o) : zMIc l yL_account wsL_account rmL_account G k (zCO ad ob k sv kE kR fb ft fs rws nx ct ch ln oo) sz [.ref (ad 0), .int p1, .ref ob] 1 6 o.1 (zCO ad ob k sv kE kR fb ft fs rws nx ct ch ln o.2) := by
  refine zof_W (cc := cL_account) (nL := 4) (own := RL) (by decide) rfl rfl (Nat.le_of_ble_eq_true rfl) ?_
  intro p e s m args below meth c A Q C0 hK hA hret hTab ls hl hw
  have hl : lv_has ls 4 [(0, .ref (ad 0)), (1, .int p1), (2, .ref ob)] := hl
  obtain ⟨hx, hb, hr, hml, hown, hts, hlocks⟩ := id C0
  obtain ⟨H, hH⟩ : ∃ z, z = s.heap := ⟨_, rfl⟩
  rw [← hH] at hw ⊢
  unfold fL_account at hF
  refine lv_aload_n hx hb dL_account_0 rfl (lv_at hl 2 rfl) ?_
  refine lv_iconst (v := (0 : Int32)) hx hb dL_account_1 (by decide) ?_
  refine lv_aload_n hx hb dL_account_2 rfl (lv_at hl 0 rfl) ?_
  refine lv_iload_n hx hb dL_account_3 rfl (lv_at hl 1 rfl) ?_
  obtain ⟨u1, hq2, hF⟩ := zbd_t hF
  refine zgoXI3 (o0 := u1.1) (wa := []) (wc := (zC ad k sv kE kR fb ft fs rws nx ct ch ln)) (wc' := (zC ad k sv kE kR fb ft fs rws nx ct ch ln)) (wr := [(ob, .inl (k 0, 1, .inr (.inl oo)))]) hw hA (zVx3 (wa := []) (wc := (zC ad k sv kE kR fb ft fs rws nx ct ch ln)) (wr := [(ob, .inl (k 0, 1, .inr (.inl oo)))]) (As := [.int p1]) (rest := [.int (0 : Int32), .ref ob]) ⟨hx, hb, hml, hown, hts⟩ (mX4_account l hl9 G k ad H.size sv kE kR fb ft fs rws nx ct ch ln p1 u1 hq2) (cwV 1 hts gL_account_X4_account rfl rfl rfl kdX4_account ⟨Nat.le_of_ble_eq_true rfl, Nat.le_of_ble_eq_true rfl⟩) hK hA hw 0 rfl rfl rfl rfl hl.1 rfl (Nat.le_of_ble_eq_true rfl) dL_account_4 ⟨Nat.le_of_ble_eq_true rfl, Nat.le_of_ble_eq_true rfl⟩) rfl (fun h04 H locs q9 E9 ce9 hw g1 g2 g3 g4 => ?_) (fun h04 H locs hw => ?_)
  · have hF := zif_f h04 hF
    have hw : zWd G A s (zCO ad ob k sv kE kR fb ft fs rws nx ct ch ln oo) H locs := hw
    by_cases hc5 : u1.1 = 2
    · have hF := zif_t hc5 hF
      have gE : E9 = "java/lang/IllegalArgumentException" := g4.trans (by rw [hc5]; rfl)
      subst gE
      refine vx_catch (name := "java/lang/IllegalArgumentException") (E := "java/lang/IllegalArgumentException") hown [] ⟨0, 9, 12, 15⟩ [] (by rw [hTab]; rfl) (fun _ h9 => nomatch h9) (by decide) (by decide) (hts (.classLink RL 15 "java/lang/IllegalArgumentException") (by decide +kernel)) (va_Nw.use rfl (hK.2.cast (by decide))) g1 g2 g3 ?_
      refine lv_astore_n (lv' := [(3, .ref q9), (0, .ref (ad 0)), (1, .int p1), (2, .ref ob)]) hx hb dL_account_12 rfl hl (by decide) rfl (fun ls hl => ?_)
      refine lv_iconst (v := (1 : Int32)) hx hb dL_account_13 (by decide) ?_
      obtain rfl := Option.some.inj hF
      exact hret _ _ _ _ rfl hw dL_account_14
    have hF := zif_f hc5 hF
    exact nomatch hF
  have hF := zif_t h04 hF
  have hw : zWd G A s (zCO ad ob k sv kE kR fb ft fs rws nx ct ch ln oo) H locs := hw
  refine lv_i2l hx hb dL_account_7 rfl ?_
  obtain ⟨hi3, hF⟩ := zck_in hF
  refine va_last hx hb hK.1 hw.1 hw.2.1 hw.2.2 11 0 rfl rfl hi3 dL_account_8 (fun H locs hP hD hS => ?_)
  have hw : zWd G A s (zCO ad ob k sv kE kR fb ft fs rws nx ct ch ln (vp_updL oo (0 : Int32).toNatClampNeg u1.2.toInt64)) H locs := ⟨hP, hD, hS⟩
  refine lv_goto (tgt := 15) hx hb dL_account_9 (by decide) ?_
  refine lv_iconst (v := (0 : Int32)) hx hb dL_account_15 (by decide) ?_
  obtain rfl := Option.some.inj hF
  exact hret _ _ _ _ rfl hw dL_account_16

/-! SealedBoardLaw.lay(LSealedBoard;III[J)I -/
abbrev rmL_lay : Room := { frames := 8, cells := 4, slots := 24, locals := 126 }
theorem kdL_lay : yL_lay.cls ≠ "java/lang/invoke/MethodHandle" ∧ yL_lay.cls ≠ "java/lang/invoke/VarHandle" ∧ (parseMethodDescriptor yL_lay.desc).map (fun d => d.parameters.length) = some 5 := by decide +kernel
def fL_lay (fb : Nat → Int64) (rws : Nat → Int64) (nx : Int32) (ct : Int32) (oo : Nat → Int64) (p1 : Int32) (p2 : Int32) (p3 : Int32) : Option (Int32 × (Nat → Int64) × (Nat → Int64) × Int32 × Int32 × (Nat → Int64)) := (zbd (fX4_lay fb rws nx ct p1 p2 p3) (fun u1 => (if u1.1 = 0 then (zck (zin (0 : Int32) 1) (some ((0 : Int32), u1.2.2.1, u1.2.2.2.1, u1.2.2.2.2.1, u1.2.2.2.2.2, (vp_updL oo (0 : Int32).toNatClampNeg u1.2.1.toInt64)))) else (if u1.1 = 1 then (some ((1 : Int32), u1.2.2.1, u1.2.2.2.1, u1.2.2.2.2.1, u1.2.2.2.2.2, oo)) else (if u1.1 = 2 then (some ((2 : Int32), u1.2.2.1, u1.2.2.2.1, u1.2.2.2.2.1, u1.2.2.2.2.2, oo)) else (if u1.1 = 3 then (some ((3 : Int32), u1.2.2.1, u1.2.2.2.1, u1.2.2.2.2.1, u1.2.2.2.2.2, oo)) else none))))))
set_option maxHeartbeats 400000 in
set_option maxRecDepth 100000 in
theorem mL_lay (l : Launch) (hl9 : l.stackTraces = false) (G : va_G) (k : Nat → ClassId) (ad : Nat → Nat) (ob : Nat) (sz : Nat) (sv : Int32) (kE : Int32) (kR : Int32) (fb : Nat → Int64) (ft : Nat → Int64) (fs : Nat → Int64) (rws : Nat → Int64) (nx : Int32) (ct : Int32) (ch : Nat → Int32) (ln : Int32) (oo : Nat → Int64) (p1 : Int32) (p2 : Int32) (p3 : Int32) (o : Int32 × (Nat → Int64) × (Nat → Int64) × Int32 × Int32 × (Nat → Int64)) (hF : fL_lay fb rws nx ct oo p1 p2 p3 = some o) : zMIc l yL_lay wsL_lay rmL_lay G k (zCO ad ob k sv kE kR fb ft fs rws nx ct ch ln oo) sz [.ref (ad 0), .int p1, .int p2, .int p3, .ref ob] 4 24 o.1 (zCO ad ob k sv kE kR o.2.1 ft fs o.2.2.1 o.2.2.2.1 o.2.2.2.2.1 ch ln o.2.2.2.2.2) := by
  refine zof_W (cc := cL_lay) (nL := 6) (own := RL) (by decide) rfl rfl (Nat.le_of_ble_eq_true rfl) ?_
  intro p e s m args below meth c A Q C0 hK hA hret hTab ls hl hw
  have hl : lv_has ls 6 [(0, .ref (ad 0)), (1, .int p1), (2, .int p2), (3, .int p3), (4, .ref ob)] := hl
  obtain ⟨hx, hb, hr, hml, hown, hts, hlocks⟩ := id C0
  obtain ⟨H, hH⟩ : ∃ z, z = s.heap := ⟨_, rfl⟩
  rw [← hH] at hw ⊢
  unfold fL_lay at hF
  refine lv_aload hx hb dL_lay_0 (lv_at hl 4 rfl) ?_
  refine lv_iconst (v := (0 : Int32)) hx hb dL_lay_2 (by decide) ?_
  refine lv_aload_n hx hb dL_lay_3 rfl (lv_at hl 0 rfl) ?_
  refine lv_iload_n hx hb dL_lay_4 rfl (lv_at hl 1 rfl) ?_
  refine lv_iload_n hx hb dL_lay_5 rfl (lv_at hl 2 rfl) ?_
  refine lv_iload_n hx hb dL_lay_6 rfl (lv_at hl 3 rfl) ?_
  obtain ⟨u1, hq2, hF⟩ := zbd_t hF
  refine zgoXI3 (o0 := u1.1) (wa := []) (wc := (zC ad k sv kE kR fb ft fs rws nx ct ch ln)) (wc' := (zC ad k sv kE kR u1.2.2.1 ft fs u1.2.2.2.1 u1.2.2.2.2.1 u1.2.2.2.2.2 ch ln)) (wr := [(ob, .inl (k 0, 1, .inr (.inl oo)))]) hw hA (zVx3 (wa := []) (wc := (zC ad k sv kE kR fb ft fs rws nx ct ch ln)) (wr := [(ob, .inl (k 0, 1, .inr (.inl oo)))]) (As := [.int p1, .int p2, .int p3]) (rest := [.int (0 : Int32), .ref ob]) ⟨hx, hb, hml, hown, hts⟩ (mX4_lay l hl9 G k ad H.size sv kE kR fb ft fs rws nx ct ch ln p1 p2 p3 u1 hq2) (cwV 3 hts gL_lay_X4_lay rfl rfl rfl kdX4_lay ⟨Nat.le_of_ble_eq_true rfl, Nat.le_of_ble_eq_true rfl⟩) hK hA hw 0 rfl rfl rfl rfl hl.1 rfl (Nat.le_of_ble_eq_true rfl) dL_lay_7 ⟨Nat.le_of_ble_eq_true rfl, Nat.le_of_ble_eq_true rfl⟩) rfl (fun h04 H locs q9 E9 ce9 hw g1 g2 g3 g4 => ?_) (fun h04 H locs hw => ?_)
  · have hF := zif_f h04 hF
    have hw : zWd G A s (zCO ad ob k sv kE kR u1.2.2.1 ft fs u1.2.2.2.1 u1.2.2.2.2.1 u1.2.2.2.2.2 ch ln oo) H locs := hw
    by_cases hc5 : u1.1 = 1
    · have hF := zif_t hc5 hF
      have gE : E9 = "java/lang/IndexOutOfBoundsException" := g4.trans (by rw [hc5]; rfl)
      subst gE
      refine vx_catch (name := "java/lang/IndexOutOfBoundsException") (E := "java/lang/IndexOutOfBoundsException") hown [] ⟨0, 12, 15, 13⟩ [⟨0, 12, 19, 15⟩, ⟨0, 12, 23, 17⟩] (by rw [hTab]; rfl) (fun _ h9 => nomatch h9) (by decide) (by decide) (hts (.classLink RL 13 "java/lang/IndexOutOfBoundsException") (by decide +kernel)) (va_Nw.use rfl (hK.2.cast (by decide))) g1 g2 g3 ?_
      refine lv_astore (lv' := [(5, .ref q9), (0, .ref (ad 0)), (1, .int p1), (2, .int p2), (3, .int p3), (4, .ref ob)]) hx hb dL_lay_15 hl (by decide) rfl (fun ls hl => ?_)
      refine lv_iconst (v := (1 : Int32)) hx hb dL_lay_17 (by decide) ?_
      obtain rfl := Option.some.inj hF
      exact hret _ _ _ _ rfl hw dL_lay_18
    have hF := zif_f hc5 hF
    by_cases hc6 : u1.1 = 2
    · have hF := zif_t hc6 hF
      have gE : E9 = "java/lang/IllegalArgumentException" := g4.trans (by rw [hc6]; rfl)
      subst gE
      refine vx_catch (name := "java/lang/IllegalArgumentException") (E := "java/lang/IllegalArgumentException") hown [⟨0, 12, 15, 13⟩] ⟨0, 12, 19, 15⟩ [⟨0, 12, 23, 17⟩] (by rw [hTab]; rfl) (List.forall_mem_cons.mpr ⟨Or.inr ⟨by decide, "java/lang/IndexOutOfBoundsException", (hts (.classLink RL 13 "java/lang/IndexOutOfBoundsException") (by decide +kernel)), hK.2.nc (q := ("java/lang/IllegalArgumentException", "java/lang/IndexOutOfBoundsException")) (by decide)⟩, (fun _ h9 => nomatch h9)⟩) (by decide) (by decide) (hts (.classLink RL 15 "java/lang/IllegalArgumentException") (by decide +kernel)) (va_Nw.use rfl (hK.2.cast (by decide))) g1 g2 g3 ?_
      refine lv_astore (lv' := [(5, .ref q9), (0, .ref (ad 0)), (1, .int p1), (2, .int p2), (3, .int p3), (4, .ref ob)]) hx hb dL_lay_19 hl (by decide) rfl (fun ls hl => ?_)
      refine lv_iconst (v := (2 : Int32)) hx hb dL_lay_21 (by decide) ?_
      obtain rfl := Option.some.inj hF
      exact hret _ _ _ _ rfl hw dL_lay_22
    have hF := zif_f hc6 hF
    by_cases hc7 : u1.1 = 3
    · have hF := zif_t hc7 hF
      have gE : E9 = "java/lang/IllegalStateException" := g4.trans (by rw [hc7]; rfl)
      subst gE
      refine vx_catch (name := "java/lang/IllegalStateException") (E := "java/lang/IllegalStateException") hown [⟨0, 12, 15, 13⟩, ⟨0, 12, 19, 15⟩] ⟨0, 12, 23, 17⟩ [] (by rw [hTab]; rfl) (List.forall_mem_cons.mpr ⟨Or.inr ⟨by decide, "java/lang/IndexOutOfBoundsException", (hts (.classLink RL 13 "java/lang/IndexOutOfBoundsException") (by decide +kernel)), hK.2.nc (q := ("java/lang/IllegalStateException", "java/lang/IndexOutOfBoundsException")) (by decide)⟩, (List.forall_mem_cons.mpr ⟨Or.inr ⟨by decide, "java/lang/IllegalArgumentException", (hts (.classLink RL 15 "java/lang/IllegalArgumentException") (by decide +kernel)), hK.2.nc (q := ("java/lang/IllegalStateException", "java/lang/IllegalArgumentException")) (by decide)⟩, (fun _ h9 => nomatch h9)⟩)⟩) (by decide) (by decide) (hts (.classLink RL 17 "java/lang/IllegalStateException") (by decide +kernel)) (va_Nw.use rfl (hK.2.cast (by decide))) g1 g2 g3 ?_
      refine lv_astore (lv' := [(5, .ref q9), (0, .ref (ad 0)), (1, .int p1), (2, .int p2), (3, .int p3), (4, .ref ob)]) hx hb dL_lay_23 hl (by decide) rfl (fun ls hl => ?_)
      refine lv_iconst (v := (3 : Int32)) hx hb dL_lay_25 (by decide) ?_
      obtain rfl := Option.some.inj hF
      exact hret _ _ _ _ rfl hw dL_lay_26
    have hF := zif_f hc7 hF
    exact nomatch hF
  have hF := zif_t h04 hF
  have hw : zWd G A s (zCO ad ob k sv kE kR u1.2.2.1 ft fs u1.2.2.2.1 u1.2.2.2.2.1 u1.2.2.2.2.2 ch ln oo) H locs := hw
  refine lv_i2l hx hb dL_lay_10 rfl ?_
  obtain ⟨hi3, hF⟩ := zck_in hF
  refine va_last hx hb hK.1 hw.1 hw.2.1 hw.2.2 11 0 rfl rfl hi3 dL_lay_11 (fun H locs hP hD hS => ?_)
  have hw : zWd G A s (zCO ad ob k sv kE kR u1.2.2.1 ft fs u1.2.2.2.1 u1.2.2.2.2.1 u1.2.2.2.2.2 ch ln (vp_updL oo (0 : Int32).toNatClampNeg u1.2.1.toInt64)) H locs := ⟨hP, hD, hS⟩
  refine lv_goto (tgt := 27) hx hb dL_lay_12 (by decide) ?_
  refine lv_iconst (v := (0 : Int32)) hx hb dL_lay_27 (by decide) ?_
  obtain rfl := Option.some.inj hF
  exact hret _ _ _ _ rfl hw dL_lay_28

/-! SealedBoardLaw.wall(LSealedBoard;I[J)I -/
abbrev rmL_wall : Room := { frames := 8, cells := 2, slots := 12, locals := 124 }
theorem kdL_wall : yL_wall.cls ≠ "java/lang/invoke/MethodHandle" ∧ yL_wall.cls ≠ "java/lang/invoke/VarHandle" ∧ (parseMethodDescriptor yL_wall.desc).map (fun d => d.parameters.length) = some 3 := by decide +kernel
def fL_wall (fb : Nat → Int64) (rws : Nat → Int64) (nx : Int32) (ct : Int32) (oo : Nat → Int64) (p1 : Int32) : Option (Int32 × (Nat → Int64) × (Nat → Int64) × Int32 × Int32 × (Nat → Int64)) := (zbd (fX4_wall fb rws nx ct p1) (fun u1 => (if u1.1 = 0 then (zck (zin (0 : Int32) 1) (some ((0 : Int32), u1.2.2.1, u1.2.2.2.1, u1.2.2.2.2.1, u1.2.2.2.2.2, (vp_updL oo (0 : Int32).toNatClampNeg u1.2.1.toInt64)))) else (if u1.1 = 1 then (some ((1 : Int32), u1.2.2.1, u1.2.2.2.1, u1.2.2.2.2.1, u1.2.2.2.2.2, oo)) else (if u1.1 = 3 then (some ((2 : Int32), u1.2.2.1, u1.2.2.2.1, u1.2.2.2.2.1, u1.2.2.2.2.2, oo)) else none)))))
set_option maxHeartbeats 400000 in
set_option maxRecDepth 100000 in
theorem mL_wall (l : Launch) (hl9 : l.stackTraces = false) (G : va_G) (k : Nat → ClassId) (ad : Nat → Nat) (ob : Nat) (sz : Nat) (sv : Int32) (kE : Int32) (kR : Int32) (fb : Nat → Int64) (ft : Nat → Int64) (fs : Nat → Int64) (rws : Nat → Int64) (nx : Int32) (ct : Int32) (ch : Nat → Int32) (ln : Int32) (oo : Nat → Int64) (p1 : Int32) (o : Int32 × (Nat → Int64) × (Nat → Int64) × Int32 × Int32 × (Nat → Int64)) (hF : fL_wall fb rws nx ct oo p1 = some o) : zMIc l yL_wall wsL_wall rmL_wall G k (zCO ad ob k sv kE kR fb ft fs rws nx ct ch ln oo) sz [.ref (ad 0), .int p1, .ref ob] 2 12 o.1 (zCO ad ob k sv kE kR o.2.1 ft fs o.2.2.1 o.2.2.2.1 o.2.2.2.2.1 ch ln o.2.2.2.2.2) := by
  refine zof_W (cc := cL_wall) (nL := 4) (own := RL) (by decide) rfl rfl (Nat.le_of_ble_eq_true rfl) ?_
  intro p e s m args below meth c A Q C0 hK hA hret hTab ls hl hw
  have hl : lv_has ls 4 [(0, .ref (ad 0)), (1, .int p1), (2, .ref ob)] := hl
  obtain ⟨hx, hb, hr, hml, hown, hts, hlocks⟩ := id C0
  obtain ⟨H, hH⟩ : ∃ z, z = s.heap := ⟨_, rfl⟩
  rw [← hH] at hw ⊢
  unfold fL_wall at hF
  refine lv_aload_n hx hb dL_wall_0 rfl (lv_at hl 2 rfl) ?_
  refine lv_iconst (v := (0 : Int32)) hx hb dL_wall_1 (by decide) ?_
  refine lv_aload_n hx hb dL_wall_2 rfl (lv_at hl 0 rfl) ?_
  refine lv_iload_n hx hb dL_wall_3 rfl (lv_at hl 1 rfl) ?_
  obtain ⟨u1, hq2, hF⟩ := zbd_t hF
  refine zgoXI3 (o0 := u1.1) (wa := []) (wc := (zC ad k sv kE kR fb ft fs rws nx ct ch ln)) (wc' := (zC ad k sv kE kR u1.2.2.1 ft fs u1.2.2.2.1 u1.2.2.2.2.1 u1.2.2.2.2.2 ch ln)) (wr := [(ob, .inl (k 0, 1, .inr (.inl oo)))]) hw hA (zVx3 (wa := []) (wc := (zC ad k sv kE kR fb ft fs rws nx ct ch ln)) (wr := [(ob, .inl (k 0, 1, .inr (.inl oo)))]) (As := [.int p1]) (rest := [.int (0 : Int32), .ref ob]) ⟨hx, hb, hml, hown, hts⟩ (mX4_wall l hl9 G k ad H.size sv kE kR fb ft fs rws nx ct ch ln p1 u1 hq2) (cwV 1 hts gL_wall_X4_wall rfl rfl rfl kdX4_wall ⟨Nat.le_of_ble_eq_true rfl, Nat.le_of_ble_eq_true rfl⟩) hK hA hw 0 rfl rfl rfl rfl hl.1 rfl (Nat.le_of_ble_eq_true rfl) dL_wall_4 ⟨Nat.le_of_ble_eq_true rfl, Nat.le_of_ble_eq_true rfl⟩) rfl (fun h04 H locs q9 E9 ce9 hw g1 g2 g3 g4 => ?_) (fun h04 H locs hw => ?_)
  · have hF := zif_f h04 hF
    have hw : zWd G A s (zCO ad ob k sv kE kR u1.2.2.1 ft fs u1.2.2.2.1 u1.2.2.2.2.1 u1.2.2.2.2.2 ch ln oo) H locs := hw
    by_cases hc5 : u1.1 = 1
    · have hF := zif_t hc5 hF
      have gE : E9 = "java/lang/IndexOutOfBoundsException" := g4.trans (by rw [hc5]; rfl)
      subst gE
      refine vx_catch (name := "java/lang/IndexOutOfBoundsException") (E := "java/lang/IndexOutOfBoundsException") hown [] ⟨0, 9, 12, 13⟩ [⟨0, 9, 15, 17⟩] (by rw [hTab]; rfl) (fun _ h9 => nomatch h9) (by decide) (by decide) (hts (.classLink RL 13 "java/lang/IndexOutOfBoundsException") (by decide +kernel)) (va_Nw.use rfl (hK.2.cast (by decide))) g1 g2 g3 ?_
      refine lv_astore_n (lv' := [(3, .ref q9), (0, .ref (ad 0)), (1, .int p1), (2, .ref ob)]) hx hb dL_wall_12 rfl hl (by decide) rfl (fun ls hl => ?_)
      refine lv_iconst (v := (1 : Int32)) hx hb dL_wall_13 (by decide) ?_
      obtain rfl := Option.some.inj hF
      exact hret _ _ _ _ rfl hw dL_wall_14
    have hF := zif_f hc5 hF
    by_cases hc6 : u1.1 = 3
    · have hF := zif_t hc6 hF
      have gE : E9 = "java/lang/IllegalStateException" := g4.trans (by rw [hc6]; rfl)
      subst gE
      refine vx_catch (name := "java/lang/IllegalStateException") (E := "java/lang/IllegalStateException") hown [⟨0, 9, 12, 13⟩] ⟨0, 9, 15, 17⟩ [] (by rw [hTab]; rfl) (List.forall_mem_cons.mpr ⟨Or.inr ⟨by decide, "java/lang/IndexOutOfBoundsException", (hts (.classLink RL 13 "java/lang/IndexOutOfBoundsException") (by decide +kernel)), hK.2.nc (q := ("java/lang/IllegalStateException", "java/lang/IndexOutOfBoundsException")) (by decide)⟩, (fun _ h9 => nomatch h9)⟩) (by decide) (by decide) (hts (.classLink RL 17 "java/lang/IllegalStateException") (by decide +kernel)) (va_Nw.use rfl (hK.2.cast (by decide))) g1 g2 g3 ?_
      refine lv_astore_n (lv' := [(3, .ref q9), (0, .ref (ad 0)), (1, .int p1), (2, .ref ob)]) hx hb dL_wall_15 rfl hl (by decide) rfl (fun ls hl => ?_)
      refine lv_iconst (v := (2 : Int32)) hx hb dL_wall_16 (by decide) ?_
      obtain rfl := Option.some.inj hF
      exact hret _ _ _ _ rfl hw dL_wall_17
    have hF := zif_f hc6 hF
    exact nomatch hF
  have hF := zif_t h04 hF
  have hw : zWd G A s (zCO ad ob k sv kE kR u1.2.2.1 ft fs u1.2.2.2.1 u1.2.2.2.2.1 u1.2.2.2.2.2 ch ln oo) H locs := hw
  refine lv_i2l hx hb dL_wall_7 rfl ?_
  obtain ⟨hi3, hF⟩ := zck_in hF
  refine va_last hx hb hK.1 hw.1 hw.2.1 hw.2.2 11 0 rfl rfl hi3 dL_wall_8 (fun H locs hP hD hS => ?_)
  have hw : zWd G A s (zCO ad ob k sv kE kR u1.2.2.1 ft fs u1.2.2.2.1 u1.2.2.2.2.1 u1.2.2.2.2.2 ch ln (vp_updL oo (0 : Int32).toNatClampNeg u1.2.1.toInt64)) H locs := ⟨hP, hD, hS⟩
  refine lv_goto (tgt := 18) hx hb dL_wall_9 (by decide) ?_
  refine lv_iconst (v := (0 : Int32)) hx hb dL_wall_18 (by decide) ?_
  obtain rfl := Option.some.inj hF
  exact hret _ _ _ _ rfl hw dL_wall_19

/-! SealedBoardLaw.move(LSealedBoard;II[J)I -/
abbrev rmL_move : Room := { frames := 8, cells := 3, slots := 18, locals := 126 }
theorem kdL_move : yL_move.cls ≠ "java/lang/invoke/MethodHandle" ∧ yL_move.cls ≠ "java/lang/invoke/VarHandle" ∧ (parseMethodDescriptor yL_move.desc).map (fun d => d.parameters.length) = some 4 := by decide +kernel
def fL_move (kR : Int32) (fb : Nat → Int64) (rws : Nat → Int64) (nx : Int32) (ct : Int32) (oo : Nat → Int64) (p1 : Int32) (p2 : Int32) : Option (Int32 × Int32 × (Nat → Int64) × (Nat → Int64) × Int32 × Int32 × (Nat → Int64)) := (zbd (fX4_move kR fb rws nx ct p1 p2) (fun u1 => (if u1.1 = 0 then (zck (zin (0 : Int32) 1) (some ((0 : Int32), u1.2.2.1, u1.2.2.2.1, u1.2.2.2.2.1, u1.2.2.2.2.2.1, u1.2.2.2.2.2.2, (vp_updL oo (0 : Int32).toNatClampNeg u1.2.1.toInt64)))) else (if u1.1 = 1 then (some ((1 : Int32), u1.2.2.1, u1.2.2.2.1, u1.2.2.2.2.1, u1.2.2.2.2.2.1, u1.2.2.2.2.2.2, oo)) else (if u1.1 = 4 then (some ((2 : Int32), u1.2.2.1, u1.2.2.2.1, u1.2.2.2.2.1, u1.2.2.2.2.2.1, u1.2.2.2.2.2.2, oo)) else none)))))
set_option maxHeartbeats 400000 in
set_option maxRecDepth 100000 in
theorem mL_move (l : Launch) (hl9 : l.stackTraces = false) (G : va_G) (k : Nat → ClassId) (ad : Nat → Nat) (ob : Nat) (sz : Nat) (sv : Int32) (kE : Int32) (kR : Int32) (fb : Nat → Int64) (ft : Nat → Int64) (fs : Nat → Int64) (rws : Nat → Int64) (nx : Int32) (ct : Int32) (ch : Nat → Int32) (ln : Int32) (oo : Nat → Int64) (p1 : Int32) (p2 : Int32) (o : Int32 × Int32 × (Nat → Int64) × (Nat → Int64) × Int32 × Int32 × (Nat → Int64)) (hF : fL_move kR fb rws nx ct oo p1 p2 = some o) : zMIc l yL_move wsL_move rmL_move G k (zCO ad ob k sv kE kR fb ft fs rws nx ct ch ln oo) sz [.ref (ad 0), .int p1, .int p2, .ref ob] 3 18 o.1 (zCO ad ob k sv kE o.2.1 o.2.2.1 ft fs o.2.2.2.1 o.2.2.2.2.1 o.2.2.2.2.2.1 ch ln o.2.2.2.2.2.2) := by
  refine zof_W (cc := cL_move) (nL := 5) (own := RL) (by decide) rfl rfl (Nat.le_of_ble_eq_true rfl) ?_
  intro p e s m args below meth c A Q C0 hK hA hret hTab ls hl hw
  have hl : lv_has ls 5 [(0, .ref (ad 0)), (1, .int p1), (2, .int p2), (3, .ref ob)] := hl
  obtain ⟨hx, hb, hr, hml, hown, hts, hlocks⟩ := id C0
  obtain ⟨H, hH⟩ : ∃ z, z = s.heap := ⟨_, rfl⟩
  rw [← hH] at hw ⊢
  unfold fL_move at hF
  refine lv_aload_n hx hb dL_move_0 rfl (lv_at hl 3 rfl) ?_
  refine lv_iconst (v := (0 : Int32)) hx hb dL_move_1 (by decide) ?_
  refine lv_aload_n hx hb dL_move_2 rfl (lv_at hl 0 rfl) ?_
  refine lv_iload_n hx hb dL_move_3 rfl (lv_at hl 1 rfl) ?_
  refine lv_iload_n hx hb dL_move_4 rfl (lv_at hl 2 rfl) ?_
  obtain ⟨u1, hq2, hF⟩ := zbd_t hF
  refine zgoXI3 (o0 := u1.1) (wa := []) (wc := (zC ad k sv kE kR fb ft fs rws nx ct ch ln)) (wc' := (zC ad k sv kE u1.2.2.1 u1.2.2.2.1 ft fs u1.2.2.2.2.1 u1.2.2.2.2.2.1 u1.2.2.2.2.2.2 ch ln)) (wr := [(ob, .inl (k 0, 1, .inr (.inl oo)))]) hw hA (zVx3 (wa := []) (wc := (zC ad k sv kE kR fb ft fs rws nx ct ch ln)) (wr := [(ob, .inl (k 0, 1, .inr (.inl oo)))]) (As := [.int p1, .int p2]) (rest := [.int (0 : Int32), .ref ob]) ⟨hx, hb, hml, hown, hts⟩ (mX4_move l hl9 G k ad H.size sv kE kR fb ft fs rws nx ct ch ln p1 p2 u1 hq2) (cwV 2 hts gL_move_X4_move rfl rfl rfl kdX4_move ⟨Nat.le_of_ble_eq_true rfl, Nat.le_of_ble_eq_true rfl⟩) hK hA hw 0 rfl rfl rfl rfl hl.1 rfl (Nat.le_of_ble_eq_true rfl) dL_move_5 ⟨Nat.le_of_ble_eq_true rfl, Nat.le_of_ble_eq_true rfl⟩) rfl (fun h04 H locs q9 E9 ce9 hw g1 g2 g3 g4 => ?_) (fun h04 H locs hw => ?_)
  · have hF := zif_f h04 hF
    have hw : zWd G A s (zCO ad ob k sv kE u1.2.2.1 u1.2.2.2.1 ft fs u1.2.2.2.2.1 u1.2.2.2.2.2.1 u1.2.2.2.2.2.2 ch ln oo) H locs := hw
    by_cases hc5 : u1.1 = 1
    · have hF := zif_t hc5 hF
      have gE : E9 = "java/lang/IndexOutOfBoundsException" := g4.trans (by rw [hc5]; rfl)
      subst gE
      refine vx_catch (name := "java/lang/IndexOutOfBoundsException") (E := "java/lang/IndexOutOfBoundsException") hown [] ⟨0, 10, 13, 13⟩ [⟨0, 10, 17, 27⟩] (by rw [hTab]; rfl) (fun _ h9 => nomatch h9) (by decide) (by decide) (hts (.classLink RL 13 "java/lang/IndexOutOfBoundsException") (by decide +kernel)) (va_Nw.use rfl (hK.2.cast (by decide))) g1 g2 g3 ?_
      refine lv_astore (lv' := [(4, .ref q9), (0, .ref (ad 0)), (1, .int p1), (2, .int p2), (3, .ref ob)]) hx hb dL_move_13 hl (by decide) rfl (fun ls hl => ?_)
      refine lv_iconst (v := (1 : Int32)) hx hb dL_move_15 (by decide) ?_
      obtain rfl := Option.some.inj hF
      exact hret _ _ _ _ rfl hw dL_move_16
    have hF := zif_f hc5 hF
    by_cases hc6 : u1.1 = 4
    · have hF := zif_t hc6 hF
      have gE : E9 = "java/lang/UnsupportedOperationException" := g4.trans (by rw [hc6]; rfl)
      subst gE
      refine vx_catch (name := "java/lang/UnsupportedOperationException") (E := "java/lang/UnsupportedOperationException") hown [⟨0, 10, 13, 13⟩] ⟨0, 10, 17, 27⟩ [] (by rw [hTab]; rfl) (List.forall_mem_cons.mpr ⟨Or.inr ⟨by decide, "java/lang/IndexOutOfBoundsException", (hts (.classLink RL 13 "java/lang/IndexOutOfBoundsException") (by decide +kernel)), hK.2.nc (q := ("java/lang/UnsupportedOperationException", "java/lang/IndexOutOfBoundsException")) (by decide)⟩, (fun _ h9 => nomatch h9)⟩) (by decide) (by decide) (hts (.classLink RL 27 "java/lang/UnsupportedOperationException") (by decide +kernel)) (va_Nw.use rfl (hK.2.cast (by decide))) g1 g2 g3 ?_
      refine lv_astore (lv' := [(4, .ref q9), (0, .ref (ad 0)), (1, .int p1), (2, .int p2), (3, .ref ob)]) hx hb dL_move_17 hl (by decide) rfl (fun ls hl => ?_)
      refine lv_iconst (v := (2 : Int32)) hx hb dL_move_19 (by decide) ?_
      obtain rfl := Option.some.inj hF
      exact hret _ _ _ _ rfl hw dL_move_20
    have hF := zif_f hc6 hF
    exact nomatch hF
  have hF := zif_t h04 hF
  have hw : zWd G A s (zCO ad ob k sv kE u1.2.2.1 u1.2.2.2.1 ft fs u1.2.2.2.2.1 u1.2.2.2.2.2.1 u1.2.2.2.2.2.2 ch ln oo) H locs := hw
  refine lv_i2l hx hb dL_move_8 rfl ?_
  obtain ⟨hi3, hF⟩ := zck_in hF
  refine va_last hx hb hK.1 hw.1 hw.2.1 hw.2.2 11 0 rfl rfl hi3 dL_move_9 (fun H locs hP hD hS => ?_)
  have hw : zWd G A s (zCO ad ob k sv kE u1.2.2.1 u1.2.2.2.1 ft fs u1.2.2.2.2.1 u1.2.2.2.2.2.1 u1.2.2.2.2.2.2 ch ln (vp_updL oo (0 : Int32).toNatClampNeg u1.2.1.toInt64)) H locs := ⟨hP, hD, hS⟩
  refine lv_goto (tgt := 21) hx hb dL_move_10 (by decide) ?_
  refine lv_iconst (v := (0 : Int32)) hx hb dL_move_21 (by decide) ?_
  obtain rfl := Option.some.inj hF
  exact hret _ _ _ _ rfl hw dL_move_22

/-! SealedBoardLaw.door(LSealedBoard;I[J)I -/
abbrev rmL_door : Room := { frames := 8, cells := 2, slots := 12, locals := 124 }
theorem kdL_door : yL_door.cls ≠ "java/lang/invoke/MethodHandle" ∧ yL_door.cls ≠ "java/lang/invoke/VarHandle" ∧ (parseMethodDescriptor yL_door.desc).map (fun d => d.parameters.length) = some 3 := by decide +kernel
def fL_door (kR : Int32) (fb : Nat → Int64) (rws : Nat → Int64) (nx : Int32) (ct : Int32) (oo : Nat → Int64) (p1 : Int32) : Option (Int32 × Int32 × (Nat → Int64) × (Nat → Int64) × Int32 × Int32 × (Nat → Int64)) := (zbd (fX4_door kR fb rws nx ct p1) (fun u1 => (if u1.1 = 0 then (zck (zin (0 : Int32) 1) (some ((0 : Int32), u1.2.2.1, u1.2.2.2.1, u1.2.2.2.2.1, u1.2.2.2.2.2.1, u1.2.2.2.2.2.2, (vp_updL oo (0 : Int32).toNatClampNeg u1.2.1.toInt64)))) else (if u1.1 = 1 then (some ((1 : Int32), u1.2.2.1, u1.2.2.2.1, u1.2.2.2.2.1, u1.2.2.2.2.2.1, u1.2.2.2.2.2.2, oo)) else (if u1.1 = 4 then (some ((2 : Int32), u1.2.2.1, u1.2.2.2.1, u1.2.2.2.2.1, u1.2.2.2.2.2.1, u1.2.2.2.2.2.2, oo)) else none)))))
set_option maxHeartbeats 400000 in
set_option maxRecDepth 100000 in
theorem mL_door (l : Launch) (hl9 : l.stackTraces = false) (G : va_G) (k : Nat → ClassId) (ad : Nat → Nat) (ob : Nat) (sz : Nat) (sv : Int32) (kE : Int32) (kR : Int32) (fb : Nat → Int64) (ft : Nat → Int64) (fs : Nat → Int64) (rws : Nat → Int64) (nx : Int32) (ct : Int32) (ch : Nat → Int32) (ln : Int32) (oo : Nat → Int64) (p1 : Int32) (o : Int32 × Int32 × (Nat → Int64) × (Nat → Int64) × Int32 × Int32 × (Nat → Int64)) (hF : fL_door kR fb rws nx ct oo p1 = some o) : zMIc l yL_door wsL_door rmL_door G k (zCO ad ob k sv kE kR fb ft fs rws nx ct ch ln oo) sz [.ref (ad 0), .int p1, .ref ob] 2 12 o.1 (zCO ad ob k sv kE o.2.1 o.2.2.1 ft fs o.2.2.2.1 o.2.2.2.2.1 o.2.2.2.2.2.1 ch ln o.2.2.2.2.2.2) := by
  refine zof_W (cc := cL_door) (nL := 4) (own := RL) (by decide) rfl rfl (Nat.le_of_ble_eq_true rfl) ?_
  intro p e s m args below meth c A Q C0 hK hA hret hTab ls hl hw
  have hl : lv_has ls 4 [(0, .ref (ad 0)), (1, .int p1), (2, .ref ob)] := hl
  obtain ⟨hx, hb, hr, hml, hown, hts, hlocks⟩ := id C0
  obtain ⟨H, hH⟩ : ∃ z, z = s.heap := ⟨_, rfl⟩
  rw [← hH] at hw ⊢
  unfold fL_door at hF
  refine lv_aload_n hx hb dL_door_0 rfl (lv_at hl 2 rfl) ?_
  refine lv_iconst (v := (0 : Int32)) hx hb dL_door_1 (by decide) ?_
  refine lv_aload_n hx hb dL_door_2 rfl (lv_at hl 0 rfl) ?_
  refine lv_iload_n hx hb dL_door_3 rfl (lv_at hl 1 rfl) ?_
  obtain ⟨u1, hq2, hF⟩ := zbd_t hF
  refine zgoXI3 (o0 := u1.1) (wa := []) (wc := (zC ad k sv kE kR fb ft fs rws nx ct ch ln)) (wc' := (zC ad k sv kE u1.2.2.1 u1.2.2.2.1 ft fs u1.2.2.2.2.1 u1.2.2.2.2.2.1 u1.2.2.2.2.2.2 ch ln)) (wr := [(ob, .inl (k 0, 1, .inr (.inl oo)))]) hw hA (zVx3 (wa := []) (wc := (zC ad k sv kE kR fb ft fs rws nx ct ch ln)) (wr := [(ob, .inl (k 0, 1, .inr (.inl oo)))]) (As := [.int p1]) (rest := [.int (0 : Int32), .ref ob]) ⟨hx, hb, hml, hown, hts⟩ (mX4_door l hl9 G k ad H.size sv kE kR fb ft fs rws nx ct ch ln p1 u1 hq2) (cwV 1 hts gL_door_X4_door rfl rfl rfl kdX4_door ⟨Nat.le_of_ble_eq_true rfl, Nat.le_of_ble_eq_true rfl⟩) hK hA hw 0 rfl rfl rfl rfl hl.1 rfl (Nat.le_of_ble_eq_true rfl) dL_door_4 ⟨Nat.le_of_ble_eq_true rfl, Nat.le_of_ble_eq_true rfl⟩) rfl (fun h04 H locs q9 E9 ce9 hw g1 g2 g3 g4 => ?_) (fun h04 H locs hw => ?_)
  · have hF := zif_f h04 hF
    have hw : zWd G A s (zCO ad ob k sv kE u1.2.2.1 u1.2.2.2.1 ft fs u1.2.2.2.2.1 u1.2.2.2.2.2.1 u1.2.2.2.2.2.2 ch ln oo) H locs := hw
    by_cases hc5 : u1.1 = 1
    · have hF := zif_t hc5 hF
      have gE : E9 = "java/lang/IndexOutOfBoundsException" := g4.trans (by rw [hc5]; rfl)
      subst gE
      refine vx_catch (name := "java/lang/IndexOutOfBoundsException") (E := "java/lang/IndexOutOfBoundsException") hown [] ⟨0, 9, 12, 13⟩ [⟨0, 9, 15, 27⟩] (by rw [hTab]; rfl) (fun _ h9 => nomatch h9) (by decide) (by decide) (hts (.classLink RL 13 "java/lang/IndexOutOfBoundsException") (by decide +kernel)) (va_Nw.use rfl (hK.2.cast (by decide))) g1 g2 g3 ?_
      refine lv_astore_n (lv' := [(3, .ref q9), (0, .ref (ad 0)), (1, .int p1), (2, .ref ob)]) hx hb dL_door_12 rfl hl (by decide) rfl (fun ls hl => ?_)
      refine lv_iconst (v := (1 : Int32)) hx hb dL_door_13 (by decide) ?_
      obtain rfl := Option.some.inj hF
      exact hret _ _ _ _ rfl hw dL_door_14
    have hF := zif_f hc5 hF
    by_cases hc6 : u1.1 = 4
    · have hF := zif_t hc6 hF
      have gE : E9 = "java/lang/UnsupportedOperationException" := g4.trans (by rw [hc6]; rfl)
      subst gE
      refine vx_catch (name := "java/lang/UnsupportedOperationException") (E := "java/lang/UnsupportedOperationException") hown [⟨0, 9, 12, 13⟩] ⟨0, 9, 15, 27⟩ [] (by rw [hTab]; rfl) (List.forall_mem_cons.mpr ⟨Or.inr ⟨by decide, "java/lang/IndexOutOfBoundsException", (hts (.classLink RL 13 "java/lang/IndexOutOfBoundsException") (by decide +kernel)), hK.2.nc (q := ("java/lang/UnsupportedOperationException", "java/lang/IndexOutOfBoundsException")) (by decide)⟩, (fun _ h9 => nomatch h9)⟩) (by decide) (by decide) (hts (.classLink RL 27 "java/lang/UnsupportedOperationException") (by decide +kernel)) (va_Nw.use rfl (hK.2.cast (by decide))) g1 g2 g3 ?_
      refine lv_astore_n (lv' := [(3, .ref q9), (0, .ref (ad 0)), (1, .int p1), (2, .ref ob)]) hx hb dL_door_15 rfl hl (by decide) rfl (fun ls hl => ?_)
      refine lv_iconst (v := (2 : Int32)) hx hb dL_door_16 (by decide) ?_
      obtain rfl := Option.some.inj hF
      exact hret _ _ _ _ rfl hw dL_door_17
    have hF := zif_f hc6 hF
    exact nomatch hF
  have hF := zif_t h04 hF
  have hw : zWd G A s (zCO ad ob k sv kE u1.2.2.1 u1.2.2.2.1 ft fs u1.2.2.2.2.1 u1.2.2.2.2.2.1 u1.2.2.2.2.2.2 ch ln oo) H locs := hw
  refine lv_i2l hx hb dL_door_7 rfl ?_
  obtain ⟨hi3, hF⟩ := zck_in hF
  refine va_last hx hb hK.1 hw.1 hw.2.1 hw.2.2 11 0 rfl rfl hi3 dL_door_8 (fun H locs hP hD hS => ?_)
  have hw : zWd G A s (zCO ad ob k sv kE u1.2.2.1 u1.2.2.2.1 ft fs u1.2.2.2.2.1 u1.2.2.2.2.2.1 u1.2.2.2.2.2.2 ch ln (vp_updL oo (0 : Int32).toNatClampNeg u1.2.1.toInt64)) H locs := ⟨hP, hD, hS⟩
  refine lv_goto (tgt := 18) hx hb dL_door_9 (by decide) ?_
  refine lv_iconst (v := (0 : Int32)) hx hb dL_door_18 (by decide) ?_
  obtain rfl := Option.some.inj hF
  exact hret _ _ _ _ rfl hw dL_door_19

/-! SealedBoardLaw.buy(LSealedBoard;I[J)I -/
abbrev rmL_buy : Room := { frames := 8, cells := 2, slots := 12, locals := 124 }
theorem kdL_buy : yL_buy.cls ≠ "java/lang/invoke/MethodHandle" ∧ yL_buy.cls ≠ "java/lang/invoke/VarHandle" ∧ (parseMethodDescriptor yL_buy.desc).map (fun d => d.parameters.length) = some 3 := by decide +kernel
def fL_buy (kR : Int32) (fb : Nat → Int64) (rws : Nat → Int64) (nx : Int32) (ct : Int32) (oo : Nat → Int64) (p1 : Int32) : Option (Int32 × Int32 × (Nat → Int64) × (Nat → Int64) × Int32 × Int32 × (Nat → Int64)) := (zbd (fX4_buy kR fb rws nx ct p1) (fun u1 => (if u1.1 = 0 then (zck (zin (0 : Int32) 1) (some ((0 : Int32), u1.2.2.1, u1.2.2.2.1, u1.2.2.2.2.1, u1.2.2.2.2.2.1, u1.2.2.2.2.2.2, (vp_updL oo (0 : Int32).toNatClampNeg u1.2.1.toInt64)))) else (if u1.1 = 1 then (some ((1 : Int32), u1.2.2.1, u1.2.2.2.1, u1.2.2.2.2.1, u1.2.2.2.2.2.1, u1.2.2.2.2.2.2, oo)) else (if u1.1 = 4 then (some ((2 : Int32), u1.2.2.1, u1.2.2.2.1, u1.2.2.2.2.1, u1.2.2.2.2.2.1, u1.2.2.2.2.2.2, oo)) else none)))))
set_option maxHeartbeats 400000 in
set_option maxRecDepth 100000 in
theorem mL_buy (l : Launch) (hl9 : l.stackTraces = false) (G : va_G) (k : Nat → ClassId) (ad : Nat → Nat) (ob : Nat) (sz : Nat) (sv : Int32) (kE : Int32) (kR : Int32) (fb : Nat → Int64) (ft : Nat → Int64) (fs : Nat → Int64) (rws : Nat → Int64) (nx : Int32) (ct : Int32) (ch : Nat → Int32) (ln : Int32) (oo : Nat → Int64) (p1 : Int32) (o : Int32 × Int32 × (Nat → Int64) × (Nat → Int64) × Int32 × Int32 × (Nat → Int64)) (hF : fL_buy kR fb rws nx ct oo p1 = some o) : zMIc l yL_buy wsL_buy rmL_buy G k (zCO ad ob k sv kE kR fb ft fs rws nx ct ch ln oo) sz [.ref (ad 0), .int p1, .ref ob] 2 12 o.1 (zCO ad ob k sv kE o.2.1 o.2.2.1 ft fs o.2.2.2.1 o.2.2.2.2.1 o.2.2.2.2.2.1 ch ln o.2.2.2.2.2.2) := by
  refine zof_W (cc := cL_buy) (nL := 4) (own := RL) (by decide) rfl rfl (Nat.le_of_ble_eq_true rfl) ?_
  intro p e s m args below meth c A Q C0 hK hA hret hTab ls hl hw
  have hl : lv_has ls 4 [(0, .ref (ad 0)), (1, .int p1), (2, .ref ob)] := hl
  obtain ⟨hx, hb, hr, hml, hown, hts, hlocks⟩ := id C0
  obtain ⟨H, hH⟩ : ∃ z, z = s.heap := ⟨_, rfl⟩
  rw [← hH] at hw ⊢
  unfold fL_buy at hF
  refine lv_aload_n hx hb dL_buy_0 rfl (lv_at hl 2 rfl) ?_
  refine lv_iconst (v := (0 : Int32)) hx hb dL_buy_1 (by decide) ?_
  refine lv_aload_n hx hb dL_buy_2 rfl (lv_at hl 0 rfl) ?_
  refine lv_iload_n hx hb dL_buy_3 rfl (lv_at hl 1 rfl) ?_
  obtain ⟨u1, hq2, hF⟩ := zbd_t hF
  refine zgoXI3 (o0 := u1.1) (wa := []) (wc := (zC ad k sv kE kR fb ft fs rws nx ct ch ln)) (wc' := (zC ad k sv kE u1.2.2.1 u1.2.2.2.1 ft fs u1.2.2.2.2.1 u1.2.2.2.2.2.1 u1.2.2.2.2.2.2 ch ln)) (wr := [(ob, .inl (k 0, 1, .inr (.inl oo)))]) hw hA (zVx3 (wa := []) (wc := (zC ad k sv kE kR fb ft fs rws nx ct ch ln)) (wr := [(ob, .inl (k 0, 1, .inr (.inl oo)))]) (As := [.int p1]) (rest := [.int (0 : Int32), .ref ob]) ⟨hx, hb, hml, hown, hts⟩ (mX4_buy l hl9 G k ad H.size sv kE kR fb ft fs rws nx ct ch ln p1 u1 hq2) (cwV 1 hts gL_buy_X4_buy rfl rfl rfl kdX4_buy ⟨Nat.le_of_ble_eq_true rfl, Nat.le_of_ble_eq_true rfl⟩) hK hA hw 0 rfl rfl rfl rfl hl.1 rfl (Nat.le_of_ble_eq_true rfl) dL_buy_4 ⟨Nat.le_of_ble_eq_true rfl, Nat.le_of_ble_eq_true rfl⟩) rfl (fun h04 H locs q9 E9 ce9 hw g1 g2 g3 g4 => ?_) (fun h04 H locs hw => ?_)
  · have hF := zif_f h04 hF
    have hw : zWd G A s (zCO ad ob k sv kE u1.2.2.1 u1.2.2.2.1 ft fs u1.2.2.2.2.1 u1.2.2.2.2.2.1 u1.2.2.2.2.2.2 ch ln oo) H locs := hw
    by_cases hc5 : u1.1 = 1
    · have hF := zif_t hc5 hF
      have gE : E9 = "java/lang/IndexOutOfBoundsException" := g4.trans (by rw [hc5]; rfl)
      subst gE
      refine vx_catch (name := "java/lang/IndexOutOfBoundsException") (E := "java/lang/IndexOutOfBoundsException") hown [] ⟨0, 9, 12, 13⟩ [⟨0, 9, 15, 27⟩] (by rw [hTab]; rfl) (fun _ h9 => nomatch h9) (by decide) (by decide) (hts (.classLink RL 13 "java/lang/IndexOutOfBoundsException") (by decide +kernel)) (va_Nw.use rfl (hK.2.cast (by decide))) g1 g2 g3 ?_
      refine lv_astore_n (lv' := [(3, .ref q9), (0, .ref (ad 0)), (1, .int p1), (2, .ref ob)]) hx hb dL_buy_12 rfl hl (by decide) rfl (fun ls hl => ?_)
      refine lv_iconst (v := (1 : Int32)) hx hb dL_buy_13 (by decide) ?_
      obtain rfl := Option.some.inj hF
      exact hret _ _ _ _ rfl hw dL_buy_14
    have hF := zif_f hc5 hF
    by_cases hc6 : u1.1 = 4
    · have hF := zif_t hc6 hF
      have gE : E9 = "java/lang/UnsupportedOperationException" := g4.trans (by rw [hc6]; rfl)
      subst gE
      refine vx_catch (name := "java/lang/UnsupportedOperationException") (E := "java/lang/UnsupportedOperationException") hown [⟨0, 9, 12, 13⟩] ⟨0, 9, 15, 27⟩ [] (by rw [hTab]; rfl) (List.forall_mem_cons.mpr ⟨Or.inr ⟨by decide, "java/lang/IndexOutOfBoundsException", (hts (.classLink RL 13 "java/lang/IndexOutOfBoundsException") (by decide +kernel)), hK.2.nc (q := ("java/lang/UnsupportedOperationException", "java/lang/IndexOutOfBoundsException")) (by decide)⟩, (fun _ h9 => nomatch h9)⟩) (by decide) (by decide) (hts (.classLink RL 27 "java/lang/UnsupportedOperationException") (by decide +kernel)) (va_Nw.use rfl (hK.2.cast (by decide))) g1 g2 g3 ?_
      refine lv_astore_n (lv' := [(3, .ref q9), (0, .ref (ad 0)), (1, .int p1), (2, .ref ob)]) hx hb dL_buy_15 rfl hl (by decide) rfl (fun ls hl => ?_)
      refine lv_iconst (v := (2 : Int32)) hx hb dL_buy_16 (by decide) ?_
      obtain rfl := Option.some.inj hF
      exact hret _ _ _ _ rfl hw dL_buy_17
    have hF := zif_f hc6 hF
    exact nomatch hF
  have hF := zif_t h04 hF
  have hw : zWd G A s (zCO ad ob k sv kE u1.2.2.1 u1.2.2.2.1 ft fs u1.2.2.2.2.1 u1.2.2.2.2.2.1 u1.2.2.2.2.2.2 ch ln oo) H locs := hw
  refine lv_i2l hx hb dL_buy_7 rfl ?_
  obtain ⟨hi3, hF⟩ := zck_in hF
  refine va_last hx hb hK.1 hw.1 hw.2.1 hw.2.2 11 0 rfl rfl hi3 dL_buy_8 (fun H locs hP hD hS => ?_)
  have hw : zWd G A s (zCO ad ob k sv kE u1.2.2.1 u1.2.2.2.1 ft fs u1.2.2.2.2.1 u1.2.2.2.2.2.1 u1.2.2.2.2.2.2 ch ln (vp_updL oo (0 : Int32).toNatClampNeg u1.2.1.toInt64)) H locs := ⟨hP, hD, hS⟩
  refine lv_goto (tgt := 18) hx hb dL_buy_9 (by decide) ?_
  refine lv_iconst (v := (0 : Int32)) hx hb dL_buy_18 (by decide) ?_
  obtain rfl := Option.some.inj hF
  exact hret _ _ _ _ rfl hw dL_buy_19

/-! SealedBoardLaw.square(LSealedBoard;II[J)I -/
abbrev rmL_square : Room := { frames := 8, cells := 2, slots := 12, locals := 124 }
theorem kdL_square : yL_square.cls ≠ "java/lang/invoke/MethodHandle" ∧ yL_square.cls ≠ "java/lang/invoke/VarHandle" ∧ (parseMethodDescriptor yL_square.desc).map (fun d => d.parameters.length) = some 4 := by decide +kernel
def fL_square (fb : Nat → Int64) (oo : Nat → Int64) (p1 : Int32) (p2 : Int32) : Option (Int32 × (Nat → Int64)) := (zbd (fX4_square fb p1 p2) (fun u1 => (if u1.1 = 0 then (zck (zin (0 : Int32) 1) (some ((0 : Int32), (vp_updL oo (0 : Int32).toNatClampNeg u1.2.toInt64)))) else (if u1.1 = 1 then (some ((1 : Int32), oo)) else (if u1.1 = 2 then (some ((2 : Int32), oo)) else none)))))
set_option maxHeartbeats 400000 in
set_option maxRecDepth 100000 in
theorem mL_square (l : Launch) (hl9 : l.stackTraces = false) (G : va_G) (k : Nat → ClassId) (ad : Nat → Nat) (ob : Nat) (sz : Nat) (sv : Int32) (kE : Int32) (kR : Int32) (fb : Nat → Int64) (ft : Nat → Int64) (fs : Nat → Int64) (rws : Nat → Int64) (nx : Int32) (ct : Int32) (ch : Nat → Int32) (ln : Int32) (oo : Nat → Int64) (p1 : Int32) (p2 : Int32) (o : Int32 × (Nat → Int64)) (hF : fL_square fb oo p1 p2 = some o) : zMIc l yL_square wsL_square rmL_square G k (zCO ad ob k sv kE kR fb ft fs rws nx ct ch ln oo) sz [.ref (ad 0), .int p1, .int p2, .ref ob] 2 12 o.1 (zCO ad ob k sv kE kR fb ft fs rws nx ct ch ln o.2) := by
  refine zof_W (cc := cL_square) (nL := 5) (own := RL) (by decide) rfl rfl (Nat.le_of_ble_eq_true rfl) ?_
  intro p e s m args below meth c A Q C0 hK hA hret hTab ls hl hw
  have hl : lv_has ls 5 [(0, .ref (ad 0)), (1, .int p1), (2, .int p2), (3, .ref ob)] := hl
  obtain ⟨hx, hb, hr, hml, hown, hts, hlocks⟩ := id C0
  obtain ⟨H, hH⟩ : ∃ z, z = s.heap := ⟨_, rfl⟩
  rw [← hH] at hw ⊢
  unfold fL_square at hF
  refine lv_aload_n hx hb dL_square_0 rfl (lv_at hl 3 rfl) ?_
  refine lv_iconst (v := (0 : Int32)) hx hb dL_square_1 (by decide) ?_
  refine lv_aload_n hx hb dL_square_2 rfl (lv_at hl 0 rfl) ?_
  refine lv_iload_n hx hb dL_square_3 rfl (lv_at hl 1 rfl) ?_
  refine lv_iload_n hx hb dL_square_4 rfl (lv_at hl 2 rfl) ?_
  obtain ⟨u1, hq2, hF⟩ := zbd_t hF
  refine zgoXI3 (o0 := u1.1) (wa := []) (wc := (zC ad k sv kE kR fb ft fs rws nx ct ch ln)) (wc' := (zC ad k sv kE kR fb ft fs rws nx ct ch ln)) (wr := [(ob, .inl (k 0, 1, .inr (.inl oo)))]) hw hA (zVx3 (wa := []) (wc := (zC ad k sv kE kR fb ft fs rws nx ct ch ln)) (wr := [(ob, .inl (k 0, 1, .inr (.inl oo)))]) (As := [.int p1, .int p2]) (rest := [.int (0 : Int32), .ref ob]) ⟨hx, hb, hml, hown, hts⟩ (mX4_square l hl9 G k ad H.size sv kE kR fb ft fs rws nx ct ch ln p1 p2 u1 hq2) (cwV 2 hts gL_square_X4_square rfl rfl rfl kdX4_square ⟨Nat.le_of_ble_eq_true rfl, Nat.le_of_ble_eq_true rfl⟩) hK hA hw 0 rfl rfl rfl rfl hl.1 rfl (Nat.le_of_ble_eq_true rfl) dL_square_5 ⟨Nat.le_of_ble_eq_true rfl, Nat.le_of_ble_eq_true rfl⟩) rfl (fun h04 H locs q9 E9 ce9 hw g1 g2 g3 g4 => ?_) (fun h04 H locs hw => ?_)
  · have hF := zif_f h04 hF
    have hw : zWd G A s (zCO ad ob k sv kE kR fb ft fs rws nx ct ch ln oo) H locs := hw
    by_cases hc5 : u1.1 = 1
    · have hF := zif_t hc5 hF
      have gE : E9 = "java/lang/IndexOutOfBoundsException" := g4.trans (by rw [hc5]; rfl)
      subst gE
      refine vx_catch (name := "java/lang/IndexOutOfBoundsException") (E := "java/lang/IndexOutOfBoundsException") hown [] ⟨0, 10, 13, 13⟩ [⟨0, 10, 17, 15⟩] (by rw [hTab]; rfl) (fun _ h9 => nomatch h9) (by decide) (by decide) (hts (.classLink RL 13 "java/lang/IndexOutOfBoundsException") (by decide +kernel)) (va_Nw.use rfl (hK.2.cast (by decide))) g1 g2 g3 ?_
      refine lv_astore (lv' := [(4, .ref q9), (0, .ref (ad 0)), (1, .int p1), (2, .int p2), (3, .ref ob)]) hx hb dL_square_13 hl (by decide) rfl (fun ls hl => ?_)
      refine lv_iconst (v := (1 : Int32)) hx hb dL_square_15 (by decide) ?_
      obtain rfl := Option.some.inj hF
      exact hret _ _ _ _ rfl hw dL_square_16
    have hF := zif_f hc5 hF
    by_cases hc6 : u1.1 = 2
    · have hF := zif_t hc6 hF
      have gE : E9 = "java/lang/IllegalArgumentException" := g4.trans (by rw [hc6]; rfl)
      subst gE
      refine vx_catch (name := "java/lang/IllegalArgumentException") (E := "java/lang/IllegalArgumentException") hown [⟨0, 10, 13, 13⟩] ⟨0, 10, 17, 15⟩ [] (by rw [hTab]; rfl) (List.forall_mem_cons.mpr ⟨Or.inr ⟨by decide, "java/lang/IndexOutOfBoundsException", (hts (.classLink RL 13 "java/lang/IndexOutOfBoundsException") (by decide +kernel)), hK.2.nc (q := ("java/lang/IllegalArgumentException", "java/lang/IndexOutOfBoundsException")) (by decide)⟩, (fun _ h9 => nomatch h9)⟩) (by decide) (by decide) (hts (.classLink RL 15 "java/lang/IllegalArgumentException") (by decide +kernel)) (va_Nw.use rfl (hK.2.cast (by decide))) g1 g2 g3 ?_
      refine lv_astore (lv' := [(4, .ref q9), (0, .ref (ad 0)), (1, .int p1), (2, .int p2), (3, .ref ob)]) hx hb dL_square_17 hl (by decide) rfl (fun ls hl => ?_)
      refine lv_iconst (v := (2 : Int32)) hx hb dL_square_19 (by decide) ?_
      obtain rfl := Option.some.inj hF
      exact hret _ _ _ _ rfl hw dL_square_20
    have hF := zif_f hc6 hF
    exact nomatch hF
  have hF := zif_t h04 hF
  have hw : zWd G A s (zCO ad ob k sv kE kR fb ft fs rws nx ct ch ln oo) H locs := hw
  refine lv_i2l hx hb dL_square_8 rfl ?_
  obtain ⟨hi3, hF⟩ := zck_in hF
  refine va_last hx hb hK.1 hw.1 hw.2.1 hw.2.2 11 0 rfl rfl hi3 dL_square_9 (fun H locs hP hD hS => ?_)
  have hw : zWd G A s (zCO ad ob k sv kE kR fb ft fs rws nx ct ch ln (vp_updL oo (0 : Int32).toNatClampNeg u1.2.toInt64)) H locs := ⟨hP, hD, hS⟩
  refine lv_goto (tgt := 21) hx hb dL_square_10 (by decide) ?_
  refine lv_iconst (v := (0 : Int32)) hx hb dL_square_21 (by decide) ?_
  obtain rfl := Option.some.inj hF
  exact hret _ _ _ _ rfl hw dL_square_22

/-! SealedBoardLaw.canMove(LSealedBoard;II[J)I -/
abbrev rmL_canMove : Room := { frames := 8, cells := 3, slots := 18, locals := 125 }
theorem kdL_canMove : yL_canMove.cls ≠ "java/lang/invoke/MethodHandle" ∧ yL_canMove.cls ≠ "java/lang/invoke/VarHandle" ∧ (parseMethodDescriptor yL_canMove.desc).map (fun d => d.parameters.length) = some 4 := by decide +kernel
def fL_canMove_16  (fb : Nat → Int64) (oo : Nat → Int64) (s0 : Int64) (s1 : Int32) : Option (Int32 × (Nat → Int64)) := (zck (zin s1 1) (some ((0 : Int32), (vp_updL oo s1.toNatClampNeg s0))))
def fL_canMove (fb : Nat → Int64) (oo : Nat → Int64) (p1 : Int32) (p2 : Int32) : Option (Int32 × (Nat → Int64)) := (zbd (fX4_canMove fb p1 p2) (fun u1 => (if u1.1 = 0 then (if u1.2 = 0 then (fL_canMove_16  fb  oo (0 : Int64) (0 : Int32)) else (fL_canMove_16  fb  oo (1 : Int64) (0 : Int32))) else (if u1.1 = 1 then (some ((1 : Int32), oo)) else (if u1.1 = 5 then (some ((2 : Int32), oo)) else none)))))
set_option maxHeartbeats 400000 in
set_option maxRecDepth 100000 in
theorem wL_canMove_16 {p : Program} {l : Launch} {e : Env} {s : State} {m : MethodId} {args : Array Value} {below : List Frame} {meth : Method} {c : Code} {A : Nat → Prop} {Q : State → Prop} {G : va_G} {k : Nat → ClassId} {ad : Nat → Nat} {ob : Nat} {sv : Int32} {kE : Int32} {kR : Int32} {fb : Nat → Int64} {ft : Nat → Int64} {fs : Nat → Int64} {rws : Nat → Int64} {nx : Int32} {ct : Int32} {ch : Nat → Int32} {ln : Int32} {o : Int32 × (Nat → Int64)} (C0 : zCx p s m args meth c wsL_canMove cL_canMove RL (some .int) 5) (hK : zKK G k A s s.heap) (hA : ∀ q : Nat, s.heap.size ≤ q → A q) (hret : zRI p l e rmL_canMove s m args below meth c cL_canMove G A 3 18 Q .int (zCO ad ob k sv kE kR fb ft fs rws nx ct ch ln o.2) o.1)  : ∀ (oo : Nat → Int64) (s0 : Int64) (s1 : Int32), fL_canMove_16  fb oo s0 s1 = some o → ∀ (H : Heap) (locs : List Loc) (ls : Array Slot), zWd G A s (zCO ad ob k sv kE kR fb ft fs rws nx ct ch ln oo) H locs → lv_has ls 5 [] → W p l e rmL_canMove s m args below meth c H locs 3 18 Q (F0 m 16 ls [.long s0, .int s1, .ref ob]) := by
  obtain ⟨hx, hb, hr, hml, hown, hts, hlocks⟩ := id C0
  intro oo s0 s1 hF H locs ls hw hl
  unfold fL_canMove_16 at hF
  obtain ⟨hi1, hF⟩ := zck_in hF
  refine va_last hx hb hK.1 hw.1 hw.2.1 hw.2.2 11 0 rfl rfl hi1 dL_canMove_16 (fun H locs hP hD hS => ?_)
  have hw : zWd G A s (zCO ad ob k sv kE kR fb ft fs rws nx ct ch ln (vp_updL oo s1.toNatClampNeg s0)) H locs := ⟨hP, hD, hS⟩
  refine lv_goto (tgt := 28) hx hb dL_canMove_17 (by decide) ?_
  refine lv_iconst (v := (0 : Int32)) hx hb dL_canMove_28 (by decide) ?_
  obtain rfl := Option.some.inj hF
  exact hret _ _ _ _ rfl hw dL_canMove_29
set_option maxHeartbeats 400000 in
set_option maxRecDepth 100000 in
theorem mL_canMove (l : Launch) (hl9 : l.stackTraces = false) (G : va_G) (k : Nat → ClassId) (ad : Nat → Nat) (ob : Nat) (sz : Nat) (sv : Int32) (kE : Int32) (kR : Int32) (fb : Nat → Int64) (ft : Nat → Int64) (fs : Nat → Int64) (rws : Nat → Int64) (nx : Int32) (ct : Int32) (ch : Nat → Int32) (ln : Int32) (oo : Nat → Int64) (p1 : Int32) (p2 : Int32) (o : Int32 × (Nat → Int64)) (hF : fL_canMove fb oo p1 p2 = some o) : zMIc l yL_canMove wsL_canMove rmL_canMove G k (zCO ad ob k sv kE kR fb ft fs rws nx ct ch ln oo) sz [.ref (ad 0), .int p1, .int p2, .ref ob] 3 18 o.1 (zCO ad ob k sv kE kR fb ft fs rws nx ct ch ln o.2) := by
  refine zof_W (cc := cL_canMove) (nL := 5) (own := RL) (by decide) rfl rfl (Nat.le_of_ble_eq_true rfl) ?_
  intro p e s m args below meth c A Q C0 hK hA hret hTab ls hl hw
  have hl : lv_has ls 5 [(0, .ref (ad 0)), (1, .int p1), (2, .int p2), (3, .ref ob)] := hl
  obtain ⟨hx, hb, hr, hml, hown, hts, hlocks⟩ := id C0
  obtain ⟨H, hH⟩ : ∃ z, z = s.heap := ⟨_, rfl⟩
  rw [← hH] at hw ⊢
  unfold fL_canMove at hF
  refine lv_aload_n hx hb dL_canMove_0 rfl (lv_at hl 3 rfl) ?_
  refine lv_iconst (v := (0 : Int32)) hx hb dL_canMove_1 (by decide) ?_
  refine lv_aload_n hx hb dL_canMove_2 rfl (lv_at hl 0 rfl) ?_
  refine lv_iload_n hx hb dL_canMove_3 rfl (lv_at hl 1 rfl) ?_
  refine lv_iload_n hx hb dL_canMove_4 rfl (lv_at hl 2 rfl) ?_
  obtain ⟨u1, hq2, hF⟩ := zbd_t hF
  refine zgoXI3 (o0 := u1.1) (wa := []) (wc := (zC ad k sv kE kR fb ft fs rws nx ct ch ln)) (wc' := (zC ad k sv kE kR fb ft fs rws nx ct ch ln)) (wr := [(ob, .inl (k 0, 1, .inr (.inl oo)))]) hw hA (zVx3 (wa := []) (wc := (zC ad k sv kE kR fb ft fs rws nx ct ch ln)) (wr := [(ob, .inl (k 0, 1, .inr (.inl oo)))]) (As := [.int p1, .int p2]) (rest := [.int (0 : Int32), .ref ob]) ⟨hx, hb, hml, hown, hts⟩ (mX4_canMove l hl9 G k ad H.size sv kE kR fb ft fs rws nx ct ch ln p1 p2 u1 hq2) (cwV 2 hts gL_canMove_X4_canMove rfl rfl rfl kdX4_canMove ⟨Nat.le_of_ble_eq_true rfl, Nat.le_of_ble_eq_true rfl⟩) hK hA hw 0 rfl rfl rfl rfl hl.1 rfl (Nat.le_of_ble_eq_true rfl) dL_canMove_5 ⟨Nat.le_of_ble_eq_true rfl, Nat.le_of_ble_eq_true rfl⟩) rfl (fun h03 H locs q9 E9 ce9 hw g1 g2 g3 g4 => ?_) (fun h03 H locs hw => ?_)
  · have hF := zif_f h03 hF
    have hw : zWd G A s (zCO ad ob k sv kE kR fb ft fs rws nx ct ch ln oo) H locs := hw
    by_cases hc4 : u1.1 = 1
    · have hF := zif_t hc4 hF
      have gE : E9 = "java/lang/IndexOutOfBoundsException" := g4.trans (by rw [hc4]; rfl)
      subst gE
      refine vx_catch (name := "java/lang/IndexOutOfBoundsException") (E := "java/lang/IndexOutOfBoundsException") hown [] ⟨0, 17, 20, 13⟩ [⟨0, 17, 24, 42⟩] (by rw [hTab]; rfl) (fun _ h9 => nomatch h9) (by decide) (by decide) (hts (.classLink RL 13 "java/lang/IndexOutOfBoundsException") (by decide +kernel)) (va_Nw.use rfl (hK.2.cast (by decide))) g1 g2 g3 ?_
      refine lv_astore (lv' := [(4, .ref q9), (0, .ref (ad 0)), (1, .int p1), (2, .int p2), (3, .ref ob)]) hx hb dL_canMove_20 hl (by decide) rfl (fun ls hl => ?_)
      refine lv_iconst (v := (1 : Int32)) hx hb dL_canMove_22 (by decide) ?_
      obtain rfl := Option.some.inj hF
      exact hret _ _ _ _ rfl hw dL_canMove_23
    have hF := zif_f hc4 hF
    by_cases hc5 : u1.1 = 5
    · have hF := zif_t hc5 hF
      have gE : E9 = "java/util/NoSuchElementException" := g4.trans (by rw [hc5]; rfl)
      subst gE
      refine vx_catch (name := "java/util/NoSuchElementException") (E := "java/util/NoSuchElementException") hown [⟨0, 17, 20, 13⟩] ⟨0, 17, 24, 42⟩ [] (by rw [hTab]; rfl) (List.forall_mem_cons.mpr ⟨Or.inr ⟨by decide, "java/lang/IndexOutOfBoundsException", (hts (.classLink RL 13 "java/lang/IndexOutOfBoundsException") (by decide +kernel)), hK.2.nc (q := ("java/util/NoSuchElementException", "java/lang/IndexOutOfBoundsException")) (by decide)⟩, (fun _ h9 => nomatch h9)⟩) (by decide) (by decide) (hts (.classLink RL 42 "java/util/NoSuchElementException") (by decide +kernel)) (va_Nw.use rfl (hK.2.cast (by decide))) g1 g2 g3 ?_
      refine lv_astore (lv' := [(4, .ref q9), (0, .ref (ad 0)), (1, .int p1), (2, .int p2), (3, .ref ob)]) hx hb dL_canMove_24 hl (by decide) rfl (fun ls hl => ?_)
      refine lv_iconst (v := (2 : Int32)) hx hb dL_canMove_26 (by decide) ?_
      obtain rfl := Option.some.inj hF
      exact hret _ _ _ _ rfl hw dL_canMove_27
    have hF := zif_f hc5 hF
    exact nomatch hF
  have hF := zif_t h03 hF
  have hw : zWd G A s (zCO ad ob k sv kE kR fb ft fs rws nx ct ch ln oo) H locs := hw
  refine lv_if_eq (tgt := 15) hx hb dL_canMove_8 (by decide) (fun hc => ?_) (fun hc => ?_)
  · have hF := zif_t hc hF
    refine lv_lconst (v := (0 : Int64)) hx hb dL_canMove_15 (by decide) ?_
    exact wL_canMove_16 C0 hK hA hret   _ _ _ hF _ _ _ hw (lv_sub hl [] rfl)
  · have hF := zif_f hc hF
    refine lv_lconst (v := (1 : Int64)) hx hb dL_canMove_11 (by decide) ?_
    refine lv_goto (tgt := 16) hx hb dL_canMove_12 (by decide) ?_
    exact wL_canMove_16 C0 hK hA hret   _ _ _ hF _ _ _ hw (lv_sub hl [] rfl)

/-! SealedBoardLaw.moves(LSealedBoard;I[J)I -/
abbrev rmL_moves : Room := { frames := 8, cells := 2, slots := 12, locals := 124 }
theorem kdL_moves : yL_moves.cls ≠ "java/lang/invoke/MethodHandle" ∧ yL_moves.cls ≠ "java/lang/invoke/VarHandle" ∧ (parseMethodDescriptor yL_moves.desc).map (fun d => d.parameters.length) = some 3 := by decide +kernel
def fL_moves (fb : Nat → Int64) (oo : Nat → Int64) (p1 : Int32) : Option (Int32 × (Nat → Int64)) := (zbd (fX4_moves fb p1) (fun u1 => (if u1.1 = 0 then (zck (zin (0 : Int32) 1) (some ((0 : Int32), (vp_updL oo (0 : Int32).toNatClampNeg u1.2.toInt64)))) else (if u1.1 = 1 then (some ((1 : Int32), oo)) else (if u1.1 = 5 then (some ((2 : Int32), oo)) else none)))))
set_option maxHeartbeats 400000 in
set_option maxRecDepth 100000 in
theorem mL_moves (l : Launch) (hl9 : l.stackTraces = false) (G : va_G) (k : Nat → ClassId) (ad : Nat → Nat) (ob : Nat) (sz : Nat) (sv : Int32) (kE : Int32) (kR : Int32) (fb : Nat → Int64) (ft : Nat → Int64) (fs : Nat → Int64) (rws : Nat → Int64) (nx : Int32) (ct : Int32) (ch : Nat → Int32) (ln : Int32) (oo : Nat → Int64) (p1 : Int32) (o : Int32 × (Nat → Int64)) (hF : fL_moves fb oo p1 = some o) : zMIc l yL_moves wsL_moves rmL_moves G k (zCO ad ob k sv kE kR fb ft fs rws nx ct ch ln oo) sz [.ref (ad 0), .int p1, .ref ob] 2 12 o.1 (zCO ad ob k sv kE kR fb ft fs rws nx ct ch ln o.2) := by
  refine zof_W (cc := cL_moves) (nL := 4) (own := RL) (by decide) rfl rfl (Nat.le_of_ble_eq_true rfl) ?_
  intro p e s m args below meth c A Q C0 hK hA hret hTab ls hl hw
  have hl : lv_has ls 4 [(0, .ref (ad 0)), (1, .int p1), (2, .ref ob)] := hl
  obtain ⟨hx, hb, hr, hml, hown, hts, hlocks⟩ := id C0
  obtain ⟨H, hH⟩ : ∃ z, z = s.heap := ⟨_, rfl⟩
  rw [← hH] at hw ⊢
  unfold fL_moves at hF
  refine lv_aload_n hx hb dL_moves_0 rfl (lv_at hl 2 rfl) ?_
  refine lv_iconst (v := (0 : Int32)) hx hb dL_moves_1 (by decide) ?_
  refine lv_aload_n hx hb dL_moves_2 rfl (lv_at hl 0 rfl) ?_
  refine lv_iload_n hx hb dL_moves_3 rfl (lv_at hl 1 rfl) ?_
  obtain ⟨u1, hq2, hF⟩ := zbd_t hF
  refine zgoXI3 (o0 := u1.1) (wa := []) (wc := (zC ad k sv kE kR fb ft fs rws nx ct ch ln)) (wc' := (zC ad k sv kE kR fb ft fs rws nx ct ch ln)) (wr := [(ob, .inl (k 0, 1, .inr (.inl oo)))]) hw hA (zVx3 (wa := []) (wc := (zC ad k sv kE kR fb ft fs rws nx ct ch ln)) (wr := [(ob, .inl (k 0, 1, .inr (.inl oo)))]) (As := [.int p1]) (rest := [.int (0 : Int32), .ref ob]) ⟨hx, hb, hml, hown, hts⟩ (mX4_moves l hl9 G k ad H.size sv kE kR fb ft fs rws nx ct ch ln p1 u1 hq2) (cwV 1 hts gL_moves_X4_moves rfl rfl rfl kdX4_moves ⟨Nat.le_of_ble_eq_true rfl, Nat.le_of_ble_eq_true rfl⟩) hK hA hw 0 rfl rfl rfl rfl hl.1 rfl (Nat.le_of_ble_eq_true rfl) dL_moves_4 ⟨Nat.le_of_ble_eq_true rfl, Nat.le_of_ble_eq_true rfl⟩) rfl (fun h04 H locs q9 E9 ce9 hw g1 g2 g3 g4 => ?_) (fun h04 H locs hw => ?_)
  · have hF := zif_f h04 hF
    have hw : zWd G A s (zCO ad ob k sv kE kR fb ft fs rws nx ct ch ln oo) H locs := hw
    by_cases hc5 : u1.1 = 1
    · have hF := zif_t hc5 hF
      have gE : E9 = "java/lang/IndexOutOfBoundsException" := g4.trans (by rw [hc5]; rfl)
      subst gE
      refine vx_catch (name := "java/lang/IndexOutOfBoundsException") (E := "java/lang/IndexOutOfBoundsException") hown [] ⟨0, 9, 12, 13⟩ [⟨0, 9, 15, 42⟩] (by rw [hTab]; rfl) (fun _ h9 => nomatch h9) (by decide) (by decide) (hts (.classLink RL 13 "java/lang/IndexOutOfBoundsException") (by decide +kernel)) (va_Nw.use rfl (hK.2.cast (by decide))) g1 g2 g3 ?_
      refine lv_astore_n (lv' := [(3, .ref q9), (0, .ref (ad 0)), (1, .int p1), (2, .ref ob)]) hx hb dL_moves_12 rfl hl (by decide) rfl (fun ls hl => ?_)
      refine lv_iconst (v := (1 : Int32)) hx hb dL_moves_13 (by decide) ?_
      obtain rfl := Option.some.inj hF
      exact hret _ _ _ _ rfl hw dL_moves_14
    have hF := zif_f hc5 hF
    by_cases hc6 : u1.1 = 5
    · have hF := zif_t hc6 hF
      have gE : E9 = "java/util/NoSuchElementException" := g4.trans (by rw [hc6]; rfl)
      subst gE
      refine vx_catch (name := "java/util/NoSuchElementException") (E := "java/util/NoSuchElementException") hown [⟨0, 9, 12, 13⟩] ⟨0, 9, 15, 42⟩ [] (by rw [hTab]; rfl) (List.forall_mem_cons.mpr ⟨Or.inr ⟨by decide, "java/lang/IndexOutOfBoundsException", (hts (.classLink RL 13 "java/lang/IndexOutOfBoundsException") (by decide +kernel)), hK.2.nc (q := ("java/util/NoSuchElementException", "java/lang/IndexOutOfBoundsException")) (by decide)⟩, (fun _ h9 => nomatch h9)⟩) (by decide) (by decide) (hts (.classLink RL 42 "java/util/NoSuchElementException") (by decide +kernel)) (va_Nw.use rfl (hK.2.cast (by decide))) g1 g2 g3 ?_
      refine lv_astore_n (lv' := [(3, .ref q9), (0, .ref (ad 0)), (1, .int p1), (2, .ref ob)]) hx hb dL_moves_15 rfl hl (by decide) rfl (fun ls hl => ?_)
      refine lv_iconst (v := (2 : Int32)) hx hb dL_moves_16 (by decide) ?_
      obtain rfl := Option.some.inj hF
      exact hret _ _ _ _ rfl hw dL_moves_17
    have hF := zif_f hc6 hF
    exact nomatch hF
  have hF := zif_t h04 hF
  have hw : zWd G A s (zCO ad ob k sv kE kR fb ft fs rws nx ct ch ln oo) H locs := hw
  refine lv_i2l hx hb dL_moves_7 rfl ?_
  obtain ⟨hi3, hF⟩ := zck_in hF
  refine va_last hx hb hK.1 hw.1 hw.2.1 hw.2.2 11 0 rfl rfl hi3 dL_moves_8 (fun H locs hP hD hS => ?_)
  have hw : zWd G A s (zCO ad ob k sv kE kR fb ft fs rws nx ct ch ln (vp_updL oo (0 : Int32).toNatClampNeg u1.2.toInt64)) H locs := ⟨hP, hD, hS⟩
  refine lv_goto (tgt := 18) hx hb dL_moves_9 (by decide) ?_
  refine lv_iconst (v := (0 : Int32)) hx hb dL_moves_18 (by decide) ?_
  obtain rfl := Option.some.inj hF
  exact hret _ _ _ _ rfl hw dL_moves_19

/-! SealedBoardLaw.captures(LSealedBoard;II[J)I -/
abbrev rmL_captures : Room := { frames := 8, cells := 4, slots := 24, locals := 126 }
theorem kdL_captures : yL_captures.cls ≠ "java/lang/invoke/MethodHandle" ∧ yL_captures.cls ≠ "java/lang/invoke/VarHandle" ∧ (parseMethodDescriptor yL_captures.desc).map (fun d => d.parameters.length) = some 4 := by decide +kernel
def fL_captures (fb : Nat → Int64) (ft : Nat → Int64) (oo : Nat → Int64) (p1 : Int32) (p2 : Int32) : Option (Int32 × (Nat → Int64) × (Nat → Int64)) := (zbd (fX4_captures fb ft p1 p2) (fun u1 => (if u1.1 = 0 then (zck (zin (0 : Int32) 1) (some ((0 : Int32), u1.2.2, (vp_updL oo (0 : Int32).toNatClampNeg u1.2.1.toInt64)))) else (if u1.1 = 1 then (some ((1 : Int32), u1.2.2, oo)) else (if u1.1 = 5 then (some ((2 : Int32), u1.2.2, oo)) else none)))))
set_option maxHeartbeats 400000 in
set_option maxRecDepth 100000 in
theorem mL_captures (l : Launch) (hl9 : l.stackTraces = false) (G : va_G) (k : Nat → ClassId) (ad : Nat → Nat) (ob : Nat) (sz : Nat) (sv : Int32) (kE : Int32) (kR : Int32) (fb : Nat → Int64) (ft : Nat → Int64) (fs : Nat → Int64) (rws : Nat → Int64) (nx : Int32) (ct : Int32) (ch : Nat → Int32) (ln : Int32) (oo : Nat → Int64) (p1 : Int32) (p2 : Int32) (o : Int32 × (Nat → Int64) × (Nat → Int64)) (hF : fL_captures fb ft oo p1 p2 = some o) : zMIc l yL_captures wsL_captures rmL_captures G k (zCO ad ob k sv kE kR fb ft fs rws nx ct ch ln oo) sz [.ref (ad 0), .int p1, .int p2, .ref ob] 4 24 o.1 (zCO ad ob k sv kE kR fb o.2.1 fs rws nx ct ch ln o.2.2) := by
  refine zof_W (cc := cL_captures) (nL := 5) (own := RL) (by decide) rfl rfl (Nat.le_of_ble_eq_true rfl) ?_
  intro p e s m args below meth c A Q C0 hK hA hret hTab ls hl hw
  have hl : lv_has ls 5 [(0, .ref (ad 0)), (1, .int p1), (2, .int p2), (3, .ref ob)] := hl
  obtain ⟨hx, hb, hr, hml, hown, hts, hlocks⟩ := id C0
  obtain ⟨H, hH⟩ : ∃ z, z = s.heap := ⟨_, rfl⟩
  rw [← hH] at hw ⊢
  unfold fL_captures at hF
  refine lv_aload_n hx hb dL_captures_0 rfl (lv_at hl 3 rfl) ?_
  refine lv_iconst (v := (0 : Int32)) hx hb dL_captures_1 (by decide) ?_
  refine lv_aload_n hx hb dL_captures_2 rfl (lv_at hl 0 rfl) ?_
  refine lv_iload_n hx hb dL_captures_3 rfl (lv_at hl 1 rfl) ?_
  refine lv_iload_n hx hb dL_captures_4 rfl (lv_at hl 2 rfl) ?_
  obtain ⟨u1, hq2, hF⟩ := zbd_t hF
  refine zgoXI3 (o0 := u1.1) (wa := []) (wc := (zC ad k sv kE kR fb ft fs rws nx ct ch ln)) (wc' := (zC ad k sv kE kR fb u1.2.2 fs rws nx ct ch ln)) (wr := [(ob, .inl (k 0, 1, .inr (.inl oo)))]) hw hA (zVx3 (wa := []) (wc := (zC ad k sv kE kR fb ft fs rws nx ct ch ln)) (wr := [(ob, .inl (k 0, 1, .inr (.inl oo)))]) (As := [.int p1, .int p2]) (rest := [.int (0 : Int32), .ref ob]) ⟨hx, hb, hml, hown, hts⟩ (mX4_captures l hl9 G k ad H.size sv kE kR fb ft fs rws nx ct ch ln p1 p2 u1 hq2) (cwV 2 hts gL_captures_X4_captures rfl rfl rfl kdX4_captures ⟨Nat.le_of_ble_eq_true rfl, Nat.le_of_ble_eq_true rfl⟩) hK hA hw 0 rfl rfl rfl rfl hl.1 rfl (Nat.le_of_ble_eq_true rfl) dL_captures_5 ⟨Nat.le_of_ble_eq_true rfl, Nat.le_of_ble_eq_true rfl⟩) rfl (fun h04 H locs q9 E9 ce9 hw g1 g2 g3 g4 => ?_) (fun h04 H locs hw => ?_)
  · have hF := zif_f h04 hF
    have hw : zWd G A s (zCO ad ob k sv kE kR fb u1.2.2 fs rws nx ct ch ln oo) H locs := hw
    by_cases hc5 : u1.1 = 1
    · have hF := zif_t hc5 hF
      have gE : E9 = "java/lang/IndexOutOfBoundsException" := g4.trans (by rw [hc5]; rfl)
      subst gE
      refine vx_catch (name := "java/lang/IndexOutOfBoundsException") (E := "java/lang/IndexOutOfBoundsException") hown [] ⟨0, 10, 13, 13⟩ [⟨0, 10, 17, 42⟩] (by rw [hTab]; rfl) (fun _ h9 => nomatch h9) (by decide) (by decide) (hts (.classLink RL 13 "java/lang/IndexOutOfBoundsException") (by decide +kernel)) (va_Nw.use rfl (hK.2.cast (by decide))) g1 g2 g3 ?_
      refine lv_astore (lv' := [(4, .ref q9), (0, .ref (ad 0)), (1, .int p1), (2, .int p2), (3, .ref ob)]) hx hb dL_captures_13 hl (by decide) rfl (fun ls hl => ?_)
      refine lv_iconst (v := (1 : Int32)) hx hb dL_captures_15 (by decide) ?_
      obtain rfl := Option.some.inj hF
      exact hret _ _ _ _ rfl hw dL_captures_16
    have hF := zif_f hc5 hF
    by_cases hc6 : u1.1 = 5
    · have hF := zif_t hc6 hF
      have gE : E9 = "java/util/NoSuchElementException" := g4.trans (by rw [hc6]; rfl)
      subst gE
      refine vx_catch (name := "java/util/NoSuchElementException") (E := "java/util/NoSuchElementException") hown [⟨0, 10, 13, 13⟩] ⟨0, 10, 17, 42⟩ [] (by rw [hTab]; rfl) (List.forall_mem_cons.mpr ⟨Or.inr ⟨by decide, "java/lang/IndexOutOfBoundsException", (hts (.classLink RL 13 "java/lang/IndexOutOfBoundsException") (by decide +kernel)), hK.2.nc (q := ("java/util/NoSuchElementException", "java/lang/IndexOutOfBoundsException")) (by decide)⟩, (fun _ h9 => nomatch h9)⟩) (by decide) (by decide) (hts (.classLink RL 42 "java/util/NoSuchElementException") (by decide +kernel)) (va_Nw.use rfl (hK.2.cast (by decide))) g1 g2 g3 ?_
      refine lv_astore (lv' := [(4, .ref q9), (0, .ref (ad 0)), (1, .int p1), (2, .int p2), (3, .ref ob)]) hx hb dL_captures_17 hl (by decide) rfl (fun ls hl => ?_)
      refine lv_iconst (v := (2 : Int32)) hx hb dL_captures_19 (by decide) ?_
      obtain rfl := Option.some.inj hF
      exact hret _ _ _ _ rfl hw dL_captures_20
    have hF := zif_f hc6 hF
    exact nomatch hF
  have hF := zif_t h04 hF
  have hw : zWd G A s (zCO ad ob k sv kE kR fb u1.2.2 fs rws nx ct ch ln oo) H locs := hw
  refine lv_i2l hx hb dL_captures_8 rfl ?_
  obtain ⟨hi3, hF⟩ := zck_in hF
  refine va_last hx hb hK.1 hw.1 hw.2.1 hw.2.2 11 0 rfl rfl hi3 dL_captures_9 (fun H locs hP hD hS => ?_)
  have hw : zWd G A s (zCO ad ob k sv kE kR fb u1.2.2 fs rws nx ct ch ln (vp_updL oo (0 : Int32).toNatClampNeg u1.2.1.toInt64)) H locs := ⟨hP, hD, hS⟩
  refine lv_goto (tgt := 21) hx hb dL_captures_10 (by decide) ?_
  refine lv_iconst (v := (0 : Int32)) hx hb dL_captures_21 (by decide) ?_
  obtain rfl := Option.some.inj hF
  exact hret _ _ _ _ rfl hw dL_captures_22

/-! SealedBoardLaw.best(LSealedBoard;[J)I -/
abbrev rmL_best : Room := { frames := 7, cells := 1, slots := 6, locals := 178 }
theorem kdL_best : yL_best.cls ≠ "java/lang/invoke/MethodHandle" ∧ yL_best.cls ≠ "java/lang/invoke/VarHandle" ∧ (parseMethodDescriptor yL_best.desc).map (fun d => d.parameters.length) = some 2 := by decide +kernel
def fL_best (fb : Nat → Int64) (ft : Nat → Int64) (oo : Nat → Int64) : Option (Int32 × (Nat → Int64) × (Nat → Int64)) := (zbd (fX4_best fb ft) (fun u1 => (if u1.1 = 0 then (zck (zin (0 : Int32) 1) (some ((0 : Int32), u1.2.2, (vp_updL oo (0 : Int32).toNatClampNeg u1.2.1.toInt64)))) else (if u1.1 = 5 then (some ((1 : Int32), u1.2.2, oo)) else none))))
set_option maxHeartbeats 400000 in
set_option maxRecDepth 100000 in
theorem mL_best (l : Launch) (hl9 : l.stackTraces = false) (G : va_G) (k : Nat → ClassId) (ad : Nat → Nat) (ob : Nat) (sz : Nat) (sv : Int32) (kE : Int32) (kR : Int32) (fb : Nat → Int64) (ft : Nat → Int64) (fs : Nat → Int64) (rws : Nat → Int64) (nx : Int32) (ct : Int32) (ch : Nat → Int32) (ln : Int32) (oo : Nat → Int64)  (o : Int32 × (Nat → Int64) × (Nat → Int64)) (hF : fL_best fb ft oo = some o) : zMIc l yL_best wsL_best rmL_best G k (zCO ad ob k sv kE kR fb ft fs rws nx ct ch ln oo) sz [.ref (ad 0), .ref ob] 1 6 o.1 (zCO ad ob k sv kE kR fb o.2.1 fs rws nx ct ch ln o.2.2) := by
  refine zof_W (cc := cL_best) (nL := 3) (own := RL) (by decide) rfl rfl (Nat.le_of_ble_eq_true rfl) ?_
  intro p e s m args below meth c A Q C0 hK hA hret hTab ls hl hw
  have hl : lv_has ls 3 [(0, .ref (ad 0)), (1, .ref ob)] := hl
  obtain ⟨hx, hb, hr, hml, hown, hts, hlocks⟩ := id C0
  obtain ⟨H, hH⟩ : ∃ z, z = s.heap := ⟨_, rfl⟩
  rw [← hH] at hw ⊢
  unfold fL_best at hF
  refine lv_aload_n hx hb dL_best_0 rfl (lv_at hl 1 rfl) ?_
  refine lv_iconst (v := (0 : Int32)) hx hb dL_best_1 (by decide) ?_
  refine lv_aload_n hx hb dL_best_2 rfl (lv_at hl 0 rfl) ?_
  obtain ⟨u1, hq2, hF⟩ := zbd_t hF
  refine zgoXI3 (o0 := u1.1) (wa := []) (wc := (zC ad k sv kE kR fb ft fs rws nx ct ch ln)) (wc' := (zC ad k sv kE kR fb u1.2.2 fs rws nx ct ch ln)) (wr := [(ob, .inl (k 0, 1, .inr (.inl oo)))]) hw hA (zVx3 (wa := []) (wc := (zC ad k sv kE kR fb ft fs rws nx ct ch ln)) (wr := [(ob, .inl (k 0, 1, .inr (.inl oo)))]) (As := []) (rest := [.int (0 : Int32), .ref ob]) ⟨hx, hb, hml, hown, hts⟩ (mX4_best l hl9 G k ad H.size sv kE kR fb ft fs rws nx ct ch ln  u1 hq2) (cwV 0 hts gL_best_X4_best rfl rfl rfl kdX4_best ⟨Nat.le_of_ble_eq_true rfl, Nat.le_of_ble_eq_true rfl⟩) hK hA hw 0 rfl rfl rfl rfl hl.1 rfl (Nat.le_of_ble_eq_true rfl) dL_best_3 ⟨Nat.le_of_ble_eq_true rfl, Nat.le_of_ble_eq_true rfl⟩) rfl (fun h04 H locs q9 E9 ce9 hw g1 g2 g3 g4 => ?_) (fun h04 H locs hw => ?_)
  · have hF := zif_f h04 hF
    have hw : zWd G A s (zCO ad ob k sv kE kR fb u1.2.2 fs rws nx ct ch ln oo) H locs := hw
    by_cases hc5 : u1.1 = 5
    · have hF := zif_t hc5 hF
      have gE : E9 = "java/util/NoSuchElementException" := g4.trans (by rw [hc5]; rfl)
      subst gE
      refine vx_catch (name := "java/util/NoSuchElementException") (E := "java/util/NoSuchElementException") hown [] ⟨0, 8, 11, 42⟩ [] (by rw [hTab]; rfl) (fun _ h9 => nomatch h9) (by decide) (by decide) (hts (.classLink RL 42 "java/util/NoSuchElementException") (by decide +kernel)) (va_Nw.use rfl (hK.2.cast (by decide))) g1 g2 g3 ?_
      refine lv_astore_n (lv' := [(2, .ref q9), (0, .ref (ad 0)), (1, .ref ob)]) hx hb dL_best_11 rfl hl (by decide) rfl (fun ls hl => ?_)
      refine lv_iconst (v := (1 : Int32)) hx hb dL_best_12 (by decide) ?_
      obtain rfl := Option.some.inj hF
      exact hret _ _ _ _ rfl hw dL_best_13
    have hF := zif_f hc5 hF
    exact nomatch hF
  have hF := zif_t h04 hF
  have hw : zWd G A s (zCO ad ob k sv kE kR fb u1.2.2 fs rws nx ct ch ln oo) H locs := hw
  refine lv_i2l hx hb dL_best_6 rfl ?_
  obtain ⟨hi3, hF⟩ := zck_in hF
  refine va_last hx hb hK.1 hw.1 hw.2.1 hw.2.2 11 0 rfl rfl hi3 dL_best_7 (fun H locs hP hD hS => ?_)
  have hw : zWd G A s (zCO ad ob k sv kE kR fb u1.2.2 fs rws nx ct ch ln (vp_updL oo (0 : Int32).toNatClampNeg u1.2.1.toInt64)) H locs := ⟨hP, hD, hS⟩
  refine lv_goto (tgt := 14) hx hb dL_best_8 (by decide) ?_
  refine lv_iconst (v := (0 : Int32)) hx hb dL_best_14 (by decide) ?_
  obtain rfl := Option.some.inj hF
  exact hret _ _ _ _ rfl hw dL_best_15

/-! SealedBoardLaw.worth(LSealedBoard;II[J)I -/
abbrev rmL_worth : Room := { frames := 8, cells := 3, slots := 18, locals := 150 }
theorem kdL_worth : yL_worth.cls ≠ "java/lang/invoke/MethodHandle" ∧ yL_worth.cls ≠ "java/lang/invoke/VarHandle" ∧ (parseMethodDescriptor yL_worth.desc).map (fun d => d.parameters.length) = some 4 := by decide +kernel
def fL_worth (fb : Nat → Int64) (ft : Nat → Int64) (oo : Nat → Int64) (p1 : Int32) (p2 : Int32) : Option (Int32 × (Nat → Int64) × (Nat → Int64)) := (zbd (fX4_worth fb ft p1 p2) (fun u1 => (if u1.1 = 0 then (zck (zin (0 : Int32) 1) (some ((0 : Int32), u1.2.2, (vp_updL oo (0 : Int32).toNatClampNeg u1.2.1.toInt64)))) else (if u1.1 = 1 then (some ((1 : Int32), u1.2.2, oo)) else (if u1.1 = 5 then (some ((2 : Int32), u1.2.2, oo)) else none)))))
set_option maxHeartbeats 400000 in
set_option maxRecDepth 100000 in
theorem mL_worth (l : Launch) (hl9 : l.stackTraces = false) (G : va_G) (k : Nat → ClassId) (ad : Nat → Nat) (ob : Nat) (sz : Nat) (sv : Int32) (kE : Int32) (kR : Int32) (fb : Nat → Int64) (ft : Nat → Int64) (fs : Nat → Int64) (rws : Nat → Int64) (nx : Int32) (ct : Int32) (ch : Nat → Int32) (ln : Int32) (oo : Nat → Int64) (p1 : Int32) (p2 : Int32) (o : Int32 × (Nat → Int64) × (Nat → Int64)) (hF : fL_worth fb ft oo p1 p2 = some o) : zMIc l yL_worth wsL_worth rmL_worth G k (zCO ad ob k sv kE kR fb ft fs rws nx ct ch ln oo) sz [.ref (ad 0), .int p1, .int p2, .ref ob] 3 18 o.1 (zCO ad ob k sv kE kR fb o.2.1 fs rws nx ct ch ln o.2.2) := by
  refine zof_W (cc := cL_worth) (nL := 5) (own := RL) (by decide) rfl rfl (Nat.le_of_ble_eq_true rfl) ?_
  intro p e s m args below meth c A Q C0 hK hA hret hTab ls hl hw
  have hl : lv_has ls 5 [(0, .ref (ad 0)), (1, .int p1), (2, .int p2), (3, .ref ob)] := hl
  obtain ⟨hx, hb, hr, hml, hown, hts, hlocks⟩ := id C0
  obtain ⟨H, hH⟩ : ∃ z, z = s.heap := ⟨_, rfl⟩
  rw [← hH] at hw ⊢
  unfold fL_worth at hF
  refine lv_aload_n hx hb dL_worth_0 rfl (lv_at hl 3 rfl) ?_
  refine lv_iconst (v := (0 : Int32)) hx hb dL_worth_1 (by decide) ?_
  refine lv_aload_n hx hb dL_worth_2 rfl (lv_at hl 0 rfl) ?_
  refine lv_iload_n hx hb dL_worth_3 rfl (lv_at hl 1 rfl) ?_
  refine lv_iload_n hx hb dL_worth_4 rfl (lv_at hl 2 rfl) ?_
  obtain ⟨u1, hq2, hF⟩ := zbd_t hF
  refine zgoXI3 (o0 := u1.1) (wa := []) (wc := (zC ad k sv kE kR fb ft fs rws nx ct ch ln)) (wc' := (zC ad k sv kE kR fb u1.2.2 fs rws nx ct ch ln)) (wr := [(ob, .inl (k 0, 1, .inr (.inl oo)))]) hw hA (zVx3 (wa := []) (wc := (zC ad k sv kE kR fb ft fs rws nx ct ch ln)) (wr := [(ob, .inl (k 0, 1, .inr (.inl oo)))]) (As := [.int p1, .int p2]) (rest := [.int (0 : Int32), .ref ob]) ⟨hx, hb, hml, hown, hts⟩ (mX4_worth l hl9 G k ad H.size sv kE kR fb ft fs rws nx ct ch ln p1 p2 u1 hq2) (cwV 2 hts gL_worth_X4_worth rfl rfl rfl kdX4_worth ⟨Nat.le_of_ble_eq_true rfl, Nat.le_of_ble_eq_true rfl⟩) hK hA hw 0 rfl rfl rfl rfl hl.1 rfl (Nat.le_of_ble_eq_true rfl) dL_worth_5 ⟨Nat.le_of_ble_eq_true rfl, Nat.le_of_ble_eq_true rfl⟩) rfl (fun h04 H locs q9 E9 ce9 hw g1 g2 g3 g4 => ?_) (fun h04 H locs hw => ?_)
  · have hF := zif_f h04 hF
    have hw : zWd G A s (zCO ad ob k sv kE kR fb u1.2.2 fs rws nx ct ch ln oo) H locs := hw
    by_cases hc5 : u1.1 = 1
    · have hF := zif_t hc5 hF
      have gE : E9 = "java/lang/IndexOutOfBoundsException" := g4.trans (by rw [hc5]; rfl)
      subst gE
      refine vx_catch (name := "java/lang/IndexOutOfBoundsException") (E := "java/lang/IndexOutOfBoundsException") hown [] ⟨0, 10, 13, 13⟩ [⟨0, 10, 17, 42⟩] (by rw [hTab]; rfl) (fun _ h9 => nomatch h9) (by decide) (by decide) (hts (.classLink RL 13 "java/lang/IndexOutOfBoundsException") (by decide +kernel)) (va_Nw.use rfl (hK.2.cast (by decide))) g1 g2 g3 ?_
      refine lv_astore (lv' := [(4, .ref q9), (0, .ref (ad 0)), (1, .int p1), (2, .int p2), (3, .ref ob)]) hx hb dL_worth_13 hl (by decide) rfl (fun ls hl => ?_)
      refine lv_iconst (v := (1 : Int32)) hx hb dL_worth_15 (by decide) ?_
      obtain rfl := Option.some.inj hF
      exact hret _ _ _ _ rfl hw dL_worth_16
    have hF := zif_f hc5 hF
    by_cases hc6 : u1.1 = 5
    · have hF := zif_t hc6 hF
      have gE : E9 = "java/util/NoSuchElementException" := g4.trans (by rw [hc6]; rfl)
      subst gE
      refine vx_catch (name := "java/util/NoSuchElementException") (E := "java/util/NoSuchElementException") hown [⟨0, 10, 13, 13⟩] ⟨0, 10, 17, 42⟩ [] (by rw [hTab]; rfl) (List.forall_mem_cons.mpr ⟨Or.inr ⟨by decide, "java/lang/IndexOutOfBoundsException", (hts (.classLink RL 13 "java/lang/IndexOutOfBoundsException") (by decide +kernel)), hK.2.nc (q := ("java/util/NoSuchElementException", "java/lang/IndexOutOfBoundsException")) (by decide)⟩, (fun _ h9 => nomatch h9)⟩) (by decide) (by decide) (hts (.classLink RL 42 "java/util/NoSuchElementException") (by decide +kernel)) (va_Nw.use rfl (hK.2.cast (by decide))) g1 g2 g3 ?_
      refine lv_astore (lv' := [(4, .ref q9), (0, .ref (ad 0)), (1, .int p1), (2, .int p2), (3, .ref ob)]) hx hb dL_worth_17 hl (by decide) rfl (fun ls hl => ?_)
      refine lv_iconst (v := (2 : Int32)) hx hb dL_worth_19 (by decide) ?_
      obtain rfl := Option.some.inj hF
      exact hret _ _ _ _ rfl hw dL_worth_20
    have hF := zif_f hc6 hF
    exact nomatch hF
  have hF := zif_t h04 hF
  have hw : zWd G A s (zCO ad ob k sv kE kR fb u1.2.2 fs rws nx ct ch ln oo) H locs := hw
  refine lv_i2l hx hb dL_worth_8 rfl ?_
  obtain ⟨hi3, hF⟩ := zck_in hF
  refine va_last hx hb hK.1 hw.1 hw.2.1 hw.2.2 11 0 rfl rfl hi3 dL_worth_9 (fun H locs hP hD hS => ?_)
  have hw : zWd G A s (zCO ad ob k sv kE kR fb u1.2.2 fs rws nx ct ch ln (vp_updL oo (0 : Int32).toNatClampNeg u1.2.1.toInt64)) H locs := ⟨hP, hD, hS⟩
  refine lv_goto (tgt := 21) hx hb dL_worth_10 (by decide) ?_
  refine lv_iconst (v := (0 : Int32)) hx hb dL_worth_21 (by decide) ?_
  obtain rfl := Option.some.inj hF
  exact hret _ _ _ _ rfl hw dL_worth_22

/-! SealedBoardLaw.rooms(LSealedBoard;I[J)I -/
abbrev rmL_rooms : Room := { frames := 8, cells := 1, slots := 6, locals := 123 }
theorem kdL_rooms : yL_rooms.cls ≠ "java/lang/invoke/MethodHandle" ∧ yL_rooms.cls ≠ "java/lang/invoke/VarHandle" ∧ (parseMethodDescriptor yL_rooms.desc).map (fun d => d.parameters.length) = some 3 := by decide +kernel
def fL_rooms (fb : Nat → Int64) (oo : Nat → Int64) (p1 : Int32) : Option (Int32 × (Nat → Int64)) := (zbd (fX4_rooms fb p1) (fun u1 => (if u1.1 = 0 then (zck (zin (0 : Int32) 1) (some ((0 : Int32), (vp_updL oo (0 : Int32).toNatClampNeg u1.2.toInt64)))) else (if u1.1 = 1 then (some ((1 : Int32), oo)) else none))))
set_option maxHeartbeats 400000 in
set_option maxRecDepth 100000 in
theorem mL_rooms (l : Launch) (hl9 : l.stackTraces = false) (G : va_G) (k : Nat → ClassId) (ad : Nat → Nat) (ob : Nat) (sz : Nat) (sv : Int32) (kE : Int32) (kR : Int32) (fb : Nat → Int64) (ft : Nat → Int64) (fs : Nat → Int64) (rws : Nat → Int64) (nx : Int32) (ct : Int32) (ch : Nat → Int32) (ln : Int32) (oo : Nat → Int64) (p1 : Int32) (o : Int32 × (Nat → Int64)) (hF : fL_rooms fb oo p1 = some o) : zMIc l yL_rooms wsL_rooms rmL_rooms G k (zCO ad ob k sv kE kR fb ft fs rws nx ct ch ln oo) sz [.ref (ad 0), .int p1, .ref ob] 1 6 o.1 (zCO ad ob k sv kE kR fb ft fs rws nx ct ch ln o.2) := by
  refine zof_W (cc := cL_rooms) (nL := 4) (own := RL) (by decide) rfl rfl (Nat.le_of_ble_eq_true rfl) ?_
  intro p e s m args below meth c A Q C0 hK hA hret hTab ls hl hw
  have hl : lv_has ls 4 [(0, .ref (ad 0)), (1, .int p1), (2, .ref ob)] := hl
  obtain ⟨hx, hb, hr, hml, hown, hts, hlocks⟩ := id C0
  obtain ⟨H, hH⟩ : ∃ z, z = s.heap := ⟨_, rfl⟩
  rw [← hH] at hw ⊢
  unfold fL_rooms at hF
  refine lv_aload_n hx hb dL_rooms_0 rfl (lv_at hl 2 rfl) ?_
  refine lv_iconst (v := (0 : Int32)) hx hb dL_rooms_1 (by decide) ?_
  refine lv_aload_n hx hb dL_rooms_2 rfl (lv_at hl 0 rfl) ?_
  refine lv_iload_n hx hb dL_rooms_3 rfl (lv_at hl 1 rfl) ?_
  obtain ⟨u1, hq2, hF⟩ := zbd_t hF
  refine zgoXI3 (o0 := u1.1) (wa := []) (wc := (zC ad k sv kE kR fb ft fs rws nx ct ch ln)) (wc' := (zC ad k sv kE kR fb ft fs rws nx ct ch ln)) (wr := [(ob, .inl (k 0, 1, .inr (.inl oo)))]) hw hA (zVx3 (wa := []) (wc := (zC ad k sv kE kR fb ft fs rws nx ct ch ln)) (wr := [(ob, .inl (k 0, 1, .inr (.inl oo)))]) (As := [.int p1]) (rest := [.int (0 : Int32), .ref ob]) ⟨hx, hb, hml, hown, hts⟩ (mX4_rooms l hl9 G k ad H.size sv kE kR fb ft fs rws nx ct ch ln p1 u1 hq2) (cwV 1 hts gL_rooms_X4_rooms rfl rfl rfl kdX4_rooms ⟨Nat.le_of_ble_eq_true rfl, Nat.le_of_ble_eq_true rfl⟩) hK hA hw 0 rfl rfl rfl rfl hl.1 rfl (Nat.le_of_ble_eq_true rfl) dL_rooms_4 ⟨Nat.le_of_ble_eq_true rfl, Nat.le_of_ble_eq_true rfl⟩) rfl (fun h04 H locs q9 E9 ce9 hw g1 g2 g3 g4 => ?_) (fun h04 H locs hw => ?_)
  · have hF := zif_f h04 hF
    have hw : zWd G A s (zCO ad ob k sv kE kR fb ft fs rws nx ct ch ln oo) H locs := hw
    by_cases hc5 : u1.1 = 1
    · have hF := zif_t hc5 hF
      have gE : E9 = "java/lang/IndexOutOfBoundsException" := g4.trans (by rw [hc5]; rfl)
      subst gE
      refine vx_catch (name := "java/lang/IndexOutOfBoundsException") (E := "java/lang/IndexOutOfBoundsException") hown [] ⟨0, 9, 12, 13⟩ [] (by rw [hTab]; rfl) (fun _ h9 => nomatch h9) (by decide) (by decide) (hts (.classLink RL 13 "java/lang/IndexOutOfBoundsException") (by decide +kernel)) (va_Nw.use rfl (hK.2.cast (by decide))) g1 g2 g3 ?_
      refine lv_astore_n (lv' := [(3, .ref q9), (0, .ref (ad 0)), (1, .int p1), (2, .ref ob)]) hx hb dL_rooms_12 rfl hl (by decide) rfl (fun ls hl => ?_)
      refine lv_iconst (v := (1 : Int32)) hx hb dL_rooms_13 (by decide) ?_
      obtain rfl := Option.some.inj hF
      exact hret _ _ _ _ rfl hw dL_rooms_14
    have hF := zif_f hc5 hF
    exact nomatch hF
  have hF := zif_t h04 hF
  have hw : zWd G A s (zCO ad ob k sv kE kR fb ft fs rws nx ct ch ln oo) H locs := hw
  refine lv_i2l hx hb dL_rooms_7 rfl ?_
  obtain ⟨hi3, hF⟩ := zck_in hF
  refine va_last hx hb hK.1 hw.1 hw.2.1 hw.2.2 11 0 rfl rfl hi3 dL_rooms_8 (fun H locs hP hD hS => ?_)
  have hw : zWd G A s (zCO ad ob k sv kE kR fb ft fs rws nx ct ch ln (vp_updL oo (0 : Int32).toNatClampNeg u1.2.toInt64)) H locs := ⟨hP, hD, hS⟩
  refine lv_goto (tgt := 15) hx hb dL_rooms_9 (by decide) ?_
  refine lv_iconst (v := (0 : Int32)) hx hb dL_rooms_15 (by decide) ?_
  obtain rfl := Option.some.inj hF
  exact hret _ _ _ _ rfl hw dL_rooms_16

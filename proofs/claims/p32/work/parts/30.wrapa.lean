/-! SealedBoardLaw.lay(LSealedBoard;III)I -/
abbrev rmL_lay : Room := { frames := 8, cells := 4, slots := 24, locals := 126 }
theorem kdL_lay : yL_lay.cls ≠ "java/lang/invoke/MethodHandle" ∧ yL_lay.cls ≠ "java/lang/invoke/VarHandle" ∧ (parseMethodDescriptor yL_lay.desc).map (fun d => d.parameters.length) = some 4 := by decide +kernel
def fL_lay (fb : Nat → Int64) (rws : Nat → Int64) (nx : Int32) (ct : Int32) (p1 : Int32) (p2 : Int32) (p3 : Int32) : Option (Int32 × (Nat → Int64) × (Nat → Int64) × Int32 × Int32) := (zbd (fX4_lay fb rws nx ct p1 p2 p3) (fun u1 => (if u1.1 = 0 then (some (u1.2.1, u1.2.2.1, u1.2.2.2.1, u1.2.2.2.2.1, u1.2.2.2.2.2)) else (if u1.1 = 1 then (some ((-100000000 : Int32), u1.2.2.1, u1.2.2.2.1, u1.2.2.2.2.1, u1.2.2.2.2.2)) else (if u1.1 = 2 then (some ((-100000000 : Int32), u1.2.2.1, u1.2.2.2.1, u1.2.2.2.2.1, u1.2.2.2.2.2)) else (if u1.1 = 3 then (some ((-100000000 : Int32), u1.2.2.1, u1.2.2.2.1, u1.2.2.2.2.1, u1.2.2.2.2.2)) else none))))))
set_option maxHeartbeats 1000000 in
set_option maxRecDepth 100000 in
theorem mL_lay (l : Launch) (hl9 : l.stackTraces = false) (G : va_G) (k : Nat → ClassId) (ad : Nat → Nat) (sz : Nat) (sv : Int32) (kE : Int32) (kR : Int32) (fb : Nat → Int64) (ft : Nat → Int64) (fs : Nat → Int64) (rws : Nat → Int64) (nx : Int32) (ct : Int32) (ch : Nat → Int32) (ln : Int32) (p1 : Int32) (p2 : Int32) (p3 : Int32) (o : Int32 × (Nat → Int64) × (Nat → Int64) × Int32 × Int32) (hF : fL_lay fb rws nx ct p1 p2 p3 = some o) : zMIc l yL_lay wsL_lay rmL_lay G k (zC ad k sv kE kR fb ft fs rws nx ct ch ln) sz [.ref (ad 0), .int p1, .int p2, .int p3] 4 24 o.1 (zC ad k sv kE kR o.2.1 ft fs o.2.2.1 o.2.2.2.1 o.2.2.2.2 ch ln) := by
  refine zof_Wc (cc := cL_lay) (nL := 6) (own := RL) (rt := .int) (by decide) rfl rfl (Nat.le_of_ble_eq_true rfl) ?_
  intro p e s m args below meth c A Q C0 hK hA hret hTab ls hl hw
  have hl : lv_has ls 6 [(0, .ref (ad 0)), (1, .int p1), (2, .int p2), (3, .int p3)] := hl
  obtain ⟨hx, hb, hr, hml, hown, hts, hlocks⟩ := id C0
  obtain ⟨H, hH⟩ : ∃ z, z = s.heap := ⟨_, rfl⟩
  rw [← hH] at hw ⊢
  obtain ⟨ca, hca⟩ : ∃ z : Nat, z = 0 := ⟨_, rfl⟩
  obtain ⟨cb, hcb⟩ : ∃ z : Nat, z = 0 := ⟨_, rfl⟩
  refine W.widen (k := ca) (n := cb) (Nat.zero_le _) (Nat.zero_le _) ?_
  unfold fL_lay at hF
  refine lv_ldc (v := (-100000000 : Int32)) hx hb hown (hts (.constant RL 10 (-100000000)) (by decide +kernel)) dL_lay_0 ?_
  refine lv_istore (lv' := [(4, .int (-100000000 : Int32)), (0, .ref (ad 0)), (1, .int p1), (2, .int p2), (3, .int p3)]) hx hb dL_lay_2 hl (by decide) rfl (fun ls hl => ?_)
  refine lv_aload_n hx hb dL_lay_4 rfl (lv_at hl 1 rfl) ?_
  refine lv_iload_n hx hb dL_lay_5 rfl (lv_at hl 2 rfl) ?_
  refine lv_iload_n hx hb dL_lay_6 rfl (lv_at hl 3 rfl) ?_
  refine lv_iload_n hx hb dL_lay_7 rfl (lv_at hl 4 rfl) ?_
  obtain ⟨u1, hq2, hF⟩ := zbd_t hF
  refine zgoXI4 (o0 := u1.1) (w' := (zC ad k sv kE kR u1.2.2.1 ft fs u1.2.2.2.1 u1.2.2.2.2.1 u1.2.2.2.2.2 ch ln)) (wa := []) (wc := (zC ad k sv kE kR fb ft fs rws nx ct ch ln)) (wc' := (zC ad k sv kE kR u1.2.2.1 ft fs u1.2.2.2.1 u1.2.2.2.2.1 u1.2.2.2.2.2 ch ln)) (wr := []) hw (zap_nil _) (zap_nil _) hA (zVx4 (wa := []) (wc := (zC ad k sv kE kR fb ft fs rws nx ct ch ln)) (wr := []) (As := [.int p1, .int p2, .int p3]) (rest := []) ⟨hx, hb, hml, hown, hts⟩ (mX4_lay l hl9 G k ad H.size sv kE kR fb ft fs rws nx ct ch ln p1 p2 p3 u1 hq2) (cwV 3 hts gL_lay_X4_lay rfl rfl rfl kdX4_lay ⟨Nat.le_of_ble_eq_true rfl, Nat.le_of_ble_eq_true rfl⟩) hK hA hw (zap_nil _) 0 rfl rfl rfl rfl hl.1 rfl (Nat.le_of_ble_eq_true rfl) dL_lay_8 ⟨(by show _ ≤ 4; omega), (by show _ ≤ 24; omega)⟩) rfl (fun h03 H locs q9 E9 ce9 hw g1 g2 g3 g4 => ?_) (fun h03 H locs hw => ?_)
  · have hF := zif_f h03 hF
    have hw : zWd G A s (zC ad k sv kE kR u1.2.2.1 ft fs u1.2.2.2.1 u1.2.2.2.2.1 u1.2.2.2.2.2 ch ln) H locs := hw
    by_cases hc4 : u1.1 = 1
    · have hF := zif_t hc4 hF
      have gE : E9 = "java/lang/IndexOutOfBoundsException" := g4.trans (by rw [hc4]; rfl)
      subst gE
      refine vx_catch (name := "java/lang/IndexOutOfBoundsException") (E := "java/lang/IndexOutOfBoundsException") hown [] ⟨4, 13, 16, 17⟩ [⟨4, 13, 21, 19⟩, ⟨4, 13, 26, 21⟩] (by rw [hTab]; rfl) (fun _ h9 => nomatch h9) (by decide) (by decide) (hts (.classLink RL 17 "java/lang/IndexOutOfBoundsException") (by decide +kernel)) (va_Nw.use rfl (hK.2.cast (by decide))) g1 g2 g3 ?_
      refine lv_astore (lv' := [(5, .ref q9), (4, .int (-100000000 : Int32)), (0, .ref (ad 0)), (1, .int p1), (2, .int p2), (3, .int p3)]) hx hb dL_lay_16 hl (by decide) rfl (fun ls hl => ?_)
      refine lv_ldc (v := (-100000000 : Int32)) hx hb hown (hts (.constant RL 10 (-100000000)) (by decide +kernel)) dL_lay_18 ?_
      obtain rfl := Option.some.inj hF
      refine W.widen (k := 4) (n := 24) (by omega) (by omega) ?_
      exact hret _ _ _ _ rfl hw dL_lay_20
    have hF := zif_f hc4 hF
    by_cases hc5 : u1.1 = 2
    · have hF := zif_t hc5 hF
      have gE : E9 = "java/lang/IllegalArgumentException" := g4.trans (by rw [hc5]; rfl)
      subst gE
      refine vx_catch (name := "java/lang/IllegalArgumentException") (E := "java/lang/IllegalArgumentException") hown [⟨4, 13, 16, 17⟩] ⟨4, 13, 21, 19⟩ [⟨4, 13, 26, 21⟩] (by rw [hTab]; rfl) (List.forall_mem_cons.mpr ⟨Or.inr ⟨by decide, "java/lang/IndexOutOfBoundsException", (hts (.classLink RL 17 "java/lang/IndexOutOfBoundsException") (by decide +kernel)), hK.2.nc (q := ("java/lang/IllegalArgumentException", "java/lang/IndexOutOfBoundsException")) (by decide)⟩, (fun _ h9 => nomatch h9)⟩) (by decide) (by decide) (hts (.classLink RL 19 "java/lang/IllegalArgumentException") (by decide +kernel)) (va_Nw.use rfl (hK.2.cast (by decide))) g1 g2 g3 ?_
      refine lv_astore (lv' := [(5, .ref q9), (4, .int (-100000000 : Int32)), (0, .ref (ad 0)), (1, .int p1), (2, .int p2), (3, .int p3)]) hx hb dL_lay_21 hl (by decide) rfl (fun ls hl => ?_)
      refine lv_ldc (v := (-100000000 : Int32)) hx hb hown (hts (.constant RL 10 (-100000000)) (by decide +kernel)) dL_lay_23 ?_
      obtain rfl := Option.some.inj hF
      refine W.widen (k := 4) (n := 24) (by omega) (by omega) ?_
      exact hret _ _ _ _ rfl hw dL_lay_25
    have hF := zif_f hc5 hF
    by_cases hc6 : u1.1 = 3
    · have hF := zif_t hc6 hF
      have gE : E9 = "java/lang/IllegalStateException" := g4.trans (by rw [hc6]; rfl)
      subst gE
      refine vx_catch (name := "java/lang/IllegalStateException") (E := "java/lang/IllegalStateException") hown [⟨4, 13, 16, 17⟩, ⟨4, 13, 21, 19⟩] ⟨4, 13, 26, 21⟩ [] (by rw [hTab]; rfl) (List.forall_mem_cons.mpr ⟨Or.inr ⟨by decide, "java/lang/IndexOutOfBoundsException", (hts (.classLink RL 17 "java/lang/IndexOutOfBoundsException") (by decide +kernel)), hK.2.nc (q := ("java/lang/IllegalStateException", "java/lang/IndexOutOfBoundsException")) (by decide)⟩, (List.forall_mem_cons.mpr ⟨Or.inr ⟨by decide, "java/lang/IllegalArgumentException", (hts (.classLink RL 19 "java/lang/IllegalArgumentException") (by decide +kernel)), hK.2.nc (q := ("java/lang/IllegalStateException", "java/lang/IllegalArgumentException")) (by decide)⟩, (fun _ h9 => nomatch h9)⟩)⟩) (by decide) (by decide) (hts (.classLink RL 21 "java/lang/IllegalStateException") (by decide +kernel)) (va_Nw.use rfl (hK.2.cast (by decide))) g1 g2 g3 ?_
      refine lv_astore (lv' := [(5, .ref q9), (4, .int (-100000000 : Int32)), (0, .ref (ad 0)), (1, .int p1), (2, .int p2), (3, .int p3)]) hx hb dL_lay_26 hl (by decide) rfl (fun ls hl => ?_)
      refine lv_ldc (v := (-100000000 : Int32)) hx hb hown (hts (.constant RL 10 (-100000000)) (by decide +kernel)) dL_lay_28 ?_
      obtain rfl := Option.some.inj hF
      refine W.widen (k := 4) (n := 24) (by omega) (by omega) ?_
      exact hret _ _ _ _ rfl hw dL_lay_30
    have hF := zif_f hc6 hF
    exact nomatch hF
  have hF := zif_t h03 hF
  have hw : zWd G A s (zC ad k sv kE kR u1.2.2.1 ft fs u1.2.2.2.1 u1.2.2.2.2.1 u1.2.2.2.2.2 ch ln) H locs := hw
  refine lv_istore (lv' := [(4, .int u1.2.1), (0, .ref (ad 0)), (1, .int p1), (2, .int p2), (3, .int p3)]) hx hb dL_lay_11 hl (by decide) rfl (fun ls hl => ?_)
  refine lv_goto (tgt := 31) hx hb dL_lay_13 (by decide) ?_
  refine lv_iload hx hb dL_lay_31 (lv_at hl 0 rfl) ?_
  obtain rfl := Option.some.inj hF
  refine W.widen (k := 4) (n := 24) (by omega) (by omega) ?_
  exact hret _ _ _ _ rfl hw dL_lay_33

/-! SealedBoardLaw.wall(LSealedBoard;I)I -/
abbrev rmL_wall : Room := { frames := 8, cells := 2, slots := 12, locals := 124 }
theorem kdL_wall : yL_wall.cls ≠ "java/lang/invoke/MethodHandle" ∧ yL_wall.cls ≠ "java/lang/invoke/VarHandle" ∧ (parseMethodDescriptor yL_wall.desc).map (fun d => d.parameters.length) = some 2 := by decide +kernel
def fL_wall (fb : Nat → Int64) (rws : Nat → Int64) (nx : Int32) (ct : Int32) (p1 : Int32) : Option (Int32 × (Nat → Int64) × (Nat → Int64) × Int32 × Int32) := (zbd (fX4_wall fb rws nx ct p1) (fun u1 => (if u1.1 = 0 then (some (u1.2.1, u1.2.2.1, u1.2.2.2.1, u1.2.2.2.2.1, u1.2.2.2.2.2)) else (if u1.1 = 1 then (some ((-100000000 : Int32), u1.2.2.1, u1.2.2.2.1, u1.2.2.2.2.1, u1.2.2.2.2.2)) else (if u1.1 = 3 then (some ((-100000000 : Int32), u1.2.2.1, u1.2.2.2.1, u1.2.2.2.2.1, u1.2.2.2.2.2)) else none)))))
set_option maxHeartbeats 1000000 in
set_option maxRecDepth 100000 in
theorem mL_wall (l : Launch) (hl9 : l.stackTraces = false) (G : va_G) (k : Nat → ClassId) (ad : Nat → Nat) (sz : Nat) (sv : Int32) (kE : Int32) (kR : Int32) (fb : Nat → Int64) (ft : Nat → Int64) (fs : Nat → Int64) (rws : Nat → Int64) (nx : Int32) (ct : Int32) (ch : Nat → Int32) (ln : Int32) (p1 : Int32) (o : Int32 × (Nat → Int64) × (Nat → Int64) × Int32 × Int32) (hF : fL_wall fb rws nx ct p1 = some o) : zMIc l yL_wall wsL_wall rmL_wall G k (zC ad k sv kE kR fb ft fs rws nx ct ch ln) sz [.ref (ad 0), .int p1] 2 12 o.1 (zC ad k sv kE kR o.2.1 ft fs o.2.2.1 o.2.2.2.1 o.2.2.2.2 ch ln) := by
  refine zof_Wc (cc := cL_wall) (nL := 4) (own := RL) (rt := .int) (by decide) rfl rfl (Nat.le_of_ble_eq_true rfl) ?_
  intro p e s m args below meth c A Q C0 hK hA hret hTab ls hl hw
  have hl : lv_has ls 4 [(0, .ref (ad 0)), (1, .int p1)] := hl
  obtain ⟨hx, hb, hr, hml, hown, hts, hlocks⟩ := id C0
  obtain ⟨H, hH⟩ : ∃ z, z = s.heap := ⟨_, rfl⟩
  rw [← hH] at hw ⊢
  obtain ⟨ca, hca⟩ : ∃ z : Nat, z = 0 := ⟨_, rfl⟩
  obtain ⟨cb, hcb⟩ : ∃ z : Nat, z = 0 := ⟨_, rfl⟩
  refine W.widen (k := ca) (n := cb) (Nat.zero_le _) (Nat.zero_le _) ?_
  unfold fL_wall at hF
  refine lv_ldc (v := (-100000000 : Int32)) hx hb hown (hts (.constant RL 10 (-100000000)) (by decide +kernel)) dL_wall_0 ?_
  refine lv_istore_n (lv' := [(2, .int (-100000000 : Int32)), (0, .ref (ad 0)), (1, .int p1)]) hx hb dL_wall_2 rfl hl (by decide) rfl (fun ls hl => ?_)
  refine lv_aload_n hx hb dL_wall_3 rfl (lv_at hl 1 rfl) ?_
  refine lv_iload_n hx hb dL_wall_4 rfl (lv_at hl 2 rfl) ?_
  obtain ⟨u1, hq2, hF⟩ := zbd_t hF
  refine zgoXI4 (o0 := u1.1) (w' := (zC ad k sv kE kR u1.2.2.1 ft fs u1.2.2.2.1 u1.2.2.2.2.1 u1.2.2.2.2.2 ch ln)) (wa := []) (wc := (zC ad k sv kE kR fb ft fs rws nx ct ch ln)) (wc' := (zC ad k sv kE kR u1.2.2.1 ft fs u1.2.2.2.1 u1.2.2.2.2.1 u1.2.2.2.2.2 ch ln)) (wr := []) hw (zap_nil _) (zap_nil _) hA (zVx4 (wa := []) (wc := (zC ad k sv kE kR fb ft fs rws nx ct ch ln)) (wr := []) (As := [.int p1]) (rest := []) ⟨hx, hb, hml, hown, hts⟩ (mX4_wall l hl9 G k ad H.size sv kE kR fb ft fs rws nx ct ch ln p1 u1 hq2) (cwV 1 hts gL_wall_X4_wall rfl rfl rfl kdX4_wall ⟨Nat.le_of_ble_eq_true rfl, Nat.le_of_ble_eq_true rfl⟩) hK hA hw (zap_nil _) 0 rfl rfl rfl rfl hl.1 rfl (Nat.le_of_ble_eq_true rfl) dL_wall_5 ⟨(by show _ ≤ 2; omega), (by show _ ≤ 12; omega)⟩) rfl (fun h03 H locs q9 E9 ce9 hw g1 g2 g3 g4 => ?_) (fun h03 H locs hw => ?_)
  · have hF := zif_f h03 hF
    have hw : zWd G A s (zC ad k sv kE kR u1.2.2.1 ft fs u1.2.2.2.1 u1.2.2.2.2.1 u1.2.2.2.2.2 ch ln) H locs := hw
    by_cases hc4 : u1.1 = 1
    · have hF := zif_t hc4 hF
      have gE : E9 = "java/lang/IndexOutOfBoundsException" := g4.trans (by rw [hc4]; rfl)
      subst gE
      refine vx_catch (name := "java/lang/IndexOutOfBoundsException") (E := "java/lang/IndexOutOfBoundsException") hown [] ⟨3, 9, 12, 17⟩ [⟨3, 9, 16, 21⟩] (by rw [hTab]; rfl) (fun _ h9 => nomatch h9) (by decide) (by decide) (hts (.classLink RL 17 "java/lang/IndexOutOfBoundsException") (by decide +kernel)) (va_Nw.use rfl (hK.2.cast (by decide))) g1 g2 g3 ?_
      refine lv_astore_n (lv' := [(3, .ref q9), (2, .int (-100000000 : Int32)), (0, .ref (ad 0)), (1, .int p1)]) hx hb dL_wall_12 rfl hl (by decide) rfl (fun ls hl => ?_)
      refine lv_ldc (v := (-100000000 : Int32)) hx hb hown (hts (.constant RL 10 (-100000000)) (by decide +kernel)) dL_wall_13 ?_
      obtain rfl := Option.some.inj hF
      refine W.widen (k := 2) (n := 12) (by omega) (by omega) ?_
      exact hret _ _ _ _ rfl hw dL_wall_15
    have hF := zif_f hc4 hF
    by_cases hc5 : u1.1 = 3
    · have hF := zif_t hc5 hF
      have gE : E9 = "java/lang/IllegalStateException" := g4.trans (by rw [hc5]; rfl)
      subst gE
      refine vx_catch (name := "java/lang/IllegalStateException") (E := "java/lang/IllegalStateException") hown [⟨3, 9, 12, 17⟩] ⟨3, 9, 16, 21⟩ [] (by rw [hTab]; rfl) (List.forall_mem_cons.mpr ⟨Or.inr ⟨by decide, "java/lang/IndexOutOfBoundsException", (hts (.classLink RL 17 "java/lang/IndexOutOfBoundsException") (by decide +kernel)), hK.2.nc (q := ("java/lang/IllegalStateException", "java/lang/IndexOutOfBoundsException")) (by decide)⟩, (fun _ h9 => nomatch h9)⟩) (by decide) (by decide) (hts (.classLink RL 21 "java/lang/IllegalStateException") (by decide +kernel)) (va_Nw.use rfl (hK.2.cast (by decide))) g1 g2 g3 ?_
      refine lv_astore_n (lv' := [(3, .ref q9), (2, .int (-100000000 : Int32)), (0, .ref (ad 0)), (1, .int p1)]) hx hb dL_wall_16 rfl hl (by decide) rfl (fun ls hl => ?_)
      refine lv_ldc (v := (-100000000 : Int32)) hx hb hown (hts (.constant RL 10 (-100000000)) (by decide +kernel)) dL_wall_17 ?_
      obtain rfl := Option.some.inj hF
      refine W.widen (k := 2) (n := 12) (by omega) (by omega) ?_
      exact hret _ _ _ _ rfl hw dL_wall_19
    have hF := zif_f hc5 hF
    exact nomatch hF
  have hF := zif_t h03 hF
  have hw : zWd G A s (zC ad k sv kE kR u1.2.2.1 ft fs u1.2.2.2.1 u1.2.2.2.2.1 u1.2.2.2.2.2 ch ln) H locs := hw
  refine lv_istore_n (lv' := [(2, .int u1.2.1), (0, .ref (ad 0)), (1, .int p1)]) hx hb dL_wall_8 rfl hl (by decide) rfl (fun ls hl => ?_)
  refine lv_goto (tgt := 20) hx hb dL_wall_9 (by decide) ?_
  refine lv_iload_n hx hb dL_wall_20 rfl (lv_at hl 0 rfl) ?_
  obtain rfl := Option.some.inj hF
  refine W.widen (k := 2) (n := 12) (by omega) (by omega) ?_
  exact hret _ _ _ _ rfl hw dL_wall_21

/-! SealedBoardLaw.move(LSealedBoard;II)I -/
abbrev rmL_move : Room := { frames := 8, cells := 3, slots := 18, locals := 126 }
theorem kdL_move : yL_move.cls ≠ "java/lang/invoke/MethodHandle" ∧ yL_move.cls ≠ "java/lang/invoke/VarHandle" ∧ (parseMethodDescriptor yL_move.desc).map (fun d => d.parameters.length) = some 3 := by decide +kernel
def fL_move (kR : Int32) (fb : Nat → Int64) (rws : Nat → Int64) (nx : Int32) (ct : Int32) (p1 : Int32) (p2 : Int32) : Option (Int32 × Int32 × (Nat → Int64) × (Nat → Int64) × Int32 × Int32) := (zbd (fX4_move kR fb rws nx ct p1 p2) (fun u1 => (if u1.1 = 0 then (some (u1.2.1, u1.2.2.1, u1.2.2.2.1, u1.2.2.2.2.1, u1.2.2.2.2.2.1, u1.2.2.2.2.2.2)) else (if u1.1 = 1 then (some ((-100000000 : Int32), u1.2.2.1, u1.2.2.2.1, u1.2.2.2.2.1, u1.2.2.2.2.2.1, u1.2.2.2.2.2.2)) else (if u1.1 = 4 then (some ((-100000000 : Int32), u1.2.2.1, u1.2.2.2.1, u1.2.2.2.2.1, u1.2.2.2.2.2.1, u1.2.2.2.2.2.2)) else none)))))
set_option maxHeartbeats 1000000 in
set_option maxRecDepth 100000 in
theorem mL_move (l : Launch) (hl9 : l.stackTraces = false) (G : va_G) (k : Nat → ClassId) (ad : Nat → Nat) (sz : Nat) (sv : Int32) (kE : Int32) (kR : Int32) (fb : Nat → Int64) (ft : Nat → Int64) (fs : Nat → Int64) (rws : Nat → Int64) (nx : Int32) (ct : Int32) (ch : Nat → Int32) (ln : Int32) (p1 : Int32) (p2 : Int32) (o : Int32 × Int32 × (Nat → Int64) × (Nat → Int64) × Int32 × Int32) (hF : fL_move kR fb rws nx ct p1 p2 = some o) : zMIc l yL_move wsL_move rmL_move G k (zC ad k sv kE kR fb ft fs rws nx ct ch ln) sz [.ref (ad 0), .int p1, .int p2] 3 18 o.1 (zC ad k sv kE o.2.1 o.2.2.1 ft fs o.2.2.2.1 o.2.2.2.2.1 o.2.2.2.2.2 ch ln) := by
  refine zof_Wc (cc := cL_move) (nL := 5) (own := RL) (rt := .int) (by decide) rfl rfl (Nat.le_of_ble_eq_true rfl) ?_
  intro p e s m args below meth c A Q C0 hK hA hret hTab ls hl hw
  have hl : lv_has ls 5 [(0, .ref (ad 0)), (1, .int p1), (2, .int p2)] := hl
  obtain ⟨hx, hb, hr, hml, hown, hts, hlocks⟩ := id C0
  obtain ⟨H, hH⟩ : ∃ z, z = s.heap := ⟨_, rfl⟩
  rw [← hH] at hw ⊢
  obtain ⟨ca, hca⟩ : ∃ z : Nat, z = 0 := ⟨_, rfl⟩
  obtain ⟨cb, hcb⟩ : ∃ z : Nat, z = 0 := ⟨_, rfl⟩
  refine W.widen (k := ca) (n := cb) (Nat.zero_le _) (Nat.zero_le _) ?_
  unfold fL_move at hF
  refine lv_ldc (v := (-100000000 : Int32)) hx hb hown (hts (.constant RL 10 (-100000000)) (by decide +kernel)) dL_move_0 ?_
  refine lv_istore_n (lv' := [(3, .int (-100000000 : Int32)), (0, .ref (ad 0)), (1, .int p1), (2, .int p2)]) hx hb dL_move_2 rfl hl (by decide) rfl (fun ls hl => ?_)
  refine lv_aload_n hx hb dL_move_3 rfl (lv_at hl 1 rfl) ?_
  refine lv_iload_n hx hb dL_move_4 rfl (lv_at hl 2 rfl) ?_
  refine lv_iload_n hx hb dL_move_5 rfl (lv_at hl 3 rfl) ?_
  obtain ⟨u1, hq2, hF⟩ := zbd_t hF
  refine zgoXI4 (o0 := u1.1) (w' := (zC ad k sv kE u1.2.2.1 u1.2.2.2.1 ft fs u1.2.2.2.2.1 u1.2.2.2.2.2.1 u1.2.2.2.2.2.2 ch ln)) (wa := []) (wc := (zC ad k sv kE kR fb ft fs rws nx ct ch ln)) (wc' := (zC ad k sv kE u1.2.2.1 u1.2.2.2.1 ft fs u1.2.2.2.2.1 u1.2.2.2.2.2.1 u1.2.2.2.2.2.2 ch ln)) (wr := []) hw (zap_nil _) (zap_nil _) hA (zVx4 (wa := []) (wc := (zC ad k sv kE kR fb ft fs rws nx ct ch ln)) (wr := []) (As := [.int p1, .int p2]) (rest := []) ⟨hx, hb, hml, hown, hts⟩ (mX4_move l hl9 G k ad H.size sv kE kR fb ft fs rws nx ct ch ln p1 p2 u1 hq2) (cwV 2 hts gL_move_X4_move rfl rfl rfl kdX4_move ⟨Nat.le_of_ble_eq_true rfl, Nat.le_of_ble_eq_true rfl⟩) hK hA hw (zap_nil _) 0 rfl rfl rfl rfl hl.1 rfl (Nat.le_of_ble_eq_true rfl) dL_move_6 ⟨(by show _ ≤ 3; omega), (by show _ ≤ 18; omega)⟩) rfl (fun h03 H locs q9 E9 ce9 hw g1 g2 g3 g4 => ?_) (fun h03 H locs hw => ?_)
  · have hF := zif_f h03 hF
    have hw : zWd G A s (zC ad k sv kE u1.2.2.1 u1.2.2.2.1 ft fs u1.2.2.2.2.1 u1.2.2.2.2.2.1 u1.2.2.2.2.2.2 ch ln) H locs := hw
    by_cases hc4 : u1.1 = 1
    · have hF := zif_t hc4 hF
      have gE : E9 = "java/lang/IndexOutOfBoundsException" := g4.trans (by rw [hc4]; rfl)
      subst gE
      refine vx_catch (name := "java/lang/IndexOutOfBoundsException") (E := "java/lang/IndexOutOfBoundsException") hown [] ⟨3, 10, 13, 17⟩ [⟨3, 10, 18, 31⟩] (by rw [hTab]; rfl) (fun _ h9 => nomatch h9) (by decide) (by decide) (hts (.classLink RL 17 "java/lang/IndexOutOfBoundsException") (by decide +kernel)) (va_Nw.use rfl (hK.2.cast (by decide))) g1 g2 g3 ?_
      refine lv_astore (lv' := [(4, .ref q9), (3, .int (-100000000 : Int32)), (0, .ref (ad 0)), (1, .int p1), (2, .int p2)]) hx hb dL_move_13 hl (by decide) rfl (fun ls hl => ?_)
      refine lv_ldc (v := (-100000000 : Int32)) hx hb hown (hts (.constant RL 10 (-100000000)) (by decide +kernel)) dL_move_15 ?_
      obtain rfl := Option.some.inj hF
      refine W.widen (k := 3) (n := 18) (by omega) (by omega) ?_
      exact hret _ _ _ _ rfl hw dL_move_17
    have hF := zif_f hc4 hF
    by_cases hc5 : u1.1 = 4
    · have hF := zif_t hc5 hF
      have gE : E9 = "java/lang/UnsupportedOperationException" := g4.trans (by rw [hc5]; rfl)
      subst gE
      refine vx_catch (name := "java/lang/UnsupportedOperationException") (E := "java/lang/UnsupportedOperationException") hown [⟨3, 10, 13, 17⟩] ⟨3, 10, 18, 31⟩ [] (by rw [hTab]; rfl) (List.forall_mem_cons.mpr ⟨Or.inr ⟨by decide, "java/lang/IndexOutOfBoundsException", (hts (.classLink RL 17 "java/lang/IndexOutOfBoundsException") (by decide +kernel)), hK.2.nc (q := ("java/lang/UnsupportedOperationException", "java/lang/IndexOutOfBoundsException")) (by decide)⟩, (fun _ h9 => nomatch h9)⟩) (by decide) (by decide) (hts (.classLink RL 31 "java/lang/UnsupportedOperationException") (by decide +kernel)) (va_Nw.use rfl (hK.2.cast (by decide))) g1 g2 g3 ?_
      refine lv_astore (lv' := [(4, .ref q9), (3, .int (-100000000 : Int32)), (0, .ref (ad 0)), (1, .int p1), (2, .int p2)]) hx hb dL_move_18 hl (by decide) rfl (fun ls hl => ?_)
      refine lv_ldc (v := (-100000000 : Int32)) hx hb hown (hts (.constant RL 10 (-100000000)) (by decide +kernel)) dL_move_20 ?_
      obtain rfl := Option.some.inj hF
      refine W.widen (k := 3) (n := 18) (by omega) (by omega) ?_
      exact hret _ _ _ _ rfl hw dL_move_22
    have hF := zif_f hc5 hF
    exact nomatch hF
  have hF := zif_t h03 hF
  have hw : zWd G A s (zC ad k sv kE u1.2.2.1 u1.2.2.2.1 ft fs u1.2.2.2.2.1 u1.2.2.2.2.2.1 u1.2.2.2.2.2.2 ch ln) H locs := hw
  refine lv_istore_n (lv' := [(3, .int u1.2.1), (0, .ref (ad 0)), (1, .int p1), (2, .int p2)]) hx hb dL_move_9 rfl hl (by decide) rfl (fun ls hl => ?_)
  refine lv_goto (tgt := 23) hx hb dL_move_10 (by decide) ?_
  refine lv_iload_n hx hb dL_move_23 rfl (lv_at hl 0 rfl) ?_
  obtain rfl := Option.some.inj hF
  refine W.widen (k := 3) (n := 18) (by omega) (by omega) ?_
  exact hret _ _ _ _ rfl hw dL_move_24

/-! SealedBoardLaw.door(LSealedBoard;I)I -/
abbrev rmL_door : Room := { frames := 8, cells := 2, slots := 12, locals := 124 }
theorem kdL_door : yL_door.cls ≠ "java/lang/invoke/MethodHandle" ∧ yL_door.cls ≠ "java/lang/invoke/VarHandle" ∧ (parseMethodDescriptor yL_door.desc).map (fun d => d.parameters.length) = some 2 := by decide +kernel
def fL_door (kR : Int32) (fb : Nat → Int64) (rws : Nat → Int64) (nx : Int32) (ct : Int32) (p1 : Int32) : Option (Int32 × Int32 × (Nat → Int64) × (Nat → Int64) × Int32 × Int32) := (zbd (fX4_door kR fb rws nx ct p1) (fun u1 => (if u1.1 = 0 then (some (u1.2.1, u1.2.2.1, u1.2.2.2.1, u1.2.2.2.2.1, u1.2.2.2.2.2.1, u1.2.2.2.2.2.2)) else (if u1.1 = 1 then (some ((-100000000 : Int32), u1.2.2.1, u1.2.2.2.1, u1.2.2.2.2.1, u1.2.2.2.2.2.1, u1.2.2.2.2.2.2)) else (if u1.1 = 4 then (some ((-100000000 : Int32), u1.2.2.1, u1.2.2.2.1, u1.2.2.2.2.1, u1.2.2.2.2.2.1, u1.2.2.2.2.2.2)) else none)))))
set_option maxHeartbeats 1000000 in
set_option maxRecDepth 100000 in
theorem mL_door (l : Launch) (hl9 : l.stackTraces = false) (G : va_G) (k : Nat → ClassId) (ad : Nat → Nat) (sz : Nat) (sv : Int32) (kE : Int32) (kR : Int32) (fb : Nat → Int64) (ft : Nat → Int64) (fs : Nat → Int64) (rws : Nat → Int64) (nx : Int32) (ct : Int32) (ch : Nat → Int32) (ln : Int32) (p1 : Int32) (o : Int32 × Int32 × (Nat → Int64) × (Nat → Int64) × Int32 × Int32) (hF : fL_door kR fb rws nx ct p1 = some o) : zMIc l yL_door wsL_door rmL_door G k (zC ad k sv kE kR fb ft fs rws nx ct ch ln) sz [.ref (ad 0), .int p1] 2 12 o.1 (zC ad k sv kE o.2.1 o.2.2.1 ft fs o.2.2.2.1 o.2.2.2.2.1 o.2.2.2.2.2 ch ln) := by
  refine zof_Wc (cc := cL_door) (nL := 4) (own := RL) (rt := .int) (by decide) rfl rfl (Nat.le_of_ble_eq_true rfl) ?_
  intro p e s m args below meth c A Q C0 hK hA hret hTab ls hl hw
  have hl : lv_has ls 4 [(0, .ref (ad 0)), (1, .int p1)] := hl
  obtain ⟨hx, hb, hr, hml, hown, hts, hlocks⟩ := id C0
  obtain ⟨H, hH⟩ : ∃ z, z = s.heap := ⟨_, rfl⟩
  rw [← hH] at hw ⊢
  obtain ⟨ca, hca⟩ : ∃ z : Nat, z = 0 := ⟨_, rfl⟩
  obtain ⟨cb, hcb⟩ : ∃ z : Nat, z = 0 := ⟨_, rfl⟩
  refine W.widen (k := ca) (n := cb) (Nat.zero_le _) (Nat.zero_le _) ?_
  unfold fL_door at hF
  refine lv_ldc (v := (-100000000 : Int32)) hx hb hown (hts (.constant RL 10 (-100000000)) (by decide +kernel)) dL_door_0 ?_
  refine lv_istore_n (lv' := [(2, .int (-100000000 : Int32)), (0, .ref (ad 0)), (1, .int p1)]) hx hb dL_door_2 rfl hl (by decide) rfl (fun ls hl => ?_)
  refine lv_aload_n hx hb dL_door_3 rfl (lv_at hl 1 rfl) ?_
  refine lv_iload_n hx hb dL_door_4 rfl (lv_at hl 2 rfl) ?_
  obtain ⟨u1, hq2, hF⟩ := zbd_t hF
  refine zgoXI4 (o0 := u1.1) (w' := (zC ad k sv kE u1.2.2.1 u1.2.2.2.1 ft fs u1.2.2.2.2.1 u1.2.2.2.2.2.1 u1.2.2.2.2.2.2 ch ln)) (wa := []) (wc := (zC ad k sv kE kR fb ft fs rws nx ct ch ln)) (wc' := (zC ad k sv kE u1.2.2.1 u1.2.2.2.1 ft fs u1.2.2.2.2.1 u1.2.2.2.2.2.1 u1.2.2.2.2.2.2 ch ln)) (wr := []) hw (zap_nil _) (zap_nil _) hA (zVx4 (wa := []) (wc := (zC ad k sv kE kR fb ft fs rws nx ct ch ln)) (wr := []) (As := [.int p1]) (rest := []) ⟨hx, hb, hml, hown, hts⟩ (mX4_door l hl9 G k ad H.size sv kE kR fb ft fs rws nx ct ch ln p1 u1 hq2) (cwV 1 hts gL_door_X4_door rfl rfl rfl kdX4_door ⟨Nat.le_of_ble_eq_true rfl, Nat.le_of_ble_eq_true rfl⟩) hK hA hw (zap_nil _) 0 rfl rfl rfl rfl hl.1 rfl (Nat.le_of_ble_eq_true rfl) dL_door_5 ⟨(by show _ ≤ 2; omega), (by show _ ≤ 12; omega)⟩) rfl (fun h03 H locs q9 E9 ce9 hw g1 g2 g3 g4 => ?_) (fun h03 H locs hw => ?_)
  · have hF := zif_f h03 hF
    have hw : zWd G A s (zC ad k sv kE u1.2.2.1 u1.2.2.2.1 ft fs u1.2.2.2.2.1 u1.2.2.2.2.2.1 u1.2.2.2.2.2.2 ch ln) H locs := hw
    by_cases hc4 : u1.1 = 1
    · have hF := zif_t hc4 hF
      have gE : E9 = "java/lang/IndexOutOfBoundsException" := g4.trans (by rw [hc4]; rfl)
      subst gE
      refine vx_catch (name := "java/lang/IndexOutOfBoundsException") (E := "java/lang/IndexOutOfBoundsException") hown [] ⟨3, 9, 12, 17⟩ [⟨3, 9, 16, 31⟩] (by rw [hTab]; rfl) (fun _ h9 => nomatch h9) (by decide) (by decide) (hts (.classLink RL 17 "java/lang/IndexOutOfBoundsException") (by decide +kernel)) (va_Nw.use rfl (hK.2.cast (by decide))) g1 g2 g3 ?_
      refine lv_astore_n (lv' := [(3, .ref q9), (2, .int (-100000000 : Int32)), (0, .ref (ad 0)), (1, .int p1)]) hx hb dL_door_12 rfl hl (by decide) rfl (fun ls hl => ?_)
      refine lv_ldc (v := (-100000000 : Int32)) hx hb hown (hts (.constant RL 10 (-100000000)) (by decide +kernel)) dL_door_13 ?_
      obtain rfl := Option.some.inj hF
      refine W.widen (k := 2) (n := 12) (by omega) (by omega) ?_
      exact hret _ _ _ _ rfl hw dL_door_15
    have hF := zif_f hc4 hF
    by_cases hc5 : u1.1 = 4
    · have hF := zif_t hc5 hF
      have gE : E9 = "java/lang/UnsupportedOperationException" := g4.trans (by rw [hc5]; rfl)
      subst gE
      refine vx_catch (name := "java/lang/UnsupportedOperationException") (E := "java/lang/UnsupportedOperationException") hown [⟨3, 9, 12, 17⟩] ⟨3, 9, 16, 31⟩ [] (by rw [hTab]; rfl) (List.forall_mem_cons.mpr ⟨Or.inr ⟨by decide, "java/lang/IndexOutOfBoundsException", (hts (.classLink RL 17 "java/lang/IndexOutOfBoundsException") (by decide +kernel)), hK.2.nc (q := ("java/lang/UnsupportedOperationException", "java/lang/IndexOutOfBoundsException")) (by decide)⟩, (fun _ h9 => nomatch h9)⟩) (by decide) (by decide) (hts (.classLink RL 31 "java/lang/UnsupportedOperationException") (by decide +kernel)) (va_Nw.use rfl (hK.2.cast (by decide))) g1 g2 g3 ?_
      refine lv_astore_n (lv' := [(3, .ref q9), (2, .int (-100000000 : Int32)), (0, .ref (ad 0)), (1, .int p1)]) hx hb dL_door_16 rfl hl (by decide) rfl (fun ls hl => ?_)
      refine lv_ldc (v := (-100000000 : Int32)) hx hb hown (hts (.constant RL 10 (-100000000)) (by decide +kernel)) dL_door_17 ?_
      obtain rfl := Option.some.inj hF
      refine W.widen (k := 2) (n := 12) (by omega) (by omega) ?_
      exact hret _ _ _ _ rfl hw dL_door_19
    have hF := zif_f hc5 hF
    exact nomatch hF
  have hF := zif_t h03 hF
  have hw : zWd G A s (zC ad k sv kE u1.2.2.1 u1.2.2.2.1 ft fs u1.2.2.2.2.1 u1.2.2.2.2.2.1 u1.2.2.2.2.2.2 ch ln) H locs := hw
  refine lv_istore_n (lv' := [(2, .int u1.2.1), (0, .ref (ad 0)), (1, .int p1)]) hx hb dL_door_8 rfl hl (by decide) rfl (fun ls hl => ?_)
  refine lv_goto (tgt := 20) hx hb dL_door_9 (by decide) ?_
  refine lv_iload_n hx hb dL_door_20 rfl (lv_at hl 0 rfl) ?_
  obtain rfl := Option.some.inj hF
  refine W.widen (k := 2) (n := 12) (by omega) (by omega) ?_
  exact hret _ _ _ _ rfl hw dL_door_21

/-! SealedBoardLaw.buy(LSealedBoard;I)I -/
abbrev rmL_buy : Room := { frames := 8, cells := 2, slots := 12, locals := 124 }
theorem kdL_buy : yL_buy.cls ≠ "java/lang/invoke/MethodHandle" ∧ yL_buy.cls ≠ "java/lang/invoke/VarHandle" ∧ (parseMethodDescriptor yL_buy.desc).map (fun d => d.parameters.length) = some 2 := by decide +kernel
def fL_buy (kR : Int32) (fb : Nat → Int64) (rws : Nat → Int64) (nx : Int32) (ct : Int32) (p1 : Int32) : Option (Int32 × Int32 × (Nat → Int64) × (Nat → Int64) × Int32 × Int32) := (zbd (fX4_buy kR fb rws nx ct p1) (fun u1 => (if u1.1 = 0 then (some (u1.2.1, u1.2.2.1, u1.2.2.2.1, u1.2.2.2.2.1, u1.2.2.2.2.2.1, u1.2.2.2.2.2.2)) else (if u1.1 = 1 then (some ((-100000000 : Int32), u1.2.2.1, u1.2.2.2.1, u1.2.2.2.2.1, u1.2.2.2.2.2.1, u1.2.2.2.2.2.2)) else (if u1.1 = 4 then (some ((-100000000 : Int32), u1.2.2.1, u1.2.2.2.1, u1.2.2.2.2.1, u1.2.2.2.2.2.1, u1.2.2.2.2.2.2)) else none)))))
set_option maxHeartbeats 1000000 in
set_option maxRecDepth 100000 in
theorem mL_buy (l : Launch) (hl9 : l.stackTraces = false) (G : va_G) (k : Nat → ClassId) (ad : Nat → Nat) (sz : Nat) (sv : Int32) (kE : Int32) (kR : Int32) (fb : Nat → Int64) (ft : Nat → Int64) (fs : Nat → Int64) (rws : Nat → Int64) (nx : Int32) (ct : Int32) (ch : Nat → Int32) (ln : Int32) (p1 : Int32) (o : Int32 × Int32 × (Nat → Int64) × (Nat → Int64) × Int32 × Int32) (hF : fL_buy kR fb rws nx ct p1 = some o) : zMIc l yL_buy wsL_buy rmL_buy G k (zC ad k sv kE kR fb ft fs rws nx ct ch ln) sz [.ref (ad 0), .int p1] 2 12 o.1 (zC ad k sv kE o.2.1 o.2.2.1 ft fs o.2.2.2.1 o.2.2.2.2.1 o.2.2.2.2.2 ch ln) := by
  refine zof_Wc (cc := cL_buy) (nL := 4) (own := RL) (rt := .int) (by decide) rfl rfl (Nat.le_of_ble_eq_true rfl) ?_
  intro p e s m args below meth c A Q C0 hK hA hret hTab ls hl hw
  have hl : lv_has ls 4 [(0, .ref (ad 0)), (1, .int p1)] := hl
  obtain ⟨hx, hb, hr, hml, hown, hts, hlocks⟩ := id C0
  obtain ⟨H, hH⟩ : ∃ z, z = s.heap := ⟨_, rfl⟩
  rw [← hH] at hw ⊢
  obtain ⟨ca, hca⟩ : ∃ z : Nat, z = 0 := ⟨_, rfl⟩
  obtain ⟨cb, hcb⟩ : ∃ z : Nat, z = 0 := ⟨_, rfl⟩
  refine W.widen (k := ca) (n := cb) (Nat.zero_le _) (Nat.zero_le _) ?_
  unfold fL_buy at hF
  refine lv_ldc (v := (-100000000 : Int32)) hx hb hown (hts (.constant RL 10 (-100000000)) (by decide +kernel)) dL_buy_0 ?_
  refine lv_istore_n (lv' := [(2, .int (-100000000 : Int32)), (0, .ref (ad 0)), (1, .int p1)]) hx hb dL_buy_2 rfl hl (by decide) rfl (fun ls hl => ?_)
  refine lv_aload_n hx hb dL_buy_3 rfl (lv_at hl 1 rfl) ?_
  refine lv_iload_n hx hb dL_buy_4 rfl (lv_at hl 2 rfl) ?_
  obtain ⟨u1, hq2, hF⟩ := zbd_t hF
  refine zgoXI4 (o0 := u1.1) (w' := (zC ad k sv kE u1.2.2.1 u1.2.2.2.1 ft fs u1.2.2.2.2.1 u1.2.2.2.2.2.1 u1.2.2.2.2.2.2 ch ln)) (wa := []) (wc := (zC ad k sv kE kR fb ft fs rws nx ct ch ln)) (wc' := (zC ad k sv kE u1.2.2.1 u1.2.2.2.1 ft fs u1.2.2.2.2.1 u1.2.2.2.2.2.1 u1.2.2.2.2.2.2 ch ln)) (wr := []) hw (zap_nil _) (zap_nil _) hA (zVx4 (wa := []) (wc := (zC ad k sv kE kR fb ft fs rws nx ct ch ln)) (wr := []) (As := [.int p1]) (rest := []) ⟨hx, hb, hml, hown, hts⟩ (mX4_buy l hl9 G k ad H.size sv kE kR fb ft fs rws nx ct ch ln p1 u1 hq2) (cwV 1 hts gL_buy_X4_buy rfl rfl rfl kdX4_buy ⟨Nat.le_of_ble_eq_true rfl, Nat.le_of_ble_eq_true rfl⟩) hK hA hw (zap_nil _) 0 rfl rfl rfl rfl hl.1 rfl (Nat.le_of_ble_eq_true rfl) dL_buy_5 ⟨(by show _ ≤ 2; omega), (by show _ ≤ 12; omega)⟩) rfl (fun h03 H locs q9 E9 ce9 hw g1 g2 g3 g4 => ?_) (fun h03 H locs hw => ?_)
  · have hF := zif_f h03 hF
    have hw : zWd G A s (zC ad k sv kE u1.2.2.1 u1.2.2.2.1 ft fs u1.2.2.2.2.1 u1.2.2.2.2.2.1 u1.2.2.2.2.2.2 ch ln) H locs := hw
    by_cases hc4 : u1.1 = 1
    · have hF := zif_t hc4 hF
      have gE : E9 = "java/lang/IndexOutOfBoundsException" := g4.trans (by rw [hc4]; rfl)
      subst gE
      refine vx_catch (name := "java/lang/IndexOutOfBoundsException") (E := "java/lang/IndexOutOfBoundsException") hown [] ⟨3, 9, 12, 17⟩ [⟨3, 9, 16, 31⟩] (by rw [hTab]; rfl) (fun _ h9 => nomatch h9) (by decide) (by decide) (hts (.classLink RL 17 "java/lang/IndexOutOfBoundsException") (by decide +kernel)) (va_Nw.use rfl (hK.2.cast (by decide))) g1 g2 g3 ?_
      refine lv_astore_n (lv' := [(3, .ref q9), (2, .int (-100000000 : Int32)), (0, .ref (ad 0)), (1, .int p1)]) hx hb dL_buy_12 rfl hl (by decide) rfl (fun ls hl => ?_)
      refine lv_ldc (v := (-100000000 : Int32)) hx hb hown (hts (.constant RL 10 (-100000000)) (by decide +kernel)) dL_buy_13 ?_
      obtain rfl := Option.some.inj hF
      refine W.widen (k := 2) (n := 12) (by omega) (by omega) ?_
      exact hret _ _ _ _ rfl hw dL_buy_15
    have hF := zif_f hc4 hF
    by_cases hc5 : u1.1 = 4
    · have hF := zif_t hc5 hF
      have gE : E9 = "java/lang/UnsupportedOperationException" := g4.trans (by rw [hc5]; rfl)
      subst gE
      refine vx_catch (name := "java/lang/UnsupportedOperationException") (E := "java/lang/UnsupportedOperationException") hown [⟨3, 9, 12, 17⟩] ⟨3, 9, 16, 31⟩ [] (by rw [hTab]; rfl) (List.forall_mem_cons.mpr ⟨Or.inr ⟨by decide, "java/lang/IndexOutOfBoundsException", (hts (.classLink RL 17 "java/lang/IndexOutOfBoundsException") (by decide +kernel)), hK.2.nc (q := ("java/lang/UnsupportedOperationException", "java/lang/IndexOutOfBoundsException")) (by decide)⟩, (fun _ h9 => nomatch h9)⟩) (by decide) (by decide) (hts (.classLink RL 31 "java/lang/UnsupportedOperationException") (by decide +kernel)) (va_Nw.use rfl (hK.2.cast (by decide))) g1 g2 g3 ?_
      refine lv_astore_n (lv' := [(3, .ref q9), (2, .int (-100000000 : Int32)), (0, .ref (ad 0)), (1, .int p1)]) hx hb dL_buy_16 rfl hl (by decide) rfl (fun ls hl => ?_)
      refine lv_ldc (v := (-100000000 : Int32)) hx hb hown (hts (.constant RL 10 (-100000000)) (by decide +kernel)) dL_buy_17 ?_
      obtain rfl := Option.some.inj hF
      refine W.widen (k := 2) (n := 12) (by omega) (by omega) ?_
      exact hret _ _ _ _ rfl hw dL_buy_19
    have hF := zif_f hc5 hF
    exact nomatch hF
  have hF := zif_t h03 hF
  have hw : zWd G A s (zC ad k sv kE u1.2.2.1 u1.2.2.2.1 ft fs u1.2.2.2.2.1 u1.2.2.2.2.2.1 u1.2.2.2.2.2.2 ch ln) H locs := hw
  refine lv_istore_n (lv' := [(2, .int u1.2.1), (0, .ref (ad 0)), (1, .int p1)]) hx hb dL_buy_8 rfl hl (by decide) rfl (fun ls hl => ?_)
  refine lv_goto (tgt := 20) hx hb dL_buy_9 (by decide) ?_
  refine lv_iload_n hx hb dL_buy_20 rfl (lv_at hl 0 rfl) ?_
  obtain rfl := Option.some.inj hF
  refine W.widen (k := 2) (n := 12) (by omega) (by omega) ?_
  exact hret _ _ _ _ rfl hw dL_buy_21

/-! SealedBoardLaw.moves(LSealedBoard;I)I -/
abbrev rmL_moves : Room := { frames := 8, cells := 2, slots := 12, locals := 124 }
theorem kdL_moves : yL_moves.cls ≠ "java/lang/invoke/MethodHandle" ∧ yL_moves.cls ≠ "java/lang/invoke/VarHandle" ∧ (parseMethodDescriptor yL_moves.desc).map (fun d => d.parameters.length) = some 2 := by decide +kernel
def fL_moves (fb : Nat → Int64) (p1 : Int32) : Option (Int32) := (zbd (fX4_moves fb p1) (fun u1 => (if u1.1 = 0 then (some (u1.2)) else (if u1.1 = 1 then (some ((-1000 : Int32))) else (if u1.1 = 5 then (some ((-1000 : Int32))) else none)))))
set_option maxHeartbeats 1000000 in
set_option maxRecDepth 100000 in
theorem mL_moves (l : Launch) (hl9 : l.stackTraces = false) (G : va_G) (k : Nat → ClassId) (ad : Nat → Nat) (sz : Nat) (sv : Int32) (kE : Int32) (kR : Int32) (fb : Nat → Int64) (ft : Nat → Int64) (fs : Nat → Int64) (rws : Nat → Int64) (nx : Int32) (ct : Int32) (ch : Nat → Int32) (ln : Int32) (p1 : Int32) (o : Int32) (hF : fL_moves fb p1 = some o) : zMIc l yL_moves wsL_moves rmL_moves G k (zC ad k sv kE kR fb ft fs rws nx ct ch ln) sz [.ref (ad 0), .int p1] 2 12 o (zC ad k sv kE kR fb ft fs rws nx ct ch ln) := by
  refine zof_Wc (cc := cL_moves) (nL := 4) (own := RL) (rt := .int) (by decide) rfl rfl (Nat.le_of_ble_eq_true rfl) ?_
  intro p e s m args below meth c A Q C0 hK hA hret hTab ls hl hw
  have hl : lv_has ls 4 [(0, .ref (ad 0)), (1, .int p1)] := hl
  obtain ⟨hx, hb, hr, hml, hown, hts, hlocks⟩ := id C0
  obtain ⟨H, hH⟩ : ∃ z, z = s.heap := ⟨_, rfl⟩
  rw [← hH] at hw ⊢
  obtain ⟨ca, hca⟩ : ∃ z : Nat, z = 0 := ⟨_, rfl⟩
  obtain ⟨cb, hcb⟩ : ∃ z : Nat, z = 0 := ⟨_, rfl⟩
  refine W.widen (k := ca) (n := cb) (Nat.zero_le _) (Nat.zero_le _) ?_
  unfold fL_moves at hF
  refine lv_sipush (v := (-1000 : Int32)) hx hb dL_moves_0 (by decide) ?_
  refine lv_istore_n (lv' := [(2, .int (-1000 : Int32)), (0, .ref (ad 0)), (1, .int p1)]) hx hb dL_moves_3 rfl hl (by decide) rfl (fun ls hl => ?_)
  refine lv_aload_n hx hb dL_moves_4 rfl (lv_at hl 1 rfl) ?_
  refine lv_iload_n hx hb dL_moves_5 rfl (lv_at hl 2 rfl) ?_
  obtain ⟨u1, hq2, hF⟩ := zbd_t hF
  refine zgoXI4 (o0 := u1.1) (w' := (zC ad k sv kE kR fb ft fs rws nx ct ch ln)) (wa := []) (wc := (zC ad k sv kE kR fb ft fs rws nx ct ch ln)) (wc' := (zC ad k sv kE kR fb ft fs rws nx ct ch ln)) (wr := []) hw (zap_nil _) (zap_nil _) hA (zVx4 (wa := []) (wc := (zC ad k sv kE kR fb ft fs rws nx ct ch ln)) (wr := []) (As := [.int p1]) (rest := []) ⟨hx, hb, hml, hown, hts⟩ (mX4_moves l hl9 G k ad H.size sv kE kR fb ft fs rws nx ct ch ln p1 u1 hq2) (cwV 1 hts gL_moves_X4_moves rfl rfl rfl kdX4_moves ⟨Nat.le_of_ble_eq_true rfl, Nat.le_of_ble_eq_true rfl⟩) hK hA hw (zap_nil _) 0 rfl rfl rfl rfl hl.1 rfl (Nat.le_of_ble_eq_true rfl) dL_moves_6 ⟨(by show _ ≤ 2; omega), (by show _ ≤ 12; omega)⟩) rfl (fun h03 H locs q9 E9 ce9 hw g1 g2 g3 g4 => ?_) (fun h03 H locs hw => ?_)
  · have hF := zif_f h03 hF
    have hw : zWd G A s (zC ad k sv kE kR fb ft fs rws nx ct ch ln) H locs := hw
    by_cases hc4 : u1.1 = 1
    · have hF := zif_t hc4 hF
      have gE : E9 = "java/lang/IndexOutOfBoundsException" := g4.trans (by rw [hc4]; rfl)
      subst gE
      refine vx_catch (name := "java/lang/IndexOutOfBoundsException") (E := "java/lang/IndexOutOfBoundsException") hown [] ⟨4, 10, 13, 17⟩ [⟨4, 10, 18, 42⟩] (by rw [hTab]; rfl) (fun _ h9 => nomatch h9) (by decide) (by decide) (hts (.classLink RL 17 "java/lang/IndexOutOfBoundsException") (by decide +kernel)) (va_Nw.use rfl (hK.2.cast (by decide))) g1 g2 g3 ?_
      refine lv_astore_n (lv' := [(3, .ref q9), (2, .int (-1000 : Int32)), (0, .ref (ad 0)), (1, .int p1)]) hx hb dL_moves_13 rfl hl (by decide) rfl (fun ls hl => ?_)
      refine lv_sipush (v := (-1000 : Int32)) hx hb dL_moves_14 (by decide) ?_
      obtain rfl := Option.some.inj hF
      refine W.widen (k := 2) (n := 12) (by omega) (by omega) ?_
      exact hret _ _ _ _ rfl hw dL_moves_17
    have hF := zif_f hc4 hF
    by_cases hc5 : u1.1 = 5
    · have hF := zif_t hc5 hF
      have gE : E9 = "java/util/NoSuchElementException" := g4.trans (by rw [hc5]; rfl)
      subst gE
      refine vx_catch (name := "java/util/NoSuchElementException") (E := "java/util/NoSuchElementException") hown [⟨4, 10, 13, 17⟩] ⟨4, 10, 18, 42⟩ [] (by rw [hTab]; rfl) (List.forall_mem_cons.mpr ⟨Or.inr ⟨by decide, "java/lang/IndexOutOfBoundsException", (hts (.classLink RL 17 "java/lang/IndexOutOfBoundsException") (by decide +kernel)), hK.2.nc (q := ("java/util/NoSuchElementException", "java/lang/IndexOutOfBoundsException")) (by decide)⟩, (fun _ h9 => nomatch h9)⟩) (by decide) (by decide) (hts (.classLink RL 42 "java/util/NoSuchElementException") (by decide +kernel)) (va_Nw.use rfl (hK.2.cast (by decide))) g1 g2 g3 ?_
      refine lv_astore_n (lv' := [(3, .ref q9), (2, .int (-1000 : Int32)), (0, .ref (ad 0)), (1, .int p1)]) hx hb dL_moves_18 rfl hl (by decide) rfl (fun ls hl => ?_)
      refine lv_sipush (v := (-1000 : Int32)) hx hb dL_moves_19 (by decide) ?_
      obtain rfl := Option.some.inj hF
      refine W.widen (k := 2) (n := 12) (by omega) (by omega) ?_
      exact hret _ _ _ _ rfl hw dL_moves_22
    have hF := zif_f hc5 hF
    exact nomatch hF
  have hF := zif_t h03 hF
  have hw : zWd G A s (zC ad k sv kE kR fb ft fs rws nx ct ch ln) H locs := hw
  refine lv_istore_n (lv' := [(2, .int u1.2), (0, .ref (ad 0)), (1, .int p1)]) hx hb dL_moves_9 rfl hl (by decide) rfl (fun ls hl => ?_)
  refine lv_goto (tgt := 23) hx hb dL_moves_10 (by decide) ?_
  refine lv_iload_n hx hb dL_moves_23 rfl (lv_at hl 0 rfl) ?_
  obtain rfl := Option.some.inj hF
  refine W.widen (k := 2) (n := 12) (by omega) (by omega) ?_
  exact hret _ _ _ _ rfl hw dL_moves_24

/-! SealedBoardLaw.captures(LSealedBoard;II)I -/
abbrev rmL_captures : Room := { frames := 8, cells := 4, slots := 24, locals := 126 }
theorem kdL_captures : yL_captures.cls ≠ "java/lang/invoke/MethodHandle" ∧ yL_captures.cls ≠ "java/lang/invoke/VarHandle" ∧ (parseMethodDescriptor yL_captures.desc).map (fun d => d.parameters.length) = some 3 := by decide +kernel
def fL_captures (fb : Nat → Int64) (ft : Nat → Int64) (p1 : Int32) (p2 : Int32) : Option (Int32 × (Nat → Int64)) := (zbd (fX4_captures fb ft p1 p2) (fun u1 => (if u1.1 = 0 then (some (u1.2.1, u1.2.2)) else (if u1.1 = 1 then (some ((-1000 : Int32), u1.2.2)) else (if u1.1 = 5 then (some ((-1000 : Int32), u1.2.2)) else none)))))
set_option maxHeartbeats 1000000 in
set_option maxRecDepth 100000 in
theorem mL_captures (l : Launch) (hl9 : l.stackTraces = false) (G : va_G) (k : Nat → ClassId) (ad : Nat → Nat) (sz : Nat) (sv : Int32) (kE : Int32) (kR : Int32) (fb : Nat → Int64) (ft : Nat → Int64) (fs : Nat → Int64) (rws : Nat → Int64) (nx : Int32) (ct : Int32) (ch : Nat → Int32) (ln : Int32) (p1 : Int32) (p2 : Int32) (o : Int32 × (Nat → Int64)) (hF : fL_captures fb ft p1 p2 = some o) : zMIc l yL_captures wsL_captures rmL_captures G k (zC ad k sv kE kR fb ft fs rws nx ct ch ln) sz [.ref (ad 0), .int p1, .int p2] 4 24 o.1 (zC ad k sv kE kR fb o.2 fs rws nx ct ch ln) := by
  refine zof_Wc (cc := cL_captures) (nL := 5) (own := RL) (rt := .int) (by decide) rfl rfl (Nat.le_of_ble_eq_true rfl) ?_
  intro p e s m args below meth c A Q C0 hK hA hret hTab ls hl hw
  have hl : lv_has ls 5 [(0, .ref (ad 0)), (1, .int p1), (2, .int p2)] := hl
  obtain ⟨hx, hb, hr, hml, hown, hts, hlocks⟩ := id C0
  obtain ⟨H, hH⟩ : ∃ z, z = s.heap := ⟨_, rfl⟩
  rw [← hH] at hw ⊢
  obtain ⟨ca, hca⟩ : ∃ z : Nat, z = 0 := ⟨_, rfl⟩
  obtain ⟨cb, hcb⟩ : ∃ z : Nat, z = 0 := ⟨_, rfl⟩
  refine W.widen (k := ca) (n := cb) (Nat.zero_le _) (Nat.zero_le _) ?_
  unfold fL_captures at hF
  refine lv_sipush (v := (-1000 : Int32)) hx hb dL_captures_0 (by decide) ?_
  refine lv_istore_n (lv' := [(3, .int (-1000 : Int32)), (0, .ref (ad 0)), (1, .int p1), (2, .int p2)]) hx hb dL_captures_3 rfl hl (by decide) rfl (fun ls hl => ?_)
  refine lv_aload_n hx hb dL_captures_4 rfl (lv_at hl 1 rfl) ?_
  refine lv_iload_n hx hb dL_captures_5 rfl (lv_at hl 2 rfl) ?_
  refine lv_iload_n hx hb dL_captures_6 rfl (lv_at hl 3 rfl) ?_
  obtain ⟨u1, hq2, hF⟩ := zbd_t hF
  refine zgoXI4 (o0 := u1.1) (w' := (zC ad k sv kE kR fb u1.2.2 fs rws nx ct ch ln)) (wa := []) (wc := (zC ad k sv kE kR fb ft fs rws nx ct ch ln)) (wc' := (zC ad k sv kE kR fb u1.2.2 fs rws nx ct ch ln)) (wr := []) hw (zap_nil _) (zap_nil _) hA (zVx4 (wa := []) (wc := (zC ad k sv kE kR fb ft fs rws nx ct ch ln)) (wr := []) (As := [.int p1, .int p2]) (rest := []) ⟨hx, hb, hml, hown, hts⟩ (mX4_captures l hl9 G k ad H.size sv kE kR fb ft fs rws nx ct ch ln p1 p2 u1 hq2) (cwV 2 hts gL_captures_X4_captures rfl rfl rfl kdX4_captures ⟨Nat.le_of_ble_eq_true rfl, Nat.le_of_ble_eq_true rfl⟩) hK hA hw (zap_nil _) 0 rfl rfl rfl rfl hl.1 rfl (Nat.le_of_ble_eq_true rfl) dL_captures_7 ⟨(by show _ ≤ 4; omega), (by show _ ≤ 24; omega)⟩) rfl (fun h03 H locs q9 E9 ce9 hw g1 g2 g3 g4 => ?_) (fun h03 H locs hw => ?_)
  · have hF := zif_f h03 hF
    have hw : zWd G A s (zC ad k sv kE kR fb u1.2.2 fs rws nx ct ch ln) H locs := hw
    by_cases hc4 : u1.1 = 1
    · have hF := zif_t hc4 hF
      have gE : E9 = "java/lang/IndexOutOfBoundsException" := g4.trans (by rw [hc4]; rfl)
      subst gE
      refine vx_catch (name := "java/lang/IndexOutOfBoundsException") (E := "java/lang/IndexOutOfBoundsException") hown [] ⟨4, 11, 14, 17⟩ [⟨4, 11, 20, 42⟩] (by rw [hTab]; rfl) (fun _ h9 => nomatch h9) (by decide) (by decide) (hts (.classLink RL 17 "java/lang/IndexOutOfBoundsException") (by decide +kernel)) (va_Nw.use rfl (hK.2.cast (by decide))) g1 g2 g3 ?_
      refine lv_astore (lv' := [(4, .ref q9), (3, .int (-1000 : Int32)), (0, .ref (ad 0)), (1, .int p1), (2, .int p2)]) hx hb dL_captures_14 hl (by decide) rfl (fun ls hl => ?_)
      refine lv_sipush (v := (-1000 : Int32)) hx hb dL_captures_16 (by decide) ?_
      obtain rfl := Option.some.inj hF
      refine W.widen (k := 4) (n := 24) (by omega) (by omega) ?_
      exact hret _ _ _ _ rfl hw dL_captures_19
    have hF := zif_f hc4 hF
    by_cases hc5 : u1.1 = 5
    · have hF := zif_t hc5 hF
      have gE : E9 = "java/util/NoSuchElementException" := g4.trans (by rw [hc5]; rfl)
      subst gE
      refine vx_catch (name := "java/util/NoSuchElementException") (E := "java/util/NoSuchElementException") hown [⟨4, 11, 14, 17⟩] ⟨4, 11, 20, 42⟩ [] (by rw [hTab]; rfl) (List.forall_mem_cons.mpr ⟨Or.inr ⟨by decide, "java/lang/IndexOutOfBoundsException", (hts (.classLink RL 17 "java/lang/IndexOutOfBoundsException") (by decide +kernel)), hK.2.nc (q := ("java/util/NoSuchElementException", "java/lang/IndexOutOfBoundsException")) (by decide)⟩, (fun _ h9 => nomatch h9)⟩) (by decide) (by decide) (hts (.classLink RL 42 "java/util/NoSuchElementException") (by decide +kernel)) (va_Nw.use rfl (hK.2.cast (by decide))) g1 g2 g3 ?_
      refine lv_astore (lv' := [(4, .ref q9), (3, .int (-1000 : Int32)), (0, .ref (ad 0)), (1, .int p1), (2, .int p2)]) hx hb dL_captures_20 hl (by decide) rfl (fun ls hl => ?_)
      refine lv_sipush (v := (-1000 : Int32)) hx hb dL_captures_22 (by decide) ?_
      obtain rfl := Option.some.inj hF
      refine W.widen (k := 4) (n := 24) (by omega) (by omega) ?_
      exact hret _ _ _ _ rfl hw dL_captures_25
    have hF := zif_f hc5 hF
    exact nomatch hF
  have hF := zif_t h03 hF
  have hw : zWd G A s (zC ad k sv kE kR fb u1.2.2 fs rws nx ct ch ln) H locs := hw
  refine lv_istore_n (lv' := [(3, .int u1.2.1), (0, .ref (ad 0)), (1, .int p1), (2, .int p2)]) hx hb dL_captures_10 rfl hl (by decide) rfl (fun ls hl => ?_)
  refine lv_goto (tgt := 26) hx hb dL_captures_11 (by decide) ?_
  refine lv_iload_n hx hb dL_captures_26 rfl (lv_at hl 0 rfl) ?_
  obtain rfl := Option.some.inj hF
  refine W.widen (k := 4) (n := 24) (by omega) (by omega) ?_
  exact hret _ _ _ _ rfl hw dL_captures_27

/-! SealedBoardLaw.undo(LSealedBoard;[J)I -/
abbrev rmL_undo : Room := { frames := 7, cells := 1, slots := 6, locals := 102 }
theorem kdL_undo : yL_undo.cls ≠ "java/lang/invoke/MethodHandle" ∧ yL_undo.cls ≠ "java/lang/invoke/VarHandle" ∧ (parseMethodDescriptor yL_undo.desc).map (fun d => d.parameters.length) = some 2 := by decide +kernel
def fL_undo (fb : Nat → Int64) (rws : Nat → Int64) (nx : Int32) (ct : Int32) (oo : Nat → Int64) : Option (Int32 × (Nat → Int64) × Int32 × Int32 × (Nat → Int64)) := (zbd (fX4_undo fb rws nx ct) (fun u1 => (if u1.1 = 0 then (zck (zin (0 : Int32) 1) (some ((0 : Int32), u1.2.2.1, u1.2.2.2.1, u1.2.2.2.2, (vp_updL oo (0 : Int32).toNatClampNeg u1.2.1.toInt64)))) else (if u1.1 = 5 then (some ((1 : Int32), u1.2.2.1, u1.2.2.2.1, u1.2.2.2.2, oo)) else none))))
set_option maxHeartbeats 400000 in
set_option maxRecDepth 100000 in
theorem mL_undo (l : Launch) (hl9 : l.stackTraces = false) (G : va_G) (k : Nat → ClassId) (ad : Nat → Nat) (ob : Nat) (sz : Nat) (sv : Int32) (kE : Int32) (kR : Int32) (fb : Nat → Int64) (ft : Nat → Int64) (fs : Nat → Int64) (rws : Nat → Int64) (nx : Int32) (ct : Int32) (ch : Nat → Int32) (ln : Int32) (oo : Nat → Int64)  (o : Int32 × (Nat → Int64) × Int32 × Int32 × (Nat → Int64)) (hF : fL_undo fb rws nx ct oo = some o) : zMIc l yL_undo wsL_undo rmL_undo G k (zCO ad ob k sv kE kR fb ft fs rws nx ct ch ln oo) sz [.ref (ad 0), .ref ob] 1 6 o.1 (zCO ad ob k sv kE kR o.2.1 ft fs rws o.2.2.1 o.2.2.2.1 ch ln o.2.2.2.2) := by
  refine zof_W (cc := cL_undo) (nL := 3) (own := RL) (by decide) rfl rfl (Nat.le_of_ble_eq_true rfl) ?_
  intro p e s m args below meth c A Q C0 hK hA hret hTab ls hl hw
  have hl : lv_has ls 3 [(0, .ref (ad 0)), (1, .ref ob)] := hl
  obtain ⟨hx, hb, hr, hml, hown, hts, hlocks⟩ := id C0
  obtain ⟨H, hH⟩ : ∃ z, z = s.heap := ⟨_, rfl⟩
  rw [← hH] at hw ⊢
  unfold fL_undo at hF
  refine lv_aload_n hx hb dL_undo_0 rfl (lv_at hl 1 rfl) ?_
  refine lv_iconst (v := (0 : Int32)) hx hb dL_undo_1 (by decide) ?_
  refine lv_aload_n hx hb dL_undo_2 rfl (lv_at hl 0 rfl) ?_
  obtain ⟨u1, hq2, hF⟩ := zbd_t hF
  refine zgoXI3 (o0 := u1.1) (wa := []) (wc := (zC ad k sv kE kR fb ft fs rws nx ct ch ln)) (wc' := (zC ad k sv kE kR u1.2.2.1 ft fs rws u1.2.2.2.1 u1.2.2.2.2 ch ln)) (wr := [(ob, .inl (k 0, 1, .inr (.inl oo)))]) hw hA (zVx3 (wa := []) (wc := (zC ad k sv kE kR fb ft fs rws nx ct ch ln)) (wr := [(ob, .inl (k 0, 1, .inr (.inl oo)))]) (As := []) (rest := [.int (0 : Int32), .ref ob]) ⟨hx, hb, hml, hown, hts⟩ (mX4_undo l hl9 G k ad H.size sv kE kR fb ft fs rws nx ct ch ln  u1 hq2) (cwV 0 hts gL_undo_X4_undo rfl rfl rfl kdX4_undo ⟨Nat.le_of_ble_eq_true rfl, Nat.le_of_ble_eq_true rfl⟩) hK hA hw 0 rfl rfl rfl rfl hl.1 rfl (Nat.le_of_ble_eq_true rfl) dL_undo_3 ⟨Nat.le_of_ble_eq_true rfl, Nat.le_of_ble_eq_true rfl⟩) rfl (fun h04 H locs q9 E9 ce9 hw g1 g2 g3 g4 => ?_) (fun h04 H locs hw => ?_)
  · have hF := zif_f h04 hF
    have hw : zWd G A s (zCO ad ob k sv kE kR u1.2.2.1 ft fs rws u1.2.2.2.1 u1.2.2.2.2 ch ln oo) H locs := hw
    by_cases hc5 : u1.1 = 5
    · have hF := zif_t hc5 hF
      have gE : E9 = "java/util/NoSuchElementException" := g4.trans (by rw [hc5]; rfl)
      subst gE
      refine vx_catch (name := "java/util/NoSuchElementException") (E := "java/util/NoSuchElementException") hown [] ⟨0, 8, 11, 42⟩ [] (by rw [hTab]; rfl) (fun _ h9 => nomatch h9) (by decide) (by decide) (hts (.classLink RL 42 "java/util/NoSuchElementException") (by decide +kernel)) (va_Nw.use rfl (hK.2.cast (by decide))) g1 g2 g3 ?_
      refine lv_astore_n (lv' := [(2, .ref q9), (0, .ref (ad 0)), (1, .ref ob)]) hx hb dL_undo_11 rfl hl (by decide) rfl (fun ls hl => ?_)
      refine lv_iconst (v := (1 : Int32)) hx hb dL_undo_12 (by decide) ?_
      obtain rfl := Option.some.inj hF
      exact hret _ _ _ _ rfl hw dL_undo_13
    have hF := zif_f hc5 hF
    exact nomatch hF
  have hF := zif_t h04 hF
  have hw : zWd G A s (zCO ad ob k sv kE kR u1.2.2.1 ft fs rws u1.2.2.2.1 u1.2.2.2.2 ch ln oo) H locs := hw
  refine lv_i2l hx hb dL_undo_6 rfl ?_
  obtain ⟨hi3, hF⟩ := zck_in hF
  refine va_last hx hb hK.1 hw.1 hw.2.1 hw.2.2 11 0 rfl rfl hi3 dL_undo_7 (fun H locs hP hD hS => ?_)
  have hw : zWd G A s (zCO ad ob k sv kE kR u1.2.2.1 ft fs rws u1.2.2.2.1 u1.2.2.2.2 ch ln (vp_updL oo (0 : Int32).toNatClampNeg u1.2.1.toInt64)) H locs := ⟨hP, hD, hS⟩
  refine lv_goto (tgt := 14) hx hb dL_undo_8 (by decide) ?_
  refine lv_iconst (v := (0 : Int32)) hx hb dL_undo_14 (by decide) ?_
  obtain rfl := Option.some.inj hF
  exact hret _ _ _ _ rfl hw dL_undo_15

/-! SealedBoardLaw.restore(LSealedBoard;[J)I -/
abbrev rmL_restore : Room := { frames := 7, cells := 1, slots := 6, locals := 102 }
theorem kdL_restore : yL_restore.cls ≠ "java/lang/invoke/MethodHandle" ∧ yL_restore.cls ≠ "java/lang/invoke/VarHandle" ∧ (parseMethodDescriptor yL_restore.desc).map (fun d => d.parameters.length) = some 2 := by decide +kernel
def fL_restore (sv : Int32) (fb : Nat → Int64) (fs : Nat → Int64) (ct : Int32) (oo : Nat → Int64) : Option (Int32 × (Nat → Int64) × Int32 × (Nat → Int64)) := (zbd (fX4_restore sv fb fs ct) (fun u1 => (if u1.1 = 0 then (zck (zin (0 : Int32) 1) (some ((0 : Int32), u1.2.2.1, u1.2.2.2, (vp_updL oo (0 : Int32).toNatClampNeg u1.2.1.toInt64)))) else (if u1.1 = 3 then (some ((1 : Int32), u1.2.2.1, u1.2.2.2, oo)) else none))))
set_option maxHeartbeats 400000 in
set_option maxRecDepth 100000 in
theorem mL_restore (l : Launch) (hl9 : l.stackTraces = false) (G : va_G) (k : Nat → ClassId) (ad : Nat → Nat) (ob : Nat) (sz : Nat) (sv : Int32) (kE : Int32) (kR : Int32) (fb : Nat → Int64) (ft : Nat → Int64) (fs : Nat → Int64) (rws : Nat → Int64) (nx : Int32) (ct : Int32) (ch : Nat → Int32) (ln : Int32) (oo : Nat → Int64)  (o : Int32 × (Nat → Int64) × Int32 × (Nat → Int64)) (hF : fL_restore sv fb fs ct oo = some o) : zMIc l yL_restore wsL_restore rmL_restore G k (zCO ad ob k sv kE kR fb ft fs rws nx ct ch ln oo) sz [.ref (ad 0), .ref ob] 1 6 o.1 (zCO ad ob k sv kE kR o.2.1 ft fs rws nx o.2.2.1 ch ln o.2.2.2) := by
  refine zof_W (cc := cL_restore) (nL := 3) (own := RL) (by decide) rfl rfl (Nat.le_of_ble_eq_true rfl) ?_
  intro p e s m args below meth c A Q C0 hK hA hret hTab ls hl hw
  have hl : lv_has ls 3 [(0, .ref (ad 0)), (1, .ref ob)] := hl
  obtain ⟨hx, hb, hr, hml, hown, hts, hlocks⟩ := id C0
  obtain ⟨H, hH⟩ : ∃ z, z = s.heap := ⟨_, rfl⟩
  rw [← hH] at hw ⊢
  unfold fL_restore at hF
  refine lv_aload_n hx hb dL_restore_0 rfl (lv_at hl 1 rfl) ?_
  refine lv_iconst (v := (0 : Int32)) hx hb dL_restore_1 (by decide) ?_
  refine lv_aload_n hx hb dL_restore_2 rfl (lv_at hl 0 rfl) ?_
  obtain ⟨u1, hq2, hF⟩ := zbd_t hF
  refine zgoXI3 (o0 := u1.1) (wa := []) (wc := (zC ad k sv kE kR fb ft fs rws nx ct ch ln)) (wc' := (zC ad k sv kE kR u1.2.2.1 ft fs rws nx u1.2.2.2 ch ln)) (wr := [(ob, .inl (k 0, 1, .inr (.inl oo)))]) hw hA (zVx3 (wa := []) (wc := (zC ad k sv kE kR fb ft fs rws nx ct ch ln)) (wr := [(ob, .inl (k 0, 1, .inr (.inl oo)))]) (As := []) (rest := [.int (0 : Int32), .ref ob]) ⟨hx, hb, hml, hown, hts⟩ (mX4_restore l hl9 G k ad H.size sv kE kR fb ft fs rws nx ct ch ln  u1 hq2) (cwV 0 hts gL_restore_X4_restore rfl rfl rfl kdX4_restore ⟨Nat.le_of_ble_eq_true rfl, Nat.le_of_ble_eq_true rfl⟩) hK hA hw 0 rfl rfl rfl rfl hl.1 rfl (Nat.le_of_ble_eq_true rfl) dL_restore_3 ⟨Nat.le_of_ble_eq_true rfl, Nat.le_of_ble_eq_true rfl⟩) rfl (fun h04 H locs q9 E9 ce9 hw g1 g2 g3 g4 => ?_) (fun h04 H locs hw => ?_)
  · have hF := zif_f h04 hF
    have hw : zWd G A s (zCO ad ob k sv kE kR u1.2.2.1 ft fs rws nx u1.2.2.2 ch ln oo) H locs := hw
    by_cases hc5 : u1.1 = 3
    · have hF := zif_t hc5 hF
      have gE : E9 = "java/lang/IllegalStateException" := g4.trans (by rw [hc5]; rfl)
      subst gE
      refine vx_catch (name := "java/lang/IllegalStateException") (E := "java/lang/IllegalStateException") hown [] ⟨0, 8, 11, 17⟩ [] (by rw [hTab]; rfl) (fun _ h9 => nomatch h9) (by decide) (by decide) (hts (.classLink RL 17 "java/lang/IllegalStateException") (by decide +kernel)) (va_Nw.use rfl (hK.2.cast (by decide))) g1 g2 g3 ?_
      refine lv_astore_n (lv' := [(2, .ref q9), (0, .ref (ad 0)), (1, .ref ob)]) hx hb dL_restore_11 rfl hl (by decide) rfl (fun ls hl => ?_)
      refine lv_iconst (v := (1 : Int32)) hx hb dL_restore_12 (by decide) ?_
      obtain rfl := Option.some.inj hF
      exact hret _ _ _ _ rfl hw dL_restore_13
    have hF := zif_f hc5 hF
    exact nomatch hF
  have hF := zif_t h04 hF
  have hw : zWd G A s (zCO ad ob k sv kE kR u1.2.2.1 ft fs rws nx u1.2.2.2 ch ln oo) H locs := hw
  refine lv_i2l hx hb dL_restore_6 rfl ?_
  obtain ⟨hi3, hF⟩ := zck_in hF
  refine va_last hx hb hK.1 hw.1 hw.2.1 hw.2.2 11 0 rfl rfl hi3 dL_restore_7 (fun H locs hP hD hS => ?_)
  have hw : zWd G A s (zCO ad ob k sv kE kR u1.2.2.1 ft fs rws nx u1.2.2.2 ch ln (vp_updL oo (0 : Int32).toNatClampNeg u1.2.1.toInt64)) H locs := ⟨hP, hD, hS⟩
  refine lv_goto (tgt := 14) hx hb dL_restore_8 (by decide) ?_
  refine lv_iconst (v := (0 : Int32)) hx hb dL_restore_14 (by decide) ?_
  obtain rfl := Option.some.inj hF
  exact hret _ _ _ _ rfl hw dL_restore_15

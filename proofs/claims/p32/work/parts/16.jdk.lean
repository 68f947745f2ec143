/-! the law's texts: String.charAt on them -/
def zPs (G : va_G) (k : Nat → ClassId) (sz q v : Nat) (b : List Int32) (av : List Value) : Array Value → State → Prop :=
  va_Pc av (fun U => U.heap.size = sz ∧ va_P G zCl [] U.heap ∧ zKK G k (va_A [] sz) U U.heap ∧ va_D (fun _ => True) [] ∧ zStr b q v (va_A [] sz) U U.heap)
theorem zPs_bl {G : va_G} {k : Nat → ClassId} {sz q v : Nat} {b : List Int32} {av : List Value} : FrameBlind (zPs G k sz q v b av) := fun a U g mk q9 => by
  obtain ⟨q0, q1, qP, qK, qD, qZ⟩ := q9
  exact ⟨q0, q1, qP, zKK.same (u := U) (U := U.calling g mk a) rfl qK, qD, vk_S.moved (zwarm_eq (u := U) (U := U.calling g mk a) rfl).alike qZ⟩
theorem zof_IS {l : Launch} {y : MethodName} {ws ws' : List Cond} {rm : Room} {cc : ByteArray} {nL : Nat} {own : String} {rt : FieldType} {G : va_G} {k : Nat → ClassId} {sz q v : Nat} {b : List Int32} {av : List Value} {r : Int32}
    (hy : plainName y.cls = true) (hw : ws = Cond.code y cc nL (some rt) :: ws') (hyo : y.cls = own) (hlen : (lg_sl av).length ≤ nL)
    (body : ∀ (p : Program) (e : Env) (s : State) (m : MethodId) (args : Array Value) (below : List Frame) (meth : Method) (c : Code) (A : Nat → Prop) (Q : State → Prop), zCx p s m args meth c ws cc own (some rt) nL → zKK G k A s s.heap → (∀ q : Nat, s.heap.size ≤ q → A q) → zStr b q v A s s.heap → zRI p l e rm s m args below meth c cc G A 0 0 Q rt [] r →
      ∀ ls : Array Slot, lv_has ls nL (lv_args 0 av) → zWd G A s [] s.heap [] → W p l e rm s m args below meth c s.heap [] 0 0 Q (F0 m 0 ls [])) : Met l y ws rm (zPs G k sz q v b av) (va_Qi (fun x _ => x = r) (zB G [] sz []) (va_A [] sz)) 0 0 (va_A [] sz) := by
  refine Met.ofW (cc := cc) (maxL := nL) (ret := some rt) hy hw ?_
  intro p e s m args below meth c s₁ B hml hv
  obtain ⟨rfl, hsz, hP, hK, hD0, hZ⟩ := hv
  subst hsz
  have hts := atoms_spec (ws := ws) B.pre
  have ho : s.vm.findClass own = some m.cls := by rw [← hyo]; exact findClass_of_methodNamed B.named
  have hlocks := B.notSynchronized
  have hl := lv_entry av (n := nL) hlen
  rw [lg_entry_eq]
  refine body p e s m _ below meth c (va_A [] s.heap.size) _ ⟨B.exec, B.bytes, B.returns, hml, ho, hts, hlocks⟩ hK (fun q h => Or.inr h) hZ ?_ _ hl ⟨hP, hD0.self, va_S.rf⟩
  intro H locs pc ls hrt hw2 hd
  obtain ⟨hP2, hD2, hS2⟩ := hw2
  exact W.zret (v := r) B.exec B.bytes B.returns hrt (fun t ht hW => ⟨⟨r, (), rfl, rfl, by rw [ht]; exact hP2, hD2⟩, hS2.F ht⟩) hS2.2.2 hd
section ZJS
variable {p : Program} {l : Launch} {e : Env} {R : Room} {s : State} {m : MethodId} {args : Array Value} {below : List Frame} {meth : Method} {c : Code} {H : Heap} {locs : List Loc} {cells slots : Nat} {Q : State → Prop}
variable {y : MethodName} {bytes cc : ByteArray} {maxL nL n index q v : Nat} {bb : List Int32} {ret : Option FieldType} {ws : List Cond} {rm : Room} {Qc : Array Value → State → Outcome → State → Prop} {Ts : List Cond} {own C : String} {As rest st : List Value} {ls : Array Slot} {pc : Nat} {G : va_G} {k : Nat → ClassId} {A : Nat → Prop} {w : va_W}
theorem zStr.go {B : Nat → Prop} {U : State} (hZ : zStr bb q v A s s.heap) (hS : va_S A s.heap H locs) (hB : ∀ q, B q → A q) (hU : U.heap = H) (hW : s.WarmedH U.vm) : zStr bb q v B U U.heap :=
  vk_S.moved hW.alike ((vk_S.kept hZ (fun q h1 h2 => by rw [hU]; exact hS.2.1 q h1 h2)).narrow hB)
theorem zVs (S : CallFix p m c cc nL s args Ts own) (hM : Met l y ws rm (zPs G k H.size q v bb (.ref q :: As)) Qc 0 0 (va_A [] H.size)) (cw : CallW R s args own "java/lang/String" index y bytes maxL ret ws rm 0 0 n) (hK : zKK G k A s s.heap) (hA : ∀ q : Nat, s.heap.size ≤ q → A q) (hw : zWd G A s w H locs) (hZ : zStr bb q v A s s.heap)
    (hn : As.length = n) (hsize : ls.size = nL) (hst : st = As.reverse ++ .ref q :: rest) (hcat : (rest.map fun v => v.category).sum ≤ 8) (hdg : decode cc pc = .ok (.invokevirtual index, 3)) (hf : cells + 0 ≤ R.cells ∧ slots + 0 ≤ R.slots) :
    va_Run p l e R s m args below meth c H locs cells slots 0 0 (F0 m pc ls st) rest (Qc (Value.ref q :: As).toArray) (va_A [] H.size) := by
  have hcut := hw.cut (isC := []) (wc := []) rfl rfl
  have hfr := va_free (wc := []) hw.2.1 hw.2.2 hA [] rfl
  exact va_runV (g := F0 m pc ls st) S hM cw ⟨zPs_bl, vk_recv (i := 0) hZ (by omega) hw.2.2, fun U hU hW => ⟨rfl, by rw [hU], by rw [hU]; exact hcut.1, hK.call hw.2.2 (fun q h => hfr q h) hU hW, hcut.2.weaken (fun _ _ _ _ => trivial), hZ.go hw.2.2 (fun q h => hfr q h) hU hW⟩⟩ rfl hn hsize hst (lv_room hcat) hdg hf
theorem zSs (S : CallFix p m c cc nL s args Ts own) (hM : Met l y ws rm (zPs G k H.size q v bb As) Qc 0 0 (va_A [] H.size)) (cw : CallB R s args own index y bytes maxL ret ws rm 0 0 n ∧ (Cond.static y).before args s = true) (hK : zKK G k A s s.heap) (hA : ∀ q : Nat, s.heap.size ≤ q → A q) (hw : zWd G A s w H locs) (hZ : zStr bb q v A s s.heap)
    (hn : As.length = n) (hsize : ls.size = nL) (hst : st = As.reverse ++ rest) (hcat : (rest.map fun v => v.category).sum ≤ 8) (hdg : decode cc pc = .ok (.invokestatic index, 3)) (hf : cells + 0 ≤ R.cells ∧ slots + 0 ≤ R.slots) :
    va_Run p l e R s m args below meth c H locs cells slots 0 0 (F0 m pc ls st) rest (Qc As.toArray) (va_A [] H.size) := by
  have hcut := hw.cut (isC := []) (wc := []) rfl rfl
  have hfr := va_free (wc := []) hw.2.1 hw.2.2 hA [] rfl
  exact va_runS (g := F0 m pc ls st) S hM cw ⟨zPs_bl, fun U hU hW => ⟨rfl, by rw [hU], by rw [hU]; exact hcut.1, hK.call hw.2.2 (fun q h => hfr q h) hU hW, hcut.2.weaken (fun _ _ _ _ => trivial), hZ.go hw.2.2 (fun q h => hfr q h) hU hW⟩⟩ rfl hn hsize hst (lv_room hcat) hdg hf
theorem va_ldcSw (hexec : p.tables.exec = Jvm.exec) (hb : c.code = cc) {tx : String} {index q : Nat} (hown : s.vm.findClass own = some m.cls) (hZ : vk_R own index tx q s) (hdg : decode cc pc = .ok (.ldc_w index, 3))
    (k : W p l e R s m args below meth c H locs cells slots Q (F0 m (pc + 3) ls (.ref q :: rest))) : W p l e R s m args below meth c H locs cells slots Q (F0 m pc ls rest) := by
  intro T hT X
  obtain ⟨t, a1, b1⟩ := k T hT X
  exact ⟨t, X.ldcStringW hexec hown (text := tx) (a := q) hZ.1 hZ.2 (g := F0 m pc ls rest) rfl (by rw [hb]; exact hdg) t a1, b1⟩
end ZJS
abbrev rmJ3_checkIndex : Room := { frames := 0, cells := 0, slots := 0, locals := 0 }
theorem kdJ3_checkIndex : yJ3_checkIndex_8e157.cls ≠ "java/lang/invoke/MethodHandle" ∧ yJ3_checkIndex_8e157.cls ≠ "java/lang/invoke/VarHandle" ∧ (parseMethodDescriptor yJ3_checkIndex_8e157.desc).map (fun d => d.parameters.length) = some 3 := by decide +kernel
theorem mJ3_checkIndex (l : Launch) (G : va_G) (k : Nat → ClassId) (sz : Nat) (i n : Int32) (x : Value) (hv : x = .null ∨ ∃ t : Nat, x = .ref t) (h1 : ¬ i < 0) (h2 : i < n) : zMI l yJ3_checkIndex_8e157 wsJ3_checkIndex_8e157 rmJ3_checkIndex G k (zE0 k) sz [.int i, .int n, x] i (zE0 k) := by
  have hlen : (lg_sl [.int i, .int n, x]).length ≤ 3 := by rcases hv with rfl | ⟨t, rfl⟩ <;> exact Nat.le_of_ble_eq_true rfl
  refine zof_I (cc := cJ3_checkIndex_8e157) (nL := 3) (own := RJ3) (rt := .int) (by decide) rfl rfl hlen ?_
  intro p e s m args below meth c A Q C0 hK hA hret ls hl hw
  have hl : lv_has ls 3 [(0, .int i), (1, .int n), (2, x)] := by rcases hv with rfl | ⟨t, rfl⟩ <;> exact hl
  obtain ⟨hx, hb, hr, hml, hown, hts, hlocks⟩ := id C0
  refine lv_iload_n hx hb dJ3_checkIndex_8e157_0 rfl (lv_at hl 0 rfl) ?_
  refine lv_if_lt (tgt := 9) hx hb dJ3_checkIndex_8e157_1 (by decide) (fun hc => ?_) (fun hc => ?_)
  · exact absurd hc h1
  refine lv_iload_n hx hb dJ3_checkIndex_8e157_4 rfl (lv_at hl 0 rfl) ?_
  refine lv_iload_n hx hb dJ3_checkIndex_8e157_5 rfl (lv_at hl 1 rfl) ?_
  refine lv_icmp_lt (tgt := 16) hx hb dJ3_checkIndex_8e157_6 (by decide) (fun hc => ?_) (fun hc => ?_)
  · refine lv_iload_n hx hb dJ3_checkIndex_8e157_16 rfl (lv_at hl 0 rfl) ?_
    exact hret _ _ _ _ rfl hw dJ3_checkIndex_8e157_17
  · exact absurd h2 hc
abbrev rmJ0_checkIndex : Room := { frames := 1, cells := 0, slots := 0, locals := 22 }
theorem kdJ0_checkIndex : yJ0_checkIndex_df160.cls ≠ "java/lang/invoke/MethodHandle" ∧ yJ0_checkIndex_df160.cls ≠ "java/lang/invoke/VarHandle" ∧ (parseMethodDescriptor yJ0_checkIndex_df160.desc).map (fun d => d.parameters.length) = some 2 := by decide +kernel
theorem mJ0_checkIndex (l : Launch) (G : va_G) (k : Nat → ClassId) (sz : Nat) (i n : Int32) (h1 : ¬ i < 0) (h2 : i < n) : zMV l yJ0_checkIndex_df160 wsJ0_checkIndex_df160 rmJ0_checkIndex G k (zE0 k) sz [.int i, .int n] (zE0 k) := by
  refine zof_V (cc := cJ0_checkIndex_df160) (nL := 2) (own := RJ0) (by decide) rfl rfl (Nat.le_of_ble_eq_true rfl) ?_
  intro p e s m args below meth c A Q C0 hK hA hret ls hl hw
  have hl : lv_has ls 2 [(0, .int i), (1, .int n)] := hl
  obtain ⟨hx, hb, hr, hml, hown, hts, hlocks⟩ := id C0
  obtain ⟨H, hH⟩ : ∃ z, z = s.heap := ⟨_, rfl⟩
  rw [← hH] at hw ⊢
  have hZ : va_Zq "jdk/internal/util/Preconditions" "SIOOBE_FORMATTER" "Ljava/util/function/BiFunction;" A s s.heap := hK.2.2.2.2.2.2.2.2.2.2.2.2
  refine lv_iload_n hx hb dJ0_checkIndex_df160_0 rfl (lv_at hl 0 rfl) ?_
  refine lv_iload_n hx hb dJ0_checkIndex_df160_1 rfl (lv_at hl 1 rfl) ?_
  have go : ∀ x : Value, (x = .null ∨ ∃ t : Nat, x = .ref t) → x.category = 1 → va_Z "jdk/internal/util/Preconditions" "SIOOBE_FORMATTER" "Ljava/util/function/BiFunction;" x A s s.heap → W p l e rmJ0_checkIndex s m args below meth c H [] 0 0 Q (F0 m 2 ls [.int n, .int i]) := by
    intro x hx9 hcat hZ
    refine va_gets (v := x) hx hb hZ hw.2.2 hown (hts (.fieldLink RJ0 1053 "jdk/internal/util/Preconditions" "SIOOBE_FORMATTER" "Ljava/util/function/BiFunction;") (by decide +kernel)) (fun _ h9 => h9) dJ0_checkIndex_df160_2 ?_
    refine zgoI (w' := (zE0 k)) hw hA [] rfl (zS (As := [.int i, .int n, x]) (rest := []) ⟨hx, hb, hml, hown, hts⟩ (mJ3_checkIndex l G k H.size i n x hx9 h1 h2) (va_cwS 3 hts gJ0_checkIndex_df160_J3_checkIndex_8e157 rfl rfl rfl kdJ3_checkIndex ⟨Nat.le_of_ble_eq_true rfl, Nat.le_of_ble_eq_true rfl⟩) hK hA hw [] rfl (by decide) rfl hl.1 rfl (Nat.le_of_ble_eq_true rfl) dJ0_checkIndex_df160_5 ⟨Nat.le_of_ble_eq_true rfl, Nat.le_of_ble_eq_true rfl⟩) rfl rfl rfl (fun H locs hw => ?_)
    refine lv_pop hx hb dJ0_checkIndex_df160_8 rfl ?_
    exact hret _ _ _ _ hw dJ0_checkIndex_df160_9
  rcases hZ with hZ | ⟨t, hZ⟩
  · exact go _ (Or.inl rfl) rfl hZ
  · exact go _ (Or.inr ⟨t, rfl⟩) rfl hZ
abbrev rmJ0_isLatin1 : Room := { frames := 0, cells := 0, slots := 0, locals := 0 }
theorem kdJ0_isLatin1 : yJ0_isLatin1_aae02.cls = RJ0 ∧ yJ0_isLatin1_aae02.cls ≠ "java/lang/invoke/MethodHandle" ∧ yJ0_isLatin1_aae02.cls ≠ "java/lang/invoke/VarHandle" ∧ (parseMethodDescriptor yJ0_isLatin1_aae02.desc).map (fun d => d.parameters.length) = some 0 := by decide +kernel
theorem mJ0_isLatin1 (l : Launch) (G : va_G) (k : Nat → ClassId) (sz : Nat) (b : List Int32) (q v : Nat) : Met l yJ0_isLatin1_aae02 wsJ0_isLatin1_aae02 rmJ0_isLatin1 (zPs G k sz q v b [.ref q]) (va_Qi (fun x _ => x = (1 : Int32)) (zB G [] sz []) (va_A [] sz)) 0 0 (va_A [] sz) := by
  refine zof_IS (cc := cJ0_isLatin1_aae02) (nL := 1) (own := RJ0) (rt := .boolean) (by decide) rfl rfl (Nat.le_of_ble_eq_true rfl) ?_
  intro p e s m args below meth c A Q C0 hK hA hZ hret ls hl hw
  have hl : lv_has ls 1 [(0, .ref q)] := hl
  obtain ⟨hx, hb, hr, hml, hown, hts, hlocks⟩ := id C0
  obtain ⟨H, hH⟩ : ∃ z, z = s.heap := ⟨_, rfl⟩
  rw [← hH] at hw ⊢
  have hC : va_Z "java/lang/String" "COMPACT_STRINGS" "Z" (.int 1) A s s.heap := hK.2.2.2.2.2.2.2.2.2.2.2.1
  refine va_gets (v := .int 1) hx hb hC hw.2.2 hown (hts (.fieldLink RJ0 38 "java/lang/String" "COMPACT_STRINGS" "Z") (by decide +kernel)) (fun _ h9 => h9) dJ0_isLatin1_aae02_0 ?_
  refine lv_if_eq (tgt := 17) hx hb dJ0_isLatin1_aae02_3 (by decide) (fun hc => absurd hc (by decide)) (fun hc => ?_)
  refine lv_aload_n hx hb dJ0_isLatin1_aae02_6 rfl (lv_at hl 0 rfl) ?_
  refine vk_getf hx hb (hZ.1 0 (by omega)).2.1 hw.2.2 hown (hts (.fieldLink RJ0 15 "java/lang/String" "coder" "B") (by decide +kernel)) (fun _ h9 => h9) dJ0_isLatin1_aae02_7 ?_
  refine lv_if_ne (tgt := 17) hx hb dJ0_isLatin1_aae02_10 (by decide) (fun hc => absurd rfl hc) (fun hc => ?_)
  refine lv_iconst (v := (1 : Int32)) hx hb dJ0_isLatin1_aae02_13 (by decide) ?_
  refine lv_goto (tgt := 18) hx hb dJ0_isLatin1_aae02_14 (by decide) ?_
  exact hret _ _ _ _ (zbo_n (x := 1) (by decide)) hw dJ0_isLatin1_aae02_18
/-- the char at a place of a text -/
def zsc (b : List Int32) (i : Int32) : Int32 := (((b.getD i.toNatClampNeg 0) &&& 255).toUInt32 % 65536).toInt32
theorem zsc_z (z : UInt32) : zch (z % 65536).toInt32 = true := by
  have h : (z % 65536).toNat < 65536 := by
    rw [UInt32.toNat_mod]
    exact Nat.mod_lt _ (by decide)
  have e : ((z % 65536).toInt32).toInt = ((z % 65536).toNat : Int) := by
    show (z % 65536).toBitVec.toInt = _
    rw [BitVec.toInt_eq_toNat_of_lt (by show 2 * (z % 65536).toNat < 2 ^ 32; omega)]
    rfl
  unfold zch
  rw [Bool.and_eq_true, decide_eq_true_eq, decide_eq_true_eq, e]
  omega
theorem zsc_n (x : Int32) : narrow .char (.int ((x &&& 255).toUInt32 % 65536).toInt32) = .int ((x &&& 255).toUInt32 % 65536).toInt32 := zch_n (zsc_z _)
abbrev rmJ1_charAt : Room := { frames := 2, cells := 0, slots := 0, locals := 43 }
theorem kdJ1_charAt : yJ1_charAt_3b067.cls ≠ "java/lang/invoke/MethodHandle" ∧ yJ1_charAt_3b067.cls ≠ "java/lang/invoke/VarHandle" ∧ (parseMethodDescriptor yJ1_charAt_3b067.desc).map (fun d => d.parameters.length) = some 2 := by decide +kernel
theorem mJ1_charAt (l : Launch) (G : va_G) (k : Nat → ClassId) (sz : Nat) (b : List Int32) (q v : Nat) (i : Int32) (hb9 : b.length < 100) (hi : vp_in i b.length) : Met l yJ1_charAt_3b067 wsJ1_charAt_3b067 rmJ1_charAt (zPs G k sz q v b [.ref v, .int i]) (va_Qi (fun x _ => x = zsc b i) (zB G [] sz []) (va_A [] sz)) 0 0 (va_A [] sz) := by
  have h4 := vp_in_iff.mp hi
  have h0 : ¬ i < 0 := fun z => by
    have := Int32.lt_iff_toInt_lt.mp z
    have e : (0 : Int32).toInt = 0 := rfl
    omega
  have hlt : i < Int32.ofNat b.length := Int32.lt_iff_toInt_lt.mpr (by
    have e : (Int32.ofNat b.length).toInt = b.length := Int32.toInt_ofNat_of_lt (by omega)
    omega)
  refine zof_IS (cc := cJ1_charAt_3b067) (nL := 2) (own := RJ1) (rt := .char) (by decide) rfl rfl (Nat.le_of_ble_eq_true rfl) ?_
  intro p e s m args below meth c A Q C0 hK hA hZ hret ls hl hw
  have hl : lv_has ls 2 [(0, .ref v), (1, .int i)] := hl
  obtain ⟨hx, hb, hr, hml, hown, hts, hlocks⟩ := id C0
  obtain ⟨H, hH⟩ : ∃ z, z = s.heap := ⟨_, rfl⟩
  rw [← hH] at hw ⊢
  have hT := (hZ.1 0 (by omega)).2.2.2
  refine lv_iload_n hx hb dJ1_charAt_3b067_0 rfl (lv_at hl 1 rfl) ?_
  refine lv_aload_n hx hb dJ1_charAt_3b067_1 rfl (lv_at hl 0 rfl) ?_
  refine va_tlen (v := Int32.ofNat b.length) hx hb hT hw.2.2 rfl dJ1_charAt_3b067_2 ?_
  refine zgoV (w' := (zE0 k)) hw hA [] rfl (zS (As := [.int i, .int (Int32.ofNat b.length)]) (rest := []) ⟨hx, hb, hml, hown, hts⟩ (mJ0_checkIndex l G k H.size i (Int32.ofNat b.length) h0 hlt) (va_cwS 2 hts gJ1_charAt_3b067_J0_checkIndex_df160 rfl rfl rfl kdJ0_checkIndex ⟨Nat.le_of_ble_eq_true rfl, Nat.le_of_ble_eq_true rfl⟩) hK hA hw [] rfl (by decide) rfl hl.1 rfl (Nat.le_of_ble_eq_true rfl) dJ1_charAt_3b067_3 ⟨Nat.le_of_ble_eq_true rfl, Nat.le_of_ble_eq_true rfl⟩) rfl rfl rfl (fun H locs hw => ?_)
  refine lv_aload_n hx hb dJ1_charAt_3b067_6 rfl (lv_at hl 0 rfl) ?_
  refine lv_iload_n hx hb dJ1_charAt_3b067_7 rfl (lv_at hl 1 rfl) ?_
  refine va_tb (v := .int (b.getD i.toNatClampNeg 0)) hx hb hT hw.2.2 hi rfl dJ1_charAt_3b067_8 ?_
  refine lv_sipush (v := (255 : Int32)) hx hb dJ1_charAt_3b067_9 (by decide) ?_
  refine lv_iand hx hb dJ1_charAt_3b067_12 ?_
  refine lv_i2c hx hb dJ1_charAt_3b067_13 rfl ?_
  exact hret _ _ _ _ (zsc_n _) hw dJ1_charAt_3b067_14
abbrev rmJ0_charAt : Room := { frames := 3, cells := 0, slots := 0, locals := 64 }
theorem kdJ0_charAt : yJ0_charAt_5068e.cls = RJ0 ∧ yJ0_charAt_5068e.cls ≠ "java/lang/invoke/MethodHandle" ∧ yJ0_charAt_5068e.cls ≠ "java/lang/invoke/VarHandle" ∧ (parseMethodDescriptor yJ0_charAt_5068e.desc).map (fun d => d.parameters.length) = some 1 := by decide +kernel
theorem mJ0_charAt (l : Launch) (G : va_G) (k : Nat → ClassId) (sz : Nat) (b : List Int32) (q v : Nat) (i : Int32) (hb9 : b.length < 100) (hi : vp_in i b.length) : Met l yJ0_charAt_5068e wsJ0_charAt_5068e rmJ0_charAt (zPs G k sz q v b [.ref q, .int i]) (va_Qi (fun x _ => x = zsc b i) (zB G [] sz []) (va_A [] sz)) 0 0 (va_A [] sz) := by
  refine zof_IS (cc := cJ0_charAt_5068e) (nL := 2) (own := RJ0) (rt := .char) (by decide) rfl rfl (Nat.le_of_ble_eq_true rfl) ?_
  intro p e s m args below meth c A Q C0 hK hA hZ hret ls hl hw
  have hl : lv_has ls 2 [(0, .ref q), (1, .int i)] := hl
  obtain ⟨hx, hb, hr, hml, hown, hts, hlocks⟩ := id C0
  obtain ⟨H, hH⟩ : ∃ z, z = s.heap := ⟨_, rfl⟩
  rw [← hH] at hw ⊢
  refine lv_aload_n hx hb dJ0_charAt_5068e_0 rfl (lv_at hl 0 rfl) ?_
  refine zgoI (r := 1) (wc := []) (wc' := []) (w' := []) hw hA [] rfl (zVs (As := []) (rest := []) ⟨hx, hb, hml, hown, hts⟩ (mJ0_isLatin1 l G k H.size b q v) (cwV 0 hts gJ0_charAt_5068e_J0_isLatin1_aae02 rfl rfl rfl kdJ0_isLatin1 ⟨Nat.le_of_ble_eq_true rfl, Nat.le_of_ble_eq_true rfl⟩) hK hA hw hZ rfl hl.1 rfl (Nat.le_of_ble_eq_true rfl) dJ0_charAt_5068e_1 ⟨Nat.le_of_ble_eq_true rfl, Nat.le_of_ble_eq_true rfl⟩) rfl rfl rfl (fun H locs hw => ?_)
  refine lv_if_eq (tgt := 16) hx hb dJ0_charAt_5068e_4 (by decide) (fun hc => absurd hc (by decide)) (fun hc => ?_)
  refine lv_aload_n hx hb dJ0_charAt_5068e_7 rfl (lv_at hl 0 rfl) ?_
  refine vk_getf hx hb (hZ.1 0 (by omega)).2.2.1 hw.2.2 hown (hts (.fieldLink RJ0 9 "java/lang/String" "value" "[B") (by decide +kernel)) (fun _ h9 => h9) dJ0_charAt_5068e_8 ?_
  refine lv_iload_n hx hb dJ0_charAt_5068e_11 rfl (lv_at hl 1 rfl) ?_
  refine zgoI (r := zsc b i) (wc := []) (wc' := []) (w' := []) hw hA [] rfl (zSs (As := [.ref v, .int i]) (rest := []) ⟨hx, hb, hml, hown, hts⟩ (mJ1_charAt l G k H.size b q v i hb9 hi) (va_cwS 2 hts gJ0_charAt_5068e_J1_charAt_3b067 rfl rfl rfl kdJ1_charAt ⟨Nat.le_of_ble_eq_true rfl, Nat.le_of_ble_eq_true rfl⟩) hK hA hw hZ rfl hl.1 rfl (Nat.le_of_ble_eq_true rfl) dJ0_charAt_5068e_12 ⟨Nat.le_of_ble_eq_true rfl, Nat.le_of_ble_eq_true rfl⟩) rfl rfl rfl (fun H locs hw => ?_)
  exact hret _ _ _ _ (zsc_n _) hw dJ0_charAt_5068e_15

abbrev rmJ0_coder : Room := { frames := 0, cells := 0, slots := 0, locals := 0 }
theorem kdJ0_coder : yJ0_coder_7d493.cls = RJ0 ∧ yJ0_coder_7d493.cls ≠ "java/lang/invoke/MethodHandle" ∧ yJ0_coder_7d493.cls ≠ "java/lang/invoke/VarHandle" ∧ (parseMethodDescriptor yJ0_coder_7d493.desc).map (fun d => d.parameters.length) = some 0 := by decide +kernel
theorem mJ0_coder (l : Launch) (G : va_G) (k : Nat → ClassId) (sz : Nat) (b : List Int32) (q v : Nat) : Met l yJ0_coder_7d493 wsJ0_coder_7d493 rmJ0_coder (zPs G k sz q v b [.ref q]) (va_Qi (fun x _ => x = (0 : Int32)) (zB G [] sz []) (va_A [] sz)) 0 0 (va_A [] sz) := by
  refine zof_IS (cc := cJ0_coder_7d493) (nL := 1) (own := RJ0) (rt := .byte) (by decide) rfl rfl (Nat.le_of_ble_eq_true rfl) ?_
  intro p e s m args below meth c A Q C0 hK hA hZ hret ls hl hw
  have hl : lv_has ls 1 [(0, .ref q)] := hl
  obtain ⟨hx, hb, hr, hml, hown, hts, hlocks⟩ := id C0
  obtain ⟨H, hH⟩ : ∃ z, z = s.heap := ⟨_, rfl⟩
  rw [← hH] at hw ⊢
  have hC : va_Z "java/lang/String" "COMPACT_STRINGS" "Z" (.int 1) A s s.heap := hK.2.2.2.2.2.2.2.2.2.2.2.1
  refine va_gets (v := .int 1) hx hb hC hw.2.2 hown (hts (.fieldLink RJ0 38 "java/lang/String" "COMPACT_STRINGS" "Z") (by decide +kernel)) (fun _ h9 => h9) dJ0_coder_7d493_0 ?_
  refine lv_if_eq (tgt := 13) hx hb dJ0_coder_7d493_3 (by decide) (fun hc => absurd hc (by decide)) (fun hc => ?_)
  refine lv_aload_n hx hb dJ0_coder_7d493_6 rfl (lv_at hl 0 rfl) ?_
  refine vk_getf hx hb (hZ.1 0 (by omega)).2.1 hw.2.2 hown (hts (.fieldLink RJ0 15 "java/lang/String" "coder" "B") (by decide +kernel)) (fun _ h9 => h9) dJ0_coder_7d493_7 ?_
  refine lv_goto (tgt := 14) hx hb dJ0_coder_7d493_10 (by decide) ?_
  exact hret _ _ _ _ rfl hw dJ0_coder_7d493_14
abbrev rmJ0_length : Room := { frames := 1, cells := 0, slots := 0, locals := 22 }
theorem kdJ0_length : yJ0_length_8abf5.cls = RJ0 ∧ yJ0_length_8abf5.cls ≠ "java/lang/invoke/MethodHandle" ∧ yJ0_length_8abf5.cls ≠ "java/lang/invoke/VarHandle" ∧ (parseMethodDescriptor yJ0_length_8abf5.desc).map (fun d => d.parameters.length) = some 0 := by decide +kernel
theorem mJ0_length (l : Launch) (G : va_G) (k : Nat → ClassId) (sz : Nat) (b : List Int32) (q v : Nat) : Met l yJ0_length_8abf5 wsJ0_length_8abf5 rmJ0_length (zPs G k sz q v b [.ref q]) (va_Qi (fun x _ => x = Int32.ofNat b.length >>> ((0 : Int32) &&& 31)) (zB G [] sz []) (va_A [] sz)) 0 0 (va_A [] sz) := by
  refine zof_IS (cc := cJ0_length_8abf5) (nL := 1) (own := RJ0) (rt := .int) (by decide) rfl rfl (Nat.le_of_ble_eq_true rfl) ?_
  intro p e s m args below meth c A Q C0 hK hA hZ hret ls hl hw
  have hl : lv_has ls 1 [(0, .ref q)] := hl
  obtain ⟨hx, hb, hr, hml, hown, hts, hlocks⟩ := id C0
  obtain ⟨H, hH⟩ : ∃ z, z = s.heap := ⟨_, rfl⟩
  rw [← hH] at hw ⊢
  have hT := (hZ.1 0 (by omega)).2.2.2
  refine lv_aload_n hx hb dJ0_length_8abf5_0 rfl (lv_at hl 0 rfl) ?_
  refine vk_getf hx hb (hZ.1 0 (by omega)).2.2.1 hw.2.2 hown (hts (.fieldLink RJ0 9 "java/lang/String" "value" "[B") (by decide +kernel)) (fun _ h9 => h9) dJ0_length_8abf5_1 ?_
  refine va_tlen (v := Int32.ofNat b.length) hx hb hT hw.2.2 rfl dJ0_length_8abf5_4 ?_
  refine lv_aload_n hx hb dJ0_length_8abf5_5 rfl (lv_at hl 0 rfl) ?_
  refine zgoI (r := 0) (wc := []) (wc' := []) (w' := []) hw hA [] rfl (zVs (As := []) (rest := [.int (Int32.ofNat b.length)]) ⟨hx, hb, hml, hown, hts⟩ (mJ0_coder l G k H.size b q v) (cwV 0 hts gJ0_length_8abf5_J0_coder_7d493 rfl rfl rfl kdJ0_coder ⟨Nat.le_of_ble_eq_true rfl, Nat.le_of_ble_eq_true rfl⟩) hK hA hw hZ rfl hl.1 rfl (Nat.le_of_ble_eq_true rfl) dJ0_length_8abf5_6 ⟨Nat.le_of_ble_eq_true rfl, Nat.le_of_ble_eq_true rfl⟩) rfl rfl rfl (fun H locs hw => ?_)
  refine lv_ishr hx hb dJ0_length_8abf5_9 ?_
  exact hret _ _ _ _ rfl hw dJ0_length_8abf5_10

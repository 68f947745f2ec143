/-! constructors -/
def zRN {S : Type} (p : Program) (l : Launch) (e : Env) (R : Room) (s : State) (m : MethodId) (args : Array Value) (below : List Frame) (meth : Method) (c : Code) (cc : ByteArray) (G : va_G) (A : Nat → Prop) (n1 n2 : Nat) (Q : State → Prop) (w' : S → va_W) : Prop :=
  ∀ (u : S) (H : Heap) (locs : List Loc) (pc : Nat) (ls : Array Slot), zWd G A s (w' u) H locs → decode cc pc = .ok (.return_, 1) → W p l e R s m args below meth c H locs n1 n2 Q (F0 m pc ls [])
abbrev zMN {S : Type} (l : Launch) (y : MethodName) (ws : List Cond) (rm : Room) (G : va_G) (k : Nat → ClassId) (w : va_W) (sz : Nat) (av : List Value) (mc ms : Nat) (w' : S → va_W) : Prop :=
  Met l y ws rm (zPc G k w sz av) (va_Qv (fun _ : S => True) (fun u t => va_P G zCl (w' u) t.heap ∧ va_D (va_A w sz) (w' u)) (va_A w sz)) mc ms (va_A w sz)
theorem zof_N {S : Type} {l : Launch} {y : MethodName} {ws ws' : List Cond} {rm : Room} {cc : ByteArray} {nL mc ms : Nat} {own : String} {G : va_G} {k : Nat → ClassId} {w : va_W} {w' : S → va_W} {sz : Nat} {av : List Value}
    (hy : plainName y.cls = true) (hy1 : y.name = "<init>") (hw : ws = Cond.code y cc nL none :: ws') (hyo : y.cls = own) (hlen : (lg_sl av).length ≤ nL)
    (body : ∀ (p : Program) (e : Env) (s : State) (m : MethodId) (args : Array Value) (below : List Frame) (meth : Method) (c : Code) (A : Nat → Prop) (Q : State → Prop), zCx p s m args meth c ws cc own none nL → meth.name = "<init>" → zKK G k A s s.heap → (∀ q : Nat, s.heap.size ≤ q → A q) → zRN p l e rm s m args below meth c cc G A mc ms Q w' →
      ∀ ls : Array Slot, lv_has ls nL (lv_args 0 av) → zWd G A s w s.heap [] → W p l e rm s m args below meth c s.heap [] 0 0 Q (F0 m 0 ls [])) : zMN l y ws rm G k w sz av mc ms w' := by
  refine Met.ofW (cc := cc) (maxL := nL) (ret := none) hy hw ?_
  intro p e s m args below meth c s₁ B hml hv
  obtain ⟨rfl, hsz, hP, hK, hD0⟩ := hv
  subst hsz
  have hts := atoms_spec (ws := ws) B.pre
  have ho : s.vm.findClass own = some m.cls := by rw [← hyo]; exact findClass_of_methodNamed B.named
  have hin : meth.name = "<init>" := by rw [← hy1]; exact (name_of_methodNamed B.named B.method).1
  have hlocks := B.notSynchronized
  have hl := lv_entry av (n := nL) hlen
  rw [lg_entry_eq]
  refine body p e s m _ below meth c (va_A w s.heap.size) _ ⟨B.exec, B.bytes, B.returns, hml, ho, hts, hlocks⟩ hin hK (fun q h => Or.inr h) ?_ _ hl ⟨hP, hD0.self, va_S.rf⟩
  intro u H locs pc ls hw2 hd
  obtain ⟨hP2, hD2, hS2⟩ := hw2
  exact W.vret B.exec B.bytes B.returns (fun t ht hW => ⟨⟨u, rfl, trivial, by rw [ht]; exact hP2, hD2⟩, hS2.F ht⟩) hS2.2.2 hd
theorem zk_nm {G : va_G} {k : Nat → ClassId} {s : State} {cA : ClassId} {ty : FieldType} (hK : va_K G zCl (zTY k ++ [(cA, ty)]) s) (i : Nat) {t : ClassId} (hi : (zTY k)[i]? = some (t, ty)) (hn : ∀ C, ty ≠ .object C) : cA = t := by
  have hl : i < (zTY k).length := (List.getElem?_eq_some_iff.mp hi).1
  have h1 := (hK.2 i (t, ty) (by rw [List.getElem?_append_left hl]; exact hi)).2
  have h2 := (hK.2 3 (cA, ty) rfl).2
  have h3 : ∀ x : ClassId, va_RA s x ty → s.vm.findClass ("[" ++ ty.toString) = some x := fun x hx => by
    unfold va_RA at hx
    split at hx
    · rename_i C; exact absurd rfl (hn C)
    · exact hx
  exact Option.some.inj ((h3 _ h2).symm.trans (h3 _ h1))
section ZNEW
variable {p : Program} {l : Launch} {e : Env} {R : Room} {s : State} {m : MethodId} {args : Array Value} {below : List Frame} {meth : Method} {c : Code} {H : Heap} {locs : List Loc} {cells slots : Nat} {Q : State → Prop}
variable {cc : ByteArray} {pc : Nat} {ls : Array Slot} {rest : List Value} {G : va_G} {k : Nat → ClassId} {A : Nat → Prop} {w : va_W}
theorem znewa (hexec : p.tables.exec = Jvm.exec) (hb : c.code = cc) {atype : ArrayType} (harr : (Cond.arrayClass (newarray.typeOf atype)).before args s = true) {ty : FieldType} (hty : newarray.typeOf atype = ty) (hno : ∀ C, ty ≠ .object C) (i : Nat) {t : ClassId} (hi : (zTY k)[i]? = some (t, ty)) (hK : zKK G k A s s.heap) (hw : zWd G A s w H locs) (hA : ∀ q : Nat, s.heap.size ≤ q → A q)
    {n : Int32} {N' : Nat} {a0 : vp_A} (ha : ∀ cA : ClassId, vp_cell cA a0 = arrV cA N' (fun _ => defaultValue ty)) (hn : ¬ n < 0) (hN : n.toNatClampNeg = N') (hbytes : N' * componentBytes ty ≤ 536870912) (hcells : cells + 1 ≤ R.cells) (hslots : slots + N' ≤ R.slots) (hdg : decode cc pc = .ok (.newarray atype, 2))
    (kk : ∀ (q : Nat) (H1 : Heap), zWd G A s (w ++ [(q, .inl (t, a0))]) H1 locs → W p l e R s m args below meth c H1 locs (cells + 1) (slots + N') Q (F0 m (pc + 2) ls (.ref q :: rest))) : W p l e R s m args below meth c H locs cells slots Q (F0 m pc ls (.int n :: rest)) := by
  refine va_newa hexec hb harr hty hK.1 hw.1 hw.2.1 hw.2.2 hA ha hn hN hbytes hcells hslots hdg (fun q cA H1 hK1 hP hD hS => ?_)
  have e := zk_nm hK1 i hi hno
  subst e
  exact kk q H1 ⟨hP, hD, hS⟩
/-- a constructor's call on the newest cell -/
theorem zgoN {S : Type} {y : MethodName} {bytes : ByteArray} {maxL nL mc ms index : Nat} {ws : List Cond} {rm : Room} {Ts : List Cond} {own : String} {X : va_W} {q : Nat} {ce : va_E} {w' : S → va_W} (S0 : CallFix p m c cc nL s args Ts own) (hM : zMN l y ws rm G k [(q, ce)] H.size [.ref q] mc ms w')
    (cw : CallB R s args own index y bytes maxL none ws rm mc ms 0 ∧ y.name = "<init>" ∧ (Cond.instanceMethod y).before args s = true) (hK : zKK G k A s s.heap) (hA : ∀ q : Nat, s.heap.size ≤ q → A q) (hw : zWd G A s (X ++ [(q, ce)]) H locs)
    (isR : List Nat) (hR : isR.map (fun i => (X ++ [(q, ce)])[i]?) = X.map some) (hnd : va_nd isR = true) (hdis : ∀ i ∈ isR, i ∉ [X.length]) (hsize : ls.size = nL) (hcat : (rest.map fun v => v.category).sum ≤ 8) (hdg : decode cc pc = .ok (.invokespecial index, 3)) (hf : cells + mc ≤ R.cells ∧ slots + ms ≤ R.slots)
    (kk : ∀ (u : S) (H1 : Heap) (locs1 : List Loc), zWd G A s (X ++ w' u) H1 locs1 → W p l e R s m args below meth c H1 locs1 (cells + mc) (slots + ms) Q (F0 m (pc + 3) ls rest)) : W p l e R s m args below meth c H locs cells slots Q (F0 m pc ls (.ref q :: rest)) := by
  have hC : [X.length].map (fun i => (X ++ [(q, ce)])[i]?) = [(q, ce)].map some := by
    simp
  have hcut := hw.cut hC rfl
  have hfr := va_free hw.2.1 hw.2.2 hA [X.length] hC
  refine va_callv (va_runI (As := []) (rest := rest) (g := F0 m pc ls (.ref q :: rest)) S0 hM cw ⟨zPc_bl, fun U hU hW => ⟨rfl, by rw [hU], by rw [hU]; exact hcut.1, hK.call hw.2.2 (fun q h => hfr q h) hU hW, hcut.2.weaken (fun _ _ _ _ => trivial)⟩⟩ rfl rfl hsize rfl (lv_room hcat) hdg hf) hw.2.2 (fun q _ h => hfr q h) hfr (fun u t H1 locs1 ht _ hp hb1 _ hk hS => ?_)
  subst ht
  obtain ⟨hP2, hD2⟩ := va_join (wr := X) (w1 := w' u) hw.1 hw.2.1 [X.length] isR hC hR hnd hdis hk hfr hb1.1 hb1.2
  exact kk u _ _ ⟨hP2, hD2, hS⟩
theorem zgoNN {S : Type} {y : MethodName} {bytes : ByteArray} {maxL nL mc ms index : Nat} {ws : List Cond} {rm : Room} {Ts : List Cond} {own host : String} {X : va_W} {q : Nat} {ce : va_E} {w' : S → va_W} (S0 : CallFix p m c cc nL s args Ts own) (hM : zMN l y ws rm G k [(q, ce)] H.size [.ref q] mc ms w')
    (cw : va_CN R s args own index y host bytes maxL none ws rm mc ms 0 ∧ y.name = "<init>" ∧ (Cond.instanceMethod y).before args s = true) (hK : zKK G k A s s.heap) (hA : ∀ q : Nat, s.heap.size ≤ q → A q) (hw : zWd G A s (X ++ [(q, ce)]) H locs)
    (isR : List Nat) (hR : isR.map (fun i => (X ++ [(q, ce)])[i]?) = X.map some) (hnd : va_nd isR = true) (hdis : ∀ i ∈ isR, i ∉ [X.length]) (hsize : ls.size = nL) (hcat : (rest.map fun v => v.category).sum ≤ 8) (hdg : decode cc pc = .ok (.invokespecial index, 3)) (hf : cells + mc ≤ R.cells ∧ slots + ms ≤ R.slots)
    (kk : ∀ (u : S) (H1 : Heap) (locs1 : List Loc), zWd G A s (X ++ w' u) H1 locs1 → W p l e R s m args below meth c H1 locs1 (cells + mc) (slots + ms) Q (F0 m (pc + 3) ls rest)) : W p l e R s m args below meth c H locs cells slots Q (F0 m pc ls (.ref q :: rest)) := by
  have hC : [X.length].map (fun i => (X ++ [(q, ce)])[i]?) = [(q, ce)].map some := by
    simp
  have hcut := hw.cut hC rfl
  have hfr := va_free hw.2.1 hw.2.2 hA [X.length] hC
  refine va_callv (va_runIN (As := []) (rest := rest) (g := F0 m pc ls (.ref q :: rest)) S0 hM cw ⟨zPc_bl, fun U hU hW => ⟨rfl, by rw [hU], by rw [hU]; exact hcut.1, hK.call hw.2.2 (fun q h => hfr q h) hU hW, hcut.2.weaken (fun _ _ _ _ => trivial)⟩⟩ rfl rfl hsize rfl (lv_room hcat) hdg hf) hw.2.2 (fun q _ h => hfr q h) hfr (fun u t H1 locs1 ht _ hp hb1 _ hk hS => ?_)
  subst ht
  obtain ⟨hP2, hD2⟩ := va_join (wr := X) (w1 := w' u) hw.1 hw.2.1 [X.length] isR hC hR hnd hdis hk hfr hb1.1 hb1.2
  exact kk u _ _ ⟨hP2, hD2, hS⟩
end ZNEW

theorem inX0_init_X0 : ∀ w ∈ u_ws RX0 TX0 3, w ∈ wsX0_init := by decide +kernel
abbrev rmX0_init : Room := { frames := 2, cells := 1, slots := 90, locals := 60 }
theorem kdX0_init : yX0_init.cls ≠ "java/lang/invoke/MethodHandle" ∧ yX0_init.cls ≠ "java/lang/invoke/VarHandle" ∧ (parseMethodDescriptor yX0_init.desc).map (fun d => d.parameters.length) = some 0 := by decide +kernel
set_option maxHeartbeats 400000 in
set_option maxRecDepth 100000 in
theorem mX0_init (l : Launch) (G : va_G) (k : Nat → ClassId) (h sz : Nat)  : zMN (S := Nat) l yX0_init wsX0_init rmX0_init G k [(h, .inr (0, [.null, .int 0, .int 0]))] sz [.ref h] 1 90 (fun u => zH h u k (fun _ => 0) 0 0) := by
  refine zof_N (cc := cX0_init) (nL := 1) (own := RX0) (by decide) rfl rfl rfl (Nat.le_of_ble_eq_true rfl) ?_
  intro p e s m args below meth c A Q C0 hin hK hA hret ls hl hw
  have hl : lv_has ls 1 [(0, .ref h)] := hl
  obtain ⟨hx, hb, hr, hml, hown, hts, hlocks⟩ := id C0
  obtain ⟨H, hH⟩ : ∃ z, z = s.heap := ⟨_, rfl⟩
  rw [← hH] at hw ⊢
  refine lv_aload_n hx hb dX0_init_0 rfl (lv_at hl 0 rfl) ?_
  refine W.objInit hx hb hown (hts (.methodLink RX0 1 objectInit) (by decide +kernel)) (hts (.instanceMethod objectInit) (by decide +kernel)) (hts _ (List.mem_of_getElem? (i := 3) rfl)) rfl (by rw [hml]; exact hl.1) rfl dX0_init_1 (Nat.le_of_ble_eq_true rfl) (Nat.le_of_ble_eq_true rfl) ?_
  refine W.eq (g2 := F0 m 4 ls []) rfl ?_
  refine lv_aload_n hx hb dX0_init_4 rfl (lv_at hl 0 rfl) ?_
  refine lv_bipush (v := (90 : Int32)) hx hb dX0_init_5 (by decide) ?_
  refine znewa (atype := .long) (ty := .long) (N' := 90) (a0 := (90, .inr (.inl (fun _ => 0)))) hx hb (hts (.arrayClass .long) (by decide +kernel)) rfl (fun _ z => nomatch z) 0 rfl hK hw hA (fun _ => rfl) (by decide) rfl (Nat.le_of_ble_eq_true rfl) (Nat.le_of_ble_eq_true rfl) (Nat.le_of_ble_eq_true rfl) dX0_init_7 (fun q H hw => ?_)
  have hw : zWd G A s [(h, .inr (0, [.null, .int 0, .int 0])), (q, .inl (k 0, 90, .inr (.inl (fun _ => 0))))] H _ := hw
  refine va_putF (D := G) (ci := 0) (v := .ref q) (ty := (.array .long)) (C := RX0) (T := TX0) (N := 3) hx hb hts inX0_init_X0 tyX0 tyX0_ok nmX0 hown hK.1 hw.1 hw.2.1 hw.2.2 0 rfl rfl 0 (by decide) (hts (.fieldLink RX0 11 "SealedBoard$History" "rows" "[J") (by decide +kernel)) (fun _ h9 => h9) rfl hin rfl (by decide +kernel) rfl rfl (Nat.le_of_ble_eq_true rfl) dX0_init_9 (fun H locs hP hD hS => ?_)
  have hw : zWd G A s (zH h q k (fun _ => 0) 0 0) H locs := ⟨hP, hD, hS⟩
  exact hret q _ _ _ _ hw dX0_init_12
theorem inX1_init_X1 : ∀ w ∈ u_ws RX1 TX1 2, w ∈ wsX1_init := by decide +kernel
abbrev rmX1_init : Room := { frames := 2, cells := 1, slots := 60, locals := 60 }
theorem kdX1_init : yX1_init.cls ≠ "java/lang/invoke/MethodHandle" ∧ yX1_init.cls ≠ "java/lang/invoke/VarHandle" ∧ (parseMethodDescriptor yX1_init.desc).map (fun d => d.parameters.length) = some 0 := by decide +kernel
set_option maxHeartbeats 400000 in
set_option maxRecDepth 100000 in
theorem mX1_init (l : Launch) (G : va_G) (k : Nat → ClassId) (h sz : Nat)  : zMN (S := Nat) l yX1_init wsX1_init rmX1_init G k [(h, .inr (1, [.null, .int 0]))] sz [.ref h] 1 60 (fun u => zI h u k (fun _ => 0) 0) := by
  refine zof_N (cc := cX1_init) (nL := 1) (own := RX1) (by decide) rfl rfl rfl (Nat.le_of_ble_eq_true rfl) ?_
  intro p e s m args below meth c A Q C0 hin hK hA hret ls hl hw
  have hl : lv_has ls 1 [(0, .ref h)] := hl
  obtain ⟨hx, hb, hr, hml, hown, hts, hlocks⟩ := id C0
  obtain ⟨H, hH⟩ : ∃ z, z = s.heap := ⟨_, rfl⟩
  rw [← hH] at hw ⊢
  refine lv_aload_n hx hb dX1_init_0 rfl (lv_at hl 0 rfl) ?_
  refine W.objInit hx hb hown (hts (.methodLink RX1 3 objectInit) (by decide +kernel)) (hts (.instanceMethod objectInit) (by decide +kernel)) (hts _ (List.mem_of_getElem? (i := 3) rfl)) rfl (by rw [hml]; exact hl.1) rfl dX1_init_1 (Nat.le_of_ble_eq_true rfl) (Nat.le_of_ble_eq_true rfl) ?_
  refine W.eq (g2 := F0 m 4 ls []) rfl ?_
  refine lv_aload_n hx hb dX1_init_4 rfl (lv_at hl 0 rfl) ?_
  refine lv_bipush (v := (60 : Int32)) hx hb dX1_init_5 (by decide) ?_
  refine znewa (atype := .char) (ty := .char) (N' := 60) (a0 := (60, .inl (fun _ => 0))) hx hb (hts (.arrayClass .char) (by decide +kernel)) rfl (fun _ z => nomatch z) 1 rfl hK hw hA (fun _ => rfl) (by decide) rfl (Nat.le_of_ble_eq_true rfl) (Nat.le_of_ble_eq_true rfl) (Nat.le_of_ble_eq_true rfl) dX1_init_7 (fun q H hw => ?_)
  have hw : zWd G A s [(h, .inr (1, [.null, .int 0])), (q, .inl (k 1, 60, .inl (fun _ => 0)))] H _ := hw
  refine va_putF (D := G) (ci := 1) (v := .ref q) (ty := (.array .char)) (C := RX1) (T := TX1) (N := 2) hx hb hts inX1_init_X1 tyX1 tyX1_ok nmX1 hown hK.1 hw.1 hw.2.1 hw.2.2 0 rfl rfl 0 (by decide) (hts (.fieldLink RX1 11 "SealedBoard$Input" "characters" "[C") (by decide +kernel)) (fun _ h9 => h9) rfl hin rfl (by decide +kernel) rfl rfl (Nat.le_of_ble_eq_true rfl) dX1_init_9 (fun H locs hP hD hS => ?_)
  have hw : zWd G A s (zI h q k (fun _ => 0) 0) H locs := ⟨hP, hD, hS⟩
  exact hret q _ _ _ _ hw dX1_init_12
theorem inX2_init_X2 : ∀ w ∈ u_ws RX2 TX2 1, w ∈ wsX2_init := by decide +kernel
abbrev rmX2_init : Room := { frames := 2, cells := 1, slots := 15, locals := 60 }
theorem kdX2_init : yX2_init.cls ≠ "java/lang/invoke/MethodHandle" ∧ yX2_init.cls ≠ "java/lang/invoke/VarHandle" ∧ (parseMethodDescriptor yX2_init.desc).map (fun d => d.parameters.length) = some 0 := by decide +kernel
set_option maxHeartbeats 400000 in
set_option maxRecDepth 100000 in
theorem mX2_init (l : Launch) (G : va_G) (k : Nat → ClassId) (h sz : Nat) (o : Nat → Int64) (hF : fX2_reset (fun _ => 0) = some o) : zMN (S := Nat) l yX2_init wsX2_init rmX2_init G k [(h, .inr (2, [.null]))] sz [.ref h] 1 15 (fun u => zP h u k o) := by
  refine zof_N (cc := cX2_init) (nL := 1) (own := RX2) (by decide) rfl rfl rfl (Nat.le_of_ble_eq_true rfl) ?_
  intro p e s m args below meth c A Q C0 hin hK hA hret ls hl hw
  have hl : lv_has ls 1 [(0, .ref h)] := hl
  obtain ⟨hx, hb, hr, hml, hown, hts, hlocks⟩ := id C0
  obtain ⟨H, hH⟩ : ∃ z, z = s.heap := ⟨_, rfl⟩
  rw [← hH] at hw ⊢
  refine lv_aload_n hx hb dX2_init_0 rfl (lv_at hl 0 rfl) ?_
  refine W.objInit hx hb hown (hts (.methodLink RX2 5 objectInit) (by decide +kernel)) (hts (.instanceMethod objectInit) (by decide +kernel)) (hts _ (List.mem_of_getElem? (i := 3) rfl)) rfl (by rw [hml]; exact hl.1) rfl dX2_init_1 (Nat.le_of_ble_eq_true rfl) (Nat.le_of_ble_eq_true rfl) ?_
  refine W.eq (g2 := F0 m 4 ls []) rfl ?_
  refine lv_aload_n hx hb dX2_init_4 rfl (lv_at hl 0 rfl) ?_
  refine lv_bipush (v := (15 : Int32)) hx hb dX2_init_5 (by decide) ?_
  refine znewa (atype := .long) (ty := .long) (N' := 15) (a0 := (15, .inr (.inl (fun _ => 0)))) hx hb (hts (.arrayClass .long) (by decide +kernel)) rfl (fun _ z => nomatch z) 0 rfl hK hw hA (fun _ => rfl) (by decide) rfl (Nat.le_of_ble_eq_true rfl) (Nat.le_of_ble_eq_true rfl) (Nat.le_of_ble_eq_true rfl) dX2_init_7 (fun q H hw => ?_)
  have hw : zWd G A s [(h, .inr (2, [.null])), (q, .inl (k 0, 15, .inr (.inl (fun _ => 0))))] H _ := hw
  refine va_putF (D := G) (ci := 2) (v := .ref q) (ty := (.array .long)) (C := RX2) (T := TX2) (N := 1) hx hb hts inX2_init_X2 tyX2 tyX2_ok nmX2 hown hK.1 hw.1 hw.2.1 hw.2.2 0 rfl rfl 0 (by decide) (hts (.fieldLink RX2 11 "SealedBoard$Position" "row" "[J") (by decide +kernel)) (fun _ h9 => h9) rfl hin rfl (by decide +kernel) rfl rfl (Nat.le_of_ble_eq_true rfl) dX2_init_9 (fun H locs hP hD hS => ?_)
  have hw : zWd G A s (zP h q k (fun _ => 0)) H locs := ⟨hP, hD, hS⟩
  refine lv_aload_n hx hb dX2_init_12 rfl (lv_at hl 0 rfl) ?_
  refine zgoVw (w' := (zP h q k o)) hw hA (zVw (As := []) (rest := []) ⟨hx, hb, hml, hown, hts⟩ (mX2_reset l G k h q H.size (fun _ => 0) o hF) (cwV 0 hts gX2_init_X2_reset rfl rfl rfl kdX2_reset ⟨Nat.le_of_ble_eq_true rfl, Nat.le_of_ble_eq_true rfl⟩) hK hA hw 0 rfl rfl rfl rfl hl.1 rfl (Nat.le_of_ble_eq_true rfl) dX2_init_13 ⟨Nat.le_of_ble_eq_true rfl, Nat.le_of_ble_eq_true rfl⟩) (fun H locs hw => ?_)
  exact hret q _ _ _ _ hw dX2_init_16
def ad9 (a b c d e f g h i j n : Nat) : Nat → Nat := fun x => match x with
  | 0 => a
  | 1 => b
  | 2 => c
  | 3 => d
  | 4 => e
  | 5 => f
  | 6 => g
  | 7 => h
  | 8 => i
  | 9 => j
  | _ => n
theorem inX4_init_X0 : ∀ w ∈ u_ws RX0 TX0 3, w ∈ wsX4_init := by decide +kernel
theorem inX4_init_X1 : ∀ w ∈ u_ws RX1 TX1 2, w ∈ wsX4_init := by decide +kernel
theorem inX4_init_X2 : ∀ w ∈ u_ws RX2 TX2 1, w ∈ wsX4_init := by decide +kernel
theorem inX4_init_X4 : ∀ w ∈ u_ws RX4 TX4 8, w ∈ wsX4_init := by decide +kernel
abbrev rmX4_init : Room := { frames := 3, cells := 10, slots := 203, locals := 100 }
theorem kdX4_init : yX4_init.cls ≠ "java/lang/invoke/MethodHandle" ∧ yX4_init.cls ≠ "java/lang/invoke/VarHandle" ∧ (parseMethodDescriptor yX4_init.desc).map (fun d => d.parameters.length) = some 0 := by decide +kernel
set_option maxHeartbeats 400000 in
set_option maxRecDepth 100000 in
theorem mX4_init (l : Launch) (G : va_G) (k : Nat → ClassId) (h sz : Nat) (o : Nat → Int64) (hF : fX2_reset (fun _ => 0) = some o) : zMN (S := Nat × Nat × Nat × Nat × Nat × Nat × Nat × Nat × Nat × Nat) l yX4_init wsX4_init rmX4_init G k [(h, .inr (3, [.null, .null, .null, .null, .null, .int 0, .int 0, .int 0]))] sz [.ref h] 10 203 (fun u => zC (ad9 h u.1 u.2.1 u.2.2.1 u.2.2.2.1 u.2.2.2.2.1 u.2.2.2.2.2.1 u.2.2.2.2.2.2.1 u.2.2.2.2.2.2.2.1 u.2.2.2.2.2.2.2.2.1 u.2.2.2.2.2.2.2.2.2) k 0 (-1) 0 o o o (fun _ => 0) 0 0 (fun _ => 0) 0) := by
  refine zof_N (cc := cX4_init) (nL := 1) (own := RX4) (by decide) rfl rfl rfl (Nat.le_of_ble_eq_true rfl) ?_
  intro p e s m args below meth c A Q C0 hin hK hA hret ls hl hw
  have hl : lv_has ls 1 [(0, .ref h)] := hl
  obtain ⟨hx, hb, hr, hml, hown, hts, hlocks⟩ := id C0
  obtain ⟨H, hH⟩ : ∃ z, z = s.heap := ⟨_, rfl⟩
  rw [← hH] at hw ⊢
  refine lv_aload_n hx hb dX4_init_0 rfl (lv_at hl 0 rfl) ?_
  refine W.objInit hx hb hown (hts (.methodLink RX4 1 objectInit) (by decide +kernel)) (hts (.instanceMethod objectInit) (by decide +kernel)) (hts _ (List.mem_of_getElem? (i := 3) rfl)) rfl (by rw [hml]; exact hl.1) rfl dX4_init_1 (Nat.le_of_ble_eq_true rfl) (Nat.le_of_ble_eq_true rfl) ?_
  refine W.eq (g2 := F0 m 4 ls []) rfl ?_
  refine lv_aload_n hx hb dX4_init_4 rfl (lv_at hl 0 rfl) ?_
  refine va_new (ci := 2) (fs := [.null]) (C := RX2) (T := TX2) (N := 1) hx hb hts inX4_init_X2 tyX2 tyX2_ok hown (hts (.classLink RX4 7 RX2) (by decide +kernel)) (hts (.instantiable RX2 1) (by decide +kernel)) (hts (.initialized RX2) (by decide +kernel)) hK.1 hw.1 hw.2.1 hw.2.2 hA rfl (fun j hj => by rcases (show j = 0 by omega) with rfl <;> rfl) (Nat.le_of_ble_eq_true rfl) (Nat.le_of_ble_eq_true rfl) dX4_init_5 (fun q0 H hP hD hS => ?_)
  have hw : zWd G A s ([(h, .inr (3, [.null, .null, .null, .null, .null, .int 0, .int 0, .int 0]))] ++ [(q0, .inr (2, [.null]))]) H _ := ⟨hP, hD, hS⟩
  refine lv_dup hx hb dX4_init_8 rfl ?_
  refine zgoN (mc := 1) (ms := 15) (X := [(h, .inr (3, [.null, .null, .null, .null, .null, .int 0, .int 0, .int 0]))]) (rest := [.ref q0, .ref h]) ⟨hx, hb, hml, hown, hts⟩ (mX2_init l G k q0 H.size o hF) (cwI 0 hts gX4_init_X2_init rfl rfl rfl (hts (.initialized RX2) (by decide +kernel)) (hts (.methodLink RX4 9 yX2_init) (by decide +kernel)) (hts (.instanceMethod yX2_init) (by decide +kernel)) rfl kdX2_init ⟨Nat.le_of_ble_eq_true rfl, Nat.le_of_ble_eq_true rfl⟩) hK hA hw [0] rfl (by decide) (show ∀ i ∈ ([0] : List Nat), i ∉ [1] by decide) hl.1 (Nat.le_of_ble_eq_true rfl) dX4_init_9 ⟨Nat.le_of_ble_eq_true rfl, Nat.le_of_ble_eq_true rfl⟩ (fun r0 H locs hw => ?_)
  have hw : zWd G A s [(h, .inr (3, [.null, .null, .null, .null, .null, .int 0, .int 0, .int 0])), (q0, .inr (2, [.ref r0])), (r0, .inl (k 0, 15, .inr (.inl o)))] H locs := hw
  refine W.widen (k := 2) (n := 16) (Nat.le_of_ble_eq_true rfl) (Nat.le_of_ble_eq_true rfl) ?_
  refine va_putF (D := G) (ci := 3) (v := .ref q0) (ty := (.object "SealedBoard$Position")) (C := RX4) (T := TX4) (N := 8) hx hb hts inX4_init_X4 tyX4 tyX4_ok nmX4 hown hK.1 hw.1 hw.2.1 hw.2.2 0 rfl rfl 0 (by decide) (hts (.fieldLink RX4 10 "SealedBoard" "board" "LSealedBoard$Position;") (by decide +kernel)) (fun _ h9 => h9) rfl hin rfl (by decide +kernel) rfl rfl (Nat.le_of_ble_eq_true rfl) dX4_init_12 (fun H locs hP hD hS => ?_)
  have hw : zWd G A s [(h, .inr (3, [.ref q0, .null, .null, .null, .null, .int 0, .int 0, .int 0])), (q0, .inr (2, [.ref r0])), (r0, .inl (k 0, 15, .inr (.inl o)))] H locs := ⟨hP, hD, hS⟩
  refine lv_aload_n hx hb dX4_init_15 rfl (lv_at hl 0 rfl) ?_
  refine va_new (ci := 2) (fs := [.null]) (C := RX2) (T := TX2) (N := 1) hx hb hts inX4_init_X2 tyX2 tyX2_ok hown (hts (.classLink RX4 7 RX2) (by decide +kernel)) (hts (.instantiable RX2 1) (by decide +kernel)) (hts (.initialized RX2) (by decide +kernel)) hK.1 hw.1 hw.2.1 hw.2.2 hA rfl (fun j hj => by rcases (show j = 0 by omega) with rfl <;> rfl) (Nat.le_of_ble_eq_true rfl) (Nat.le_of_ble_eq_true rfl) dX4_init_16 (fun q1 H hP hD hS => ?_)
  have hw : zWd G A s ([(h, .inr (3, [.ref q0, .null, .null, .null, .null, .int 0, .int 0, .int 0])), (q0, .inr (2, [.ref r0])), (r0, .inl (k 0, 15, .inr (.inl o)))] ++ [(q1, .inr (2, [.null]))]) H _ := ⟨hP, hD, hS⟩
  refine lv_dup hx hb dX4_init_19 rfl ?_
  refine zgoN (mc := 1) (ms := 15) (X := [(h, .inr (3, [.ref q0, .null, .null, .null, .null, .int 0, .int 0, .int 0])), (q0, .inr (2, [.ref r0])), (r0, .inl (k 0, 15, .inr (.inl o)))]) (rest := [.ref q1, .ref h]) ⟨hx, hb, hml, hown, hts⟩ (mX2_init l G k q1 H.size o hF) (cwI 0 hts gX4_init_X2_init rfl rfl rfl (hts (.initialized RX2) (by decide +kernel)) (hts (.methodLink RX4 9 yX2_init) (by decide +kernel)) (hts (.instanceMethod yX2_init) (by decide +kernel)) rfl kdX2_init ⟨Nat.le_of_ble_eq_true rfl, Nat.le_of_ble_eq_true rfl⟩) hK hA hw [0, 1, 2] rfl (by decide) (show ∀ i ∈ ([0, 1, 2] : List Nat), i ∉ [3] by decide) hl.1 (Nat.le_of_ble_eq_true rfl) dX4_init_20 ⟨Nat.le_of_ble_eq_true rfl, Nat.le_of_ble_eq_true rfl⟩ (fun r1 H locs hw => ?_)
  have hw : zWd G A s [(h, .inr (3, [.ref q0, .null, .null, .null, .null, .int 0, .int 0, .int 0])), (q0, .inr (2, [.ref r0])), (r0, .inl (k 0, 15, .inr (.inl o))), (q1, .inr (2, [.ref r1])), (r1, .inl (k 0, 15, .inr (.inl o)))] H locs := hw
  refine W.widen (k := 4) (n := 32) (Nat.le_of_ble_eq_true rfl) (Nat.le_of_ble_eq_true rfl) ?_
  refine va_putF (D := G) (ci := 3) (v := .ref q1) (ty := (.object "SealedBoard$Position")) (C := RX4) (T := TX4) (N := 8) hx hb hts inX4_init_X4 tyX4 tyX4_ok nmX4 hown hK.1 hw.1 hw.2.1 hw.2.2 0 rfl rfl 1 (by decide) (hts (.fieldLink RX4 16 "SealedBoard" "trial" "LSealedBoard$Position;") (by decide +kernel)) (fun _ h9 => h9) rfl hin rfl (by decide +kernel) rfl rfl (Nat.le_of_ble_eq_true rfl) dX4_init_23 (fun H locs hP hD hS => ?_)
  have hw : zWd G A s [(h, .inr (3, [.ref q0, .ref q1, .null, .null, .null, .int 0, .int 0, .int 0])), (q0, .inr (2, [.ref r0])), (r0, .inl (k 0, 15, .inr (.inl o))), (q1, .inr (2, [.ref r1])), (r1, .inl (k 0, 15, .inr (.inl o)))] H locs := ⟨hP, hD, hS⟩
  refine lv_aload_n hx hb dX4_init_26 rfl (lv_at hl 0 rfl) ?_
  refine va_new (ci := 2) (fs := [.null]) (C := RX2) (T := TX2) (N := 1) hx hb hts inX4_init_X2 tyX2 tyX2_ok hown (hts (.classLink RX4 7 RX2) (by decide +kernel)) (hts (.instantiable RX2 1) (by decide +kernel)) (hts (.initialized RX2) (by decide +kernel)) hK.1 hw.1 hw.2.1 hw.2.2 hA rfl (fun j hj => by rcases (show j = 0 by omega) with rfl <;> rfl) (Nat.le_of_ble_eq_true rfl) (Nat.le_of_ble_eq_true rfl) dX4_init_27 (fun q2 H hP hD hS => ?_)
  have hw : zWd G A s ([(h, .inr (3, [.ref q0, .ref q1, .null, .null, .null, .int 0, .int 0, .int 0])), (q0, .inr (2, [.ref r0])), (r0, .inl (k 0, 15, .inr (.inl o))), (q1, .inr (2, [.ref r1])), (r1, .inl (k 0, 15, .inr (.inl o)))] ++ [(q2, .inr (2, [.null]))]) H _ := ⟨hP, hD, hS⟩
  refine lv_dup hx hb dX4_init_30 rfl ?_
  refine zgoN (mc := 1) (ms := 15) (X := [(h, .inr (3, [.ref q0, .ref q1, .null, .null, .null, .int 0, .int 0, .int 0])), (q0, .inr (2, [.ref r0])), (r0, .inl (k 0, 15, .inr (.inl o))), (q1, .inr (2, [.ref r1])), (r1, .inl (k 0, 15, .inr (.inl o)))]) (rest := [.ref q2, .ref h]) ⟨hx, hb, hml, hown, hts⟩ (mX2_init l G k q2 H.size o hF) (cwI 0 hts gX4_init_X2_init rfl rfl rfl (hts (.initialized RX2) (by decide +kernel)) (hts (.methodLink RX4 9 yX2_init) (by decide +kernel)) (hts (.instanceMethod yX2_init) (by decide +kernel)) rfl kdX2_init ⟨Nat.le_of_ble_eq_true rfl, Nat.le_of_ble_eq_true rfl⟩) hK hA hw [0, 1, 2, 3, 4] rfl (by decide) (show ∀ i ∈ ([0, 1, 2, 3, 4] : List Nat), i ∉ [5] by decide) hl.1 (Nat.le_of_ble_eq_true rfl) dX4_init_31 ⟨Nat.le_of_ble_eq_true rfl, Nat.le_of_ble_eq_true rfl⟩ (fun r2 H locs hw => ?_)
  have hw : zWd G A s [(h, .inr (3, [.ref q0, .ref q1, .null, .null, .null, .int 0, .int 0, .int 0])), (q0, .inr (2, [.ref r0])), (r0, .inl (k 0, 15, .inr (.inl o))), (q1, .inr (2, [.ref r1])), (r1, .inl (k 0, 15, .inr (.inl o))), (q2, .inr (2, [.ref r2])), (r2, .inl (k 0, 15, .inr (.inl o)))] H locs := hw
  refine W.widen (k := 6) (n := 48) (Nat.le_of_ble_eq_true rfl) (Nat.le_of_ble_eq_true rfl) ?_
  refine va_putF (D := G) (ci := 3) (v := .ref q2) (ty := (.object "SealedBoard$Position")) (C := RX4) (T := TX4) (N := 8) hx hb hts inX4_init_X4 tyX4 tyX4_ok nmX4 hown hK.1 hw.1 hw.2.1 hw.2.2 0 rfl rfl 2 (by decide) (hts (.fieldLink RX4 19 "SealedBoard" "saved" "LSealedBoard$Position;") (by decide +kernel)) (fun _ h9 => h9) rfl hin rfl (by decide +kernel) rfl rfl (Nat.le_of_ble_eq_true rfl) dX4_init_34 (fun H locs hP hD hS => ?_)
  have hw : zWd G A s [(h, .inr (3, [.ref q0, .ref q1, .ref q2, .null, .null, .int 0, .int 0, .int 0])), (q0, .inr (2, [.ref r0])), (r0, .inl (k 0, 15, .inr (.inl o))), (q1, .inr (2, [.ref r1])), (r1, .inl (k 0, 15, .inr (.inl o))), (q2, .inr (2, [.ref r2])), (r2, .inl (k 0, 15, .inr (.inl o)))] H locs := ⟨hP, hD, hS⟩
  refine lv_aload_n hx hb dX4_init_37 rfl (lv_at hl 0 rfl) ?_
  refine va_new (ci := 0) (fs := [.null, .int 0, .int 0]) (C := RX0) (T := TX0) (N := 3) hx hb hts inX4_init_X0 tyX0 tyX0_ok hown (hts (.classLink RX4 22 RX0) (by decide +kernel)) (hts (.instantiable RX0 3) (by decide +kernel)) (hts (.initialized RX0) (by decide +kernel)) hK.1 hw.1 hw.2.1 hw.2.2 hA rfl (fun j hj => by rcases (show j = 0 ∨ j = 1 ∨ j = 2 by omega) with rfl | rfl | rfl <;> rfl) (Nat.le_of_ble_eq_true rfl) (Nat.le_of_ble_eq_true rfl) dX4_init_38 (fun q3 H hP hD hS => ?_)
  have hw : zWd G A s ([(h, .inr (3, [.ref q0, .ref q1, .ref q2, .null, .null, .int 0, .int 0, .int 0])), (q0, .inr (2, [.ref r0])), (r0, .inl (k 0, 15, .inr (.inl o))), (q1, .inr (2, [.ref r1])), (r1, .inl (k 0, 15, .inr (.inl o))), (q2, .inr (2, [.ref r2])), (r2, .inl (k 0, 15, .inr (.inl o)))] ++ [(q3, .inr (0, [.null, .int 0, .int 0]))]) H _ := ⟨hP, hD, hS⟩
  refine lv_dup hx hb dX4_init_41 rfl ?_
  refine zgoNN (mc := 1) (ms := 90) (X := [(h, .inr (3, [.ref q0, .ref q1, .ref q2, .null, .null, .int 0, .int 0, .int 0])), (q0, .inr (2, [.ref r0])), (r0, .inl (k 0, 15, .inr (.inl o))), (q1, .inr (2, [.ref r1])), (r1, .inl (k 0, 15, .inr (.inl o))), (q2, .inr (2, [.ref r2])), (r2, .inl (k 0, 15, .inr (.inl o)))]) (rest := [.ref q3, .ref h]) ⟨hx, hb, hml, hown, hts⟩ (mX0_init l G k q3 H.size) ⟨va_cnB 0 hts gX4_init_X0_init_n24 rfl rfl rfl hK.2.1.2.1 (hts (.initialized RX0) (by decide +kernel)) kdX0_init ⟨Nat.le_of_ble_eq_true rfl, Nat.le_of_ble_eq_true rfl⟩, rfl, hts (.instanceMethod yX0_init) (by decide +kernel)⟩ hK hA hw [0, 1, 2, 3, 4, 5, 6] rfl (by decide) (show ∀ i ∈ ([0, 1, 2, 3, 4, 5, 6] : List Nat), i ∉ [7] by decide) hl.1 (Nat.le_of_ble_eq_true rfl) dX4_init_42 ⟨Nat.le_of_ble_eq_true rfl, Nat.le_of_ble_eq_true rfl⟩ (fun r3 H locs hw => ?_)
  have hw : zWd G A s [(h, .inr (3, [.ref q0, .ref q1, .ref q2, .null, .null, .int 0, .int 0, .int 0])), (q0, .inr (2, [.ref r0])), (r0, .inl (k 0, 15, .inr (.inl o))), (q1, .inr (2, [.ref r1])), (r1, .inl (k 0, 15, .inr (.inl o))), (q2, .inr (2, [.ref r2])), (r2, .inl (k 0, 15, .inr (.inl o))), (q3, .inr (0, [.ref r3, .int 0, .int 0])), (r3, .inl (k 0, 90, .inr (.inl (fun _ => 0))))] H locs := hw
  refine W.widen (k := 8) (n := 141) (Nat.le_of_ble_eq_true rfl) (Nat.le_of_ble_eq_true rfl) ?_
  refine va_putF (D := G) (ci := 3) (v := .ref q3) (ty := (.object "SealedBoard$History")) (C := RX4) (T := TX4) (N := 8) hx hb hts inX4_init_X4 tyX4 tyX4_ok nmX4 hown hK.1 hw.1 hw.2.1 hw.2.2 0 rfl rfl 3 (by decide) (hts (.fieldLink RX4 25 "SealedBoard" "history" "LSealedBoard$History;") (by decide +kernel)) (fun _ h9 => h9) rfl hin rfl (by decide +kernel) rfl rfl (Nat.le_of_ble_eq_true rfl) dX4_init_45 (fun H locs hP hD hS => ?_)
  have hw : zWd G A s [(h, .inr (3, [.ref q0, .ref q1, .ref q2, .ref q3, .null, .int 0, .int 0, .int 0])), (q0, .inr (2, [.ref r0])), (r0, .inl (k 0, 15, .inr (.inl o))), (q1, .inr (2, [.ref r1])), (r1, .inl (k 0, 15, .inr (.inl o))), (q2, .inr (2, [.ref r2])), (r2, .inl (k 0, 15, .inr (.inl o))), (q3, .inr (0, [.ref r3, .int 0, .int 0])), (r3, .inl (k 0, 90, .inr (.inl (fun _ => 0))))] H locs := ⟨hP, hD, hS⟩
  refine lv_aload_n hx hb dX4_init_48 rfl (lv_at hl 0 rfl) ?_
  refine va_new (ci := 1) (fs := [.null, .int 0]) (C := RX1) (T := TX1) (N := 2) hx hb hts inX4_init_X1 tyX1 tyX1_ok hown (hts (.classLink RX4 29 RX1) (by decide +kernel)) (hts (.instantiable RX1 2) (by decide +kernel)) (hts (.initialized RX1) (by decide +kernel)) hK.1 hw.1 hw.2.1 hw.2.2 hA rfl (fun j hj => by rcases (show j = 0 ∨ j = 1 by omega) with rfl | rfl <;> rfl) (Nat.le_of_ble_eq_true rfl) (Nat.le_of_ble_eq_true rfl) dX4_init_49 (fun q4 H hP hD hS => ?_)
  have hw : zWd G A s ([(h, .inr (3, [.ref q0, .ref q1, .ref q2, .ref q3, .null, .int 0, .int 0, .int 0])), (q0, .inr (2, [.ref r0])), (r0, .inl (k 0, 15, .inr (.inl o))), (q1, .inr (2, [.ref r1])), (r1, .inl (k 0, 15, .inr (.inl o))), (q2, .inr (2, [.ref r2])), (r2, .inl (k 0, 15, .inr (.inl o))), (q3, .inr (0, [.ref r3, .int 0, .int 0])), (r3, .inl (k 0, 90, .inr (.inl (fun _ => 0))))] ++ [(q4, .inr (1, [.null, .int 0]))]) H _ := ⟨hP, hD, hS⟩
  refine lv_dup hx hb dX4_init_52 rfl ?_
  refine zgoNN (mc := 1) (ms := 60) (X := [(h, .inr (3, [.ref q0, .ref q1, .ref q2, .ref q3, .null, .int 0, .int 0, .int 0])), (q0, .inr (2, [.ref r0])), (r0, .inl (k 0, 15, .inr (.inl o))), (q1, .inr (2, [.ref r1])), (r1, .inl (k 0, 15, .inr (.inl o))), (q2, .inr (2, [.ref r2])), (r2, .inl (k 0, 15, .inr (.inl o))), (q3, .inr (0, [.ref r3, .int 0, .int 0])), (r3, .inl (k 0, 90, .inr (.inl (fun _ => 0))))]) (rest := [.ref q4, .ref h]) ⟨hx, hb, hml, hown, hts⟩ (mX1_init l G k q4 H.size) ⟨va_cnB 0 hts gX4_init_X1_init_n31 rfl rfl rfl hK.2.1.2.2 (hts (.initialized RX1) (by decide +kernel)) kdX1_init ⟨Nat.le_of_ble_eq_true rfl, Nat.le_of_ble_eq_true rfl⟩, rfl, hts (.instanceMethod yX1_init) (by decide +kernel)⟩ hK hA hw [0, 1, 2, 3, 4, 5, 6, 7, 8] rfl (by decide) (show ∀ i ∈ ([0, 1, 2, 3, 4, 5, 6, 7, 8] : List Nat), i ∉ [9] by decide) hl.1 (Nat.le_of_ble_eq_true rfl) dX4_init_53 ⟨Nat.le_of_ble_eq_true rfl, Nat.le_of_ble_eq_true rfl⟩ (fun r4 H locs hw => ?_)
  have hw : zWd G A s [(h, .inr (3, [.ref q0, .ref q1, .ref q2, .ref q3, .null, .int 0, .int 0, .int 0])), (q0, .inr (2, [.ref r0])), (r0, .inl (k 0, 15, .inr (.inl o))), (q1, .inr (2, [.ref r1])), (r1, .inl (k 0, 15, .inr (.inl o))), (q2, .inr (2, [.ref r2])), (r2, .inl (k 0, 15, .inr (.inl o))), (q3, .inr (0, [.ref r3, .int 0, .int 0])), (r3, .inl (k 0, 90, .inr (.inl (fun _ => 0)))), (q4, .inr (1, [.ref r4, .int 0])), (r4, .inl (k 1, 60, .inl (fun _ => 0)))] H locs := hw
  refine W.widen (k := 10) (n := 203) (Nat.le_of_ble_eq_true rfl) (Nat.le_of_ble_eq_true rfl) ?_
  refine va_putF (D := G) (ci := 3) (v := .ref q4) (ty := (.object "SealedBoard$Input")) (C := RX4) (T := TX4) (N := 8) hx hb hts inX4_init_X4 tyX4 tyX4_ok nmX4 hown hK.1 hw.1 hw.2.1 hw.2.2 0 rfl rfl 4 (by decide) (hts (.fieldLink RX4 32 "SealedBoard" "input" "LSealedBoard$Input;") (by decide +kernel)) (fun _ h9 => h9) rfl hin rfl (by decide +kernel) rfl rfl (Nat.le_of_ble_eq_true rfl) dX4_init_56 (fun H locs hP hD hS => ?_)
  have hw : zWd G A s [(h, .inr (3, [.ref q0, .ref q1, .ref q2, .ref q3, .ref q4, .int 0, .int 0, .int 0])), (q0, .inr (2, [.ref r0])), (r0, .inl (k 0, 15, .inr (.inl o))), (q1, .inr (2, [.ref r1])), (r1, .inl (k 0, 15, .inr (.inl o))), (q2, .inr (2, [.ref r2])), (r2, .inl (k 0, 15, .inr (.inl o))), (q3, .inr (0, [.ref r3, .int 0, .int 0])), (r3, .inl (k 0, 90, .inr (.inl (fun _ => 0)))), (q4, .inr (1, [.ref r4, .int 0])), (r4, .inl (k 1, 60, .inl (fun _ => 0)))] H locs := ⟨hP, hD, hS⟩
  refine lv_aload_n hx hb dX4_init_59 rfl (lv_at hl 0 rfl) ?_
  refine lv_iconst (v := (-1 : Int32)) hx hb dX4_init_60 (by decide) ?_
  refine va_put (D := G) (ci := 3) (v := .int (-1 : Int32)) (ty := .int) (C := RX4) (T := TX4) (N := 8) hx hb hts inX4_init_X4 tyX4 tyX4_ok nmX4 hown hK.1 hw.1 hw.2.1 hw.2.2 0 rfl rfl 6 (by decide) (hts (.fieldLink RX4 36 "SealedBoard" "keptError" "I") (by decide +kernel)) (fun _ h9 => h9) rfl (by decide +kernel) rfl rfl (Nat.le_of_ble_eq_true rfl) dX4_init_61 (fun H locs hP hD hS => ?_)
  have hw : zWd G A s [(h, .inr (3, [.ref q0, .ref q1, .ref q2, .ref q3, .ref q4, .int 0, .int (-1), .int 0])), (q0, .inr (2, [.ref r0])), (r0, .inl (k 0, 15, .inr (.inl o))), (q1, .inr (2, [.ref r1])), (r1, .inl (k 0, 15, .inr (.inl o))), (q2, .inr (2, [.ref r2])), (r2, .inl (k 0, 15, .inr (.inl o))), (q3, .inr (0, [.ref r3, .int 0, .int 0])), (r3, .inl (k 0, 90, .inr (.inl (fun _ => 0)))), (q4, .inr (1, [.ref r4, .int 0])), (r4, .inl (k 1, 60, .inl (fun _ => 0)))] H locs := ⟨hP, hD, hS⟩
  refine lv_aload_n hx hb dX4_init_64 rfl (lv_at hl 0 rfl) ?_
  refine lv_iconst (v := (0 : Int32)) hx hb dX4_init_65 (by decide) ?_
  refine va_put (D := G) (ci := 3) (v := .int (0 : Int32)) (ty := .int) (C := RX4) (T := TX4) (N := 8) hx hb hts inX4_init_X4 tyX4 tyX4_ok nmX4 hown hK.1 hw.1 hw.2.1 hw.2.2 0 rfl rfl 7 (by decide) (hts (.fieldLink RX4 40 "SealedBoard" "keptRefusal" "I") (by decide +kernel)) (fun _ h9 => h9) rfl (by decide +kernel) rfl rfl (Nat.le_of_ble_eq_true rfl) dX4_init_66 (fun H locs hP hD hS => ?_)
  have hw : zWd G A s [(h, .inr (3, [.ref q0, .ref q1, .ref q2, .ref q3, .ref q4, .int 0, .int (-1), .int 0])), (q0, .inr (2, [.ref r0])), (r0, .inl (k 0, 15, .inr (.inl o))), (q1, .inr (2, [.ref r1])), (r1, .inl (k 0, 15, .inr (.inl o))), (q2, .inr (2, [.ref r2])), (r2, .inl (k 0, 15, .inr (.inl o))), (q3, .inr (0, [.ref r3, .int 0, .int 0])), (r3, .inl (k 0, 90, .inr (.inl (fun _ => 0)))), (q4, .inr (1, [.ref r4, .int 0])), (r4, .inl (k 1, 60, .inl (fun _ => 0)))] H locs := ⟨hP, hD, hS⟩
  exact hret (q0, r0, q1, r1, q2, r2, q3, r3, q4, r4) _ _ _ _ hw dX4_init_69

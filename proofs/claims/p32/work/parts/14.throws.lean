/-! methods that may throw: answer 0 is a return, k the k-th of these classes -/
def zEn : Nat → String := fun n => match n with
  | 1 => "java/lang/IndexOutOfBoundsException"
  | 2 => "java/lang/IllegalArgumentException"
  | 3 => "java/lang/IllegalStateException"
  | 4 => "java/lang/UnsupportedOperationException"
  | 5 => "java/util/NoSuchElementException"
  | _ => "java/lang/ArithmeticException"
abbrev zNm : List String := ["java/lang/RuntimeException", "java/lang/Exception"]
def zX (G : va_G) (w : va_W) (sz : Nat) (o0 : Nat) (w' : va_W) : String → State → State → Prop := vx_X (S := Unit) (fun _ => o0 ≠ 0) (fun E _ t => E = zEn o0 ∧ va_P G zCl w' t.heap ∧ va_D (va_A w sz) w') (va_A w sz)
abbrev zXI (l : Launch) (y : MethodName) (ws : List Cond) (rm : Room) (G : va_G) (k : Nat → ClassId) (w : va_W) (sz : Nat) (av : List Value) (mc ms o0 : Nat) (r : Int32) (w' : va_W) : Prop :=
  vx_Met l y ws rm (zPc G k w sz av) (va_Qi (fun x _ => o0 = 0 ∧ x = r) (zB G w sz w') (va_A w sz)) (zX G w sz o0 w') mc ms (va_A w sz)
abbrev zXD (l : Launch) (y : MethodName) (ws : List Cond) (rm : Room) (G : va_G) (k : Nat → ClassId) (w : va_W) (sz : Nat) (av : List Value) (mc ms o0 : Nat) (r : UInt64) (w' : va_W) : Prop :=
  vx_Met l y ws rm (zPc G k w sz av) (va_Qd (fun x _ => o0 = 0 ∧ x = r) (zB G w sz w') (va_A w sz)) (zX G w sz o0 w') mc ms (va_A w sz)
abbrev zXV (l : Launch) (y : MethodName) (ws : List Cond) (rm : Room) (G : va_G) (k : Nat → ClassId) (w : va_W) (sz : Nat) (av : List Value) (mc ms o0 : Nat) (w' : va_W) : Prop :=
  vx_Met l y ws rm (zPc G k w sz av) (va_Qv (fun _ => o0 = 0) (zB G w sz w') (va_A w sz)) (zX G w sz o0 w') mc ms (va_A w sz)
def zYI (p : Program) (l : Launch) (e : Env) (R : Room) (s : State) (m : MethodId) (args : Array Value) (below : List Frame) (meth : Method) (c : Code) (cc : ByteArray) (G : va_G) (A : Nat → Prop) (n1 n2 : Nat) (Q : State → Prop) (rt : FieldType) (o0 : Nat) (w' : va_W) (r : Int32) : Prop :=
  ∀ (H : Heap) (locs : List Loc) (pc : Nat) (ls : Array Slot), o0 = 0 → narrow rt (.int r) = .int r → zWd G A s w' H locs → decode cc pc = .ok (.ireturn, 1) → W p l e R s m args below meth c H locs n1 n2 Q (F0 m pc ls [.int r])
def zYD (p : Program) (l : Launch) (e : Env) (R : Room) (s : State) (m : MethodId) (args : Array Value) (below : List Frame) (meth : Method) (c : Code) (cc : ByteArray) (G : va_G) (A : Nat → Prop) (n1 n2 : Nat) (Q : State → Prop) (o0 : Nat) (w' : va_W) (r : UInt64) : Prop :=
  ∀ (H : Heap) (locs : List Loc) (pc : Nat) (ls : Array Slot), o0 = 0 → zWd G A s w' H locs → decode cc pc = .ok (.dreturn, 1) → W p l e R s m args below meth c H locs n1 n2 Q (F0 m pc ls [.double r])
def zYV (p : Program) (l : Launch) (e : Env) (R : Room) (s : State) (m : MethodId) (args : Array Value) (below : List Frame) (meth : Method) (c : Code) (cc : ByteArray) (G : va_G) (A : Nat → Prop) (n1 n2 : Nat) (Q : State → Prop) (o0 : Nat) (w' : va_W) : Prop :=
  ∀ (H : Heap) (locs : List Loc) (pc : Nat) (ls : Array Slot), o0 = 0 → zWd G A s w' H locs → decode cc pc = .ok (.return_, 1) → W p l e R s m args below meth c H locs n1 n2 Q (F0 m pc ls [])
/-- what is owed where a callee's exception goes on, and at a throw of one's own -/
def zTp (p : Program) (l : Launch) (e : Env) (R : Room) (s : State) (m : MethodId) (args : Array Value) (below : List Frame) (meth : Method) (c : Code) (G : va_G) (A : Nat → Prop) (n1 n2 : Nat) (Q : State → Prop) (o0 : Nat) (w' : va_W) : Prop :=
  ∀ (H : Heap) (locs : List Loc) (pc : Nat) (ls : Array Slot) (rest : List Value) (q : Addr) (E : String) (ce : Cell) (a1 a2 : Nat), o0 ≠ 0 → zWd G A s w' H locs → H[q]? = some ce → ce.vm = .none → s.vm.findClass E = some ce.cls → E = zEn o0 → a1 ≤ n1 → a2 ≤ n2 → vx_W p l e R s m args below meth c H locs a1 a2 Q (F0 m pc ls rest) q
def zTo (p : Program) (l : Launch) (e : Env) (R : Room) (s : State) (m : MethodId) (args : Array Value) (below : List Frame) (meth : Method) (c : Code) (cc : ByteArray) (own : String) (G : va_G) (A : Nat → Prop) (n1 n2 : Nat) (Q : State → Prop) (o0 : Nat) (w' : va_W) : Prop :=
  ∀ (H : Heap) (locs : List Loc) (pc : Nat) (ls : Array Slot) (rest : List Value) (en : String) (ik is ic a1 a2 : Nat) (tx : String), o0 ≠ 0 → zEn o0 = en → zWd G A s w' H locs → ls.size = c.maxLocals → (own, is, tx) ∈ zSTR → Bundle.fit en = true →
    (Cond.classLink own ik en).before args s = true → (Cond.initialized en).before args s = true → (∀ w ∈ vx_atS own ic en zNm, w.before args s = true) → (∀ w ∈ Cond.classLink own ik en :: Cond.initialized en :: vx_atS own ic en zNm, vx_ot w = true) →
    (decode cc pc = .ok (.new ik, 3) ∧ decode cc (pc + 3) = .ok (.dup, 1) ∧ ((decode cc (pc + 4) = .ok (.ldc is, 2) ∧ decode cc (pc + 6) = .ok (.invokespecial ic, 3) ∧ decode cc (pc + 9) = .ok (.athrow, 1)) ∨ (decode cc (pc + 4) = .ok (.ldc_w is, 3) ∧ decode cc (pc + 7) = .ok (.invokespecial ic, 3) ∧ decode cc (pc + 10) = .ok (.athrow, 1)))) →
    5 < R.frames → (rest.map fun v => v.category).sum + 82 ≤ R.locals → a1 + 1 ≤ R.cells → a2 + 6 ≤ R.slots → a1 + 1 ≤ n1 → a2 + 6 ≤ n2 → W p l e R s m args below meth c H locs a1 a2 Q (F0 m pc ls rest)
section ZT
variable {p : Program} {l : Launch} {e : Env} {R : Room} {s : State} {m : MethodId} {args : Array Value} {below : List Frame} {meth : Method} {c : Code}
theorem zTp_of {G : va_G} {A : Nat → Prop} {Qc : Array Value → State → Outcome → State → Prop} {n1 n2 o0 : Nat} {w w' : va_W} (hA2 : A = va_A w s.heap.size) (hlocks : meth.locks = false) (ht : ∀ x ∈ c.exceptionTable.toList, False) :
    zTp p l e R s m args below meth c G A n1 n2 (vx_MQ below Qc (zX G w s.heap.size o0 w') args s n1 n2 A) o0 w' := by
  intro H locs pc ls rest q E ce a1 a2 ho hw hce hv hcl hE h1 h2
  subst hA2
  refine vx_out (fun x hx => (ht x hx).elim) hlocks hce hv hcl (fun t ht2 hal => ?_) hw.2.2.2.2 h1 h2
  exact ⟨(), ho, ⟨hE, by rw [ht2]; exact hw.1, hw.2.1⟩, hw.2.2.F ht2⟩
theorem zTo_of {cc : ByteArray} {own : String} {G : va_G} {k : Nat → ClassId} {A : Nat → Prop} {Qc : Array Value → State → Outcome → State → Prop} {n1 n2 o0 : Nat} {w w' : va_W} (hexec : p.tables.exec = Jvm.exec) (hb : c.code = cc) (hl9 : l.stackTraces = false) (hown : s.vm.findClass own = some m.cls) (hK : zKK G k A s s.heap) (hA2 : A = va_A w s.heap.size) (hlocks : meth.locks = false) (ht : ∀ x ∈ c.exceptionTable.toList, False) :
    zTo p l e R s m args below meth c cc own G A n1 n2 (vx_MQ below Qc (zX G w s.heap.size o0 w') args s n1 n2 A) o0 w' := by
  intro H locs pc ls rest en ik is ic a1 a2 tx ho hE hw hsz hst hfit hk hini hat hgood hd hRf hRl hRc hRs h1 h2
  subst hA2
  obtain ⟨sa, hsa⟩ := hK.2.2.1 _ hst
  have hx : ∀ t : State, s.vm.Alike t.vm → H.size ≤ t.heap.size → (∀ q : Nat, q < H.size → t.heap[q]? = H[q]?) → zX G w s.heap.size o0 w' en s t := by
    intro t hal hz hq
    refine ⟨(), ho, ⟨hE.symm, hw.1.kept (fun j q hj => hq q.1 (hw.1 j q hj).lt), hw.2.1⟩, ⟨Nat.le_trans hw.2.2.1 hz, fun q g1 g2 => ?_⟩⟩
    rw [hq q (Nat.lt_of_lt_of_le g1 hw.2.2.1)]
    exact hw.2.2.2.1 q g1 g2
  have hnm : ∀ n ∈ zNm, Bundle.fit n = true := by decide +kernel
  obtain ⟨d0, d3, ⟨d4, d6, d9⟩ | ⟨d4, d7, d10⟩⟩ := hd
  · exact vx_throwS (names := zNm) hexec hb hl9 hown hfit hnm hk hini hsa hat hgood hK.2.2.2.2.1 hK.2.2.2.2.2.1 hw.2.2 hsz d0 d3 d4 d6 d9 (fun x hx => (ht x hx).elim) hRf hRl hRc hRs hlocks hx hw.2.2.2.2 h1 h2
  · exact vx_throwSW (names := zNm) hexec hb hl9 hown hfit hnm hk hini hsa hat hgood hK.2.2.2.2.1 hK.2.2.2.2.2.1 hw.2.2 hsz d0 d3 d4 d7 d10 (fun x hx => (ht x hx).elim) hRf hRl hRc hRs hlocks hx hw.2.2.2.2 h1 h2
end ZT
theorem zof_XI {l : Launch} (hl9 : l.stackTraces = false) {y : MethodName} {ws ws' : List Cond} {rm : Room} {cc : ByteArray} {nL : Nat} {own : String} {rt : FieldType} {G : va_G} {k : Nat → ClassId} {w w' : va_W} {sz : Nat} {av : List Value} {mc ms o0 : Nat} {r : Int32}
    (hy : plainName y.cls = true) (hw : ws = Cond.code y cc nL (some rt) :: ws') (hyo : y.cls = own) (hlen : (lg_sl av).length ≤ nL)
    (body : ∀ (p : Program) (e : Env) (s : State) (m : MethodId) (args : Array Value) (below : List Frame) (meth : Method) (c : Code) (A : Nat → Prop) (Q : State → Prop), zCx p s m args meth c ws cc own (some rt) nL → zKK G k A s s.heap → (∀ q : Nat, s.heap.size ≤ q → A q) → zYI p l e rm s m args below meth c cc G A mc ms Q rt o0 w' r →
      zTp p l e rm s m args below meth c G A mc ms Q o0 w' → zTo p l e rm s m args below meth c cc own G A mc ms Q o0 w' →
      ∀ ls : Array Slot, lv_has ls nL (lv_args 0 av) → zWd G A s w s.heap [] → W p l e rm s m args below meth c s.heap [] 0 0 Q (F0 m 0 ls [])) : zXI l y ws rm G k w sz av mc ms o0 r w' := by
  refine vx_ofW (cc := cc) (maxL := nL) (ret := some rt) hy hw ?_
  intro p e s m args below meth c s₁ B hml ht hv
  obtain ⟨rfl, hsz, hP, hK, hD0⟩ := hv
  subst hsz
  have hts := atoms_spec (ws := ws) B.pre
  have ho : s.vm.findClass own = some m.cls := by rw [← hyo]; exact findClass_of_methodNamed B.named
  have hlocks := B.notSynchronized
  have hl := lv_entry av (n := nL) hlen
  rw [lg_entry_eq]
  refine body p e s m _ below meth c (va_A w s.heap.size) _ ⟨B.exec, B.bytes, B.returns, hml, ho, hts, hlocks⟩ hK (fun q h => Or.inr h) ?_ (zTp_of rfl hlocks ht) (zTo_of (cc := cc) (own := own) (k := k) B.exec B.bytes hl9 ho hK rfl hlocks ht) _ hl ⟨hP, hD0.self, va_S.rf⟩
  intro H locs pc ls ho2 hrt hw2 hd
  obtain ⟨hP2, hD2, hS2⟩ := hw2
  exact vx_ret (W.zret (v := r) B.exec B.bytes B.returns hrt (fun t ht hW => ⟨⟨r, (), rfl, ⟨ho2, rfl⟩, by rw [ht]; exact hP2, hD2⟩, hS2.F ht⟩) hS2.2.2 hd)
theorem zof_XD {l : Launch} (hl9 : l.stackTraces = false) {y : MethodName} {ws ws' : List Cond} {rm : Room} {cc : ByteArray} {nL : Nat} {own : String} {G : va_G} {k : Nat → ClassId} {w w' : va_W} {sz : Nat} {av : List Value} {mc ms o0 : Nat} {r : UInt64}
    (hy : plainName y.cls = true) (hw : ws = Cond.code y cc nL (some .double) :: ws') (hyo : y.cls = own) (hlen : (lg_sl av).length ≤ nL)
    (body : ∀ (p : Program) (e : Env) (s : State) (m : MethodId) (args : Array Value) (below : List Frame) (meth : Method) (c : Code) (A : Nat → Prop) (Q : State → Prop), zCx p s m args meth c ws cc own (some .double) nL → zKK G k A s s.heap → (∀ q : Nat, s.heap.size ≤ q → A q) → zYD p l e rm s m args below meth c cc G A mc ms Q o0 w' r →
      zTp p l e rm s m args below meth c G A mc ms Q o0 w' → zTo p l e rm s m args below meth c cc own G A mc ms Q o0 w' →
      ∀ ls : Array Slot, lv_has ls nL (lv_args 0 av) → zWd G A s w s.heap [] → W p l e rm s m args below meth c s.heap [] 0 0 Q (F0 m 0 ls [])) : zXD l y ws rm G k w sz av mc ms o0 r w' := by
  refine vx_ofW (cc := cc) (maxL := nL) (ret := some .double) hy hw ?_
  intro p e s m args below meth c s₁ B hml ht hv
  obtain ⟨rfl, hsz, hP, hK, hD0⟩ := hv
  subst hsz
  have hts := atoms_spec (ws := ws) B.pre
  have ho : s.vm.findClass own = some m.cls := by rw [← hyo]; exact findClass_of_methodNamed B.named
  have hlocks := B.notSynchronized
  have hl := lv_entry av (n := nL) hlen
  rw [lg_entry_eq]
  refine body p e s m _ below meth c (va_A w s.heap.size) _ ⟨B.exec, B.bytes, B.returns, hml, ho, hts, hlocks⟩ hK (fun q h => Or.inr h) ?_ (zTp_of rfl hlocks ht) (zTo_of (cc := cc) (own := own) (k := k) B.exec B.bytes hl9 ho hK rfl hlocks ht) _ hl ⟨hP, hD0.self, va_S.rf⟩
  intro H locs pc ls ho2 hw2 hd
  obtain ⟨hP2, hD2, hS2⟩ := hw2
  exact vx_ret (W.dret (v := r) B.exec B.bytes B.returns (fun t ht hW => ⟨⟨r, (), rfl, ⟨ho2, rfl⟩, by rw [ht]; exact hP2, hD2⟩, hS2.F ht⟩) hS2.2.2 hd)
theorem zof_XV {l : Launch} (hl9 : l.stackTraces = false) {y : MethodName} {ws ws' : List Cond} {rm : Room} {cc : ByteArray} {nL : Nat} {own : String} {G : va_G} {k : Nat → ClassId} {w w' : va_W} {sz : Nat} {av : List Value} {mc ms o0 : Nat}
    (hy : plainName y.cls = true) (hw : ws = Cond.code y cc nL none :: ws') (hyo : y.cls = own) (hlen : (lg_sl av).length ≤ nL)
    (body : ∀ (p : Program) (e : Env) (s : State) (m : MethodId) (args : Array Value) (below : List Frame) (meth : Method) (c : Code) (A : Nat → Prop) (Q : State → Prop), zCx p s m args meth c ws cc own none nL → zKK G k A s s.heap → (∀ q : Nat, s.heap.size ≤ q → A q) → zYV p l e rm s m args below meth c cc G A mc ms Q o0 w' →
      zTp p l e rm s m args below meth c G A mc ms Q o0 w' → zTo p l e rm s m args below meth c cc own G A mc ms Q o0 w' →
      ∀ ls : Array Slot, lv_has ls nL (lv_args 0 av) → zWd G A s w s.heap [] → W p l e rm s m args below meth c s.heap [] 0 0 Q (F0 m 0 ls [])) : zXV l y ws rm G k w sz av mc ms o0 w' := by
  refine vx_ofW (cc := cc) (maxL := nL) (ret := none) hy hw ?_
  intro p e s m args below meth c s₁ B hml ht hv
  obtain ⟨rfl, hsz, hP, hK, hD0⟩ := hv
  subst hsz
  have hts := atoms_spec (ws := ws) B.pre
  have ho : s.vm.findClass own = some m.cls := by rw [← hyo]; exact findClass_of_methodNamed B.named
  have hlocks := B.notSynchronized
  have hl := lv_entry av (n := nL) hlen
  rw [lg_entry_eq]
  refine body p e s m _ below meth c (va_A w s.heap.size) _ ⟨B.exec, B.bytes, B.returns, hml, ho, hts, hlocks⟩ hK (fun q h => Or.inr h) ?_ (zTp_of rfl hlocks ht) (zTo_of (cc := cc) (own := own) (k := k) B.exec B.bytes hl9 ho hK rfl hlocks ht) _ hl ⟨hP, hD0.self, va_S.rf⟩
  intro H locs pc ls ho2 hw2 hd
  obtain ⟨hP2, hD2, hS2⟩ := hw2
  exact vx_ret (W.vret B.exec B.bytes B.returns (fun t ht hW => ⟨⟨(), rfl, ho2, by rw [ht]; exact hP2, hD2⟩, hS2.F ht⟩) hS2.2.2 hd)
section ZCX
variable {p : Program} {l : Launch} {e : Env} {R : Room} {s : State} {m : MethodId} {args : Array Value} {below : List Frame} {meth : Method} {c : Code} {H : Heap} {locs : List Loc} {cells slots : Nat} {Q : State → Prop}
variable {y : MethodName} {bytes cc : ByteArray} {maxL nL n index mc ms o0 : Nat} {ret : Option FieldType} {ws : List Cond} {rm : Room} {Qc : Array Value → State → Outcome → State → Prop} {XC : String → State → State → Prop} {Ts : List Cond} {own C : String} {b : Addr} {As rest st : List Value} {ls : Array Slot} {pc : Nat} {G : va_G} {k : Nat → ClassId} {A : Nat → Prop} {w wc wc' w' : va_W}
theorem zVx (S : CallFix p m c cc nL s args Ts own) (hM : vx_Met l y ws rm (zPc G k wc H.size (.ref b :: As)) Qc XC mc ms (va_A wc H.size)) (cw : CallW R s args own C index y bytes maxL ret ws rm mc ms n) (hK : zKK G k A s s.heap) (hA : ∀ q : Nat, s.heap.size ≤ q → A q) (hw : zWd G A s w H locs)
    (isC : List Nat) (hC : isC.map (fun i => w[i]?) = wc.map some) (hnd : va_nd isC = true) (q0 : Nat) {ci : Nat} {fs : List Value} {q : vw_C} (he : w[q0]? = some (b, .inr (ci, fs))) (hc : zCl[ci]? = some q) (hcl : q.1 = C)
    (hn : As.length = n) (hsize : ls.size = nL) (hst : st = As.reverse ++ .ref b :: rest) (hcat : (rest.map fun v => v.category).sum ≤ 8) (hdg : decode cc pc = .ok (.invokevirtual index, 3)) (hf : cells + mc ≤ R.cells ∧ slots + ms ≤ R.slots) :
    vx_Run p l e R s m args below meth c H locs cells slots mc ms (F0 m pc ls st) rest (Qc (Value.ref b :: As).toArray) XC (va_A wc H.size) := by
  have hcut := hw.cut hC hnd
  have hfr := va_free hw.2.1 hw.2.2 hA isC hC
  subst hcl
  exact vx_runV (g := F0 m pc ls st) S hM cw ⟨zPc_bl, va_recv hK.1 hw.1 hc he, fun U hU hW => ⟨rfl, by rw [hU], by rw [hU]; exact hcut.1, hK.call hw.2.2 (fun q h => hfr q h) hU hW, hcut.2.weaken (fun _ _ _ _ => trivial)⟩⟩ rfl hn hsize hst (lv_room hcat) hdg hf
theorem zSx (S : CallFix p m c cc nL s args Ts own) (hM : vx_Met l y ws rm (zPc G k wc H.size As) Qc XC mc ms (va_A wc H.size)) (cw : CallB R s args own index y bytes maxL ret ws rm mc ms n ∧ (Cond.static y).before args s = true) (hK : zKK G k A s s.heap) (hA : ∀ q : Nat, s.heap.size ≤ q → A q) (hw : zWd G A s w H locs)
    (isC : List Nat) (hC : isC.map (fun i => w[i]?) = wc.map some) (hnd : va_nd isC = true)
    (hn : As.length = n) (hsize : ls.size = nL) (hst : st = As.reverse ++ rest) (hcat : (rest.map fun v => v.category).sum ≤ 8) (hdg : decode cc pc = .ok (.invokestatic index, 3)) (hf : cells + mc ≤ R.cells ∧ slots + ms ≤ R.slots) :
    vx_Run p l e R s m args below meth c H locs cells slots mc ms (F0 m pc ls st) rest (Qc As.toArray) XC (va_A wc H.size) := by
  have hcut := hw.cut hC hnd
  have hfr := va_free hw.2.1 hw.2.2 hA isC hC
  exact vx_runS (g := F0 m pc ls st) S hM cw ⟨zPc_bl, fun U hU hW => ⟨rfl, by rw [hU], by rw [hU]; exact hcut.1, hK.call hw.2.2 (fun q h => hfr q h) hU hW, hcut.2.weaken (fun _ _ _ _ => trivial)⟩⟩ rfl hn hsize hst (lv_room hcat) hdg hf
theorem zgoXI {a : Array Value} {r : Int32} (hw : zWd G A s w H locs) (hA : ∀ q : Nat, s.heap.size ≤ q → A q) (isC : List Nat) (hC : isC.map (fun i => w[i]?) = wc.map some)
    (hr : vx_Run p l e R s m args below meth c H locs cells slots mc ms (F0 m pc ls st) rest (va_Qi (fun x _ => o0 = 0 ∧ x = r) (zB G wc H.size wc') (va_A wc H.size) a) (zX G wc H.size o0 wc') (va_A wc H.size))
    (hlen : isC.length = wc'.length) (hz : zput w isC wc' = w') (hfst : w'.map (·.1) = w.map (·.1))
    (kx : o0 ≠ 0 → ∀ (H1 : Heap) (locs1 : List Loc) (q : Addr) (E : String) (ce : Cell), zWd G A s w' H1 locs1 → H1[q]? = some ce → ce.vm = .none → s.vm.findClass E = some ce.cls → E = zEn o0 → vx_W p l e R s m args below meth c H1 locs1 (cells + mc) (slots + ms) Q (F0 m pc ls rest) q)
    (kk : o0 = 0 → ∀ (H1 : Heap) (locs1 : List Loc), zWd G A s w' H1 locs1 → W p l e R s m args below meth c H1 locs1 (cells + mc) (slots + ms) Q (F0 m (pc + 3) ls (.int r :: rest))) : W p l e R s m args below meth c H locs cells slots Q (F0 m pc ls st) := by
  have hfr := va_free hw.2.1 hw.2.2 hA isC hC
  refine vx_calli hr hw.2.2 (fun q _ h => hfr q h) hfr (fun q _ h => hfr q h) (fun E ce q9 u t H1 locs1 ht _ hp hb _ hk hS hce hcv hcl => ?_) (fun r1 u t H1 locs1 ht _ hp hb _ hk hS => ?_)
  · subst ht
    exact kx hp _ _ q9 E ce ⟨zafter hw.1 hw.2.1 hC hlen hz hk hb.2.1, zD_fst hw.2.1 hfst, hS⟩ hce hcv hcl hb.1
  · obtain ⟨h0, hp⟩ := hp
    subst hp
    subst ht
    exact kk h0 _ _ ⟨zafter hw.1 hw.2.1 hC hlen hz hk hb.1, zD_fst hw.2.1 hfst, hS⟩
theorem zgoXD {a : Array Value} {r : UInt64} (hw : zWd G A s w H locs) (hA : ∀ q : Nat, s.heap.size ≤ q → A q) (isC : List Nat) (hC : isC.map (fun i => w[i]?) = wc.map some)
    (hr : vx_Run p l e R s m args below meth c H locs cells slots mc ms (F0 m pc ls st) rest (va_Qd (fun x _ => o0 = 0 ∧ x = r) (zB G wc H.size wc') (va_A wc H.size) a) (zX G wc H.size o0 wc') (va_A wc H.size))
    (hlen : isC.length = wc'.length) (hz : zput w isC wc' = w') (hfst : w'.map (·.1) = w.map (·.1))
    (kx : o0 ≠ 0 → ∀ (H1 : Heap) (locs1 : List Loc) (q : Addr) (E : String) (ce : Cell), zWd G A s w' H1 locs1 → H1[q]? = some ce → ce.vm = .none → s.vm.findClass E = some ce.cls → E = zEn o0 → vx_W p l e R s m args below meth c H1 locs1 (cells + mc) (slots + ms) Q (F0 m pc ls rest) q)
    (kk : o0 = 0 → ∀ (H1 : Heap) (locs1 : List Loc), zWd G A s w' H1 locs1 → W p l e R s m args below meth c H1 locs1 (cells + mc) (slots + ms) Q (F0 m (pc + 3) ls (.double r :: rest))) : W p l e R s m args below meth c H locs cells slots Q (F0 m pc ls st) := by
  have hfr := va_free hw.2.1 hw.2.2 hA isC hC
  refine vx_calld hr hw.2.2 (fun q _ h => hfr q h) hfr (fun q _ h => hfr q h) (fun E ce q9 u t H1 locs1 ht _ hp hb _ hk hS hce hcv hcl => ?_) (fun r1 u t H1 locs1 ht _ hp hb _ hk hS => ?_)
  · subst ht
    exact kx hp _ _ q9 E ce ⟨zafter hw.1 hw.2.1 hC hlen hz hk hb.2.1, zD_fst hw.2.1 hfst, hS⟩ hce hcv hcl hb.1
  · obtain ⟨h0, hp⟩ := hp
    subst hp
    subst ht
    exact kk h0 _ _ ⟨zafter hw.1 hw.2.1 hC hlen hz hk hb.1, zD_fst hw.2.1 hfst, hS⟩
theorem zgoXV {a : Array Value} (hw : zWd G A s w H locs) (hA : ∀ q : Nat, s.heap.size ≤ q → A q) (isC : List Nat) (hC : isC.map (fun i => w[i]?) = wc.map some)
    (hr : vx_Run p l e R s m args below meth c H locs cells slots mc ms (F0 m pc ls st) rest (va_Qv (fun _ => o0 = 0) (zB G wc H.size wc') (va_A wc H.size) a) (zX G wc H.size o0 wc') (va_A wc H.size))
    (hlen : isC.length = wc'.length) (hz : zput w isC wc' = w') (hfst : w'.map (·.1) = w.map (·.1))
    (kx : o0 ≠ 0 → ∀ (H1 : Heap) (locs1 : List Loc) (q : Addr) (E : String) (ce : Cell), zWd G A s w' H1 locs1 → H1[q]? = some ce → ce.vm = .none → s.vm.findClass E = some ce.cls → E = zEn o0 → vx_W p l e R s m args below meth c H1 locs1 (cells + mc) (slots + ms) Q (F0 m pc ls rest) q)
    (kk : o0 = 0 → ∀ (H1 : Heap) (locs1 : List Loc), zWd G A s w' H1 locs1 → W p l e R s m args below meth c H1 locs1 (cells + mc) (slots + ms) Q (F0 m (pc + 3) ls rest)) : W p l e R s m args below meth c H locs cells slots Q (F0 m pc ls st) := by
  have hfr := va_free hw.2.1 hw.2.2 hA isC hC
  refine vx_callv hr hw.2.2 (fun q _ h => hfr q h) hfr (fun q _ h => hfr q h) (fun E ce q9 u t H1 locs1 ht _ hp hb _ hk hS hce hcv hcl => ?_) (fun u t H1 locs1 ht _ hp hb _ hk hS => ?_)
  · subst ht
    exact kx hp _ _ q9 E ce ⟨zafter hw.1 hw.2.1 hC hlen hz hk hb.2.1, zD_fst hw.2.1 hfst, hS⟩ hce hcv hcl hb.1
  · subst ht
    exact kk hp _ _ ⟨zafter hw.1 hw.2.1 hC hlen hz hk hb.1, zD_fst hw.2.1 hfst, hS⟩
end ZCX

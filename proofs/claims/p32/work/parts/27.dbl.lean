/-! methods that answer a double and draw nothing -/
abbrev zMD (l : Launch) (y : MethodName) (ws : List Cond) (rm : Room) (G : va_G) (k : Nat → ClassId) (w : va_W) (sz : Nat) (av : List Value) (r : UInt64) (w' : va_W) : Prop :=
  Met l y ws rm (zPc G k w sz av) (va_Qd (fun x _ => x = r) (zB G w sz w') (va_A w sz)) 0 0 (va_A w sz)
def zRD (p : Program) (l : Launch) (e : Env) (R : Room) (s : State) (m : MethodId) (args : Array Value) (below : List Frame) (meth : Method) (c : Code) (cc : ByteArray) (G : va_G) (A : Nat → Prop) (n1 n2 : Nat) (Q : State → Prop) (w' : va_W) (r : UInt64) : Prop :=
  ∀ (H : Heap) (locs : List Loc) (pc : Nat) (ls : Array Slot), zWd G A s w' H locs → decode cc pc = .ok (.dreturn, 1) → W p l e R s m args below meth c H locs n1 n2 Q (F0 m pc ls [.double r])
theorem zof_D {l : Launch} {y : MethodName} {ws ws' : List Cond} {rm : Room} {cc : ByteArray} {nL : Nat} {own : String} {G : va_G} {k : Nat → ClassId} {w w' : va_W} {sz : Nat} {av : List Value} {r : UInt64}
    (hy : plainName y.cls = true) (hw : ws = Cond.code y cc nL (some .double) :: ws') (hyo : y.cls = own) (hlen : (lg_sl av).length ≤ nL)
    (body : ∀ (p : Program) (e : Env) (s : State) (m : MethodId) (args : Array Value) (below : List Frame) (meth : Method) (c : Code) (A : Nat → Prop) (Q : State → Prop), zCx p s m args meth c ws cc own (some .double) nL → zKK G k A s s.heap → (∀ q : Nat, s.heap.size ≤ q → A q) → zRD p l e rm s m args below meth c cc G A 0 0 Q w' r →
      ∀ ls : Array Slot, lv_has ls nL (lv_args 0 av) → zWd G A s w s.heap [] → W p l e rm s m args below meth c s.heap [] 0 0 Q (F0 m 0 ls [])) : zMD l y ws rm G k w sz av r w' := by
  refine Met.ofW (cc := cc) (maxL := nL) (ret := some .double) hy hw ?_
  intro p e s m args below meth c s₁ B hml hv
  obtain ⟨rfl, hsz, hP, hK, hD0⟩ := hv
  subst hsz
  have hts := atoms_spec (ws := ws) B.pre
  have ho : s.vm.findClass own = some m.cls := by rw [← hyo]; exact findClass_of_methodNamed B.named
  have hlocks := B.notSynchronized
  have hl := lv_entry av (n := nL) hlen
  rw [lg_entry_eq]
  refine body p e s m _ below meth c (va_A w s.heap.size) _ ⟨B.exec, B.bytes, B.returns, hml, ho, hts, hlocks⟩ hK (fun q h => Or.inr h) ?_ _ hl ⟨hP, hD0.self, va_S.rf⟩
  intro H locs pc ls hw2 hd
  obtain ⟨hP2, hD2, hS2⟩ := hw2
  exact W.dret (v := r) B.exec B.bytes B.returns (fun t ht hW => ⟨⟨r, (), rfl, rfl, by rw [ht]; exact hP2, hD2⟩, hS2.F ht⟩) hS2.2.2 hd

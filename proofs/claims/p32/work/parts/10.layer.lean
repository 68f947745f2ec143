/-! THE LAYER: a method is read off its bytecode as a function on what the cells hold; these rows tie the two -/
abbrev zCl : List vw_C := [(RX0, TX0, 3), (RX1, TX1, 2), (RX2, TX2, 1), (RX4, TX4, 8)]
abbrev zTY (k : Nat → ClassId) : List (ClassId × FieldType) := [(k 0, .long), (k 1, .char), (k 2, .int)]
def zbn {α β : Type} (v : α) (f : α → Option β) : Option β := f v
theorem zbn_t {α β : Type} {v x : α} {f : α → Option β} {o : β} (e : x = v) (h : zbn v f = some o) : f x = some o := by subst e; exact h
def zck {β : Type} (b : Bool) (x : Option β) : Option β := if b then x else none
theorem zck_t {β : Type} {b : Bool} {x : Option β} {o : β} (h : zck b x = some o) : b = true ∧ x = some o := by
  unfold zck at h
  split at h
  · exact ⟨by assumption, h⟩
  · cases h
def zin (i : Int32) (n : Nat) : Bool := decide (0 ≤ i.toInt) && decide (i.toInt < n)
theorem zin_t {i : Int32} {n : Nat} (h : zin i n = true) : vp_in i n := by
  unfold zin at h
  rw [Bool.and_eq_true, decide_eq_true_eq, decide_eq_true_eq] at h
  exact vp_in_iff.mpr h
theorem zck_in {β : Type} {i : Int32} {n : Nat} {x : Option β} {o : β} (h : zck (zin i n) x = some o) : vp_in i n ∧ x = some o := ⟨zin_t (zck_t h).1, (zck_t h).2⟩
def zbd {α β : Type} (x : Option α) (f : α → Option β) : Option β := match x with
  | none => none
  | some a => f a
theorem zbd_t {α β : Type} {x : Option α} {f : α → Option β} {o : β} (h : zbd x f = some o) : ∃ u, x = some u ∧ f u = some o := by
  cases x with
  | none => cases h
  | some a => exact ⟨a, rfl, h⟩
theorem zif_t {β : Type} {c : Prop} {d : Decidable c} {a b : Option β} {o : β} (hc : c) (h : @ite _ c d a b = some o) : a = some o := by rw [if_pos hc] at h; exact h
theorem zif_f {β : Type} {c : Prop} {d : Decidable c} {a b : Option β} {o : β} (hc : ¬ c) (h : @ite _ c d a b = some o) : b = some o := by rw [if_neg hc] at h; exact h
theorem znone {β : Type} {o : β} {P : Prop} (h : (none : Option β) = some o) : P := nomatch h
/-- what an answer of a boolean or char method is -/
def zbo (x : Int32) : Bool := decide (x = 0) || decide (x = 1)
theorem zbo_n {x : Int32} (h : zbo x = true) : narrow .boolean (.int x) = .int x := by
  unfold zbo at h
  rw [Bool.or_eq_true, decide_eq_true_eq, decide_eq_true_eq] at h
  rcases h with rfl | rfl <;> rfl
theorem zbo_f {x : Int32} (h : zbo x = true) : fits .boolean (.int x) = true := by
  unfold zbo at h
  rw [Bool.or_eq_true, decide_eq_true_eq, decide_eq_true_eq] at h
  rcases h with rfl | rfl <;> rfl
def zch (x : Int32) : Bool := decide (0 ≤ x.toInt) && decide (x.toInt < 65536)
theorem zch_n {x : Int32} (h : zch x = true) : narrow .char (.int x) = .int x := by
  unfold zch at h
  rw [Bool.and_eq_true, decide_eq_true_eq, decide_eq_true_eq] at h
  have h9 := lg_i2c_word h.1 h.2
  rw [lg_i2c_nf] at h9
  show Value.int _ = _
  first | exact congrArg Value.int h9 | (rw [h9]) | simp [narrow, h9]
/-- the machine's tables and what stays as it was at the start -/
def zKK (G : va_G) (k : Nat → ClassId) (A : Nat → Prop) (U : State) (H : Heap) : Prop := va_K G zCl (zTY k) U ∧ zEx A U H
theorem zKK.same {G : va_G} {k : Nat → ClassId} {A : Nat → Prop} {u U : State} {H : Heap} (h : u.vm = U.vm) (hK : zKK G k A u H) : zKK G k A U H :=
  ⟨va_K.moved (zwarm_eq h).alike hK.1, hK.2.warm (zwarm_eq h) (fun _ _ _ => rfl) (fun _ h => h)⟩
theorem zKK.call {G : va_G} {k : Nat → ClassId} {A B : Nat → Prop} {s U : State} {H : Heap} {locs : List Loc} (hK : zKK G k A s s.heap) (hS : va_S A s.heap H locs) (hB : ∀ q, B q → A q) (hU : U.heap = H) (hW : s.WarmedH U.vm) : zKK G k B U U.heap :=
  ⟨va_K.moved hW.alike hK.1, hK.2.warm hW (fun q h1 h2 => by rw [hU]; exact hS.2.1 q h1 h2) hB⟩
def zWd (G : va_G) (A : Nat → Prop) (s : State) (w : va_W) (H : Heap) (locs : List Loc) : Prop := va_P G zCl w H ∧ va_D A w ∧ va_S A s.heap H locs
def zPc (G : va_G) (k : Nat → ClassId) (w : va_W) (sz : Nat) (av : List Value) : Array Value → State → Prop :=
  va_Pc av (fun U => U.heap.size = sz ∧ va_P G zCl w U.heap ∧ zKK G k (va_A w sz) U U.heap ∧ va_D (fun _ => True) w)
theorem zPc_bl {G : va_G} {k : Nat → ClassId} {w : va_W} {sz : Nat} {av : List Value} : FrameBlind (zPc G k w sz av) := fun a U g mk q => by
  obtain ⟨q0, q1, qP, qK, qD⟩ := q
  exact ⟨q0, q1, qP, zKK.same (u := U) (U := U.calling g mk a) rfl qK, qD⟩
def zB (G : va_G) (w : va_W) (sz : Nat) (w' : va_W) : Unit → State → Prop := fun _ t => va_P G zCl w' t.heap ∧ va_D (va_A w sz) w'
abbrev zMI (l : Launch) (y : MethodName) (ws : List Cond) (rm : Room) (G : va_G) (k : Nat → ClassId) (w : va_W) (sz : Nat) (av : List Value) (r : Int32) (w' : va_W) : Prop :=
  Met l y ws rm (zPc G k w sz av) (va_Qi (fun x _ => x = r) (zB G w sz w') (va_A w sz)) 0 0 (va_A w sz)
abbrev zML (l : Launch) (y : MethodName) (ws : List Cond) (rm : Room) (G : va_G) (k : Nat → ClassId) (w : va_W) (sz : Nat) (av : List Value) (r : Int64) (w' : va_W) : Prop :=
  Met l y ws rm (zPc G k w sz av) (va_Ql (fun x _ => x = r) (zB G w sz w') (va_A w sz)) 0 0 (va_A w sz)
abbrev zMV (l : Launch) (y : MethodName) (ws : List Cond) (rm : Room) (G : va_G) (k : Nat → ClassId) (w : va_W) (sz : Nat) (av : List Value) (w' : va_W) : Prop :=
  Met l y ws rm (zPc G k w sz av) (va_Qv (fun _ => True) (zB G w sz w') (va_A w sz)) 0 0 (va_A w sz)
abbrev zCx (p : Program) (s : State) (m : MethodId) (args : Array Value) (meth : Method) (c : Code) (ws : List Cond) (cc : ByteArray) (own : String) (ret : Option FieldType) (nL : Nat) : Prop :=
  p.tables.exec = Jvm.exec ∧ c.code = cc ∧ meth.sig.returnType = ret ∧ c.maxLocals = nL ∧ s.vm.findClass own = some m.cls ∧ (∀ w ∈ ws, w.before args s = true) ∧ meth.locks = false
/-- what is owed at a return -/
def zRI (p : Program) (l : Launch) (e : Env) (R : Room) (s : State) (m : MethodId) (args : Array Value) (below : List Frame) (meth : Method) (c : Code) (cc : ByteArray) (G : va_G) (A : Nat → Prop) (n1 n2 : Nat) (Q : State → Prop) (rt : FieldType) (w' : va_W) (r : Int32) : Prop :=
  ∀ (H : Heap) (locs : List Loc) (pc : Nat) (ls : Array Slot), narrow rt (.int r) = .int r → zWd G A s w' H locs → decode cc pc = .ok (.ireturn, 1) → W p l e R s m args below meth c H locs n1 n2 Q (F0 m pc ls [.int r])
def zRL (p : Program) (l : Launch) (e : Env) (R : Room) (s : State) (m : MethodId) (args : Array Value) (below : List Frame) (meth : Method) (c : Code) (cc : ByteArray) (G : va_G) (A : Nat → Prop) (n1 n2 : Nat) (Q : State → Prop) (w' : va_W) (r : Int64) : Prop :=
  ∀ (H : Heap) (locs : List Loc) (pc : Nat) (ls : Array Slot), zWd G A s w' H locs → decode cc pc = .ok (.lreturn, 1) → W p l e R s m args below meth c H locs n1 n2 Q (F0 m pc ls [.long r])
def zRV (p : Program) (l : Launch) (e : Env) (R : Room) (s : State) (m : MethodId) (args : Array Value) (below : List Frame) (meth : Method) (c : Code) (cc : ByteArray) (G : va_G) (A : Nat → Prop) (n1 n2 : Nat) (Q : State → Prop) (w' : va_W) : Prop :=
  ∀ (H : Heap) (locs : List Loc) (pc : Nat) (ls : Array Slot), zWd G A s w' H locs → decode cc pc = .ok (.return_, 1) → W p l e R s m args below meth c H locs n1 n2 Q (F0 m pc ls [])
theorem zof_I {l : Launch} {y : MethodName} {ws ws' : List Cond} {rm : Room} {cc : ByteArray} {nL : Nat} {own : String} {rt : FieldType} {G : va_G} {k : Nat → ClassId} {w w' : va_W} {sz : Nat} {av : List Value} {r : Int32}
    (hy : plainName y.cls = true) (hw : ws = Cond.code y cc nL (some rt) :: ws') (hyo : y.cls = own) (hlen : (lg_sl av).length ≤ nL)
    (body : ∀ (p : Program) (e : Env) (s : State) (m : MethodId) (args : Array Value) (below : List Frame) (meth : Method) (c : Code) (A : Nat → Prop) (Q : State → Prop), zCx p s m args meth c ws cc own (some rt) nL → zKK G k A s s.heap → (∀ q : Nat, s.heap.size ≤ q → A q) → zRI p l e rm s m args below meth c cc G A 0 0 Q rt w' r →
      ∀ ls : Array Slot, lv_has ls nL (lv_args 0 av) → zWd G A s w s.heap [] → W p l e rm s m args below meth c s.heap [] 0 0 Q (F0 m 0 ls [])) : zMI l y ws rm G k w sz av r w' := by
  refine Met.ofW (cc := cc) (maxL := nL) (ret := some rt) hy hw ?_
  intro p e s m args below meth c s₁ B hml hv
  obtain ⟨rfl, hsz, hP, hK, hD0⟩ := hv
  subst hsz
  have hts := atoms_spec (ws := ws) B.pre
  have ho : s.vm.findClass own = some m.cls := by rw [← hyo]; exact findClass_of_methodNamed B.named
  have hlocks := B.notSynchronized
  have hl := lv_entry av (n := nL) hlen
  rw [lg_entry_eq]
  refine body p e s m _ below meth c (va_A w s.heap.size) _ ⟨B.exec, B.bytes, B.returns, hml, ho, hts, hlocks⟩ hK (fun q h => Or.inr h) ?_ _ hl ⟨hP, hD0.self, va_S.rf⟩
  intro H locs pc ls hrt hw2 hd
  obtain ⟨hP2, hD2, hS2⟩ := hw2
  exact W.zret (v := r) B.exec B.bytes B.returns hrt (fun t ht hW => ⟨⟨r, (), rfl, rfl, by rw [ht]; exact hP2, hD2⟩, hS2.F ht⟩) hS2.2.2 hd
theorem zof_L {l : Launch} {y : MethodName} {ws ws' : List Cond} {rm : Room} {cc : ByteArray} {nL : Nat} {own : String} {G : va_G} {k : Nat → ClassId} {w w' : va_W} {sz : Nat} {av : List Value} {r : Int64}
    (hy : plainName y.cls = true) (hw : ws = Cond.code y cc nL (some .long) :: ws') (hyo : y.cls = own) (hlen : (lg_sl av).length ≤ nL)
    (body : ∀ (p : Program) (e : Env) (s : State) (m : MethodId) (args : Array Value) (below : List Frame) (meth : Method) (c : Code) (A : Nat → Prop) (Q : State → Prop), zCx p s m args meth c ws cc own (some .long) nL → zKK G k A s s.heap → (∀ q : Nat, s.heap.size ≤ q → A q) → zRL p l e rm s m args below meth c cc G A 0 0 Q w' r →
      ∀ ls : Array Slot, lv_has ls nL (lv_args 0 av) → zWd G A s w s.heap [] → W p l e rm s m args below meth c s.heap [] 0 0 Q (F0 m 0 ls [])) : zML l y ws rm G k w sz av r w' := by
  refine Met.ofW (cc := cc) (maxL := nL) (ret := some .long) hy hw ?_
  intro p e s m args below meth c s₁ B hml hv
  obtain ⟨rfl, hsz, hP, hK, hD0⟩ := hv
  subst hsz
  have hts := atoms_spec (ws := ws) B.pre
  have ho : s.vm.findClass own = some m.cls := by rw [← hyo]; exact findClass_of_methodNamed B.named
  have hlocks := B.notSynchronized
  have hl := lv_entry av (n := nL) hlen
  rw [lg_entry_eq]
  refine body p e s m _ below meth c (va_A w s.heap.size) _ ⟨B.exec, B.bytes, B.returns, hml, ho, hts, hlocks⟩ hK (fun q h => Or.inr h) ?_ _ hl ⟨hP, hD0.self, va_S.rf⟩
  intro H locs pc ls hw2 hd
  obtain ⟨hP2, hD2, hS2⟩ := hw2
  exact W.lret (v := r) B.exec B.bytes B.returns (fun t ht hW => ⟨⟨r, (), rfl, rfl, by rw [ht]; exact hP2, hD2⟩, hS2.F ht⟩) hS2.2.2 hd
theorem zof_V {l : Launch} {y : MethodName} {ws ws' : List Cond} {rm : Room} {cc : ByteArray} {nL : Nat} {own : String} {G : va_G} {k : Nat → ClassId} {w w' : va_W} {sz : Nat} {av : List Value}
    (hy : plainName y.cls = true) (hw : ws = Cond.code y cc nL none :: ws') (hyo : y.cls = own) (hlen : (lg_sl av).length ≤ nL)
    (body : ∀ (p : Program) (e : Env) (s : State) (m : MethodId) (args : Array Value) (below : List Frame) (meth : Method) (c : Code) (A : Nat → Prop) (Q : State → Prop), zCx p s m args meth c ws cc own none nL → zKK G k A s s.heap → (∀ q : Nat, s.heap.size ≤ q → A q) → zRV p l e rm s m args below meth c cc G A 0 0 Q w' →
      ∀ ls : Array Slot, lv_has ls nL (lv_args 0 av) → zWd G A s w s.heap [] → W p l e rm s m args below meth c s.heap [] 0 0 Q (F0 m 0 ls [])) : zMV l y ws rm G k w sz av w' := by
  refine Met.ofW (cc := cc) (maxL := nL) (ret := none) hy hw ?_
  intro p e s m args below meth c s₁ B hml hv
  obtain ⟨rfl, hsz, hP, hK, hD0⟩ := hv
  subst hsz
  have hts := atoms_spec (ws := ws) B.pre
  have ho : s.vm.findClass own = some m.cls := by rw [← hyo]; exact findClass_of_methodNamed B.named
  have hlocks := B.notSynchronized
  have hl := lv_entry av (n := nL) hlen
  rw [lg_entry_eq]
  refine body p e s m _ below meth c (va_A w s.heap.size) _ ⟨B.exec, B.bytes, B.returns, hml, ho, hts, hlocks⟩ hK (fun q h => Or.inr h) ?_ _ hl ⟨hP, hD0.self, va_S.rf⟩
  intro H locs pc ls hw2 hd
  obtain ⟨hP2, hD2, hS2⟩ := hw2
  exact W.vret B.exec B.bytes B.returns (fun t ht hW => ⟨⟨(), rfl, trivial, by rw [ht]; exact hP2, hD2⟩, hS2.F ht⟩) hS2.2.2 hd

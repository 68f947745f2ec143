/-! calls in a middle part of the caller's world; methods that take cells and slots; the law's own helpers -/
theorem zap_nil (w : va_W) : w = [] ++ (w ++ []) := (List.append_nil w).symm
theorem zWd.left {G : va_G} {A : Nat → Prop} {s : State} {wa wb : va_W} {H : Heap} {locs : List Loc} (hw : zWd G A s (wa ++ wb) H locs) : zWd G A s wa H locs := by
  have up : ∀ (j : Nat) (q : Nat × va_E), wa[j]? = some q → (wa ++ wb)[j]? = some q := fun j q h => by
    rw [List.getElem?_append_left (List.getElem?_eq_some_iff.mp h).1]; exact h
  exact ⟨fun j q hj => hw.1 j q (up j q hj), ⟨fun i j x y hi hj hxy => hw.2.1.1 i j x y (up i x hi) (up j y hj) hxy, fun j q hj => hw.2.1.2 j q (up j q hj)⟩, hw.2.2⟩
section ZC4
variable {p : Program} {l : Launch} {e : Env} {R : Room} {s : State} {m : MethodId} {args : Array Value} {below : List Frame} {meth : Method} {c : Code} {H H1 : Heap} {locs : List Loc} {cells slots : Nat} {Q : State → Prop}
variable {y : MethodName} {bytes cc : ByteArray} {maxL nL n index mc ms o0 : Nat} {ret : Option FieldType} {ws : List Cond} {rm : Room} {Qc : Array Value → State → Outcome → State → Prop} {XC : String → State → State → Prop} {Ts : List Cond} {own C : String} {b : Addr} {As rest st : List Value} {ls : Array Slot} {pc : Nat} {G : va_G} {k : Nat → ClassId} {A : Nat → Prop} {w w' wa wc wr wc' : va_W}
theorem zV4 (S : CallFix p m c cc nL s args Ts own) (hM : Met l y ws rm (zPc G k wc H.size (.ref b :: As)) Qc mc ms (va_A wc H.size)) (cw : CallW R s args own C index y bytes maxL ret ws rm mc ms n) (hK : zKK G k A s s.heap) (hA : ∀ q : Nat, s.heap.size ≤ q → A q) (hw : zWd G A s w H locs) (E1 : w = wa ++ (wc ++ wr))
    (q0 : Nat) {ci : Nat} {fs : List Value} {q : vw_C} (he : wc[q0]? = some (b, .inr (ci, fs))) (hc : zCl[ci]? = some q) (hcl : q.1 = C)
    (hn : As.length = n) (hsize : ls.size = nL) (hst : st = As.reverse ++ .ref b :: rest) (hcat : (rest.map fun v => v.category).sum ≤ 8) (hdg : decode cc pc = .ok (.invokevirtual index, 3)) (hf : cells + mc ≤ R.cells ∧ slots + ms ≤ R.slots) :
    va_Run p l e R s m args below meth c H locs cells slots mc ms (F0 m pc ls st) rest (Qc (Value.ref b :: As).toArray) (va_A wc H.size) := by
  subst E1
  exact zV3 S hM cw hK hA hw q0 he hc hcl hn hsize hst hcat hdg hf
theorem zVx4 (S : CallFix p m c cc nL s args Ts own) (hM : vx_Met l y ws rm (zPc G k wc H.size (.ref b :: As)) Qc XC mc ms (va_A wc H.size)) (cw : CallW R s args own C index y bytes maxL ret ws rm mc ms n) (hK : zKK G k A s s.heap) (hA : ∀ q : Nat, s.heap.size ≤ q → A q) (hw : zWd G A s w H locs) (E1 : w = wa ++ (wc ++ wr))
    (q0 : Nat) {ci : Nat} {fs : List Value} {q : vw_C} (he : wc[q0]? = some (b, .inr (ci, fs))) (hc : zCl[ci]? = some q) (hcl : q.1 = C)
    (hn : As.length = n) (hsize : ls.size = nL) (hst : st = As.reverse ++ .ref b :: rest) (hcat : (rest.map fun v => v.category).sum ≤ 8) (hdg : decode cc pc = .ok (.invokevirtual index, 3)) (hf : cells + mc ≤ R.cells ∧ slots + ms ≤ R.slots) :
    vx_Run p l e R s m args below meth c H locs cells slots mc ms (F0 m pc ls st) rest (Qc (Value.ref b :: As).toArray) XC (va_A wc H.size) := by
  subst E1
  exact zVx3 S hM cw hK hA hw q0 he hc hcl hn hsize hst hcat hdg hf
theorem zSW4 {hh : List (Nat × Nat × Nat × Nat)} (S : CallFix p m c cc nL s args Ts own) (hM : Met l y ws rm (zPc G k wc H.size As) Qc mc ms (va_A wc H.size)) (cw : vx_CSW R s args own index y bytes maxL ret hh ws rm mc ms n) (hK : zKK G k A s s.heap) (hA : ∀ q : Nat, s.heap.size ≤ q → A q) (hw : zWd G A s w H locs) (E1 : w = wa ++ (wc ++ wr))
    (hn : As.length = n) (hsize : ls.size = nL) (hst : st = As.reverse ++ rest) (hcat : (rest.map fun v => v.category).sum ≤ 8) (hdg : decode cc pc = .ok (.invokestatic index, 3)) (hf : cells + mc ≤ R.cells ∧ slots + ms ≤ R.slots) :
    va_Run p l e R s m args below meth c H locs cells slots mc ms (F0 m pc ls st) rest (Qc As.toArray) (va_A wc H.size) := by
  subst E1
  exact zSW3 S hM cw hK hA hw hn hsize hst hcat hdg hf
theorem zgoI4 {a : Array Value} {r : Int32} (hw : zWd G A s w H locs) (E1 : w = wa ++ (wc ++ wr)) (E2 : w' = wa ++ (wc' ++ wr)) (hA : ∀ q : Nat, s.heap.size ≤ q → A q)
    (hr : va_Run p l e R s m args below meth c H locs cells slots mc ms (F0 m pc ls st) rest (va_Qi (fun x _ => x = r) (zB G wc H.size wc') (va_A wc H.size) a) (va_A wc H.size))
    (hfst : wc'.map (·.1) = wc.map (·.1))
    (kk : ∀ (H1 : Heap) (locs1 : List Loc), zWd G A s w' H1 locs1 → W p l e R s m args below meth c H1 locs1 (cells + mc) (slots + ms) Q (F0 m (pc + 3) ls (.int r :: rest))) : W p l e R s m args below meth c H locs cells slots Q (F0 m pc ls st) := by
  subst E1
  subst E2
  exact zgoI3 hw hA hr hfst kk
theorem zgoV4 {a : Array Value} (hw : zWd G A s w H locs) (E1 : w = wa ++ (wc ++ wr)) (E2 : w' = wa ++ (wc' ++ wr)) (hA : ∀ q : Nat, s.heap.size ≤ q → A q)
    (hr : va_Run p l e R s m args below meth c H locs cells slots mc ms (F0 m pc ls st) rest (va_Qv (fun _ => True) (zB G wc H.size wc') (va_A wc H.size) a) (va_A wc H.size))
    (hfst : wc'.map (·.1) = wc.map (·.1))
    (kk : ∀ (H1 : Heap) (locs1 : List Loc), zWd G A s w' H1 locs1 → W p l e R s m args below meth c H1 locs1 (cells + mc) (slots + ms) Q (F0 m (pc + 3) ls rest)) : W p l e R s m args below meth c H locs cells slots Q (F0 m pc ls st) := by
  subst E1
  subst E2
  exact zgoV3 hw hA hr hfst kk
theorem zgoXI4 {a : Array Value} {r : Int32} (hw : zWd G A s w H locs) (E1 : w = wa ++ (wc ++ wr)) (E2 : w' = wa ++ (wc' ++ wr)) (hA : ∀ q : Nat, s.heap.size ≤ q → A q)
    (hr : vx_Run p l e R s m args below meth c H locs cells slots mc ms (F0 m pc ls st) rest (va_Qi (fun x _ => o0 = 0 ∧ x = r) (zB G wc H.size wc') (va_A wc H.size) a) (zX G wc H.size o0 wc') (va_A wc H.size))
    (hfst : wc'.map (·.1) = wc.map (·.1))
    (kx : o0 ≠ 0 → ∀ (H1 : Heap) (locs1 : List Loc) (q : Addr) (E : String) (ce : Cell), zWd G A s w' H1 locs1 → H1[q]? = some ce → ce.vm = .none → s.vm.findClass E = some ce.cls → E = zEn o0 → vx_W p l e R s m args below meth c H1 locs1 (cells + mc) (slots + ms) Q (F0 m pc ls rest) q)
    (kk : o0 = 0 → ∀ (H1 : Heap) (locs1 : List Loc), zWd G A s w' H1 locs1 → W p l e R s m args below meth c H1 locs1 (cells + mc) (slots + ms) Q (F0 m (pc + 3) ls (.int r :: rest))) : W p l e R s m args below meth c H locs cells slots Q (F0 m pc ls st) := by
  subst E1
  subst E2
  exact zgoXI3 hw hA hr hfst kx kk
theorem zgoXD4 {a : Array Value} {r : UInt64} (hw : zWd G A s w H locs) (E1 : w = wa ++ (wc ++ wr)) (E2 : w' = wa ++ (wc' ++ wr)) (hA : ∀ q : Nat, s.heap.size ≤ q → A q)
    (hr : vx_Run p l e R s m args below meth c H locs cells slots mc ms (F0 m pc ls st) rest (va_Qd (fun x _ => o0 = 0 ∧ x = r) (zB G wc H.size wc') (va_A wc H.size) a) (zX G wc H.size o0 wc') (va_A wc H.size))
    (hfst : wc'.map (·.1) = wc.map (·.1))
    (kx : o0 ≠ 0 → ∀ (H1 : Heap) (locs1 : List Loc) (q : Addr) (E : String) (ce : Cell), zWd G A s w' H1 locs1 → H1[q]? = some ce → ce.vm = .none → s.vm.findClass E = some ce.cls → E = zEn o0 → vx_W p l e R s m args below meth c H1 locs1 (cells + mc) (slots + ms) Q (F0 m pc ls rest) q)
    (kk : o0 = 0 → ∀ (H1 : Heap) (locs1 : List Loc), zWd G A s w' H1 locs1 → W p l e R s m args below meth c H1 locs1 (cells + mc) (slots + ms) Q (F0 m (pc + 3) ls (.double r :: rest))) : W p l e R s m args below meth c H locs cells slots Q (F0 m pc ls st) := by
  subst E1
  subst E2
  exact zgoXD3 hw hA hr hfst kx kk
theorem zS4 (S : CallFix p m c cc nL s args Ts own) (hM : Met l y ws rm (zPc G k wc H.size As) Qc mc ms (va_A wc H.size)) (cw : CallB R s args own index y bytes maxL ret ws rm mc ms n ∧ (Cond.static y).before args s = true) (hK : zKK G k A s s.heap) (hA : ∀ q : Nat, s.heap.size ≤ q → A q) (hw : zWd G A s w H locs) (E1 : w = wa ++ (wc ++ wr))
    (hn : As.length = n) (hsize : ls.size = nL) (hst : st = As.reverse ++ rest) (hcat : (rest.map fun v => v.category).sum ≤ 8) (hdg : decode cc pc = .ok (.invokestatic index, 3)) (hf : cells + mc ≤ R.cells ∧ slots + ms ≤ R.slots) :
    va_Run p l e R s m args below meth c H locs cells slots mc ms (F0 m pc ls st) rest (Qc As.toArray) (va_A wc H.size) := by
  subst E1
  have hcut := hw.cut3
  have hfr := zfree3 hw hA
  exact va_runS (g := F0 m pc ls st) S hM cw ⟨zPc_bl, fun U hU hW => ⟨rfl, by rw [hU], by rw [hU]; exact hcut.1, hK.call hw.2.2 (fun q h => hfr q h) hU hW, hcut.2.weaken (fun _ _ _ _ => trivial)⟩⟩ rfl hn hsize hst (lv_room hcat) hdg hf
theorem zgoL4 {a : Array Value} {r : Int64} (hw : zWd G A s w H locs) (E1 : w = wa ++ (wc ++ wr)) (E2 : w' = wa ++ (wc' ++ wr)) (hA : ∀ q : Nat, s.heap.size ≤ q → A q)
    (hr : va_Run p l e R s m args below meth c H locs cells slots mc ms (F0 m pc ls st) rest (va_Ql (fun x _ => x = r) (zB G wc H.size wc') (va_A wc H.size) a) (va_A wc H.size))
    (hfst : wc'.map (·.1) = wc.map (·.1))
    (kk : ∀ (H1 : Heap) (locs1 : List Loc), zWd G A s w' H1 locs1 → W p l e R s m args below meth c H1 locs1 (cells + mc) (slots + ms) Q (F0 m (pc + 3) ls (.long r :: rest))) : W p l e R s m args below meth c H locs cells slots Q (F0 m pc ls st) := by
  subst E1
  subst E2
  have hfr := zfree3 hw hA
  refine va_calll hr hw.2.2 (fun q _ h => hfr q h) hfr (fun r1 u t H1 locs1 ht _ hp hb _ hk hS => ?_)
  subst hp
  subst ht
  exact kk _ _ ⟨zafter3 hw hk hb.1, zD3 hw.2.1 hfst, hS⟩
theorem zgoD4 {a : Array Value} {r : UInt64} (hw : zWd G A s w H locs) (E1 : w = wa ++ (wc ++ wr)) (E2 : w' = wa ++ (wc' ++ wr)) (hA : ∀ q : Nat, s.heap.size ≤ q → A q)
    (hr : va_Run p l e R s m args below meth c H locs cells slots mc ms (F0 m pc ls st) rest (va_Qd (fun x _ => x = r) (zB G wc H.size wc') (va_A wc H.size) a) (va_A wc H.size))
    (hfst : wc'.map (·.1) = wc.map (·.1))
    (kk : ∀ (H1 : Heap) (locs1 : List Loc), zWd G A s w' H1 locs1 → W p l e R s m args below meth c H1 locs1 (cells + mc) (slots + ms) Q (F0 m (pc + 3) ls (.double r :: rest))) : W p l e R s m args below meth c H locs cells slots Q (F0 m pc ls st) := by
  subst E1
  subst E2
  have hfr := zfree3 hw hA
  refine va_calld hr hw.2.2 (fun q _ h => hfr q h) hfr (fun r1 u t H1 locs1 ht _ hp hb _ hk hS => ?_)
  subst hp
  subst ht
  exact kk _ _ ⟨zafter3 hw hk hb.1, zD3 hw.2.1 hfst, hS⟩
def zPt (G : va_G) (k : Nat → ClassId) (w : va_W) (sz q v : Nat) (b : List Int32) (av : List Value) : Array Value → State → Prop :=
  va_Pc av (fun U => U.heap.size = sz ∧ va_P G zCl w U.heap ∧ zKK G k (va_A w sz) U U.heap ∧ va_D (fun _ => True) w ∧ zStr b q v (va_A w sz) U U.heap)
theorem zPt_bl {G : va_G} {k : Nat → ClassId} {w : va_W} {sz q v : Nat} {b : List Int32} {av : List Value} : FrameBlind (zPt G k w sz q v b av) := fun a U g mk q9 => by
  obtain ⟨q0, q1, qP, qK, qD, qZ⟩ := q9
  exact ⟨q0, q1, qP, zKK.same (u := U) (U := U.calling g mk a) rfl qK, qD, vk_S.moved (zwarm_eq (u := U) (U := U.calling g mk a) rfl).alike qZ⟩
theorem zSt4 {q v : Nat} {bb : List Int32} (S : CallFix p m c cc nL s args Ts own) (hM : Met l y ws rm (zPt G k wc H.size q v bb As) Qc mc ms (va_A wc H.size)) (cw : CallB R s args own index y bytes maxL ret ws rm mc ms n ∧ (Cond.static y).before args s = true) (hK : zKK G k A s s.heap) (hA : ∀ q : Nat, s.heap.size ≤ q → A q) (hw : zWd G A s w H locs) (E1 : w = wa ++ (wc ++ wr)) (hZ : zStr bb q v A s s.heap)
    (hn : As.length = n) (hsize : ls.size = nL) (hst : st = As.reverse ++ rest) (hcat : (rest.map fun v => v.category).sum ≤ 8) (hdg : decode cc pc = .ok (.invokestatic index, 3)) (hf : cells + mc ≤ R.cells ∧ slots + ms ≤ R.slots) :
    va_Run p l e R s m args below meth c H locs cells slots mc ms (F0 m pc ls st) rest (Qc As.toArray) (va_A wc H.size) := by
  subst E1
  have hcut := hw.cut3
  have hfr := zfree3 hw hA
  exact va_runS (g := F0 m pc ls st) S hM cw ⟨zPt_bl, fun U hU hW => ⟨rfl, by rw [hU], by rw [hU]; exact hcut.1, hK.call hw.2.2 (fun q h => hfr q h) hU hW, hcut.2.weaken (fun _ _ _ _ => trivial), hZ.go hw.2.2 (fun q h => hfr q h) hU hW⟩⟩ rfl hn hsize hst (lv_room hcat) hdg hf
def zPs9 (b L : Nat) (xs : Nat → Int32) (sz : Nat) (av : List Value) : Array Value → State → Prop := va_Pc av (fun U => U.heap.size = sz ∧ va_X b L xs U U.heap ∧ b < sz)
theorem zPs9_bl {b L sz : Nat} {xs : Nat → Int32} {av : List Value} : FrameBlind (zPs9 b L xs sz av) := fun a U g mk q9 => by
  obtain ⟨q0, q1, qX, qb⟩ := q9
  exact ⟨q0, q1, va_X.moved (zwarm_eq (u := U) (U := U.calling g mk a) rfl).alike qX, qb⟩
theorem zSx9 {bs L : Nat} {xs : Nat → Int32} (S : CallFix p m c cc nL s args Ts own) (hM : Met l y ws rm (zPs9 bs L xs H.size As) Qc 0 0 (va_A [] H.size)) (cw : CallB R s args own index y bytes maxL ret ws rm 0 0 n ∧ (Cond.static y).before args s = true) (hA : ∀ q : Nat, s.heap.size ≤ q → A q) (hw : zWd G A s w H locs) (hX : va_X bs L xs s s.heap) (hbl : bs < s.heap.size) (hbA : ¬ A bs)
    (hn : As.length = n) (hsize : ls.size = nL) (hst : st = As.reverse ++ rest) (hcat : (rest.map fun v => v.category).sum ≤ 8) (hdg : decode cc pc = .ok (.invokestatic index, 3)) (hf : cells + 0 ≤ R.cells ∧ slots + 0 ≤ R.slots) :
    va_Run p l e R s m args below meth c H locs cells slots 0 0 (F0 m pc ls st) rest (Qc As.toArray) (va_A [] H.size) := by
  have h9 : ∀ U : State, U.heap = H → s.WarmedH U.vm → va_X bs L xs U U.heap := fun U hU hW => by
    rw [hU]
    exact (va_X.moved hW.alike hX).kept (hw.2.2.2.1 bs hbl hbA)
  exact va_runS (g := F0 m pc ls st) S hM cw ⟨zPs9_bl, fun U hU hW => ⟨rfl, by rw [hU], h9 U hU hW, Nat.lt_of_lt_of_le hbl hw.2.2.1⟩⟩ rfl hn hsize hst (lv_room hcat) hdg hf
end ZC4
abbrev zMLc (l : Launch) (y : MethodName) (ws : List Cond) (rm : Room) (G : va_G) (k : Nat → ClassId) (w : va_W) (sz : Nat) (av : List Value) (mc ms : Nat) (r : Int64) (w' : va_W) : Prop :=
  Met l y ws rm (zPc G k w sz av) (va_Ql (fun x _ => x = r) (zB G w sz w') (va_A w sz)) mc ms (va_A w sz)
abbrev zMDc (l : Launch) (y : MethodName) (ws : List Cond) (rm : Room) (G : va_G) (k : Nat → ClassId) (w : va_W) (sz : Nat) (av : List Value) (mc ms : Nat) (r : UInt64) (w' : va_W) : Prop :=
  Met l y ws rm (zPc G k w sz av) (va_Qd (fun x _ => x = r) (zB G w sz w') (va_A w sz)) mc ms (va_A w sz)
abbrev zMTc (l : Launch) (y : MethodName) (ws : List Cond) (rm : Room) (G : va_G) (k : Nat → ClassId) (w : va_W) (sz q v : Nat) (b : List Int32) (av : List Value) (mc ms : Nat) (r : Int32) (w' : va_W) : Prop :=
  Met l y ws rm (zPt G k w sz q v b av) (va_Qi (fun x _ => x = r) (zB G w sz w') (va_A w sz)) mc ms (va_A w sz)
theorem zof_Ic {l : Launch} {y : MethodName} {ws ws' : List Cond} {rm : Room} {cc : ByteArray} {nL : Nat} {own : String} {rt : FieldType} {G : va_G} {k : Nat → ClassId} {w w' : va_W} {sz : Nat} {av : List Value} {mc ms : Nat} {r : Int32}
    (hy : plainName y.cls = true) (hw : ws = Cond.code y cc nL (some rt) :: ws') (hyo : y.cls = own) (hlen : (lg_sl av).length ≤ nL)
    (body : ∀ (p : Program) (e : Env) (s : State) (m : MethodId) (args : Array Value) (below : List Frame) (meth : Method) (c : Code) (A : Nat → Prop) (Q : State → Prop), zCx p s m args meth c ws cc own (some rt) nL → zKK G k A s s.heap → (∀ q : Nat, s.heap.size ≤ q → A q) → zRI p l e rm s m args below meth c cc G A mc ms Q rt w' r →
      ∀ ls : Array Slot, lv_has ls nL (lv_args 0 av) → zWd G A s w s.heap [] → W p l e rm s m args below meth c s.heap [] 0 0 Q (F0 m 0 ls [])) : zMIc l y ws rm G k w sz av mc ms r w' := by
  refine Met.ofW (cc := cc) (maxL := nL) (ret := some rt) hy hw ?_
  intro p e s m args below meth c s₁ B hml hv
  obtain ⟨rfl, hsz, hP, hK, hD0⟩ := hv
  subst hsz
  have hts := atoms_spec (ws := ws) B.pre
  have ho : s.vm.findClass own = some m.cls := by rw [← hyo]; exact findClass_of_methodNamed B.named
  have hlocks := B.notSynchronized
  have hl := lv_entry av (n := nL) hlen
  rw [lg_entry_eq]
  refine body p e s m _ below meth c (va_A w s.heap.size) _ ⟨B.exec, B.bytes, B.returns, hml, ho, hts, hlocks⟩ hK (fun q h => Or.inr h) ?_ _ hl ⟨hP, hD0.self, va_S.rf⟩
  intro H locs pc ls hrt hw2 hd
  obtain ⟨hP2, hD2, hS2⟩ := hw2
  exact W.zret (v := r) B.exec B.bytes B.returns hrt (fun t ht hW => ⟨⟨r, (), rfl, rfl, by rw [ht]; exact hP2, hD2⟩, hS2.F ht⟩) hS2.2.2 hd
theorem zof_Tc {l : Launch} {y : MethodName} {ws ws' : List Cond} {rm : Room} {cc : ByteArray} {nL : Nat} {own : String} {rt : FieldType} {G : va_G} {k : Nat → ClassId} {w w' : va_W} {sz : Nat} {av : List Value} {mc ms q v : Nat} {b : List Int32} {r : Int32}
    (hy : plainName y.cls = true) (hw : ws = Cond.code y cc nL (some rt) :: ws') (hyo : y.cls = own) (hlen : (lg_sl av).length ≤ nL)
    (body : ∀ (p : Program) (e : Env) (s : State) (m : MethodId) (args : Array Value) (below : List Frame) (meth : Method) (c : Code) (A : Nat → Prop) (Q : State → Prop), zCx p s m args meth c ws cc own (some rt) nL → zKK G k A s s.heap → (∀ q : Nat, s.heap.size ≤ q → A q) → zStr b q v A s s.heap → zRI p l e rm s m args below meth c cc G A mc ms Q rt w' r →
      ∀ ls : Array Slot, lv_has ls nL (lv_args 0 av) → zWd G A s w s.heap [] → W p l e rm s m args below meth c s.heap [] 0 0 Q (F0 m 0 ls [])) : zMTc l y ws rm G k w sz q v b av mc ms r w' := by
  refine Met.ofW (cc := cc) (maxL := nL) (ret := some rt) hy hw ?_
  intro p e s m args below meth c s₁ B hml hv
  obtain ⟨rfl, hsz, hP, hK, hD0, hZ⟩ := hv
  subst hsz
  have hts := atoms_spec (ws := ws) B.pre
  have ho : s.vm.findClass own = some m.cls := by rw [← hyo]; exact findClass_of_methodNamed B.named
  have hlocks := B.notSynchronized
  have hl := lv_entry av (n := nL) hlen
  rw [lg_entry_eq]
  refine body p e s m _ below meth c (va_A w s.heap.size) _ ⟨B.exec, B.bytes, B.returns, hml, ho, hts, hlocks⟩ hK (fun q h => Or.inr h) hZ ?_ _ hl ⟨hP, hD0.self, va_S.rf⟩
  intro H locs pc ls hrt hw2 hd
  obtain ⟨hP2, hD2, hS2⟩ := hw2
  exact W.zret (v := r) B.exec B.bytes B.returns hrt (fun t ht hW => ⟨⟨r, (), rfl, rfl, by rw [ht]; exact hP2, hD2⟩, hS2.F ht⟩) hS2.2.2 hd
theorem zof_Lc {l : Launch} {y : MethodName} {ws ws' : List Cond} {rm : Room} {cc : ByteArray} {nL : Nat} {own : String} {G : va_G} {k : Nat → ClassId} {w w' : va_W} {sz : Nat} {av : List Value} {mc ms : Nat} {r : Int64}
    (hy : plainName y.cls = true) (hw : ws = Cond.code y cc nL (some .long) :: ws') (hyo : y.cls = own) (hlen : (lg_sl av).length ≤ nL)
    (body : ∀ (p : Program) (e : Env) (s : State) (m : MethodId) (args : Array Value) (below : List Frame) (meth : Method) (c : Code) (A : Nat → Prop) (Q : State → Prop), zCx p s m args meth c ws cc own (some .long) nL → zKK G k A s s.heap → (∀ q : Nat, s.heap.size ≤ q → A q) → zRL p l e rm s m args below meth c cc G A mc ms Q w' r →
      ∀ ls : Array Slot, lv_has ls nL (lv_args 0 av) → zWd G A s w s.heap [] → W p l e rm s m args below meth c s.heap [] 0 0 Q (F0 m 0 ls [])) : zMLc l y ws rm G k w sz av mc ms r w' := by
  refine Met.ofW (cc := cc) (maxL := nL) (ret := some .long) hy hw ?_
  intro p e s m args below meth c s₁ B hml hv
  obtain ⟨rfl, hsz, hP, hK, hD0⟩ := hv
  subst hsz
  have hts := atoms_spec (ws := ws) B.pre
  have ho : s.vm.findClass own = some m.cls := by rw [← hyo]; exact findClass_of_methodNamed B.named
  have hlocks := B.notSynchronized
  have hl := lv_entry av (n := nL) hlen
  rw [lg_entry_eq]
  refine body p e s m _ below meth c (va_A w s.heap.size) _ ⟨B.exec, B.bytes, B.returns, hml, ho, hts, hlocks⟩ hK (fun q h => Or.inr h) ?_ _ hl ⟨hP, hD0.self, va_S.rf⟩
  intro H locs pc ls hw2 hd
  obtain ⟨hP2, hD2, hS2⟩ := hw2
  exact W.lret (v := r) B.exec B.bytes B.returns (fun t ht hW => ⟨⟨r, (), rfl, rfl, by rw [ht]; exact hP2, hD2⟩, hS2.F ht⟩) hS2.2.2 hd
theorem zof_Wc {l : Launch} {y : MethodName} {ws ws' : List Cond} {rm : Room} {cc : ByteArray} {nL : Nat} {own : String} {rt : FieldType} {G : va_G} {k : Nat → ClassId} {w w' : va_W} {sz : Nat} {av : List Value} {mc ms : Nat} {r : Int32} {hh : List (Nat × Nat × Nat × Nat)}
    (hy : plainName y.cls = true) (hw : ws = Cond.codeWith y cc nL (some rt) hh :: ws') (hyo : y.cls = own) (hlen : (lg_sl av).length ≤ nL)
    (body : ∀ (p : Program) (e : Env) (s : State) (m : MethodId) (args : Array Value) (below : List Frame) (meth : Method) (c : Code) (A : Nat → Prop) (Q : State → Prop), zCx p s m args meth c ws cc own (some rt) nL → zKK G k A s s.heap → (∀ q : Nat, s.heap.size ≤ q → A q) → zRI p l e rm s m args below meth c cc G A mc ms Q rt w' r →
      c.exceptionTable.toList = tableOf hh → ∀ ls : Array Slot, lv_has ls nL (lv_args 0 av) → zWd G A s w s.heap [] → W p l e rm s m args below meth c s.heap [] 0 0 Q (F0 m 0 ls [])) : zMIc l y ws rm G k w sz av mc ms r w' := by
  refine va_MetW (cc := cc) (maxL := nL) (ret := some rt) hy hw ?_
  intro p e s m args below meth c s₁ B hml hv
  obtain ⟨rfl, hsz, hP, hK, hD0⟩ := hv
  subst hsz
  have hts := atoms_spec (ws := ws) B.pre
  have hTab : c.exceptionTable.toList = tableOf hh := vx_table (x := y) B (hts (Cond.codeWith y cc nL (some rt) hh) (by rw [hw]; exact List.mem_cons_self))
  have ho : s.vm.findClass own = some m.cls := by rw [← hyo]; exact findClass_of_methodNamed B.named
  have hlocks := B.notSynchronized
  have hl := lv_entry av (n := nL) hlen
  rw [lg_entry_eq]
  refine body p e s m _ below meth c (va_A w s.heap.size) _ ⟨B.exec, B.bytes, B.returns, hml, ho, hts, hlocks⟩ hK (fun q h => Or.inr h) ?_ hTab _ hl ⟨hP, hD0.self, va_S.rf⟩
  intro H locs pc ls hrt hw2 hd
  obtain ⟨hP2, hD2, hS2⟩ := hw2
  exact W.zret (v := r) B.exec B.bytes B.returns hrt (fun t ht hW => ⟨⟨r, (), rfl, rfl, by rw [ht]; exact hP2, hD2⟩, hS2.F ht⟩) hS2.2.2 hd
theorem zof_WDc {l : Launch} {y : MethodName} {ws ws' : List Cond} {rm : Room} {cc : ByteArray} {nL : Nat} {own : String} {G : va_G} {k : Nat → ClassId} {w w' : va_W} {sz : Nat} {av : List Value} {mc ms : Nat} {r : UInt64} {hh : List (Nat × Nat × Nat × Nat)}
    (hy : plainName y.cls = true) (hw : ws = Cond.codeWith y cc nL (some .double) hh :: ws') (hyo : y.cls = own) (hlen : (lg_sl av).length ≤ nL)
    (body : ∀ (p : Program) (e : Env) (s : State) (m : MethodId) (args : Array Value) (below : List Frame) (meth : Method) (c : Code) (A : Nat → Prop) (Q : State → Prop), zCx p s m args meth c ws cc own (some .double) nL → zKK G k A s s.heap → (∀ q : Nat, s.heap.size ≤ q → A q) → zRD p l e rm s m args below meth c cc G A mc ms Q w' r →
      c.exceptionTable.toList = tableOf hh → ∀ ls : Array Slot, lv_has ls nL (lv_args 0 av) → zWd G A s w s.heap [] → W p l e rm s m args below meth c s.heap [] 0 0 Q (F0 m 0 ls [])) : zMDc l y ws rm G k w sz av mc ms r w' := by
  refine va_MetW (cc := cc) (maxL := nL) (ret := some .double) hy hw ?_
  intro p e s m args below meth c s₁ B hml hv
  obtain ⟨rfl, hsz, hP, hK, hD0⟩ := hv
  subst hsz
  have hts := atoms_spec (ws := ws) B.pre
  have hTab : c.exceptionTable.toList = tableOf hh := vx_table (x := y) B (hts (Cond.codeWith y cc nL (some .double) hh) (by rw [hw]; exact List.mem_cons_self))
  have ho : s.vm.findClass own = some m.cls := by rw [← hyo]; exact findClass_of_methodNamed B.named
  have hlocks := B.notSynchronized
  have hl := lv_entry av (n := nL) hlen
  rw [lg_entry_eq]
  refine body p e s m _ below meth c (va_A w s.heap.size) _ ⟨B.exec, B.bytes, B.returns, hml, ho, hts, hlocks⟩ hK (fun q h => Or.inr h) ?_ hTab _ hl ⟨hP, hD0.self, va_S.rf⟩
  intro H locs pc ls hw2 hd
  obtain ⟨hP2, hD2, hS2⟩ := hw2
  exact W.dret (v := r) B.exec B.bytes B.returns (fun t ht hW => ⟨⟨r, (), rfl, rfl, by rw [ht]; exact hP2, hD2⟩, hS2.F ht⟩) hS2.2.2 hd
/-! the law's cell -/
def fL_cell (xs : Nat → Int32) (L : Nat) (i : Int32) : Int32 := if L = 0 then 577 * i else xs ((i &&& 65535) - (i &&& 65535) / Int32.ofNat L * Int32.ofNat L).toNatClampNeg
theorem zcl_a : ∀ L, L < 261 → ¬ L = 0 → ¬ Int32.ofNat L = 0 := by decide +kernel
theorem zcl_b : ∀ L, L < 261 → ¬ L = 0 → ∀ j, j < 37 → (Int32.ofNat j &&& 65535) - (Int32.ofNat j &&& 65535) / Int32.ofNat L * Int32.ofNat L = Int32.ofNat (j % L) := by decide +kernel
theorem zcl_i {L j : Nat} (hL : L < 261) (h0 : ¬ L = 0) (hj : j < 37) : vp_in ((Int32.ofNat j &&& 65535) - (Int32.ofNat j &&& 65535) / Int32.ofNat L * Int32.ofNat L) L := by
  have hm : j % L < L := Nat.mod_lt _ (by omega)
  rw [zcl_b L hL h0 j hj]
  refine zin_t ?_
  unfold zin
  have e : (Int32.ofNat (j % L)).toInt = ((j % L : Nat) : Int) := Int32.toInt_ofNat_of_lt (by omega)
  rw [e, Bool.and_eq_true, decide_eq_true_eq, decide_eq_true_eq]
  omega
abbrev rmL_cell : Room := { frames := 0, cells := 0, slots := 0, locals := 0 }
theorem kdL_cell : yL_cell.cls ≠ "java/lang/invoke/MethodHandle" ∧ yL_cell.cls ≠ "java/lang/invoke/VarHandle" ∧ (parseMethodDescriptor yL_cell.desc).map (fun d => d.parameters.length) = some 2 := by decide +kernel
theorem zof_S9 {l : Launch} {y : MethodName} {ws ws' : List Cond} {rm : Room} {cc : ByteArray} {nL : Nat} {own : String} {rt : FieldType} {G : va_G} {b L : Nat} {xs : Nat → Int32} {sz : Nat} {av : List Value} {r : Int32}
    (hy : plainName y.cls = true) (hw : ws = Cond.code y cc nL (some rt) :: ws') (hyo : y.cls = own) (hlen : (lg_sl av).length ≤ nL)
    (body : ∀ (p : Program) (e : Env) (s : State) (m : MethodId) (args : Array Value) (below : List Frame) (meth : Method) (c : Code) (A : Nat → Prop) (Q : State → Prop), zCx p s m args meth c ws cc own (some rt) nL → va_X b L xs s s.heap → b < s.heap.size → ¬ A b → zRI p l e rm s m args below meth c cc G A 0 0 Q rt [] r →
      ∀ ls : Array Slot, lv_has ls nL (lv_args 0 av) → zWd G A s [] s.heap [] → W p l e rm s m args below meth c s.heap [] 0 0 Q (F0 m 0 ls [])) : Met l y ws rm (zPs9 b L xs sz av) (va_Qi (fun x _ => x = r) (zB G [] sz []) (va_A [] sz)) 0 0 (va_A [] sz) := by
  refine Met.ofW (cc := cc) (maxL := nL) (ret := some rt) hy hw ?_
  intro p e s m args below meth c s₁ B hml hv
  obtain ⟨rfl, hsz, hX, hbs⟩ := hv
  subst hsz
  have hts := atoms_spec (ws := ws) B.pre
  have ho : s.vm.findClass own = some m.cls := by rw [← hyo]; exact findClass_of_methodNamed B.named
  have hlocks := B.notSynchronized
  have hl := lv_entry av (n := nL) hlen
  rw [lg_entry_eq]
  have hbA : ¬ va_A [] s.heap.size b := fun h => by
    rcases h with ⟨q, e, h⟩ | h
    · cases h
    · omega
  refine body p e s m _ below meth c (va_A [] s.heap.size) _ ⟨B.exec, B.bytes, B.returns, hml, ho, hts, hlocks⟩ hX hbs hbA ?_ _ hl ⟨(fun _ _ h => nomatch h), ⟨(fun _ _ _ _ h => nomatch h), (fun _ _ h => nomatch h)⟩, va_S.rf⟩
  intro H locs pc ls hrt hw2 hd
  obtain ⟨hP2, hD2, hS2⟩ := hw2
  exact W.zret (v := r) B.exec B.bytes B.returns hrt (fun t ht hW => ⟨⟨r, (), rfl, rfl, by rw [ht]; exact hP2, hD2⟩, hS2.F ht⟩) hS2.2.2 hd
set_option maxRecDepth 100000 in
theorem mL_cell (l : Launch) (G : va_G) (b L : Nat) (xs : Nat → Int32) (sz j : Nat) (hL : L < 261) (hj : j < 37) : Met l yL_cell wsL_cell rmL_cell (zPs9 b L xs sz [.ref b, .int (Int32.ofNat j)]) (va_Qi (fun x _ => x = fL_cell xs L (Int32.ofNat j)) (zB G [] sz []) (va_A [] sz)) 0 0 (va_A [] sz) := by
  refine zof_S9 (cc := cL_cell) (nL := 2) (own := RL) (rt := .int) (by decide) rfl rfl (Nat.le_of_ble_eq_true rfl) ?_
  intro p e s m args below meth c A Q C0 hX hbs hbA hret ls hl hw
  have hl : lv_has ls 2 [(0, .ref b), (1, .int (Int32.ofNat j))] := hl
  obtain ⟨hx, hb, hr, hml, hown, hts, hlocks⟩ := id C0
  have hS := hw.2.2
  refine lv_aload_n hx hb dL_cell_0 rfl (lv_at hl 0 rfl) ?_
  refine va_slen hx hb hX hbs hbA hS dL_cell_1 ?_
  refine lv_if_ne (tgt := 13) hx hb dL_cell_2 (by decide) (fun hc => ?_) (fun hc => ?_)
  · have h0 : ¬ L = 0 := fun z => hc (by rw [z]; rfl)
    have hret : zRI p l e rmL_cell s m args below meth c cL_cell G A 0 0 Q .int [] (xs ((Int32.ofNat j &&& 65535) - (Int32.ofNat j &&& 65535) / Int32.ofNat L * Int32.ofNat L).toNatClampNeg) := by
      unfold fL_cell at hret
      rw [if_neg h0] at hret
      exact hret
    refine lv_aload_n hx hb dL_cell_13 rfl (lv_at hl 0 rfl) ?_
    refine lv_iload_n hx hb dL_cell_14 rfl (lv_at hl 1 rfl) ?_
    refine lv_ldc (v := (65535 : Int32)) hx hb hown (hts (.constant RL 7 (65535)) (by decide +kernel)) dL_cell_15 ?_
    refine lv_iand hx hb dL_cell_17 ?_
    refine lv_aload_n hx hb dL_cell_18 rfl (lv_at hl 0 rfl) ?_
    refine va_slen hx hb hX hbs hbA hS dL_cell_19 ?_
    refine lv_irem hx hb dL_cell_20 (zcl_a L hL h0) ?_
    refine va_sld hx hb hX hbs hbA hS (zcl_i hL h0 hj) dL_cell_21 ?_
    exact hret _ _ _ _ rfl hw dL_cell_22
  · have h0 : L = 0 := by
      by_cases h : L = 0
      · exact h
      · exact absurd hc (zcl_a L hL h)
    have hret : zRI p l e rmL_cell s m args below meth c cL_cell G A 0 0 Q .int [] (577 * Int32.ofNat j) := by
      unfold fL_cell at hret
      rw [if_pos h0] at hret
      exact hret
    refine lv_sipush (v := (577 : Int32)) hx hb dL_cell_5 (by decide) ?_
    refine lv_iload_n hx hb dL_cell_8 rfl (lv_at hl 1 rfl) ?_
    refine lv_imul hx hb dL_cell_9 ?_
    refine lv_goto (tgt := 22) hx hb dL_cell_10 (by decide) ?_
    exact hret _ _ _ _ rfl hw dL_cell_22
theorem zcl_n {i : Int32} (h : vp_in i 37) : i = Int32.ofNat i.toNatClampNeg := by
  have h4 := vp_in_iff.mp h
  have hlt : i.toNatClampNeg < 37 := Nat.not_le.mp fun q => h (Or.inr q)
  have e : (Int32.ofNat i.toNatClampNeg).toInt = ((i.toNatClampNeg : Nat) : Int) := Int32.toInt_ofNat_of_lt (by omega)
  refine Int32.toInt_inj.mp ?_
  rw [e]
  show i.toInt = ((i.toInt.toNat : Nat) : Int)
  omega
theorem mL_cell9 (l : Launch) (G : va_G) (b L : Nat) (xs : Nat → Int32) (sz : Nat) (i : Int32) (hL : L < 261) (hi : vp_in i 37) : Met l yL_cell wsL_cell rmL_cell (zPs9 b L xs sz [.ref b, .int i]) (va_Qi (fun x _ => x = fL_cell xs L i) (zB G [] sz []) (va_A [] sz)) 0 0 (va_A [] sz) := by
  have h := mL_cell l G b L xs sz i.toNatClampNeg hL (Nat.not_le.mp fun q => hi (Or.inr q))
  rw [← zcl_n hi] at h
  exact h
theorem zTb_100 : ∀ j, (zTb j).length < 100 := by
  intro j
  by_cases h : j < 13
  · have h9 : ∀ j, j < 13 → (zTb j).length < 100 := by decide +kernel
    exact h9 j h
  · match j, h with
    | j + 13, _ => exact (show (0 : Nat) < 100 by decide)
theorem vp_lt9 {i : Int32} {n : Nat} (h : vp_in i n) : i.toNatClampNeg < n := Nat.not_le.mp fun q => h (Or.inr q)
def zdcl (x y : UInt64) : Int32 := Op.cmpValue (FP.dcmp x y) .l
def zdcg (x y : UInt64) : Int32 := Op.cmpValue (FP.dcmp x y) .g
section ZDC
variable {p : Program} {l : Launch} {e : Env} {R : Room} {s : State} {m : MethodId} {args : Array Value} {below : List Frame} {meth : Method} {c : Code} {H : Heap} {locs : List Loc} {cells slots : Nat} {Q : State → Prop} {cc : ByteArray} {rest : List Value} {ls : Array Slot} {pc : Nat}
theorem zdcl_row (hexec : p.tables.exec = Jvm.exec) (hb : c.code = cc) {x y : UInt64} (hdg : decode cc pc = .ok (.dcmp .l, 1)) (kk : W p l e R s m args below meth c H locs cells slots Q (F0 m (pc + 1) ls (.int (zdcl x y) :: rest))) : W p l e R s m args below meth c H locs cells slots Q (F0 m pc ls (.double y :: .double x :: rest)) := lv_dcmp hexec hb hdg kk
theorem zdcg_row (hexec : p.tables.exec = Jvm.exec) (hb : c.code = cc) {x y : UInt64} (hdg : decode cc pc = .ok (.dcmp .g, 1)) (kk : W p l e R s m args below meth c H locs cells slots Q (F0 m (pc + 1) ls (.int (zdcg x y) :: rest))) : W p l e R s m args below meth c H locs cells slots Q (F0 m pc ls (.double y :: .double x :: rest)) := lv_dcmp hexec hb hdg kk
end ZDC

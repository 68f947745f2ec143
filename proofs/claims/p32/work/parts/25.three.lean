/-! calls of methods that run in a middle part of the caller's world; methods with a table of their own -/
theorem zEx.cast {A : Nat → Prop} {U : State} {H : Heap} (h : zEx A U H) {q : String} (hq : q ∈ zCa) : va_Nw (Cond.castable q q) U := by
  obtain ⟨-, -, -, -, -, -, -, -, h12, -⟩ := h
  exact h12 q hq
theorem zEx.nc {A : Nat → Prop} {U : State} {H : Heap} (h : zEx A U H) {q : String × String} (hq : q ∈ zNCl) : va_Nc q.1 q.2 U := h.2.2.1 q hq
section ZC3
variable {p : Program} {l : Launch} {e : Env} {R : Room} {s : State} {m : MethodId} {args : Array Value} {below : List Frame} {meth : Method} {c : Code} {H H1 : Heap} {locs : List Loc} {cells slots : Nat} {Q : State → Prop}
variable {y : MethodName} {bytes cc : ByteArray} {maxL nL n index mc ms o0 : Nat} {ret : Option FieldType} {ws : List Cond} {rm : Room} {Qc : Array Value → State → Outcome → State → Prop} {XC : String → State → State → Prop} {Ts : List Cond} {own C : String} {b : Addr} {As rest st : List Value} {ls : Array Slot} {pc : Nat} {G : va_G} {k : Nat → ClassId} {A : Nat → Prop} {wa wc wr wc' : va_W}
theorem zap_a {j : Nat} {q : Nat × va_E} (h : wa[j]? = some q) : (wa ++ (wc ++ wr))[j]? = some q := by
  rw [List.getElem?_append_left (List.getElem?_eq_some_iff.mp h).1]; exact h
theorem zap_c {j : Nat} {q : Nat × va_E} (h : wc[j]? = some q) : (wa ++ (wc ++ wr))[wa.length + j]? = some q := by
  rw [List.getElem?_append_right (Nat.le_add_right _ _), Nat.add_sub_cancel_left, List.getElem?_append_left (List.getElem?_eq_some_iff.mp h).1]; exact h
theorem zap_r {j : Nat} {q : Nat × va_E} (h : wr[j]? = some q) : (wa ++ (wc ++ wr))[wa.length + (wc.length + j)]? = some q := by
  rw [List.getElem?_append_right (Nat.le_add_right _ _), Nat.add_sub_cancel_left, List.getElem?_append_right (Nat.le_add_right _ _), Nat.add_sub_cancel_left]; exact h
theorem zWd.cut3 (hw : zWd G A s (wa ++ (wc ++ wr)) H locs) : va_P G zCl wc H ∧ va_D A wc :=
  ⟨fun j q hj => hw.1 _ q (zap_c hj), fun i j x y hi hj hxy => Nat.add_left_cancel (hw.2.1.1 _ _ x y (zap_c hi) (zap_c hj) hxy), fun j q hj => hw.2.1.2 _ q (zap_c hj)⟩
theorem zfree3 (hw : zWd G A s (wa ++ (wc ++ wr)) H locs) (hA : ∀ q : Nat, s.heap.size ≤ q → A q) : ∀ q : Nat, va_A wc H.size q → A q := by
  intro q h
  rcases h with ⟨j, e, h⟩ | h
  · exact hw.2.1.2 _ (q, e) (zap_c h)
  · exact hA q (Nat.le_trans hw.2.2.1 h)
theorem zafter3 (hw : zWd G A s (wa ++ (wc ++ wr)) H locs) (hk : ∀ q : Nat, q < H.size → ¬ va_A wc H.size q → H1[q]? = H[q]?) (hP1 : va_P G zCl wc' H1) : va_P G zCl (wa ++ (wc' ++ wr)) H1 := by
  have key : ∀ (i : Nat) (q : Nat × va_E), (wa ++ (wc ++ wr))[i]? = some q → (∀ j : Nat, j < wc.length → i ≠ wa.length + j) → va_at G zCl q H1 := by
    intro i q hi hne
    have hl := (hw.1 i q hi).lt
    refine (hw.1 i q hi).kept (hk q.1 hl (fun h => ?_))
    rcases h with ⟨j, e, h⟩ | h
    · exact hne j (List.getElem?_eq_some_iff.mp h).1 (hw.2.1.1 _ _ q (q.1, e) hi (zap_c h) rfl)
    · omega
  refine va_P.app (fun j q hj => key j q (zap_a hj) (fun i _ => ?_)) (va_P.app hP1 (fun j q hj => key _ q (zap_r hj) (fun i hi => ?_)))
  · have := (List.getElem?_eq_some_iff.mp hj).1
    omega
  · omega
theorem zD3 (hD : va_D A (wa ++ (wc ++ wr))) (h : wc'.map (·.1) = wc.map (·.1)) : va_D A (wa ++ (wc' ++ wr)) :=
  zD_fst hD (by rw [List.map_append, List.map_append, List.map_append, List.map_append, h])
theorem zV3 (S : CallFix p m c cc nL s args Ts own) (hM : Met l y ws rm (zPc G k wc H.size (.ref b :: As)) Qc mc ms (va_A wc H.size)) (cw : CallW R s args own C index y bytes maxL ret ws rm mc ms n) (hK : zKK G k A s s.heap) (hA : ∀ q : Nat, s.heap.size ≤ q → A q) (hw : zWd G A s (wa ++ (wc ++ wr)) H locs)
    (q0 : Nat) {ci : Nat} {fs : List Value} {q : vw_C} (he : wc[q0]? = some (b, .inr (ci, fs))) (hc : zCl[ci]? = some q) (hcl : q.1 = C)
    (hn : As.length = n) (hsize : ls.size = nL) (hst : st = As.reverse ++ .ref b :: rest) (hcat : (rest.map fun v => v.category).sum ≤ 8) (hdg : decode cc pc = .ok (.invokevirtual index, 3)) (hf : cells + mc ≤ R.cells ∧ slots + ms ≤ R.slots) :
    va_Run p l e R s m args below meth c H locs cells slots mc ms (F0 m pc ls st) rest (Qc (Value.ref b :: As).toArray) (va_A wc H.size) := by
  have hcut := hw.cut3
  have hfr := zfree3 hw hA
  subst hcl
  exact va_runV (g := F0 m pc ls st) S hM cw ⟨zPc_bl, va_recv hK.1 hcut.1 hc he, fun U hU hW => ⟨rfl, by rw [hU], by rw [hU]; exact hcut.1, hK.call hw.2.2 (fun q h => hfr q h) hU hW, hcut.2.weaken (fun _ _ _ _ => trivial)⟩⟩ rfl hn hsize hst (lv_room hcat) hdg hf
theorem zVx3 (S : CallFix p m c cc nL s args Ts own) (hM : vx_Met l y ws rm (zPc G k wc H.size (.ref b :: As)) Qc XC mc ms (va_A wc H.size)) (cw : CallW R s args own C index y bytes maxL ret ws rm mc ms n) (hK : zKK G k A s s.heap) (hA : ∀ q : Nat, s.heap.size ≤ q → A q) (hw : zWd G A s (wa ++ (wc ++ wr)) H locs)
    (q0 : Nat) {ci : Nat} {fs : List Value} {q : vw_C} (he : wc[q0]? = some (b, .inr (ci, fs))) (hc : zCl[ci]? = some q) (hcl : q.1 = C)
    (hn : As.length = n) (hsize : ls.size = nL) (hst : st = As.reverse ++ .ref b :: rest) (hcat : (rest.map fun v => v.category).sum ≤ 8) (hdg : decode cc pc = .ok (.invokevirtual index, 3)) (hf : cells + mc ≤ R.cells ∧ slots + ms ≤ R.slots) :
    vx_Run p l e R s m args below meth c H locs cells slots mc ms (F0 m pc ls st) rest (Qc (Value.ref b :: As).toArray) XC (va_A wc H.size) := by
  have hcut := hw.cut3
  have hfr := zfree3 hw hA
  subst hcl
  exact vx_runV (g := F0 m pc ls st) S hM cw ⟨zPc_bl, va_recv hK.1 hcut.1 hc he, fun U hU hW => ⟨rfl, by rw [hU], by rw [hU]; exact hcut.1, hK.call hw.2.2 (fun q h => hfr q h) hU hW, hcut.2.weaken (fun _ _ _ _ => trivial)⟩⟩ rfl hn hsize hst (lv_room hcat) hdg hf
theorem zSW3 {hh : List (Nat × Nat × Nat × Nat)} (S : CallFix p m c cc nL s args Ts own) (hM : Met l y ws rm (zPc G k wc H.size As) Qc mc ms (va_A wc H.size)) (cw : vx_CSW R s args own index y bytes maxL ret hh ws rm mc ms n) (hK : zKK G k A s s.heap) (hA : ∀ q : Nat, s.heap.size ≤ q → A q) (hw : zWd G A s (wa ++ (wc ++ wr)) H locs)
    (hn : As.length = n) (hsize : ls.size = nL) (hst : st = As.reverse ++ rest) (hcat : (rest.map fun v => v.category).sum ≤ 8) (hdg : decode cc pc = .ok (.invokestatic index, 3)) (hf : cells + mc ≤ R.cells ∧ slots + ms ≤ R.slots) :
    va_Run p l e R s m args below meth c H locs cells slots mc ms (F0 m pc ls st) rest (Qc As.toArray) (va_A wc H.size) := by
  have hcut := hw.cut3
  have hfr := zfree3 hw hA
  exact vx_runSW (g := F0 m pc ls st) S hM cw ⟨zPc_bl, fun U hU hW => ⟨rfl, by rw [hU], by rw [hU]; exact hcut.1, hK.call hw.2.2 (fun q h => hfr q h) hU hW, hcut.2.weaken (fun _ _ _ _ => trivial)⟩⟩ rfl hn hsize hst (lv_room hcat) hdg hf
theorem zgoI3 {a : Array Value} {r : Int32} (hw : zWd G A s (wa ++ (wc ++ wr)) H locs) (hA : ∀ q : Nat, s.heap.size ≤ q → A q)
    (hr : va_Run p l e R s m args below meth c H locs cells slots mc ms (F0 m pc ls st) rest (va_Qi (fun x _ => x = r) (zB G wc H.size wc') (va_A wc H.size) a) (va_A wc H.size))
    (hfst : wc'.map (·.1) = wc.map (·.1))
    (kk : ∀ (H1 : Heap) (locs1 : List Loc), zWd G A s (wa ++ (wc' ++ wr)) H1 locs1 → W p l e R s m args below meth c H1 locs1 (cells + mc) (slots + ms) Q (F0 m (pc + 3) ls (.int r :: rest))) : W p l e R s m args below meth c H locs cells slots Q (F0 m pc ls st) := by
  have hfr := zfree3 hw hA
  refine va_calli hr hw.2.2 (fun q _ h => hfr q h) hfr (fun r1 u t H1 locs1 ht _ hp hb _ hk hS => ?_)
  subst hp
  subst ht
  exact kk _ _ ⟨zafter3 hw hk hb.1, zD3 hw.2.1 hfst, hS⟩
theorem zgoV3 {a : Array Value} (hw : zWd G A s (wa ++ (wc ++ wr)) H locs) (hA : ∀ q : Nat, s.heap.size ≤ q → A q)
    (hr : va_Run p l e R s m args below meth c H locs cells slots mc ms (F0 m pc ls st) rest (va_Qv (fun _ => True) (zB G wc H.size wc') (va_A wc H.size) a) (va_A wc H.size))
    (hfst : wc'.map (·.1) = wc.map (·.1))
    (kk : ∀ (H1 : Heap) (locs1 : List Loc), zWd G A s (wa ++ (wc' ++ wr)) H1 locs1 → W p l e R s m args below meth c H1 locs1 (cells + mc) (slots + ms) Q (F0 m (pc + 3) ls rest)) : W p l e R s m args below meth c H locs cells slots Q (F0 m pc ls st) := by
  have hfr := zfree3 hw hA
  refine va_callv hr hw.2.2 (fun q _ h => hfr q h) hfr (fun u t H1 locs1 ht _ hp hb _ hk hS => ?_)
  subst ht
  exact kk _ _ ⟨zafter3 hw hk hb.1, zD3 hw.2.1 hfst, hS⟩
theorem zgoXI3 {a : Array Value} {r : Int32} (hw : zWd G A s (wa ++ (wc ++ wr)) H locs) (hA : ∀ q : Nat, s.heap.size ≤ q → A q)
    (hr : vx_Run p l e R s m args below meth c H locs cells slots mc ms (F0 m pc ls st) rest (va_Qi (fun x _ => o0 = 0 ∧ x = r) (zB G wc H.size wc') (va_A wc H.size) a) (zX G wc H.size o0 wc') (va_A wc H.size))
    (hfst : wc'.map (·.1) = wc.map (·.1))
    (kx : o0 ≠ 0 → ∀ (H1 : Heap) (locs1 : List Loc) (q : Addr) (E : String) (ce : Cell), zWd G A s (wa ++ (wc' ++ wr)) H1 locs1 → H1[q]? = some ce → ce.vm = .none → s.vm.findClass E = some ce.cls → E = zEn o0 → vx_W p l e R s m args below meth c H1 locs1 (cells + mc) (slots + ms) Q (F0 m pc ls rest) q)
    (kk : o0 = 0 → ∀ (H1 : Heap) (locs1 : List Loc), zWd G A s (wa ++ (wc' ++ wr)) H1 locs1 → W p l e R s m args below meth c H1 locs1 (cells + mc) (slots + ms) Q (F0 m (pc + 3) ls (.int r :: rest))) : W p l e R s m args below meth c H locs cells slots Q (F0 m pc ls st) := by
  have hfr := zfree3 hw hA
  refine vx_calli hr hw.2.2 (fun q _ h => hfr q h) hfr (fun q _ h => hfr q h) (fun E ce q9 u t H1 locs1 ht _ hp hb _ hk hS hce hcv hcl => ?_) (fun r1 u t H1 locs1 ht _ hp hb _ hk hS => ?_)
  · subst ht
    exact kx hp _ _ q9 E ce ⟨zafter3 hw hk hb.2.1, zD3 hw.2.1 hfst, hS⟩ hce hcv hcl hb.1
  · obtain ⟨h0, hp⟩ := hp
    subst hp
    subst ht
    exact kk h0 _ _ ⟨zafter3 hw hk hb.1, zD3 hw.2.1 hfst, hS⟩
theorem zgoXD3 {a : Array Value} {r : UInt64} (hw : zWd G A s (wa ++ (wc ++ wr)) H locs) (hA : ∀ q : Nat, s.heap.size ≤ q → A q)
    (hr : vx_Run p l e R s m args below meth c H locs cells slots mc ms (F0 m pc ls st) rest (va_Qd (fun x _ => o0 = 0 ∧ x = r) (zB G wc H.size wc') (va_A wc H.size) a) (zX G wc H.size o0 wc') (va_A wc H.size))
    (hfst : wc'.map (·.1) = wc.map (·.1))
    (kx : o0 ≠ 0 → ∀ (H1 : Heap) (locs1 : List Loc) (q : Addr) (E : String) (ce : Cell), zWd G A s (wa ++ (wc' ++ wr)) H1 locs1 → H1[q]? = some ce → ce.vm = .none → s.vm.findClass E = some ce.cls → E = zEn o0 → vx_W p l e R s m args below meth c H1 locs1 (cells + mc) (slots + ms) Q (F0 m pc ls rest) q)
    (kk : o0 = 0 → ∀ (H1 : Heap) (locs1 : List Loc), zWd G A s (wa ++ (wc' ++ wr)) H1 locs1 → W p l e R s m args below meth c H1 locs1 (cells + mc) (slots + ms) Q (F0 m (pc + 3) ls (.double r :: rest))) : W p l e R s m args below meth c H locs cells slots Q (F0 m pc ls st) := by
  have hfr := zfree3 hw hA
  refine vx_calld hr hw.2.2 (fun q _ h => hfr q h) hfr (fun q _ h => hfr q h) (fun E ce q9 u t H1 locs1 ht _ hp hb _ hk hS hce hcv hcl => ?_) (fun r1 u t H1 locs1 ht _ hp hb _ hk hS => ?_)
  · subst ht
    exact kx hp _ _ q9 E ce ⟨zafter3 hw hk hb.2.1, zD3 hw.2.1 hfst, hS⟩ hce hcv hcl hb.1
  · obtain ⟨h0, hp⟩ := hp
    subst hp
    subst ht
    exact kk h0 _ _ ⟨zafter3 hw hk hb.1, zD3 hw.2.1 hfst, hS⟩
theorem zgoXV3 {a : Array Value} (hw : zWd G A s (wa ++ (wc ++ wr)) H locs) (hA : ∀ q : Nat, s.heap.size ≤ q → A q)
    (hr : vx_Run p l e R s m args below meth c H locs cells slots mc ms (F0 m pc ls st) rest (va_Qv (fun _ => o0 = 0) (zB G wc H.size wc') (va_A wc H.size) a) (zX G wc H.size o0 wc') (va_A wc H.size))
    (hfst : wc'.map (·.1) = wc.map (·.1))
    (kx : o0 ≠ 0 → ∀ (H1 : Heap) (locs1 : List Loc) (q : Addr) (E : String) (ce : Cell), zWd G A s (wa ++ (wc' ++ wr)) H1 locs1 → H1[q]? = some ce → ce.vm = .none → s.vm.findClass E = some ce.cls → E = zEn o0 → vx_W p l e R s m args below meth c H1 locs1 (cells + mc) (slots + ms) Q (F0 m pc ls rest) q)
    (kk : o0 = 0 → ∀ (H1 : Heap) (locs1 : List Loc), zWd G A s (wa ++ (wc' ++ wr)) H1 locs1 → W p l e R s m args below meth c H1 locs1 (cells + mc) (slots + ms) Q (F0 m (pc + 3) ls rest)) : W p l e R s m args below meth c H locs cells slots Q (F0 m pc ls st) := by
  have hfr := zfree3 hw hA
  refine vx_callv hr hw.2.2 (fun q _ h => hfr q h) hfr (fun q _ h => hfr q h) (fun E ce q9 u t H1 locs1 ht _ hp hb _ hk hS hce hcv hcl => ?_) (fun u t H1 locs1 ht _ hp hb _ hk hS => ?_)
  · subst ht
    exact kx hp _ _ q9 E ce ⟨zafter3 hw hk hb.2.1, zD3 hw.2.1 hfst, hS⟩ hce hcv hcl hb.1
  · subst ht
    exact kk hp _ _ ⟨zafter3 hw hk hb.1, zD3 hw.2.1 hfst, hS⟩
end ZC3
abbrev zMIc (l : Launch) (y : MethodName) (ws : List Cond) (rm : Room) (G : va_G) (k : Nat → ClassId) (w : va_W) (sz : Nat) (av : List Value) (mc ms : Nat) (r : Int32) (w' : va_W) : Prop :=
  Met l y ws rm (zPc G k w sz av) (va_Qi (fun x _ => x = r) (zB G w sz w') (va_A w sz)) mc ms (va_A w sz)
theorem zof_W {l : Launch} {y : MethodName} {ws ws' : List Cond} {rm : Room} {cc : ByteArray} {nL : Nat} {own : String} {G : va_G} {k : Nat → ClassId} {w w' : va_W} {sz : Nat} {av : List Value} {mc ms : Nat} {r : Int32} {hh : List (Nat × Nat × Nat × Nat)}
    (hy : plainName y.cls = true) (hw : ws = Cond.codeWith y cc nL (some .int) hh :: ws') (hyo : y.cls = own) (hlen : (lg_sl av).length ≤ nL)
    (body : ∀ (p : Program) (e : Env) (s : State) (m : MethodId) (args : Array Value) (below : List Frame) (meth : Method) (c : Code) (A : Nat → Prop) (Q : State → Prop), zCx p s m args meth c ws cc own (some .int) nL → zKK G k A s s.heap → (∀ q : Nat, s.heap.size ≤ q → A q) → zRI p l e rm s m args below meth c cc G A mc ms Q .int w' r →
      c.exceptionTable.toList = tableOf hh → ∀ ls : Array Slot, lv_has ls nL (lv_args 0 av) → zWd G A s w s.heap [] → W p l e rm s m args below meth c s.heap [] 0 0 Q (F0 m 0 ls [])) : zMIc l y ws rm G k w sz av mc ms r w' := by
  refine va_MetW (cc := cc) (maxL := nL) (ret := some .int) hy hw ?_
  intro p e s m args below meth c s₁ B hml hv
  obtain ⟨rfl, hsz, hP, hK, hD0⟩ := hv
  subst hsz
  have hts := atoms_spec (ws := ws) B.pre
  have hTab : c.exceptionTable.toList = tableOf hh := vx_table (x := y) B (hts (Cond.codeWith y cc nL (some .int) hh) (by rw [hw]; exact List.mem_cons_self))
  have ho : s.vm.findClass own = some m.cls := by rw [← hyo]; exact findClass_of_methodNamed B.named
  have hlocks := B.notSynchronized
  have hl := lv_entry av (n := nL) hlen
  rw [lg_entry_eq]
  refine body p e s m _ below meth c (va_A w s.heap.size) _ ⟨B.exec, B.bytes, B.returns, hml, ho, hts, hlocks⟩ hK (fun q h => Or.inr h) ?_ hTab _ hl ⟨hP, hD0.self, va_S.rf⟩
  intro H locs pc ls hrt hw2 hd
  obtain ⟨hP2, hD2, hS2⟩ := hw2
  exact W.zret (v := r) B.exec B.bytes B.returns hrt (fun t ht hW => ⟨⟨r, (), rfl, rfl, by rw [ht]; exact hP2, hD2⟩, hS2.F ht⟩) hS2.2.2 hd

/-! calls of methods that run in the caller's whole world -/
section ZCW
variable {p : Program} {l : Launch} {e : Env} {R : Room} {s : State} {m : MethodId} {args : Array Value} {below : List Frame} {meth : Method} {c : Code} {H : Heap} {locs : List Loc} {cells slots : Nat} {Q : State → Prop}
variable {y : MethodName} {bytes cc : ByteArray} {maxL nL n index mc ms o0 : Nat} {ret : Option FieldType} {ws : List Cond} {rm : Room} {Qc : Array Value → State → Outcome → State → Prop} {XC : String → State → State → Prop} {Ts : List Cond} {own C : String} {b : Addr} {As rest st : List Value} {ls : Array Slot} {pc : Nat} {G : va_G} {k : Nat → ClassId} {A : Nat → Prop} {w w' : va_W}
theorem zfree (hw : zWd G A s w H locs) (hA : ∀ q : Nat, s.heap.size ≤ q → A q) : ∀ q : Nat, va_A w H.size q → A q := by
  intro q h
  rcases h with ⟨j, e, h⟩ | h
  · exact hw.2.1.2 j (q, e) h
  · exact hA q (Nat.le_trans hw.2.2.1 h)
theorem zVw (S : CallFix p m c cc nL s args Ts own) (hM : Met l y ws rm (zPc G k w H.size (.ref b :: As)) Qc 0 0 (va_A w H.size)) (cw : CallW R s args own C index y bytes maxL ret ws rm 0 0 n) (hK : zKK G k A s s.heap) (hA : ∀ q : Nat, s.heap.size ≤ q → A q) (hw : zWd G A s w H locs)
    (q0 : Nat) {ci : Nat} {fs : List Value} {q : vw_C} (he : w[q0]? = some (b, .inr (ci, fs))) (hc : zCl[ci]? = some q) (hcl : q.1 = C)
    (hn : As.length = n) (hsize : ls.size = nL) (hst : st = As.reverse ++ .ref b :: rest) (hcat : (rest.map fun v => v.category).sum ≤ 8) (hdg : decode cc pc = .ok (.invokevirtual index, 3)) (hf : cells + 0 ≤ R.cells ∧ slots + 0 ≤ R.slots) :
    va_Run p l e R s m args below meth c H locs cells slots 0 0 (F0 m pc ls st) rest (Qc (Value.ref b :: As).toArray) (va_A w H.size) := by
  have hfr := zfree hw hA
  subst hcl
  exact va_runV (g := F0 m pc ls st) S hM cw ⟨zPc_bl, va_recv hK.1 hw.1 hc he, fun U hU hW => ⟨rfl, by rw [hU], by rw [hU]; exact hw.1, hK.call hw.2.2 (fun q h => hfr q h) hU hW, hw.2.1.weaken (fun _ _ _ _ => trivial)⟩⟩ rfl hn hsize hst (lv_room hcat) hdg hf
theorem zVxw (S : CallFix p m c cc nL s args Ts own) (hM : vx_Met l y ws rm (zPc G k w H.size (.ref b :: As)) Qc XC mc ms (va_A w H.size)) (cw : CallW R s args own C index y bytes maxL ret ws rm mc ms n) (hK : zKK G k A s s.heap) (hA : ∀ q : Nat, s.heap.size ≤ q → A q) (hw : zWd G A s w H locs)
    (q0 : Nat) {ci : Nat} {fs : List Value} {q : vw_C} (he : w[q0]? = some (b, .inr (ci, fs))) (hc : zCl[ci]? = some q) (hcl : q.1 = C)
    (hn : As.length = n) (hsize : ls.size = nL) (hst : st = As.reverse ++ .ref b :: rest) (hcat : (rest.map fun v => v.category).sum ≤ 8) (hdg : decode cc pc = .ok (.invokevirtual index, 3)) (hf : cells + mc ≤ R.cells ∧ slots + ms ≤ R.slots) :
    vx_Run p l e R s m args below meth c H locs cells slots mc ms (F0 m pc ls st) rest (Qc (Value.ref b :: As).toArray) XC (va_A w H.size) := by
  have hfr := zfree hw hA
  subst hcl
  exact vx_runV (g := F0 m pc ls st) S hM cw ⟨zPc_bl, va_recv hK.1 hw.1 hc he, fun U hU hW => ⟨rfl, by rw [hU], by rw [hU]; exact hw.1, hK.call hw.2.2 (fun q h => hfr q h) hU hW, hw.2.1.weaken (fun _ _ _ _ => trivial)⟩⟩ rfl hn hsize hst (lv_room hcat) hdg hf
theorem zgoIw {a : Array Value} {r : Int32} (hw : zWd G A s w H locs) (hA : ∀ q : Nat, s.heap.size ≤ q → A q)
    (hr : va_Run p l e R s m args below meth c H locs cells slots 0 0 (F0 m pc ls st) rest (va_Qi (fun x _ => x = r) (zB G w H.size w') (va_A w H.size) a) (va_A w H.size))
    (kk : ∀ (H1 : Heap) (locs1 : List Loc), zWd G A s w' H1 locs1 → W p l e R s m args below meth c H1 locs1 cells slots Q (F0 m (pc + 3) ls (.int r :: rest))) : W p l e R s m args below meth c H locs cells slots Q (F0 m pc ls st) := by
  have hfr := zfree hw hA
  refine va_calli hr hw.2.2 (fun q _ h => hfr q h) hfr (fun r1 u t H1 locs1 ht _ hp hb _ hk hS => ?_)
  subst hp
  subst ht
  exact kk _ _ ⟨hb.1, hb.2.weaken (fun _ q _ h => hfr q.1 h), hS⟩
theorem zgoLw {a : Array Value} {r : Int64} (hw : zWd G A s w H locs) (hA : ∀ q : Nat, s.heap.size ≤ q → A q)
    (hr : va_Run p l e R s m args below meth c H locs cells slots 0 0 (F0 m pc ls st) rest (va_Ql (fun x _ => x = r) (zB G w H.size w') (va_A w H.size) a) (va_A w H.size))
    (kk : ∀ (H1 : Heap) (locs1 : List Loc), zWd G A s w' H1 locs1 → W p l e R s m args below meth c H1 locs1 cells slots Q (F0 m (pc + 3) ls (.long r :: rest))) : W p l e R s m args below meth c H locs cells slots Q (F0 m pc ls st) := by
  have hfr := zfree hw hA
  refine va_calll hr hw.2.2 (fun q _ h => hfr q h) hfr (fun r1 u t H1 locs1 ht _ hp hb _ hk hS => ?_)
  subst hp
  subst ht
  exact kk _ _ ⟨hb.1, hb.2.weaken (fun _ q _ h => hfr q.1 h), hS⟩
theorem zgoVw {a : Array Value} (hw : zWd G A s w H locs) (hA : ∀ q : Nat, s.heap.size ≤ q → A q)
    (hr : va_Run p l e R s m args below meth c H locs cells slots 0 0 (F0 m pc ls st) rest (va_Qv (fun _ => True) (zB G w H.size w') (va_A w H.size) a) (va_A w H.size))
    (kk : ∀ (H1 : Heap) (locs1 : List Loc), zWd G A s w' H1 locs1 → W p l e R s m args below meth c H1 locs1 cells slots Q (F0 m (pc + 3) ls rest)) : W p l e R s m args below meth c H locs cells slots Q (F0 m pc ls st) := by
  have hfr := zfree hw hA
  refine va_callv hr hw.2.2 (fun q _ h => hfr q h) hfr (fun u t H1 locs1 ht _ hp hb _ hk hS => ?_)
  subst ht
  exact kk _ _ ⟨hb.1, hb.2.weaken (fun _ q _ h => hfr q.1 h), hS⟩
theorem zgoXIw {a : Array Value} {r : Int32} (hw : zWd G A s w H locs) (hA : ∀ q : Nat, s.heap.size ≤ q → A q)
    (hr : vx_Run p l e R s m args below meth c H locs cells slots mc ms (F0 m pc ls st) rest (va_Qi (fun x _ => o0 = 0 ∧ x = r) (zB G w H.size w') (va_A w H.size) a) (zX G w H.size o0 w') (va_A w H.size))
    (kx : o0 ≠ 0 → ∀ (H1 : Heap) (locs1 : List Loc) (q : Addr) (E : String) (ce : Cell), zWd G A s w' H1 locs1 → H1[q]? = some ce → ce.vm = .none → s.vm.findClass E = some ce.cls → E = zEn o0 → vx_W p l e R s m args below meth c H1 locs1 (cells + mc) (slots + ms) Q (F0 m pc ls rest) q)
    (kk : o0 = 0 → ∀ (H1 : Heap) (locs1 : List Loc), zWd G A s w' H1 locs1 → W p l e R s m args below meth c H1 locs1 (cells + mc) (slots + ms) Q (F0 m (pc + 3) ls (.int r :: rest))) : W p l e R s m args below meth c H locs cells slots Q (F0 m pc ls st) := by
  have hfr := zfree hw hA
  refine vx_calli hr hw.2.2 (fun q _ h => hfr q h) hfr (fun q _ h => hfr q h) (fun E ce q9 u t H1 locs1 ht _ hp hb _ hk hS hce hcv hcl => ?_) (fun r1 u t H1 locs1 ht _ hp hb _ hk hS => ?_)
  · subst ht
    exact kx hp _ _ q9 E ce ⟨hb.2.1, hb.2.2.weaken (fun _ q _ h => hfr q.1 h), hS⟩ hce hcv hcl hb.1
  · obtain ⟨h0, hp⟩ := hp
    subst hp
    subst ht
    exact kk h0 _ _ ⟨hb.1, hb.2.weaken (fun _ q _ h => hfr q.1 h), hS⟩
theorem zgoXDw {a : Array Value} {r : UInt64} (hw : zWd G A s w H locs) (hA : ∀ q : Nat, s.heap.size ≤ q → A q)
    (hr : vx_Run p l e R s m args below meth c H locs cells slots mc ms (F0 m pc ls st) rest (va_Qd (fun x _ => o0 = 0 ∧ x = r) (zB G w H.size w') (va_A w H.size) a) (zX G w H.size o0 w') (va_A w H.size))
    (kx : o0 ≠ 0 → ∀ (H1 : Heap) (locs1 : List Loc) (q : Addr) (E : String) (ce : Cell), zWd G A s w' H1 locs1 → H1[q]? = some ce → ce.vm = .none → s.vm.findClass E = some ce.cls → E = zEn o0 → vx_W p l e R s m args below meth c H1 locs1 (cells + mc) (slots + ms) Q (F0 m pc ls rest) q)
    (kk : o0 = 0 → ∀ (H1 : Heap) (locs1 : List Loc), zWd G A s w' H1 locs1 → W p l e R s m args below meth c H1 locs1 (cells + mc) (slots + ms) Q (F0 m (pc + 3) ls (.double r :: rest))) : W p l e R s m args below meth c H locs cells slots Q (F0 m pc ls st) := by
  have hfr := zfree hw hA
  refine vx_calld hr hw.2.2 (fun q _ h => hfr q h) hfr (fun q _ h => hfr q h) (fun E ce q9 u t H1 locs1 ht _ hp hb _ hk hS hce hcv hcl => ?_) (fun r1 u t H1 locs1 ht _ hp hb _ hk hS => ?_)
  · subst ht
    exact kx hp _ _ q9 E ce ⟨hb.2.1, hb.2.2.weaken (fun _ q _ h => hfr q.1 h), hS⟩ hce hcv hcl hb.1
  · obtain ⟨h0, hp⟩ := hp
    subst hp
    subst ht
    exact kk h0 _ _ ⟨hb.1, hb.2.weaken (fun _ q _ h => hfr q.1 h), hS⟩
theorem zgoXVw {a : Array Value} (hw : zWd G A s w H locs) (hA : ∀ q : Nat, s.heap.size ≤ q → A q)
    (hr : vx_Run p l e R s m args below meth c H locs cells slots mc ms (F0 m pc ls st) rest (va_Qv (fun _ => o0 = 0) (zB G w H.size w') (va_A w H.size) a) (zX G w H.size o0 w') (va_A w H.size))
    (kx : o0 ≠ 0 → ∀ (H1 : Heap) (locs1 : List Loc) (q : Addr) (E : String) (ce : Cell), zWd G A s w' H1 locs1 → H1[q]? = some ce → ce.vm = .none → s.vm.findClass E = some ce.cls → E = zEn o0 → vx_W p l e R s m args below meth c H1 locs1 (cells + mc) (slots + ms) Q (F0 m pc ls rest) q)
    (kk : o0 = 0 → ∀ (H1 : Heap) (locs1 : List Loc), zWd G A s w' H1 locs1 → W p l e R s m args below meth c H1 locs1 (cells + mc) (slots + ms) Q (F0 m (pc + 3) ls rest)) : W p l e R s m args below meth c H locs cells slots Q (F0 m pc ls st) := by
  have hfr := zfree hw hA
  refine vx_callv hr hw.2.2 (fun q _ h => hfr q h) hfr (fun q _ h => hfr q h) (fun E ce q9 u t H1 locs1 ht _ hp hb _ hk hS hce hcv hcl => ?_) (fun u t H1 locs1 ht _ hp hb _ hk hS => ?_)
  · subst ht
    exact kx hp _ _ q9 E ce ⟨hb.2.1, hb.2.2.weaken (fun _ q _ h => hfr q.1 h), hS⟩ hce hcv hcl hb.1
  · subst ht
    exact kk hp _ _ ⟨hb.1, hb.2.weaken (fun _ q _ h => hfr q.1 h), hS⟩
end ZCW
def zdn (r : UInt64) : Bool := decide (r &&& 0x7fffffffffffffff ≤ 0x7ff0000000000000)
theorem zdn_t {r : UInt64} (h : zdn r = true) : vf_n64 r := (of_decide_eq_true h : r &&& 0x7fffffffffffffff ≤ 0x7ff0000000000000)

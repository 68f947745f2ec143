/-! calls: the callee's cells are cut out of the caller's, and put back in their places -/
def zput (ws : va_W) (is : List Nat) (qs : va_W) : va_W := (is.zip qs).foldl (fun a x => a.set x.1 x.2) ws
theorem zput_get0 : ∀ (L : List (Nat × (Nat × va_E))) (ws : va_W) (k : Nat) (q : Nat × va_E), (L.foldl (fun a x => a.set x.1 x.2) ws)[k]? = some q → (∃ x, x ∈ L ∧ x.2 = q) ∨ (ws[k]? = some q ∧ ∀ x, x ∈ L → x.1 ≠ k)
  | [], ws, k, q, h => Or.inr ⟨h, fun x hx => nomatch hx⟩
  | y :: L, ws, k, q, h => by
    rw [List.foldl_cons] at h
    rcases zput_get0 L (ws.set y.1 y.2) k q h with ⟨x, h1, h2⟩ | ⟨h1, h2⟩
    · exact Or.inl ⟨x, List.mem_cons_of_mem _ h1, h2⟩
    · by_cases hki : y.1 = k
      · have hlt : k < (ws.set y.1 y.2).length := (List.getElem?_eq_some_iff.mp h1).1
        rw [List.length_set] at hlt
        rw [hki, List.getElem?_set_self hlt] at h1
        exact Or.inl ⟨y, List.mem_cons_self, Option.some.inj h1⟩
      · rw [List.getElem?_set_ne hki] at h1
        refine Or.inr ⟨h1, fun x hx => ?_⟩
        rcases List.mem_cons.mp hx with e | e
        · rw [e]; exact hki
        · exact h2 x e
theorem zput_get (is : List Nat) (ws qs : va_W) (hl : is.length = qs.length) (k : Nat) (q : Nat × va_E) (h : (zput ws is qs)[k]? = some q) : (∃ j : Nat, qs[j]? = some q) ∨ (ws[k]? = some q ∧ k ∉ is) := by
  rcases zput_get0 (is.zip qs) ws k q h with ⟨x, h1, h2⟩ | ⟨h1, h2⟩
  · have h3 : x.2 ∈ qs := (List.of_mem_zip (a := x.1) (b := x.2) h1).2
    rw [h2] at h3
    exact Or.inl (List.getElem?_of_mem h3)
  · refine Or.inr ⟨h1, fun h9 => ?_⟩
    have h4 : k ∈ (is.zip qs).map Prod.fst := by rw [List.map_fst_zip (Nat.le_of_eq hl)]; exact h9
    obtain ⟨x, hx, hxk⟩ := List.mem_map.mp h4
    exact h2 x hx hxk
theorem zD_fst {A : Nat → Prop} {ws ws' : va_W} (hD : va_D A ws) (h : ws'.map (·.1) = ws.map (·.1)) : va_D A ws' := by
  have key : ∀ (k : Nat) (q : Nat × va_E), ws'[k]? = some q → ∃ q0, ws[k]? = some q0 ∧ q0.1 = q.1 := by
    intro k q hk
    have h1 : (ws'.map (·.1))[k]? = some q.1 := by rw [List.getElem?_map, hk]; rfl
    rw [h, List.getElem?_map] at h1
    cases h2 : ws[k]? with
    | none => rw [h2] at h1; cases h1
    | some q0 => rw [h2] at h1; exact ⟨q0, rfl, Option.some.inj h1⟩
  refine ⟨fun i j x y hi hj hxy => ?_, fun k q hk => ?_⟩
  · obtain ⟨x0, h1, h2⟩ := key i x hi
    obtain ⟨y0, h3, h4⟩ := key j y hj
    exact hD.1 i j x0 y0 h1 h3 (h2.trans (hxy.trans h4.symm))
  · obtain ⟨q0, h1, h2⟩ := key k q hk
    rw [← h2]
    exact hD.2 k q0 h1
theorem zafter {G : va_G} {A : Nat → Prop} {ws wc wc' ws' : va_W} {isC : List Nat} {H H1 : Heap} (hP : va_P G zCl ws H) (hD : va_D A ws) (hC : isC.map (fun i => ws[i]?) = wc.map some) (hlen : isC.length = wc'.length) (hz : zput ws isC wc' = ws')
    (hk : ∀ q : Nat, q < H.size → ¬ va_A wc H.size q → H1[q]? = H[q]?) (hP1 : va_P G zCl wc' H1) : va_P G zCl ws' H1 := by
  intro k q hq
  rw [← hz] at hq
  rcases zput_get isC ws wc' hlen k q hq with ⟨j, hj⟩ | ⟨h1, h2⟩
  · exact hP1 j q hj
  · have hl := (hP k q h1).lt
    refine (hP k q h1).kept (hk q.1 hl (fun h => ?_))
    rcases h with ⟨k2, e, h⟩ | h
    · have h3 : (isC.map (fun i => ws[i]?))[k2]? = some (some (q.1, e)) := by rw [hC, List.getElem?_map, h]; rfl
      rw [List.getElem?_map] at h3
      cases hi : isC[k2]? with
      | none => rw [hi] at h3; cases h3
      | some i =>
        rw [hi] at h3
        have h4 : ws[i]? = some (q.1, e) := Option.some.inj h3
        have hij := hD.1 k i q (q.1, e) h1 h4 rfl
        subst hij
        exact h2 (List.mem_of_getElem? hi)
    · omega
section ZC
variable {p : Program} {l : Launch} {e : Env} {R : Room} {s : State} {m : MethodId} {args : Array Value} {below : List Frame} {meth : Method} {c : Code} {H : Heap} {locs : List Loc} {cells slots : Nat} {Q : State → Prop}
variable {y : MethodName} {bytes cc : ByteArray} {maxL nL n index : Nat} {ret : Option FieldType} {ws : List Cond} {rm : Room} {Qc : Array Value → State → Outcome → State → Prop} {Ts : List Cond} {own C : String} {b : Addr} {As rest st : List Value} {ls : Array Slot} {pc : Nat} {G : va_G} {k : Nat → ClassId} {A : Nat → Prop} {w wc wc' w' : va_W}
theorem zWd.cut {isC : List Nat} (hw : zWd G A s w H locs) (hC : isC.map (fun i => w[i]?) = wc.map some) (hn : va_nd isC = true) : va_P G zCl wc H ∧ va_D A wc := by
  refine ⟨fun j q hj => ?_, hw.2.1.sub isC hn hC⟩
  have h1 : (isC.map (fun i => w[i]?))[j]? = some (some q) := by rw [hC, List.getElem?_map, hj]; rfl
  rw [List.getElem?_map] at h1
  cases hi : isC[j]? with
  | none => rw [hi] at h1; cases h1
  | some i => rw [hi] at h1; exact hw.1 i q (Option.some.inj h1)
theorem zV (S : CallFix p m c cc nL s args Ts own) (hM : Met l y ws rm (zPc G k wc H.size (.ref b :: As)) Qc 0 0 (va_A wc H.size)) (cw : CallW R s args own C index y bytes maxL ret ws rm 0 0 n) (hK : zKK G k A s s.heap) (hA : ∀ q : Nat, s.heap.size ≤ q → A q) (hw : zWd G A s w H locs)
    (isC : List Nat) (hC : isC.map (fun i => w[i]?) = wc.map some) (hnd : va_nd isC = true) (q0 : Nat) {ci : Nat} {fs : List Value} {q : vw_C} (he : w[q0]? = some (b, .inr (ci, fs))) (hc : zCl[ci]? = some q) (hcl : q.1 = C)
    (hn : As.length = n) (hsize : ls.size = nL) (hst : st = As.reverse ++ .ref b :: rest) (hcat : (rest.map fun v => v.category).sum ≤ 8) (hdg : decode cc pc = .ok (.invokevirtual index, 3)) (hf : cells + 0 ≤ R.cells ∧ slots + 0 ≤ R.slots) :
    va_Run p l e R s m args below meth c H locs cells slots 0 0 (F0 m pc ls st) rest (Qc (Value.ref b :: As).toArray) (va_A wc H.size) := by
  have hcut := hw.cut hC hnd
  have hfr := va_free hw.2.1 hw.2.2 hA isC hC
  subst hcl
  exact va_runV (g := F0 m pc ls st) S hM cw ⟨zPc_bl, va_recv hK.1 hw.1 hc he, fun U hU hW => ⟨rfl, by rw [hU], by rw [hU]; exact hcut.1, hK.call hw.2.2 (fun q h => hfr q h) hU hW, hcut.2.weaken (fun _ _ _ _ => trivial)⟩⟩ rfl hn hsize hst (lv_room hcat) hdg hf
theorem zS (S : CallFix p m c cc nL s args Ts own) (hM : Met l y ws rm (zPc G k wc H.size As) Qc 0 0 (va_A wc H.size)) (cw : CallB R s args own index y bytes maxL ret ws rm 0 0 n ∧ (Cond.static y).before args s = true) (hK : zKK G k A s s.heap) (hA : ∀ q : Nat, s.heap.size ≤ q → A q) (hw : zWd G A s w H locs)
    (isC : List Nat) (hC : isC.map (fun i => w[i]?) = wc.map some) (hnd : va_nd isC = true)
    (hn : As.length = n) (hsize : ls.size = nL) (hst : st = As.reverse ++ rest) (hcat : (rest.map fun v => v.category).sum ≤ 8) (hdg : decode cc pc = .ok (.invokestatic index, 3)) (hf : cells + 0 ≤ R.cells ∧ slots + 0 ≤ R.slots) :
    va_Run p l e R s m args below meth c H locs cells slots 0 0 (F0 m pc ls st) rest (Qc As.toArray) (va_A wc H.size) := by
  have hcut := hw.cut hC hnd
  have hfr := va_free hw.2.1 hw.2.2 hA isC hC
  exact va_runS (g := F0 m pc ls st) S hM cw ⟨zPc_bl, fun U hU hW => ⟨rfl, by rw [hU], by rw [hU]; exact hcut.1, hK.call hw.2.2 (fun q h => hfr q h) hU hW, hcut.2.weaken (fun _ _ _ _ => trivial)⟩⟩ rfl hn hsize hst (lv_room hcat) hdg hf
theorem zSN {host : String} (S : CallFix p m c cc nL s args Ts own) (hM : Met l y ws rm (zPc G k wc H.size As) Qc 0 0 (va_A wc H.size)) (cw : va_CN R s args own index y host bytes maxL ret ws rm 0 0 n ∧ (Cond.static y).before args s = true ∧ True) (hK : zKK G k A s s.heap) (hA : ∀ q : Nat, s.heap.size ≤ q → A q) (hw : zWd G A s w H locs)
    (isC : List Nat) (hC : isC.map (fun i => w[i]?) = wc.map some) (hnd : va_nd isC = true)
    (hn : As.length = n) (hsize : ls.size = nL) (hst : st = As.reverse ++ rest) (hcat : (rest.map fun v => v.category).sum ≤ 8) (hdg : decode cc pc = .ok (.invokestatic index, 3)) (hf : cells + 0 ≤ R.cells ∧ slots + 0 ≤ R.slots) :
    va_Run p l e R s m args below meth c H locs cells slots 0 0 (F0 m pc ls st) rest (Qc As.toArray) (va_A wc H.size) := by
  have hcut := hw.cut hC hnd
  have hfr := va_free hw.2.1 hw.2.2 hA isC hC
  exact va_runSN (g := F0 m pc ls st) S hM cw ⟨zPc_bl, fun U hU hW => ⟨rfl, by rw [hU], by rw [hU]; exact hcut.1, hK.call hw.2.2 (fun q h => hfr q h) hU hW, hcut.2.weaken (fun _ _ _ _ => trivial)⟩⟩ rfl hn hsize hst (lv_room hcat) hdg hf
theorem zgoI {a : Array Value} {r : Int32} (hw : zWd G A s w H locs) (hA : ∀ q : Nat, s.heap.size ≤ q → A q) (isC : List Nat) (hC : isC.map (fun i => w[i]?) = wc.map some)
    (hr : va_Run p l e R s m args below meth c H locs cells slots 0 0 (F0 m pc ls st) rest (va_Qi (fun x _ => x = r) (zB G wc H.size wc') (va_A wc H.size) a) (va_A wc H.size))
    (hlen : isC.length = wc'.length) (hz : zput w isC wc' = w') (hfst : w'.map (·.1) = w.map (·.1))
    (kk : ∀ (H1 : Heap) (locs1 : List Loc), zWd G A s w' H1 locs1 → W p l e R s m args below meth c H1 locs1 cells slots Q (F0 m (pc + 3) ls (.int r :: rest))) : W p l e R s m args below meth c H locs cells slots Q (F0 m pc ls st) := by
  have hfr := va_free hw.2.1 hw.2.2 hA isC hC
  refine va_calli hr hw.2.2 (fun q _ h => hfr q h) hfr (fun r1 u t H1 locs1 ht _ hp hb _ hk hS => ?_)
  subst hp
  subst ht
  exact kk _ _ ⟨zafter hw.1 hw.2.1 hC hlen hz hk hb.1, zD_fst hw.2.1 hfst, hS⟩
theorem zgoL {a : Array Value} {r : Int64} (hw : zWd G A s w H locs) (hA : ∀ q : Nat, s.heap.size ≤ q → A q) (isC : List Nat) (hC : isC.map (fun i => w[i]?) = wc.map some)
    (hr : va_Run p l e R s m args below meth c H locs cells slots 0 0 (F0 m pc ls st) rest (va_Ql (fun x _ => x = r) (zB G wc H.size wc') (va_A wc H.size) a) (va_A wc H.size))
    (hlen : isC.length = wc'.length) (hz : zput w isC wc' = w') (hfst : w'.map (·.1) = w.map (·.1))
    (kk : ∀ (H1 : Heap) (locs1 : List Loc), zWd G A s w' H1 locs1 → W p l e R s m args below meth c H1 locs1 cells slots Q (F0 m (pc + 3) ls (.long r :: rest))) : W p l e R s m args below meth c H locs cells slots Q (F0 m pc ls st) := by
  have hfr := va_free hw.2.1 hw.2.2 hA isC hC
  refine va_calll hr hw.2.2 (fun q _ h => hfr q h) hfr (fun r1 u t H1 locs1 ht _ hp hb _ hk hS => ?_)
  subst hp
  subst ht
  exact kk _ _ ⟨zafter hw.1 hw.2.1 hC hlen hz hk hb.1, zD_fst hw.2.1 hfst, hS⟩
theorem zgoV {a : Array Value} (hw : zWd G A s w H locs) (hA : ∀ q : Nat, s.heap.size ≤ q → A q) (isC : List Nat) (hC : isC.map (fun i => w[i]?) = wc.map some)
    (hr : va_Run p l e R s m args below meth c H locs cells slots 0 0 (F0 m pc ls st) rest (va_Qv (fun _ => True) (zB G wc H.size wc') (va_A wc H.size) a) (va_A wc H.size))
    (hlen : isC.length = wc'.length) (hz : zput w isC wc' = w') (hfst : w'.map (·.1) = w.map (·.1))
    (kk : ∀ (H1 : Heap) (locs1 : List Loc), zWd G A s w' H1 locs1 → W p l e R s m args below meth c H1 locs1 cells slots Q (F0 m (pc + 3) ls rest)) : W p l e R s m args below meth c H locs cells slots Q (F0 m pc ls st) := by
  have hfr := va_free hw.2.1 hw.2.2 hA isC hC
  refine va_callv hr hw.2.2 (fun q _ h => hfr q h) hfr (fun u t H1 locs1 ht _ hp hb _ hk hS => ?_)
  subst ht
  exact kk _ _ ⟨zafter hw.1 hw.2.1 hC hlen hz hk hb.1, zD_fst hw.2.1 hfst, hS⟩
/-- loads and stores over the world -/
theorem zWd.P (hw : zWd G A s w H locs) : va_P G zCl w H := hw.1
end ZC

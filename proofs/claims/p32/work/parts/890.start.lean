/-! the start: what the tables and the given state say -/
theorem zst_arr {s : State} {args : Array Value} {ty : FieldType} (h : (Cond.arrayClass ty).before args s = true) (hno : ∀ C, ty ≠ .object C) : ∃ c : ClassId, ArrOfT s c ty ∧ va_RA s c ty := by
  obtain ⟨c, k, comp, h1, h2, h3⟩ := Cond.arrayClass_spec (args := args) (first := s) (o := none) (s := s) (idx := []) h
  refine ⟨c, fun N z => ⟨(fun k h => by cases h), k, h2, comp, h3⟩, ?_⟩
  unfold va_RA
  split
  · rename_i C; exact absurd rfl (hno C)
  · exact h1
theorem zst_S {n q v : Nat} {adK adV : Nat → Nat} {b : List Int32} {A : Nat → Prop} {s : State} {H : Heap} (h : vk_S 1 [n] [b] adK adV A s H) (e1 : adK 0 = q) (e2 : adV 0 = v) : vk_S 1 [n] [b] (fun _ => q) (fun _ => v) A s H := by
  subst e1
  subst e2
  refine ⟨fun i hi => ?_, fun i j hi hj _ => by omega⟩
  have e : i = 0 := by omega
  subst e
  exact h.1 0 hi
theorem zst_str1 : ∀ q ∈ zSTR, Cond.stringRef q.1 q.2.1 q.2.2 ∈ tables_1 := by decide +kernel
theorem zst_str2 : ∀ q ∈ zSTR, Cond.exactly (.string q.1 q.2.1) "java/lang/String" ∈ flatC (Jvm.Cond.and given_1 narrow_1) := by decide +kernel
theorem zst_nc : ∀ q ∈ zNCl, Cond.not (.castable q.1 q.2) ∈ flatC (Jvm.Cond.and given_1 narrow_1) := by decide +kernel
theorem zst_ca : ∀ q ∈ zCa, Cond.castable q q ∈ tables_1 := by decide +kernel
theorem zst_de : ∀ q ∈ zDe, Cond.declares (zIn q) ∈ tables_1 := by decide +kernel
theorem zst_fr {s : State} {args : Array Value} {A : Nat → Prop} (hT : ∀ w ∈ tables_1, w.before args s = true) (hG : ∀ w ∈ flatC (Jvm.Cond.and given_1 narrow_1), w.before args s = true) (hA : ∀ a : Nat, a < s.heap.size → ¬ A a) : ∃ t : Nat, va_Z RX2 "FIRST_ROW" "[I" (.ref t) A s s.heap ∧ va_T .int t 6 zFR A s s.heap := by
  obtain ⟨t, h1, h2⟩ := va_Tof (args := args) (s := s) (tm := .static RX2 "FIRST_ROW" "[I") (ty := .int) (N := 6) (f := zFR) (A := A) (show _ < 2 ^ 31 by decide) (hG (.arrayOf (.static RX2 "FIRST_ROW" "[I") .int) (List.mem_of_getElem? (i := 5) (by decide +kernel))) (va_eqt (hG (.eq (.length (.static RX2 "FIRST_ROW" "[I")) (.int 6)) (List.mem_of_getElem? (i := 6) (by decide +kernel)))) (fun j hj => by
    rcases (show j = 0 ∨ j = 1 ∨ j = 2 ∨ j = 3 ∨ j = 4 ∨ j = 5 by omega) with rfl | rfl | rfl | rfl | rfl | rfl
    · exact va_eqt (hG (.eq (.elem (.static RX2 "FIRST_ROW" "[I") (.int 0)) (.int 0)) (List.mem_of_getElem? (i := 7) (by decide +kernel)))
    · exact va_eqt (hG (.eq (.elem (.static RX2 "FIRST_ROW" "[I") (.int 1)) (.int 1)) (List.mem_of_getElem? (i := 8) (by decide +kernel)))
    · exact va_eqt (hG (.eq (.elem (.static RX2 "FIRST_ROW" "[I") (.int 2)) (.int 3)) (List.mem_of_getElem? (i := 9) (by decide +kernel)))
    · exact va_eqt (hG (.eq (.elem (.static RX2 "FIRST_ROW" "[I") (.int 3)) (.int 2)) (List.mem_of_getElem? (i := 10) (by decide +kernel)))
    · exact va_eqt (hG (.eq (.elem (.static RX2 "FIRST_ROW" "[I") (.int 4)) (.int 1)) (List.mem_of_getElem? (i := 11) (by decide +kernel)))
    · exact va_eqt (hG (.eq (.elem (.static RX2 "FIRST_ROW" "[I") (.int 5)) (.int 0)) (List.mem_of_getElem? (i := 12) (by decide +kernel)))) hA
  exact ⟨t, va_Zof (hT (.laysStatic RX2 "FIRST_ROW" "[I") (List.mem_of_getElem? (i := 121) (by decide +kernel))) (hT (.initialized RX2) (List.mem_of_getElem? (i := 2) (by decide +kernel))) h1 hA, h2⟩

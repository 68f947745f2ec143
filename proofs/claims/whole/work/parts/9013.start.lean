/-! the start: what the tables and the given state say -/
theorem zst_arr {s : State} {args : Array Value} {ty : FieldType} (h : (Cond.arrayClass ty).before args s = true) (hno : ∀ C, ty ≠ .object C) : ∃ c : ClassId, ArrOfT s c ty ∧ va_RA s c ty := by
  obtain ⟨c, k, comp, h1, h2, h3⟩ := Cond.arrayClass_spec (args := args) (first := s) (o := none) (s := s) (idx := []) h
  refine ⟨c, fun N z => ⟨(fun k h => by cases h), k, h2, comp, h3⟩, ?_⟩
  unfold va_RA
  split
  · rename_i C; exact absurd rfl (hno C)
  · exact h1
theorem zst_arrA {s : State} {args : Array Value} (h : (Cond.arrayOver (.array .int)).before args s = true) : ∃ c : ClassId, ArrOfT s c (.array .int) ∧ va_RA s c (.array .int) := by
  obtain ⟨comp, c, k, -, -, h3, h4, h5⟩ := arrayOverA_spec (args := args) (first := s) (o := none) (s := s) (idx := []) h
  exact ⟨c, fun N z => ⟨(fun k h => by cases h), k, h3, comp, h4⟩, h5⟩
theorem zst_S {q v : Nat} {adK adV : Nat → Nat} {b : List Int32} {A : Nat → Prop} {s : State} {H : Heap} (h : vk_S 1 [4] [b] adK adV A s H) (e1 : adK 0 = q) (e2 : adV 0 = v) : vk_S 1 [4] [b] (fun _ => q) (fun _ => v) A s H := by
  subst e1
  subst e2
  refine ⟨fun i hi => ?_, fun i j hi hj _ => by omega⟩
  have e : i = 0 := by omega
  subst e
  exact h.1 0 hi
theorem zst_str1 : ∀ q ∈ zSTR, Cond.stringRef q.1 q.2.1 q.2.2 ∈ tables_1 := by decide +kernel
theorem zst_str2 : ∀ q ∈ zSTR, Cond.exactly (.string q.1 q.2.1) "java/lang/String" ∈ flatC (Jvm.Cond.and given_1 narrow_1) := by decide +kernel
theorem zst_nc : ∀ q ∈ zNCl, Cond.not (.castable q.1 q.2) ∈ flatC (Jvm.Cond.and given_1 narrow_1) := by decide +kernel
theorem zst_ca : ∀ q ∈ zCa, Cond.castable q q ∈ tables_1 := by decide +kernel
theorem zst_de : ∀ q ∈ zDe, Cond.declares (zIn q) ∈ tables_1 := by decide +kernel
theorem zst_t280 {s : State} {args : Array Value} {A : Nat → Prop} (hT : ∀ w ∈ tables_1, w.before args s = true) (hG : ∀ w ∈ flatC (Jvm.Cond.and given_1 narrow_1), w.before args s = true) (hA : ∀ a : Nat, a < s.heap.size → ¬ A a) : zTx 280 "UIWK" [85, 73, 87, 75] A s s.heap := by
  obtain ⟨adK, adV, h1, h2⟩ := vk_Sof (args := args) (s := s) (N := 1) (tm := fun _ => .string RX5 280) (len := [4]) (byt := [[85, 73, 87, 75]]) (A := A) (fun i hi => by rw [show i = 0 by omega]; decide) (fun i hi => (hG (.exactly (.string RX5 280) "java/lang/String") (List.mem_of_getElem? (i := 752) (by decide +kernel)))) (fun i hi => (hG (.eq (.field (.string RX5 280) "java/lang/String" "coder" "B") (.int 0)) (List.mem_of_getElem? (i := 753) (by decide +kernel)))) (fun i hi => (hG (.arrayOf (.field (.string RX5 280) "java/lang/String" "value" "[B") .byte) (List.mem_of_getElem? (i := 754) (by decide +kernel)))) (fun i hi => by rw [show i = 0 by omega]; exact (hG (.eq (.length (.field (.string RX5 280) "java/lang/String" "value" "[B")) (.int 4)) (List.mem_of_getElem? (i := 755) (by decide +kernel)))) (fun i hi j hj => by
    rw [show i = 0 by omega] at hj ⊢
    have hj : j < 4 := hj
    rcases (show j = 0 ∨ j = 1 ∨ j = 2 ∨ j = 3 by omega) with rfl | rfl | rfl | rfl
    · exact (hG (.eq (.elem (.field (.string RX5 280) "java/lang/String" "value" "[B") (.int 0)) (.int 85)) (List.mem_of_getElem? (i := 756) (by decide +kernel)))
    · exact (hG (.eq (.elem (.field (.string RX5 280) "java/lang/String" "value" "[B") (.int 1)) (.int 73)) (List.mem_of_getElem? (i := 757) (by decide +kernel)))
    · exact (hG (.eq (.elem (.field (.string RX5 280) "java/lang/String" "value" "[B") (.int 2)) (.int 87)) (List.mem_of_getElem? (i := 758) (by decide +kernel)))
    · exact (hG (.eq (.elem (.field (.string RX5 280) "java/lang/String" "value" "[B") (.int 3)) (.int 75)) (List.mem_of_getElem? (i := 759) (by decide +kernel)))) (fun i j hi hj hne => absurd (show i = j by omega) hne) hA
  exact ⟨adK 0, adV 0, zst_S h1 rfl rfl, vk_R.of (A := args) (hT (.stringRef RX5 280 "UIWK") (List.mem_of_getElem? (i := 1251) (by decide +kernel))) (h2 0 (by omega))⟩
theorem zst_t282 {s : State} {args : Array Value} {A : Nat → Prop} (hT : ∀ w ∈ tables_1, w.before args s = true) (hG : ∀ w ∈ flatC (Jvm.Cond.and given_1 narrow_1), w.before args s = true) (hA : ∀ a : Nat, a < s.heap.size → ¬ A a) : zTx 282 "uiwk" [117, 105, 119, 107] A s s.heap := by
  obtain ⟨adK, adV, h1, h2⟩ := vk_Sof (args := args) (s := s) (N := 1) (tm := fun _ => .string RX5 282) (len := [4]) (byt := [[117, 105, 119, 107]]) (A := A) (fun i hi => by rw [show i = 0 by omega]; decide) (fun i hi => (hG (.exactly (.string RX5 282) "java/lang/String") (List.mem_of_getElem? (i := 760) (by decide +kernel)))) (fun i hi => (hG (.eq (.field (.string RX5 282) "java/lang/String" "coder" "B") (.int 0)) (List.mem_of_getElem? (i := 761) (by decide +kernel)))) (fun i hi => (hG (.arrayOf (.field (.string RX5 282) "java/lang/String" "value" "[B") .byte) (List.mem_of_getElem? (i := 762) (by decide +kernel)))) (fun i hi => by rw [show i = 0 by omega]; exact (hG (.eq (.length (.field (.string RX5 282) "java/lang/String" "value" "[B")) (.int 4)) (List.mem_of_getElem? (i := 763) (by decide +kernel)))) (fun i hi j hj => by
    rw [show i = 0 by omega] at hj ⊢
    have hj : j < 4 := hj
    rcases (show j = 0 ∨ j = 1 ∨ j = 2 ∨ j = 3 by omega) with rfl | rfl | rfl | rfl
    · exact (hG (.eq (.elem (.field (.string RX5 282) "java/lang/String" "value" "[B") (.int 0)) (.int 117)) (List.mem_of_getElem? (i := 764) (by decide +kernel)))
    · exact (hG (.eq (.elem (.field (.string RX5 282) "java/lang/String" "value" "[B") (.int 1)) (.int 105)) (List.mem_of_getElem? (i := 765) (by decide +kernel)))
    · exact (hG (.eq (.elem (.field (.string RX5 282) "java/lang/String" "value" "[B") (.int 2)) (.int 119)) (List.mem_of_getElem? (i := 766) (by decide +kernel)))
    · exact (hG (.eq (.elem (.field (.string RX5 282) "java/lang/String" "value" "[B") (.int 3)) (.int 107)) (List.mem_of_getElem? (i := 767) (by decide +kernel)))) (fun i j hi hj hne => absurd (show i = j by omega) hne) hA
  exact ⟨adK 0, adV 0, zst_S h1 rfl rfl, vk_R.of (A := args) (hT (.stringRef RX5 282 "uiwk") (List.mem_of_getElem? (i := 1252) (by decide +kernel))) (h2 0 (by omega))⟩
theorem zst_fr {s : State} {args : Array Value} {A : Nat → Prop} (hT : ∀ w ∈ tables_1, w.before args s = true) (hG : ∀ w ∈ flatC (Jvm.Cond.and given_1 narrow_1), w.before args s = true) (hA : ∀ a : Nat, a < s.heap.size → ¬ A a) : ∃ t : Nat, va_Z RX2 "FIRST_ROW" "[I" (.ref t) A s s.heap ∧ va_T .int t 6 zFR A s s.heap := by
  obtain ⟨t, h1, h2⟩ := va_Tof (args := args) (s := s) (tm := .static RX2 "FIRST_ROW" "[I") (ty := .int) (N := 6) (f := zFR) (A := A) (show _ < 2 ^ 31 by decide) (hG (.arrayOf (.static RX2 "FIRST_ROW" "[I") .int) (List.mem_of_getElem? (i := 5) (by decide +kernel))) (va_eqt (hG (.eq (.length (.static RX2 "FIRST_ROW" "[I")) (.int 6)) (List.mem_of_getElem? (i := 6) (by decide +kernel)))) (fun j hj => by
    rcases (show j = 0 ∨ j = 1 ∨ j = 2 ∨ j = 3 ∨ j = 4 ∨ j = 5 by omega) with rfl | rfl | rfl | rfl | rfl | rfl
    · exact va_eqt (hG (.eq (.elem (.static RX2 "FIRST_ROW" "[I") (.int 0)) (.int 0)) (List.mem_of_getElem? (i := 7) (by decide +kernel)))
    · exact va_eqt (hG (.eq (.elem (.static RX2 "FIRST_ROW" "[I") (.int 1)) (.int 1)) (List.mem_of_getElem? (i := 8) (by decide +kernel)))
    · exact va_eqt (hG (.eq (.elem (.static RX2 "FIRST_ROW" "[I") (.int 2)) (.int 3)) (List.mem_of_getElem? (i := 9) (by decide +kernel)))
    · exact va_eqt (hG (.eq (.elem (.static RX2 "FIRST_ROW" "[I") (.int 3)) (.int 2)) (List.mem_of_getElem? (i := 10) (by decide +kernel)))
    · exact va_eqt (hG (.eq (.elem (.static RX2 "FIRST_ROW" "[I") (.int 4)) (.int 1)) (List.mem_of_getElem? (i := 11) (by decide +kernel)))
    · exact va_eqt (hG (.eq (.elem (.static RX2 "FIRST_ROW" "[I") (.int 5)) (.int 0)) (List.mem_of_getElem? (i := 12) (by decide +kernel)))) hA
  exact ⟨t, va_Zof (hT (.laysStatic RX2 "FIRST_ROW" "[I") (List.mem_of_getElem? (i := 122) (by decide +kernel))) (hT (.initialized RX2) (List.mem_of_getElem? (i := 2) (by decide +kernel))) h1 hA, h2⟩
theorem zst_ex {s : State} {args : Array Value} {A : Nat → Prop} (hT : ∀ w ∈ tables_1, w.before args s = true) (hG : ∀ w ∈ flatC (Jvm.Cond.and given_1 narrow_1), w.before args s = true) (hA : ∀ a : Nat, a < s.heap.size → ¬ A a) : zEx A s s.heap := by
  refine ⟨⟨va_Nw.of rfl (hT (.methodLinkNest RX2 105 yX4_otherSide RX4) (List.mem_of_getElem? (i := 447) (by decide +kernel))), va_Nw.of rfl (hT (.methodLinkNest RX4 24 yX0_init RX4) (List.mem_of_getElem? (i := 49) (by decide +kernel))), va_Nw.of rfl (hT (.methodLinkNest RX4 31 yX1_init RX4) (List.mem_of_getElem? (i := 65) (by decide +kernel)))⟩, fun q hq => ?_, fun q hq => va_Nc.of (hG _ (zst_nc q hq)), ?_, ?_, zst_fr hT hG hA, zst_t280 hT hG hA, zst_t282 hT hG hA, fun q hq => va_Nw.of rfl (hT _ (zst_ca q hq)), fun q hq => va_Nw.of rfl (hT _ (zst_de q hq)), ?_, ?_⟩
  · obtain ⟨a, c, cA, kA, q1, -⟩ := Cond.exactly_spec (args := args) (first := s) (o := none) (s := s) (idx := []) (t := .string q.1 q.2.1) (cls := "java/lang/String") (hG _ (zst_str2 q hq))
    exact ⟨a, vk_R.of (hT _ (zst_str1 q hq)) q1⟩
  · exact vx_Zqof (hT (.laysStatic "java/lang/Throwable" "UNASSIGNED_STACK" "[Ljava/lang/StackTraceElement;") (List.mem_of_getElem? (i := 181) (by decide +kernel))) (hT (.initialized "java/lang/Throwable") (List.mem_of_getElem? (i := 9) (by decide +kernel))) (hG (.isRef (.static "java/lang/Throwable" "UNASSIGNED_STACK" "[Ljava/lang/StackTraceElement;")) (List.mem_of_getElem? (i := 13) (by decide +kernel))) hA
  · exact vx_Zqof (hT (.laysStatic "java/lang/Throwable" "SUPPRESSED_SENTINEL" "Ljava/util/List;") (List.mem_of_getElem? (i := 183) (by decide +kernel))) (hT (.initialized "java/lang/Throwable") (List.mem_of_getElem? (i := 9) (by decide +kernel))) (hG (.isRef (.static "java/lang/Throwable" "SUPPRESSED_SENTINEL" "Ljava/util/List;")) (List.mem_of_getElem? (i := 14) (by decide +kernel))) hA
  · exact va_Zof (hT (.laysStatic "java/lang/String" "COMPACT_STRINGS" "Z") (List.mem_of_getElem? (i := 1262) (by decide +kernel))) (hT (.initialized "java/lang/String") (List.mem_of_getElem? (i := 14) (by decide +kernel))) (va_eqt (hG (.eq (.static "java/lang/String" "COMPACT_STRINGS" "Z") (.int 1)) (List.mem_of_getElem? (i := 15) (by decide +kernel)))) hA
  · exact va_Zqof (hT (.laysStatic "jdk/internal/util/Preconditions" "SIOOBE_FORMATTER" "Ljava/util/function/BiFunction;") (List.mem_of_getElem? (i := 1270) (by decide +kernel))) (hT (.initialized "jdk/internal/util/Preconditions") (List.mem_of_getElem? (i := 21) (by decide +kernel))) (hG (.isRef (.static "jdk/internal/util/Preconditions" "SIOOBE_FORMATTER" "Ljava/util/function/BiFunction;")) (List.mem_of_getElem? (i := 16) (by decide +kernel))) hA
theorem zst_K {s : State} {args : Array Value} {A : Nat → Prop} (hts : ∀ w ∈ lw_tbl, w.before args s = true) (hT : ∀ w ∈ tables_1, w.before args s = true) (hG : ∀ w ∈ flatC (Jvm.Cond.and given_1 narrow_1), w.before args s = true) (hA : ∀ a : Nat, a < s.heap.size → ¬ A a) : ∃ (G : va_G) (k : Nat → ClassId), zKK G k A s s.heap := by
  obtain ⟨c0, i0, n0⟩ := u_known (C := RX0) (T := TX0) (N := 3) (n := 3) hts inX0 (hT (.instantiable RX0 3) (List.mem_of_getElem? (i := 48) (by decide +kernel)))
  obtain ⟨c1, i1, n1⟩ := u_known (C := RX1) (T := TX1) (N := 2) (n := 2) hts inX1 (hT (.instantiable RX1 2) (List.mem_of_getElem? (i := 64) (by decide +kernel)))
  obtain ⟨c2, i2, n2⟩ := u_known (C := RX2) (T := TX2) (N := 1) (n := 1) hts inX2 (hT (.instantiable RX2 1) (List.mem_of_getElem? (i := 32) (by decide +kernel)))
  obtain ⟨c3, i3, n3⟩ := u_known (C := RX4) (T := TX4) (N := 8) (n := 8) hts inX4 (hT (.instantiable RX4 8) (List.mem_of_getElem? (i := 24) (by decide +kernel)))
  obtain ⟨c4, i4, n4⟩ := u_known (C := RX5) (T := TX5) (N := 23) (n := 23) hts inX5 (hT (.instantiable RX5 23) (List.mem_of_getElem? (i := 846) (by decide +kernel)))
  obtain ⟨k0, a0, r0⟩ := zst_arr (args := args) (hT (.arrayClass .long) (List.mem_of_getElem? (i := 46) (by decide +kernel))) (fun _ z => nomatch z)
  obtain ⟨k1, a1, r1⟩ := zst_arr (args := args) (hT (.arrayClass .char) (List.mem_of_getElem? (i := 76) (by decide +kernel))) (fun _ z => nomatch z)
  obtain ⟨k2, a2, r2⟩ := zst_arr (args := args) (hT (.arrayClass .int) (List.mem_of_getElem? (i := 927) (by decide +kernel))) (fun _ z => nomatch z)
  obtain ⟨k3, a3, r3⟩ := zst_arr (args := args) (hT (.arrayClass .boolean) (List.mem_of_getElem? (i := 928) (by decide +kernel))) (fun _ z => nomatch z)
  obtain ⟨k4, a4, r4⟩ := zst_arrA (args := args) (hT (.arrayOver (.array .int)) (List.mem_of_getElem? (i := 852) (by decide +kernel)))
  obtain ⟨k5, a5, r5⟩ := zst_arr (args := args) (hT (.arrayClass .double) (List.mem_of_getElem? (i := 1313) (by decide +kernel))) (fun _ z => nomatch z)
  refine ⟨(fun j => if j = 0 then c0 else if j = 1 then c1 else if j = 2 then c2 else if j = 3 then c3 else c4, fun j => if j = 0 then i0 else if j = 1 then i1 else if j = 2 then i2 else if j = 3 then i3 else i4), fun j => if j = 0 then k0 else if j = 1 then k1 else if j = 2 then k2 else if j = 3 then k3 else if j = 4 then k4 else k5, ⟨fun j q hq => ?_, fun j q hq => ?_⟩, zst_ex hT hG hA⟩
  · match j, hq with
    | 0, hq => cases hq; exact n0
    | 1, hq => cases hq; exact n1
    | 2, hq => cases hq; exact n2
    | 3, hq => cases hq; exact n3
    | 4, hq => cases hq; exact n4
    | j + 5, hq => exact nomatch hq
  · match j, hq with
    | 0, hq => cases hq; exact ⟨a0, r0⟩
    | 1, hq => cases hq; exact ⟨a1, r1⟩
    | 2, hq => cases hq; exact ⟨a2, r2⟩
    | 3, hq => cases hq; exact ⟨a3, r3⟩
    | 4, hq => cases hq; exact ⟨a4, r4⟩
    | 5, hq => cases hq; exact ⟨a5, r5⟩
    | j + 6, hq => exact nomatch hq

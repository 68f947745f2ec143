theorem zst_ex {s : State} {args : Array Value} {A : Nat → Prop} (hT : ∀ w ∈ tables_1, w.before args s = true) (hG : ∀ w ∈ flatC (Jvm.Cond.and given_1 narrow_1), w.before args s = true) (hA : ∀ a : Nat, a < s.heap.size → ¬ A a) : zEx A s s.heap := by
  refine ⟨⟨va_Nw.of rfl (hT (.methodLinkNest RX2 105 yX4_otherSide RX4) (List.mem_of_getElem? (i := 449) (by decide +kernel))), va_Nw.of rfl (hT (.methodLinkNest RX4 24 yX0_init RX4) (List.mem_of_getElem? (i := 48) (by decide +kernel))), va_Nw.of rfl (hT (.methodLinkNest RX4 31 yX1_init RX4) (List.mem_of_getElem? (i := 64) (by decide +kernel)))⟩, fun q hq => ?_, fun q hq => va_Nc.of (hG _ (zst_nc q hq)), ?_, ?_, zst_fr hT hG hA, zst_tx hT hG hA, trivial, fun q hq => va_Nw.of rfl (hT _ (zst_ca q hq)), fun q hq => va_Nw.of rfl (hT _ (zst_de q hq)), ?_, ?_⟩
  · obtain ⟨a, c, cA, kA, q1, -⟩ := Cond.exactly_spec (args := args) (first := s) (o := none) (s := s) (idx := []) (t := .string q.1 q.2.1) (cls := "java/lang/String") (hG _ (zst_str2 q hq))
    exact ⟨a, vk_R.of (hT _ (zst_str1 q hq)) q1⟩
  · exact vx_Zqof (hT (.laysStatic "java/lang/Throwable" "UNASSIGNED_STACK" "[Ljava/lang/StackTraceElement;") (List.mem_of_getElem? (i := 182) (by decide +kernel))) (hT (.initialized "java/lang/Throwable") (List.mem_of_getElem? (i := 8) (by decide +kernel))) (hG (.isRef (.static "java/lang/Throwable" "UNASSIGNED_STACK" "[Ljava/lang/StackTraceElement;")) (List.mem_of_getElem? (i := 13) (by decide +kernel))) hA
  · exact vx_Zqof (hT (.laysStatic "java/lang/Throwable" "SUPPRESSED_SENTINEL" "Ljava/util/List;") (List.mem_of_getElem? (i := 184) (by decide +kernel))) (hT (.initialized "java/lang/Throwable") (List.mem_of_getElem? (i := 8) (by decide +kernel))) (hG (.isRef (.static "java/lang/Throwable" "SUPPRESSED_SENTINEL" "Ljava/util/List;")) (List.mem_of_getElem? (i := 14) (by decide +kernel))) hA
  · exact va_Zof (hT (.laysStatic "java/lang/String" "COMPACT_STRINGS" "Z") (List.mem_of_getElem? (i := 542) (by decide +kernel))) (hT (.initialized "java/lang/String") (List.mem_of_getElem? (i := 14) (by decide +kernel))) (va_eqt (hG (.eq (.static "java/lang/String" "COMPACT_STRINGS" "Z") (.int 1)) (List.mem_of_getElem? (i := 15) (by decide +kernel)))) hA
  · exact va_Zqof (hT (.laysStatic "jdk/internal/util/Preconditions" "SIOOBE_FORMATTER" "Ljava/util/function/BiFunction;") (List.mem_of_getElem? (i := 558) (by decide +kernel))) (hT (.initialized "jdk/internal/util/Preconditions") (List.mem_of_getElem? (i := 19) (by decide +kernel))) (hG (.isRef (.static "jdk/internal/util/Preconditions" "SIOOBE_FORMATTER" "Ljava/util/function/BiFunction;")) (List.mem_of_getElem? (i := 16) (by decide +kernel))) hA
theorem zst_K {s : State} {args : Array Value} {A : Nat → Prop} (hts : ∀ w ∈ lw_tbl, w.before args s = true) (hT : ∀ w ∈ tables_1, w.before args s = true) (hG : ∀ w ∈ flatC (Jvm.Cond.and given_1 narrow_1), w.before args s = true) (hA : ∀ a : Nat, a < s.heap.size → ¬ A a) : ∃ (G : va_G) (k : Nat → ClassId), zKK G k A s s.heap := by
  obtain ⟨c0, i0, n0⟩ := u_known (C := RX0) (T := TX0) (N := 3) (n := 3) hts inX0 (hT (.instantiable RX0 3) (List.mem_of_getElem? (i := 47) (by decide +kernel)))
  obtain ⟨c1, i1, n1⟩ := u_known (C := RX1) (T := TX1) (N := 2) (n := 2) hts inX1 (hT (.instantiable RX1 2) (List.mem_of_getElem? (i := 63) (by decide +kernel)))
  obtain ⟨c2, i2, n2⟩ := u_known (C := RX2) (T := TX2) (N := 1) (n := 1) hts inX2 (hT (.instantiable RX2 1) (List.mem_of_getElem? (i := 31) (by decide +kernel)))
  obtain ⟨c3, i3, n3⟩ := u_known (C := RX4) (T := TX4) (N := 8) (n := 8) hts inX4 (hT (.instantiable RX4 8) (List.mem_of_getElem? (i := 23) (by decide +kernel)))
  obtain ⟨k0, a0, r0⟩ := zst_arr (args := args) (hT (.arrayClass .long) (List.mem_of_getElem? (i := 45) (by decide +kernel))) (fun _ z => nomatch z)
  obtain ⟨k1, a1, r1⟩ := zst_arr (args := args) (hT (.arrayClass .char) (List.mem_of_getElem? (i := 75) (by decide +kernel))) (fun _ z => nomatch z)
  obtain ⟨k2, a2, r2⟩ := zst_arr (args := args) (hT (.arrayClass .int) (List.mem_of_getElem? (i := 759) (by decide +kernel))) (fun _ z => nomatch z)
  refine ⟨(fun j => if j = 0 then c0 else if j = 1 then c1 else if j = 2 then c2 else c3, fun j => if j = 0 then i0 else if j = 1 then i1 else if j = 2 then i2 else i3), fun j => if j = 0 then k0 else if j = 1 then k1 else k2, ⟨fun j q hq => ?_, fun j q hq => ?_⟩, zst_ex hT hG hA⟩
  · match j, hq with
    | 0, hq => cases hq; exact n0
    | 1, hq => cases hq; exact n1
    | 2, hq => cases hq; exact n2
    | 3, hq => cases hq; exact n3
    | j + 4, hq => exact nomatch hq
  · match j, hq with
    | 0, hq => cases hq; exact ⟨a0, r0⟩
    | 1, hq => cases hq; exact ⟨a1, r1⟩
    | 2, hq => cases hq; exact ⟨a2, r2⟩
    | j + 3, hq => exact nomatch hq

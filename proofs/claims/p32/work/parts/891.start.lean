/-! the start: the law's texts -/
def zst_p (j : Nat) : Nat := [710, 719, 728, 743, 758, 765, 772, 778, 793, 814, 825, 852, 857].getD j 0
theorem zst_tn : ∀ j, j < 13 → (zTb j).length < 30 := by decide +kernel
theorem zst_x0 : ∀ j, j < 13 → (flatC (Jvm.Cond.and given_1 narrow_1))[23 + j]? = some (Cond.eq (.elem (.static RL "TEXTS" "[Ljava/lang/String;") (.int (Int32.ofNat j))) (.string RL (zTi j))) := by decide +kernel
theorem zst_x1 : ∀ j, j < 13 → (flatC (Jvm.Cond.and given_1 narrow_1))[zst_p j]? = some (Cond.exactly (.string RL (zTi j)) "java/lang/String") := by decide +kernel
theorem zst_x2 : ∀ j, j < 13 → (flatC (Jvm.Cond.and given_1 narrow_1))[zst_p j + 1]? = some (Cond.eq (.field (.string RL (zTi j)) "java/lang/String" "coder" "B") (.int 0)) := by decide +kernel
theorem zst_x3 : ∀ j, j < 13 → (flatC (Jvm.Cond.and given_1 narrow_1))[zst_p j + 2]? = some (Cond.arrayOf (.field (.string RL (zTi j)) "java/lang/String" "value" "[B") .byte) := by decide +kernel
theorem zst_x4 : ∀ j, j < 13 → (flatC (Jvm.Cond.and given_1 narrow_1))[zst_p j + 3]? = some (Cond.eq (.length (.field (.string RL (zTi j)) "java/lang/String" "value" "[B")) (.int (Int32.ofNat (zTb j).length))) := by decide +kernel
theorem zst_x5 : ∀ j, j < 13 → ∀ i, i < (zTb j).length → (flatC (Jvm.Cond.and given_1 narrow_1))[zst_p j + 4 + i]? = some (Cond.eq (.elem (.field (.string RL (zTi j)) "java/lang/String" "value" "[B") (.int (Int32.ofNat i))) (.int ((zTb j).getD i 0))) := by decide +kernel
theorem zst_tj {s : State} {args : Array Value} {A : Nat → Prop} (hG : ∀ w ∈ flatC (Jvm.Cond.and given_1 narrow_1), w.before args s = true) (hA : ∀ a : Nat, a < s.heap.size → ¬ A a) (j : Nat) (hj : j < 13) : ∃ q v : Nat, zStr (zTb j) q v A s s.heap ∧ (Term.string RL (zTi j)).eval args s none [] s = some (.ref q) := by
  obtain ⟨adK, adV, h1, h2⟩ := vk_Sof (args := args) (s := s) (N := 1) (tm := fun _ => .string RL (zTi j)) (len := [(zTb j).length]) (byt := [zTb j]) (A := A) (fun i hi => by
      obtain rfl : i = 0 := by omega
      have h := zst_tn j hj
      show (zTb j).length < 2 ^ 31
      omega) (fun i hi => hG _ (List.mem_of_getElem? (zst_x1 j hj))) (fun i hi => hG _ (List.mem_of_getElem? (zst_x2 j hj))) (fun i hi => hG _ (List.mem_of_getElem? (zst_x3 j hj))) (fun i hi => by
      obtain rfl : i = 0 := by omega
      exact hG _ (List.mem_of_getElem? (zst_x4 j hj))) (fun i hi t ht => by
      obtain rfl : i = 0 := by omega
      exact hG _ (List.mem_of_getElem? (zst_x5 j hj t ht))) (fun i j hi hj hne => absurd (show i = j by omega) hne) hA
  exact ⟨adK 0, adV 0, zst_S h1 rfl rfl, h2 0 (by omega)⟩
theorem zst_tx {s : State} {args : Array Value} {A : Nat → Prop} (hT : ∀ w ∈ tables_1, w.before args s = true) (hG : ∀ w ∈ flatC (Jvm.Cond.and given_1 narrow_1), w.before args s = true) (hA : ∀ a : Nat, a < s.heap.size → ¬ A a) : zTx A s s.heap := by
  have h0 : ∀ j : Nat, ∃ q : Nat × Nat, j < 13 → zStr (zTb j) q.1 q.2 A s s.heap ∧ (Term.string RL (zTi j)).eval args s none [] s = some (.ref q.1) := fun j => by
    by_cases hj : j < 13
    · obtain ⟨q, v, h1, h2⟩ := zst_tj hG hA j hj
      exact ⟨(q, v), fun _ => ⟨h1, h2⟩⟩
    · exact ⟨(0, 0), fun h => absurd h hj⟩
  obtain ⟨ad, had⟩ := Classical.axiomOfChoice h0
  obtain ⟨t, h1, h2⟩ := va_Tof (args := args) (s := s) (tm := .static RL "TEXTS" "[Ljava/lang/String;") (ty := .object "java/lang/String") (N := 13) (f := fun j => .ref (ad j).1) (A := A) (show _ < 2 ^ 31 by decide) (hG (.arrayOf (.static RL "TEXTS" "[Ljava/lang/String;") (.object "java/lang/String")) (List.mem_of_getElem? (i := 21) (by decide +kernel))) (va_eqt (hG (.eq (.length (.static RL "TEXTS" "[Ljava/lang/String;")) (.int 13)) (List.mem_of_getElem? (i := 22) (by decide +kernel)))) (fun j hj => va_eqv (hG _ (List.mem_of_getElem? (zst_x0 j hj))) (had j hj).2) hA
  exact ⟨t, fun j => (ad j).1, fun j => (ad j).2, va_Zof (hT (.laysStatic RL "TEXTS" "[Ljava/lang/String;") (List.mem_of_getElem? (i := 694) (by decide +kernel))) (hT (.initialized RL) (List.mem_of_getElem? (i := 0) (by decide +kernel))) h1 hA, h2, fun j hj => (had j hj).1⟩

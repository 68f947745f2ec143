/-! what stays as it was at the start: tables, constants, statics -/
def zSTR : List (String × Nat × String) := [("SealedBoard", 268, "no such account"), ("SealedBoard", 279, "no change is remembered"), ("SealedBoard", 288, "nothing was saved"), ("SealedBoard", 245, "the input is malformed"), ("SealedBoard", 307, "the turn is refused"), ("SealedBoard", 228, "the character code is out of range"), ("SealedBoard", 233, "the input is full"), ("SealedBoard", 293, "no such side"), ("SealedBoard", 295, "no such square"), ("SealedBoard", 72, "no such kind"), ("SealedBoard", 297, "a turn was taken"), ("SealedBoard", 299, "something is on the square"), ("SealedBoard", 86, "the side has a keeper"), ("SealedBoard", 127, "no such number of a square"), ("SealedBoard", 301, "no piece on the square"), ("SealedBoard", 198, "no such room"), ("SealedBoard", 201, "no such number of a room"), ("SealedBoard", 190, "the square is not open to the side"), ("SealedBoard", 218, "the square cannot be reached"), ("SealedBoard", 225, "no square is open to the side"), ("SealedBoard", 167, "the game is over"), ("SealedBoard", 174, "there is no move"), ("SealedBoard", 179, "no piece of the side whose turn it is"), ("SealedBoard", 303, "the piece cannot move there")]
def zNCl : List (String × String) := [("SealedBoard", "java/util/NoSuchElementException"), ("SealedBoard$Position", "java/util/NoSuchElementException"), ("SealedBoard$History", "java/util/NoSuchElementException"), ("SealedBoard$Input", "java/util/NoSuchElementException"), ("java/lang/IllegalArgumentException", "java/util/NoSuchElementException"), ("java/lang/IndexOutOfBoundsException", "java/util/NoSuchElementException"), ("java/lang/ArrayIndexOutOfBoundsException", "java/util/NoSuchElementException"), ("java/lang/IllegalStateException", "java/util/NoSuchElementException"), ("java/lang/UnsupportedOperationException", "java/util/NoSuchElementException"), ("java/lang/ArithmeticException", "java/util/NoSuchElementException"), ("SealedBoard", "java/lang/IllegalStateException"), ("SealedBoard$Position", "java/lang/IllegalStateException"), ("SealedBoard$History", "java/lang/IllegalStateException"), ("SealedBoard$Input", "java/lang/IllegalStateException"), ("java/lang/IllegalArgumentException", "java/lang/IllegalStateException"), ("java/lang/IndexOutOfBoundsException", "java/lang/IllegalStateException"), ("java/lang/ArrayIndexOutOfBoundsException", "java/lang/IllegalStateException"), ("java/lang/UnsupportedOperationException", "java/lang/IllegalStateException"), ("java/util/NoSuchElementException", "java/lang/IllegalStateException"), ("java/lang/ArithmeticException", "java/lang/IllegalStateException"), ("SealedBoard", "java/lang/IllegalArgumentException"), ("SealedBoard$Position", "java/lang/IllegalArgumentException"), ("SealedBoard$History", "java/lang/IllegalArgumentException"), ("SealedBoard$Input", "java/lang/IllegalArgumentException"), ("java/lang/IndexOutOfBoundsException", "java/lang/IllegalArgumentException"), ("java/lang/ArrayIndexOutOfBoundsException", "java/lang/IllegalArgumentException"), ("java/lang/IllegalStateException", "java/lang/IllegalArgumentException"), ("java/lang/UnsupportedOperationException", "java/lang/IllegalArgumentException"), ("java/util/NoSuchElementException", "java/lang/IllegalArgumentException"), ("java/lang/ArithmeticException", "java/lang/IllegalArgumentException"), ("SealedBoard", "java/lang/UnsupportedOperationException"), ("SealedBoard$Position", "java/lang/UnsupportedOperationException"), ("SealedBoard$History", "java/lang/UnsupportedOperationException"), ("SealedBoard$Input", "java/lang/UnsupportedOperationException"), ("java/lang/IllegalArgumentException", "java/lang/UnsupportedOperationException"), ("java/lang/IndexOutOfBoundsException", "java/lang/UnsupportedOperationException"), ("java/lang/ArrayIndexOutOfBoundsException", "java/lang/UnsupportedOperationException"), ("java/lang/IllegalStateException", "java/lang/UnsupportedOperationException"), ("java/util/NoSuchElementException", "java/lang/UnsupportedOperationException"), ("java/lang/ArithmeticException", "java/lang/UnsupportedOperationException"), ("SealedBoard", "java/lang/IndexOutOfBoundsException"), ("SealedBoard$Position", "java/lang/IndexOutOfBoundsException"), ("SealedBoard$History", "java/lang/IndexOutOfBoundsException"), ("SealedBoard$Input", "java/lang/IndexOutOfBoundsException"), ("java/lang/IllegalArgumentException", "java/lang/IndexOutOfBoundsException"), ("java/lang/IllegalStateException", "java/lang/IndexOutOfBoundsException"), ("java/lang/UnsupportedOperationException", "java/lang/IndexOutOfBoundsException"), ("java/util/NoSuchElementException", "java/lang/IndexOutOfBoundsException"), ("java/lang/ArithmeticException", "java/lang/IndexOutOfBoundsException"), ("SealedBoard", "java/lang/ArithmeticException"), ("SealedBoard$Position", "java/lang/ArithmeticException"), ("SealedBoard$History", "java/lang/ArithmeticException"), ("SealedBoard$Input", "java/lang/ArithmeticException"), ("java/lang/IllegalArgumentException", "java/lang/ArithmeticException"), ("java/lang/IndexOutOfBoundsException", "java/lang/ArithmeticException"), ("java/lang/ArrayIndexOutOfBoundsException", "java/lang/ArithmeticException"), ("java/lang/IllegalStateException", "java/lang/ArithmeticException"), ("java/lang/UnsupportedOperationException", "java/lang/ArithmeticException"), ("java/util/NoSuchElementException", "java/lang/ArithmeticException")]
def zFR : Nat → Value := fun j => .int (([0, 1, 3, 2, 1, 0] : List Int32).getD j 0)
/-- the bytes of the law's j-th text, and where they stand -/
def zTb (j : Nat) : List Int32 := match j with
  | 0 => [97, 49, 45, 97, 50]
  | 1 => [98, 49, 45, 98, 52]
  | 2 => [97, 49, 45, 97, 50, 59, 97, 54, 45, 97, 53]
  | 3 => [100, 49, 45, 100, 51, 59, 100, 54, 45, 100, 52]
  | 4 => [43, 98, 50]
  | 5 => [42, 99, 51]
  | 6 => [97, 49]
  | 7 => [101, 49, 45, 101, 53, 59, 101, 54, 45, 101, 50]
  | 8 => [98, 49, 45, 98, 51, 59, 98, 54, 45, 98, 52, 59, 99, 49, 45, 99, 50]
  | 9 => [43, 99, 49, 59, 43, 99, 54]
  | 10 => [102, 49, 45, 102, 50, 59, 102, 54, 45, 102, 53, 59, 102, 50, 45, 102, 51, 59, 102, 53, 45, 102, 52]
  | 11 => [120]
  | 12 => [99, 49, 45, 99, 50, 59, 99, 54, 45, 99, 53, 59, 99, 50, 45, 99, 51]
  | _ => []
def zTi (j : Nat) : Nat := match j with
  | 0 => 202
  | 1 => 204
  | 2 => 206
  | 3 => 208
  | 4 => 210
  | 5 => 212
  | 6 => 214
  | 7 => 216
  | 8 => 218
  | 9 => 220
  | 10 => 222
  | 11 => 224
  | 12 => 226
  | _ => 0
def zStr (b : List Int32) (q v : Nat) (A : Nat → Prop) (U : State) (H : Heap) : Prop := vk_S 1 [b.length] [b] (fun _ => q) (fun _ => v) A U H
def zTx (A : Nat → Prop) (U : State) (H : Heap) : Prop := ∃ (t : Nat) (adK adV : Nat → Nat), va_Z RL "TEXTS" "[Ljava/lang/String;" (.ref t) A U H ∧ va_T (.object "java/lang/String") t 13 (fun j => .ref (adK j)) A U H ∧ ∀ j, j < 13 → zStr (zTb j) (adK j) (adV j) A U H
def zCa : List String := ["java/lang/IndexOutOfBoundsException", "java/lang/IllegalArgumentException", "java/lang/IllegalStateException", "java/lang/UnsupportedOperationException", "java/util/NoSuchElementException", "java/lang/ArithmeticException"]
def zDe : List String := ["java/lang/RuntimeException", "java/lang/Exception", "java/lang/Throwable"]
abbrev zIn (C : String) : MethodName := ⟨C, "<init>", "(Ljava/lang/String;)V"⟩
def zEx (A : Nat → Prop) (U : State) (H : Heap) : Prop :=
  (va_Nw (Cond.methodLinkNest RX2 105 yX4_otherSide RX4) U ∧ va_Nw (Cond.methodLinkNest RX4 24 yX0_init RX4) U ∧ va_Nw (Cond.methodLinkNest RX4 31 yX1_init RX4) U) ∧
  (∀ q ∈ zSTR, ∃ a : Nat, vk_R q.1 q.2.1 q.2.2 a U) ∧ (∀ q ∈ zNCl, va_Nc q.1 q.2 U) ∧
  vx_Zq Bundle.tN "UNASSIGNED_STACK" Bundle.steD A U H ∧ vx_Zq Bundle.tN "SUPPRESSED_SENTINEL" Bundle.listD A U H ∧
  (∃ t : Nat, va_Z RX2 "FIRST_ROW" "[I" (.ref t) A U H ∧ va_T .int t 6 zFR A U H) ∧ zTx A U H ∧ True ∧
  (∀ q ∈ zCa, va_Nw (Cond.castable q q) U) ∧ (∀ q ∈ zDe, va_Nw (Cond.declares (zIn q)) U) ∧
  va_Z "java/lang/String" "COMPACT_STRINGS" "Z" (.int 1) A U H ∧ va_Zq "jdk/internal/util/Preconditions" "SIOOBE_FORMATTER" "Ljava/util/function/BiFunction;" A U H
theorem zTx.warm {A B : Nat → Prop} {s U : State} {H H1 : Heap} (h : zTx A s H) (hW : s.WarmedH U.vm) (hq : ∀ a : Nat, a < H.size → ¬ A a → H1[a]? = H[a]?) (hAB : ∀ q, B q → A q) : zTx B U H1 := by
  obtain ⟨t, aK, aV, h1, h2, h3⟩ := h
  exact ⟨t, aK, aV, va_Z.moved hW.alike ((h1.kept hq).narrow hAB), va_T.moved hW.alike ((h2.kept hq).narrow hAB), fun j hj => vk_S.moved hW.alike ((vk_S.kept (h3 j hj) hq).narrow hAB)⟩
theorem zEx.warm {A B : Nat → Prop} {s U : State} {H H1 : Heap} (h : zEx A s H) (hW : s.WarmedH U.vm) (hq : ∀ a : Nat, a < H.size → ¬ A a → H1[a]? = H[a]?) (hAB : ∀ q, B q → A q) : zEx B U H1 := by
  obtain ⟨⟨h1, h2, h3⟩, h4, h5, h6, h7, ⟨t, h8, h9⟩, h10, h11, h12, h13, h14, h15⟩ := h
  refine ⟨⟨va_Nw.warmM hW h1, va_Nw.warmM hW h2, va_Nw.warmM hW h3⟩, fun q hq => ?_, fun q hq => va_Nc.moved hW.alike (h5 q hq), vx_Zq.moved hW.alike ((h6.kept hq).narrow hAB), vx_Zq.moved hW.alike ((h7.kept hq).narrow hAB),
    ⟨t, va_Z.moved hW.alike ((h8.kept hq).narrow hAB), va_T.moved hW.alike ((h9.kept hq).narrow hAB)⟩, h10.warm hW hq hAB, trivial, fun q hq => va_Nw.warmC hW (h12 q hq), fun q hq => va_Nw.warmD hW (h13 q hq), va_Z.moved hW.alike ((h14.kept hq).narrow hAB), va_Zq.moved hW.alike ((h15.kept hq).narrow hAB)⟩
  obtain ⟨a, ha⟩ := h4 q hq
  exact ⟨a, vk_R.warm hW ha⟩
theorem zwarm_eq {u U : State} (h : u.vm = U.vm) : u.WarmedH U.vm := by rw [← h]; exact State.WarmedH.refl u
abbrev zBad (E : String) : List Cond := [Cond.castable E E, Cond.declares (zIn "java/lang/RuntimeException"), Cond.declares (zIn "java/lang/Exception"), Cond.declares (zIn "java/lang/Throwable")]
theorem zbad {A : Nat → Prop} {U : State} {H : Heap} {args : Array Value} (h : zEx A U H) {E : String} (hE : E ∈ zCa) : ∀ w ∈ zBad E, w.before args U = true := by
  obtain ⟨-, -, -, -, -, -, -, -, h12, h13, -⟩ := h
  exact vx_c (va_Nw.use rfl (h12 E hE)) (vx_c (va_Nw.use rfl (h13 _ (by decide))) (vx_c (va_Nw.use rfl (h13 _ (by decide))) (vx_c (va_Nw.use rfl (h13 _ (by decide))) vx_n)))

/-! PURE 3: the board b (what is on each square, doors, coins, turns, ending), the model's row of it and the Position's row of it -/
def ysd (c : Nat) : Nat := if 1 ≤ c ∧ c ≤ 4 then 0 else if 5 ≤ c ∧ c ≤ 8 then 1 else 2
def ykd (c : Nat) : Nat := if 1 ≤ c ∧ c ≤ 8 then (c - 1) % 4 else 9
def ymd (c : Nat) : Nat := if 20 ≤ c then ysd (c - 20) else 2
def ykk (c : Nat) : Nat := if 20 ≤ c then ykd (c - 20) else ykd c
def ywl (c : Nat) : Bool := decide (20 ≤ c)
def yop (b : Nat → Nat) (s q : Nat) : Bool := !ywl (b q) && !decide (b (36 + q) = 2 - s)
def yfr (b : Nat → Nat) (s q : Nat) : Bool := yop b s q && decide (b q = 0)
def ypc (b : Nat → Nat) (s q : Nat) : Bool := decide (ysd (b q) = s)
def yI (n m : Nat) : Int32 := if n ≤ m then nI n else -1
def yN (now : Nat → Int32) (b : Nat → Nat) : Prop := ∀ j, j < 76 → now j = nI (b j)
def yV (b : Nat → Nat) : Prop :=
  (∀ q, q < 36 → b q ≤ 8 ∨ (20 ≤ b q ∧ b q ≤ 28)) ∧ (∀ q, q < 36 → b (36 + q) ≤ 2) ∧ (∀ q, q < 36 → 20 ≤ b q → b (36 + q) = 0) ∧ (∀ q, q < 36 → ysd (b q) ≤ 1 → b (36 + q) = 0 ∨ b (36 + q) = ysd (b q) + 1) ∧
  b 72 ≤ 1000 ∧ b 73 ≤ 1000 ∧ b 74 ≤ 60 ∧ b 75 ≤ 3 ∧ (b 75 = 0 → b 74 ≤ 60) ∧
  (∀ s q r, s ≤ 1 → q < 36 → r < 36 → b q = 4 + 4 * s → b r = 4 + 4 * s → q = r)
/-- .. and a game that goes on has turns left -/
def yU (b : Nat → Nat) : Prop := (b 75 = 0 → b 74 < 60) ∧ b 72 ≤ 3 + 8 * b 74 ∧ b 73 ≤ 3 + 8 * b 74
def yV2 (b : Nat → Nat) : Prop := yV b ∧ yU b
def yP (f : Nat → Int64) (b : Nat → Nat) : Prop :=
  (∀ s, s ≤ 1 → ySW (f s) (ypc b s)) ∧ (∀ s, s ≤ 1 → ySW (f (2 + s)) (fun q => decide (b (36 + q) = s + 1))) ∧ (∀ s, s ≤ 1 → ySW (f (4 + s)) (fun q => decide (ymd (b q) = s))) ∧
  (∀ k, k < 4 → ySW (f (6 + k)) (fun q => decide (ykk (b q) = k))) ∧ ySW (f 10) (fun q => ywl (b q)) ∧ f 11 = lN (b 72) ∧ f 12 = lN (b 73) ∧ f 13 = lN (b 74) ∧ f 14 = lN (b 75)
theorem yV_28 {b : Nat → Nat} (h : yV b) {q : Nat} (hq : q < 36) : b q ≤ 28 := by
  have := h.1 q hq
  omega
theorem yV_74 {b : Nat → Nat} (h : yV b) : b 72 ≤ 1000 ∧ b 73 ≤ 1000 ∧ b 74 ≤ 60 ∧ b 75 ≤ 3 := by
  obtain ⟨-, -, -, -, h5, h6, h7, h8, -, -⟩ := h
  omega
/-! literals -/
theorem tn_n {n : Nat} (h : n < 2000) : (nI n).toNatClampNeg = n := nI_clamp (by omega)
theorem tn_72 : (72 : Int32).toNatClampNeg = 72 := by decide +kernel
theorem tn_73 : (73 : Int32).toNatClampNeg = 73 := by decide +kernel
theorem tn_74 : (74 : Int32).toNatClampNeg = 74 := by decide +kernel
theorem tn_75 : (75 : Int32).toNatClampNeg = 75 := by decide +kernel
theorem zk_72 {β : Type} (x : Option β) : zck (zin (72 : Int32) 76) x = x := zck_N (k := 72) (by omega) (by omega)
theorem zk_73 {β : Type} (x : Option β) : zck (zin (73 : Int32) 76) x = x := zck_N (k := 73) (by omega) (by omega)
theorem zk_74 {β : Type} (x : Option β) : zck (zin (74 : Int32) 76) x = x := zck_N (k := 74) (by omega) (by omega)
theorem zk_75 {β : Type} (x : Option β) : zck (zin (75 : Int32) 76) x = x := zck_N (k := 75) (by omega) (by omega)
theorem zbo_1 {β : Type} (x : Option β) : zck (zbo 1) x = x := rfl
theorem zbo_0 {β : Type} (x : Option β) : zck (zbo 0) x = x := rfl
def yb (x : Bool) : Int32 := if x then 1 else 0
theorem zbo_b {β : Type} (c : Bool) (x : Option β) : zck (zbo (yb c)) x = x := by cases c <;> rfl
theorem yb_0 {c : Bool} : yb c = 0 ↔ c = false := by cases c <;> decide
theorem yb_t : yb true = 1 := rfl
theorem yb_f : yb false = 0 := rfl
theorem nI_z {n : Nat} (h : n < 2 ^ 31) : nI n = (0 : Int32) ↔ n = 0 := nI_eq (b := 0) h (by omega)
/-! loops that count -/
theorem lp_ct {β : Type} (F : Nat → Int32 → Nat → Option β) (R : Int32 → Option β) (P : Nat → Bool) (N : Nat) (hz : ∀ n a x, N ≤ x → x ≤ N → F (n + 1) a x = R a)
    (hs : ∀ n a x, x < N → F (n + 1) a x = F n (a + yb (P x)) (x + 1)) : ∀ d x n k, x + d = N → d < n → F n (nI k) x = R (nI (k + (fb_ct P N - fb_ct P x))) := by
  intro d
  induction d with
  | zero =>
    intro x n k hx hn
    cases n with
    | zero => omega
    | succ n =>
      rw [hz n _ x (by omega) (by omega)]
      congr 2
      rw [show N = x by omega]
      omega
  | succ d ih =>
    intro x n k hx hn
    cases n with
    | zero => omega
    | succ n =>
      rw [hs n _ x (by omega)]
      have e : nI k + yb (P x) = nI (k + if P x = true then 1 else 0) := by
        cases P x
        · exact nI_add k 0
        · exact nI_add k 1
      rw [e, ih (x + 1) n _ (by omega) (by omega)]
      congr 2
      have a := fb_ct_succ P x
      have b := fb_ct_mono P (show x + 1 ≤ N by omega)
      rw [a] at b ⊢
      omega
theorem lp_ct0 {β : Type} (F : Nat → Int32 → Nat → Option β) (R : Int32 → Option β) (P : Nat → Bool) (N : Nat) (hN : N < 3000) (hz : ∀ n a x, N ≤ x → x ≤ N → F (n + 1) a x = R a)
    (hs : ∀ n a x, x < N → F (n + 1) a x = F n (a + yb (P x)) (x + 1)) : F zFu 0 0 = R (nI (fb_ct P N)) := by
  have h := lp_ct F R P N hz hs N 0 zFu 0 (by omega) (by unfold zFu; omega)
  rw [show (0 : Int32) = nI 0 from rfl, h]
  congr 2
  show 0 + (fb_ct P N - 0) = _
  omega
theorem yI_lt {n m : Nat} (h : n ≤ m) : yI n m = nI n := if_pos h
theorem yI_ge {n m : Nat} (h : ¬ n ≤ m) : yI n m = -1 := if_neg h
theorem ysd_le : ∀ c, c < 29 → ysd c ≤ 2 := by decide +kernel
theorem yI_sd {c s : Nat} (hs : s ≤ 1) : yI (ysd c) 1 = nI s ↔ ysd c = s := by
  unfold yI
  by_cases g : ysd c ≤ 1
  · rw [if_pos g]; exact nI_eq (by omega) (by omega)
  · rw [if_neg g]
    constructor
    · intro z
      exfalso
      rcases (show s = 0 ∨ s = 1 by omega) with rfl | rfl <;> revert z <;> decide
    · intro z; omega
/-- where the keeper is -/
def yKp (b : Nat → Nat) (s : Nat) (r : Int32) : Prop := (∃ q, q < 36 ∧ b q = 4 + 4 * s ∧ r = nI q) ∨ ((∀ q, q < 36 → b q ≠ 4 + 4 * s) ∧ r = -1)
theorem yKp_u {b : Nat → Nat} (hv : yV b) {s : Nat} (hs : s ≤ 1) {r t : Int32} (h : yKp b s r) (g : yKp b s t) : r = t := by
  rcases h with ⟨q, a1, a2, a3⟩ | ⟨a1, a2⟩
  · rcases g with ⟨q2, c1, c2, c3⟩ | ⟨c1, c2⟩
    · rw [a3, c3, hv.2.2.2.2.2.2.2.2.2 s q q2 hs a1 c1 a2 c2]
    · exact absurd a2 (c1 q a1)
  · rcases g with ⟨q2, c1, c2, c3⟩ | ⟨c1, c2⟩
    · exact absurd c2 (a1 q2 c1)
    · rw [a2, c2]

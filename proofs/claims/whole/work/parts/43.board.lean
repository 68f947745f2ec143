/-! PURE 3: the board b (what is on each square, doors, coins, turns, ending), the model's row of it and the Position's row of it -/
def ysd (c : Nat) : Nat := if 1 ≤ c ∧ c ≤ 4 then 0 else if 5 ≤ c ∧ c ≤ 8 then 1 else 2
def ykd (c : Nat) : Nat := if 1 ≤ c ∧ c ≤ 8 then (c - 1) % 4 else 9
def ymd (c : Nat) : Nat := if 20 ≤ c then ysd (c - 20) else 2
def ykk (c : Nat) : Nat := if 20 ≤ c then ykd (c - 20) else ykd c
def ywl (c : Nat) : Bool := decide (20 ≤ c)
def yop (b : Nat → Nat) (s q : Nat) : Bool := !ywl (b q) && !decide (b (36 + q) = 2 - s)
def yfr (b : Nat → Nat) (s q : Nat) : Bool := yop b s q && decide (b q = 0)
def ypc (b : Nat → Nat) (s q : Nat) : Bool := decide (ysd (b q) = s)
def yI (n m : Nat) : Int32 := if n ≤ m then nI n else -1
def yN (now : Nat → Int32) (b : Nat → Nat) : Prop := ∀ j, j < 76 → now j = nI (b j)
def yV (b : Nat → Nat) : Prop :=
  (∀ q, q < 36 → b q ≤ 8 ∨ (20 ≤ b q ∧ b q ≤ 28)) ∧ (∀ q, q < 36 → b (36 + q) ≤ 2) ∧ (∀ q, q < 36 → 20 ≤ b q → b (36 + q) = 0) ∧ (∀ q, q < 36 → ysd (b q) ≤ 1 → b (36 + q) = 0 ∨ b (36 + q) = ysd (b q) + 1) ∧
  b 72 ≤ 1000 ∧ b 73 ≤ 1000 ∧ b 74 ≤ 60 ∧ b 75 ≤ 3 ∧ (b 75 = 0 → b 74 ≤ 60) ∧
  (∀ s q r, s ≤ 1 → q < 36 → r < 36 → b q = 4 + 4 * s → b r = 4 + 4 * s → q = r)
/-- .. and a game that goes on has turns left -/
def yU (b : Nat → Nat) : Prop := (b 75 = 0 → b 74 < 60) ∧ b 72 ≤ 3 + 8 * b 74 ∧ b 73 ≤ 3 + 8 * b 74
def yV2 (b : Nat → Nat) : Prop := yV b ∧ yU b
def yP (f : Nat → Int64) (b : Nat → Nat) : Prop :=
  (∀ s, s ≤ 1 → ySW (f s) (ypc b s)) ∧ (∀ s, s ≤ 1 → ySW (f (2 + s)) (fun q => decide (b (36 + q) = s + 1))) ∧ (∀ s, s ≤ 1 → ySW (f (4 + s)) (fun q => decide (ymd (b q) = s))) ∧
  (∀ k, k < 4 → ySW (f (6 + k)) (fun q => decide (ykk (b q) = k))) ∧ ySW (f 10) (fun q => ywl (b q)) ∧ f 11 = lN (b 72) ∧ f 12 = lN (b 73) ∧ f 13 = lN (b 74) ∧ f 14 = lN (b 75)
theorem yV_28 {b : Nat → Nat} (h : yV b) {q : Nat} (hq : q < 36) : b q ≤ 28 := by
  have := h.1 q hq
  omega
theorem yV_74 {b : Nat → Nat} (h : yV b) : b 72 ≤ 1000 ∧ b 73 ≤ 1000 ∧ b 74 ≤ 60 ∧ b 75 ≤ 3 := by
  obtain ⟨-, -, -, -, h5, h6, h7, h8, -, -⟩ := h
  omega
/-! literals -/
theorem tn_n {n : Nat} (h : n < 2000) : (nI n).toNatClampNeg = n := nI_clamp (by omega)
theorem tn_72 : (72 : Int32).toNatClampNeg = 72 := by decide +kernel
theorem tn_73 : (73 : Int32).toNatClampNeg = 73 := by decide +kernel
theorem tn_74 : (74 : Int32).toNatClampNeg = 74 := by decide +kernel
theorem tn_75 : (75 : Int32).toNatClampNeg = 75 := by decide +kernel
theorem zk_72 {β : Type} (x : Option β) : zck (zin (72 : Int32) 76) x = x := zck_N (k := 72) (by omega) (by omega)
theorem zk_73 {β : Type} (x : Option β) : zck (zin (73 : Int32) 76) x = x := zck_N (k := 73) (by omega) (by omega)
theorem zk_74 {β : Type} (x : Option β) : zck (zin (74 : Int32) 76) x = x := zck_N (k := 74) (by omega) (by omega)
theorem zk_75 {β : Type} (x : Option β) : zck (zin (75 : Int32) 76) x = x := zck_N (k := 75) (by omega) (by omega)
theorem zbo_1 {β : Type} (x : Option β) : zck (zbo 1) x = x := rfl
theorem zbo_0 {β : Type} (x : Option β) : zck (zbo 0) x = x := rfl
def yb (x : Bool) : Int32 := if x then 1 else 0
theorem zbo_b {β : Type} (c : Bool) (x : Option β) : zck (zbo (yb c)) x = x := by cases c <;> rfl
theorem yb_0 {c : Bool} : yb c = 0 ↔ c = false := by cases c <;> decide
theorem yb_t : yb true = 1 := rfl
theorem yb_f : yb false = 0 := rfl
theorem nI_z {n : Nat} (h : n < 2 ^ 31) : nI n = (0 : Int32) ↔ n = 0 := nI_eq (b := 0) h (by omega)
/-! loops that count -/
theorem lp_ct {β : Type} (F : Nat → Int32 → Nat → Option β) (R : Int32 → Option β) (P : Nat → Bool) (N : Nat) (hz : ∀ n a x, N ≤ x → x ≤ N → F (n + 1) a x = R a)
    (hs : ∀ n a x, x < N → F (n + 1) a x = F n (a + yb (P x)) (x + 1)) : ∀ d x n k, x + d = N → d < n → F n (nI k) x = R (nI (k + (fb_ct P N - fb_ct P x))) := by
  intro d
  induction d with
  | zero =>
    intro x n k hx hn
    cases n with
    | zero => omega
    | succ n =>
      rw [hz n _ x (by omega) (by omega)]
      congr 2
      rw [show N = x by omega]
      omega
  | succ d ih =>
    intro x n k hx hn
    cases n with
    | zero => omega
    | succ n =>
      rw [hs n _ x (by omega)]
      have e : nI k + yb (P x) = nI (k + if P x = true then 1 else 0) := by
        cases P x
        · exact nI_add k 0
        · exact nI_add k 1
      rw [e, ih (x + 1) n _ (by omega) (by omega)]
      congr 2
      have a := fb_ct_succ P x
      have b := fb_ct_mono P (show x + 1 ≤ N by omega)
      rw [a] at b ⊢
      omega
theorem lp_ct0 {β : Type} (F : Nat → Int32 → Nat → Option β) (R : Int32 → Option β) (P : Nat → Bool) (N : Nat) (hN : N < 3000) (hz : ∀ n a x, N ≤ x → x ≤ N → F (n + 1) a x = R a)
    (hs : ∀ n a x, x < N → F (n + 1) a x = F n (a + yb (P x)) (x + 1)) : F zFu 0 0 = R (nI (fb_ct P N)) := by
  have h := lp_ct F R P N hz hs N 0 zFu 0 (by omega) (by unfold zFu; omega)
  rw [show (0 : Int32) = nI 0 from rfl, h]
  congr 2
  show 0 + (fb_ct P N - 0) = _
  omega
/-! the model's small methods -/
theorem m_sideOf : ∀ c, c < 29 → fX5_sideOf (nI c) = some (yI (ysd c) 1) := by decide +kernel
theorem m_kindOf : ∀ c, c < 29 → fX5_kindOf (nI c) = some (yI (ykd c) 3) := by decide +kernel
theorem m_codeOf : ∀ s, s < 2 → ∀ k, k < 4 → fX5_codeOf (nI s) (nI k) = some (nI (1 + 4 * s + k)) := by decide +kernel
theorem m_next : ∀ q, q < 36 → ∀ w, w < 4 → fX5_next (nI q) (nI w) = some (yI (ynb q w) 35) := by decide +kernel
theorem m_isWall {now : Nat → Int32} {b : Nat → Nat} (h : yN now b) (hv : yV b) {q : Nat} (hq : q < 36) : fX5_isWall now (nI q) = some (yb (ywl (b q))) := by
  unfold fX5_isWall
  have := yV_28 hv hq
  rw [zck_N (by omega) (by omega), tn_n (by omega), h q (by omega)]
  unfold ywl
  by_cases g : 20 ≤ b q
  · rw [if_neg (show ¬ nI (b q) < (20 : Int32) from nI_nlt g (by omega)), decide_eq_true g, yb_t]
  · rw [if_pos (show nI (b q) < (20 : Int32) from nI_lt (b := 20) (by omega) (by omega)), decide_eq_false g, yb_f]
theorem m_isOpen {now : Nat → Int32} {b : Nat → Nat} (h : yN now b) (hv : yV b) {s q : Nat} (hs : s ≤ 1) (hq : q < 36) : fX5_isOpen now (nI s) (nI q) = some (yb (yop b s q)) := by
  unfold fX5_isOpen
  have := hv.2.1 q hq
  rw [m_isWall h hv hq, zbd_S]
  unfold yop
  cases e : ywl (b q) with
  | true => rw [if_neg (by decide)]; rfl
  | false =>
    rw [yb_f, if_pos rfl, show (36 : Int32) + nI q = nI (36 + q) from nI_add 36 q, zck_N (by omega) (by omega), tn_n (by omega), h (36 + q) (by omega), show (2 : Int32) - nI s = nI (2 - s) from pk_sub (a := 2) (by omega)]
    by_cases g : b (36 + q) = 2 - s
    · rw [if_pos (by rw [g]), decide_eq_true g]; rfl
    · rw [if_neg (fun z => g ((nI_eq (by omega) (by omega)).mp z)), decide_eq_false g]; rfl
theorem m_mayStand {now : Nat → Int32} {b : Nat → Nat} (h : yN now b) (hv : yV b) {s q : Nat} (hs : s ≤ 1) (hq : q < 36) : fX5_mayStand now (nI s) (nI q) = some (yb (yfr b s q)) := by
  unfold fX5_mayStand
  have := yV_28 hv hq
  rw [if_neg (nI_pos (by omega)), m_isOpen h hv hs hq, zbd_S]
  unfold yfr
  cases e : yop b s q with
  | false => rw [yb_f, if_pos rfl]; rfl
  | true =>
    rw [if_neg (by decide), zck_N (by omega) (by omega), tn_n (by omega), h q (by omega)]
    by_cases g : b q = 0
    · rw [g, if_pos nI_0]; rfl
    · rw [if_neg (fun z => g ((nI_z (by omega)).mp z)), decide_eq_false g]; rfl
theorem yI_lt {n m : Nat} (h : n ≤ m) : yI n m = nI n := if_pos h
theorem yI_ge {n m : Nat} (h : ¬ n ≤ m) : yI n m = -1 := if_neg h
theorem m_mayStand_nb {now : Nat → Int32} {b : Nat → Nat} (h : yN now b) (hv : yV b) {s : Nat} (hs : s ≤ 1) (t : Nat) : fX5_mayStand now (nI s) (yI t 35) = some (yb (decide (t < 36) && yfr b s t)) := by
  by_cases g : t ≤ 35
  · rw [yI_lt g, m_mayStand h hv hs (by omega), decide_eq_true (by omega), Bool.true_and]
  · rw [yI_ge g, decide_eq_false (by omega), Bool.false_and]
    unfold fX5_mayStand
    rw [if_pos (by decide)]
    rfl
theorem ysd_le : ∀ c, c < 29 → ysd c ≤ 2 := by decide +kernel
theorem yI_sd {c s : Nat} (hs : s ≤ 1) : yI (ysd c) 1 = nI s ↔ ysd c = s := by
  unfold yI
  by_cases g : ysd c ≤ 1
  · rw [if_pos g]; exact nI_eq (by omega) (by omega)
  · rw [if_neg g]
    constructor
    · intro z
      exfalso
      rcases (show s = 0 ∨ s = 1 by omega) with rfl | rfl <;> revert z <;> decide
    · intro z; omega
theorem m_countPieces {now : Nat → Int32} {b : Nat → Nat} (h : yN now b) (hv : yV b) {s : Nat} (hs : s ≤ 1) : fX5_countPieces now (nI s) = some (nI (fb_ct (ypc b s) 36)) := by
  unfold fX5_countPieces
  refine lp_ct0 (fun n a x => fX5_countPieces_4 now n (nI s) a (nI x)) (fun a => some a) (ypc b s) 36 (by omega) (fun n a x h1 h2 => ?_) (fun n a x hx => ?_)
  · show fX5_countPieces_4 now (n + 1) (nI s) a (nI x) = some a
    unfold fX5_countPieces_4
    rw [if_pos (show (36 : Int32) ≤ nI x from nI_le (a := 36) (by omega) (by omega))]
  · show fX5_countPieces_4 now (n + 1) (nI s) a (nI x) = fX5_countPieces_4 now n (nI s) (a + yb (ypc b s x)) (nI (x + 1))
    rw [fX5_countPieces_4]
    have := yV_28 hv hx
    rw [if_neg (show ¬ (36 : Int32) ≤ nI x from nI_ge (b := 36) (by omega) (by omega)), zck_N (by omega) (by omega), tn_n (by omega), h x (by omega), m_sideOf _ (by omega), zbd_S]
    unfold ypc fX5_countPieces_29
    by_cases g : ysd (b x) = s
    · rw [if_pos ((yI_sd hs).mpr g), decide_eq_true g, zbn_E, zbn_E, ← nI_1 x]; rfl
    · rw [if_neg (fun z => g ((yI_sd hs).mp z)), decide_eq_false g, zbn_E, zbn_E, ← nI_1 x]; rfl
theorem m_allPieces {now : Nat → Int32} {b : Nat → Nat} (h : yN now b) (hv : yV b) : fX5_allPieces now = some (nI (fb_ct (ypc b 0) 36 + fb_ct (ypc b 1) 36)) := by
  unfold fX5_allPieces
  rw [show (0 : Int32) = nI 0 from rfl, m_countPieces h hv (by omega), zbd_S, show (1 : Int32) = nI 1 from rfl, m_countPieces h hv (by omega), zbd_S, nI_add]
theorem m_countWalls {now : Nat → Int32} {b : Nat → Nat} (h : yN now b) (hv : yV b) : fX5_countWalls now = some (nI (fb_ct (fun q => ywl (b q)) 36)) := by
  unfold fX5_countWalls
  refine lp_ct0 (fun n a x => fX5_countWalls_4 now n a (nI x)) (fun a => some a) (fun q => ywl (b q)) 36 (by omega) (fun n a x h1 h2 => ?_) (fun n a x hx => ?_)
  · show fX5_countWalls_4 now (n + 1) a (nI x) = some a
    unfold fX5_countWalls_4
    rw [if_pos (show (36 : Int32) ≤ nI x from nI_le (a := 36) (by omega) (by omega))]
  · show fX5_countWalls_4 now (n + 1) a (nI x) = fX5_countWalls_4 now n (a + yb (ywl (b x))) (nI (x + 1))
    rw [fX5_countWalls_4]
    rw [if_neg (show ¬ (36 : Int32) ≤ nI x from nI_ge (b := 36) (by omega) (by omega)), m_isWall h hv hx, zbd_S]
    unfold fX5_countWalls_24
    cases ywl (b x)
    · rw [yb_f, if_pos rfl, zbn_E, zbn_E, ← nI_1 x]
    · rw [yb_t, if_neg (by decide), zbn_E, zbn_E, ← nI_1 x]
theorem m_countOpen {now : Nat → Int32} {b : Nat → Nat} (h : yN now b) (hv : yV b) {s : Nat} (hs : s ≤ 1) : fX5_countOpen now (nI s) = some (nI (fb_ct (yop b s) 36)) := by
  unfold fX5_countOpen
  refine lp_ct0 (fun n a x => fX5_countOpen_4 now n (nI s) a (nI x)) (fun a => some a) (yop b s) 36 (by omega) (fun n a x h1 h2 => ?_) (fun n a x hx => ?_)
  · show fX5_countOpen_4 now (n + 1) (nI s) a (nI x) = some a
    unfold fX5_countOpen_4
    rw [if_pos (show (36 : Int32) ≤ nI x from nI_le (a := 36) (by omega) (by omega))]
  · show fX5_countOpen_4 now (n + 1) (nI s) a (nI x) = fX5_countOpen_4 now n (nI s) (a + yb (yop b s x)) (nI (x + 1))
    rw [fX5_countOpen_4]
    rw [if_neg (show ¬ (36 : Int32) ≤ nI x from nI_ge (b := 36) (by omega) (by omega)), m_isOpen h hv hs hx, zbd_S]
    unfold fX5_countOpen_25
    cases yop b s x
    · rw [yb_f, if_pos rfl, zbn_E, zbn_E, ← nI_1 x]
    · rw [yb_t, if_neg (by decide), zbn_E, zbn_E, ← nI_1 x]
theorem m_countDoors {now : Nat → Int32} {b : Nat → Nat} (h : yN now b) (hv : yV b) : fX5_countDoors now = some (nI (fb_ct (fun q => decide (b (36 + q) ≠ 0)) 36)) := by
  unfold fX5_countDoors
  refine lp_ct0 (fun n a x => fX5_countDoors_4 now n a (nI x)) (fun a => some a) (fun q => decide (b (36 + q) ≠ 0)) 36 (by omega) (fun n a x h1 h2 => ?_) (fun n a x hx => ?_)
  · show fX5_countDoors_4 now (n + 1) a (nI x) = some a
    unfold fX5_countDoors_4
    rw [if_pos (show (36 : Int32) ≤ nI x from nI_le (a := 36) (by omega) (by omega))]
  · show fX5_countDoors_4 now (n + 1) a (nI x) = fX5_countDoors_4 now n (a + yb (decide (b (36 + x) ≠ 0))) (nI (x + 1))
    rw [fX5_countDoors_4]
    have := hv.2.1 x hx
    rw [if_neg (show ¬ (36 : Int32) ≤ nI x from nI_ge (b := 36) (by omega) (by omega)), show (36 : Int32) + nI x = nI (36 + x) from nI_add 36 x, zck_N (by omega) (by omega), tn_n (by omega), h (36 + x) (by omega)]
    unfold fX5_countDoors_28
    by_cases g : b (36 + x) = 0
    · rw [g, if_pos (by decide), zbn_E, zbn_E, ← nI_1 x]; rfl
    · rw [if_neg (nI_nle (by omega) (by omega)), decide_eq_true g, zbn_E, zbn_E, ← nI_1 x]; rfl
theorem m_turn {now : Nat → Int32} {b : Nat → Nat} (h : yN now b) (hv : yV b) : fX5_turn now = some (nI (b 74 % 2)) := by
  unfold fX5_turn
  have := (yV_74 hv).2.2.1
  rw [zk_74, tn_74, h 74 (by omega), show (2 : Int32) = nI 2 from rfl, pk_rem (by omega) (by omega) (by omega)]
theorem m_isOver {now : Nat → Int32} {b : Nat → Nat} (h : yN now b) (hv : yV b) : fX5_isOver now = some (yb (decide (b 75 ≠ 0))) := by
  unfold fX5_isOver
  have := (yV_74 hv).2.2.2
  rw [zk_75, tn_75, h 75 (by omega)]
  by_cases g : b 75 = 0
  · rw [g, if_pos (by decide)]; rfl
  · rw [if_neg (nI_nle (by omega) (by omega)), decide_eq_true g]; rfl
/-- where the keeper is -/
def yKp (b : Nat → Nat) (s : Nat) (r : Int32) : Prop := (∃ q, q < 36 ∧ b q = 4 + 4 * s ∧ r = nI q) ∨ ((∀ q, q < 36 → b q ≠ 4 + 4 * s) ∧ r = -1)
theorem m_keeperOf {now : Nat → Int32} {b : Nat → Nat} (h : yN now b) (hv : yV b) {s : Nat} (hs : s ≤ 1) : ∃ r, fX5_keeperOf now (nI s) = some r ∧ yKp b s r := by
  have hl : ∀ d x n, x + d = 36 → d < n → (∀ q, q < x → b q ≠ 4 + 4 * s) → ∃ r, fX5_keeperOf_2 now n (nI s) (nI x) = some r ∧ yKp b s r := by
    intro d
    induction d with
    | zero =>
      intro x n hx hn hq
      cases n with
      | zero => omega
      | succ n =>
        refine ⟨-1, ?_, Or.inr ⟨fun q hq2 => hq q (by omega), rfl⟩⟩
        unfold fX5_keeperOf_2
        rw [if_pos (show (36 : Int32) ≤ nI x from nI_le (a := 36) (by omega) (by omega))]
    | succ d ih =>
      intro x n hx hn hq
      cases n with
      | zero => omega
      | succ n =>
        have := yV_28 hv (show x < 36 by omega)
        rw [fX5_keeperOf_2]
        rw [if_neg (show ¬ (36 : Int32) ≤ nI x from nI_ge (b := 36) (by omega) (by omega)), zck_N (by omega) (by omega), show (3 : Int32) = nI 3 from rfl, m_codeOf s (by omega) 3 (by omega), zbd_S, tn_n (by omega), h x (by omega)]
        by_cases g : b x = 4 + 4 * s
        · rw [if_pos (by rw [g]; congr 1; omega)]
          exact ⟨nI x, rfl, Or.inl ⟨x, by omega, g, rfl⟩⟩
        · rw [if_neg (fun z => g (by have := (nI_eq (by omega) (by omega)).mp z; omega)), zbn_E, nI_1]
          refine ih (x + 1) n (by omega) (by omega) (fun q hq2 => ?_)
          by_cases e : q = x
          · rw [e]; exact g
          · exact hq q (by omega)
  unfold fX5_keeperOf
  exact hl 36 0 zFu (by omega) (by unfold zFu; omega) (fun q hq => absurd hq (by omega))
theorem yKp_u {b : Nat → Nat} (hv : yV b) {s : Nat} (hs : s ≤ 1) {r t : Int32} (h : yKp b s r) (g : yKp b s t) : r = t := by
  rcases h with ⟨q, a1, a2, a3⟩ | ⟨a1, a2⟩
  · rcases g with ⟨q2, c1, c2, c3⟩ | ⟨c1, c2⟩
    · rw [a3, c3, hv.2.2.2.2.2.2.2.2.2 s q q2 hs a1 c1 a2 c2]
    · exact absurd a2 (c1 q a1)
  · rcases g with ⟨q2, c1, c2, c3⟩ | ⟨c1, c2⟩
    · exact absurd c2 (a1 q2 c1)
    · rw [a2, c2]

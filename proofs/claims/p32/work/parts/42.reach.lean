/-! PURE 2: what is reached by steps -/
theorem ynb_op : ∀ i, i < 36 → ∀ w, w < 4 → ynb i w < 36 → ynb (ynb i w) ((w + 2) % 4) = i := by decide +kernel
theorem ynb_99 : ∀ i, i < 36 → ∀ w, w < 4 → ynb i w < 36 ∨ ynb i w = 99 := by decide +kernel
theorem yhn_t {P : Nat → Bool} {i w : Nat} : yhn P i w = true ↔ ynb i w < 36 ∧ P (ynb i w) = true := by
  unfold yhn
  rw [Bool.and_eq_true, decide_eq_true_eq]
theorem yar_t {P : Nat → Bool} {i : Nat} : yar P i = true ↔ ∃ w, w < 4 ∧ ynb i w < 36 ∧ P (ynb i w) = true := by
  unfold yar
  rw [Bool.or_eq_true, Bool.or_eq_true, Bool.or_eq_true, yhn_t, yhn_t, yhn_t, yhn_t]
  constructor
  · rintro (((h | h) | h) | h)
    · exact ⟨2, by omega, h⟩
    · exact ⟨1, by omega, h⟩
    · exact ⟨3, by omega, h⟩
    · exact ⟨0, by omega, h⟩
  · rintro ⟨w, hw, h⟩
    rcases (show w = 0 ∨ w = 1 ∨ w = 2 ∨ w = 3 by omega) with rfl | rfl | rfl | rfl
    · exact Or.inr h
    · exact Or.inl (Or.inl (Or.inr h))
    · exact Or.inl (Or.inl (Or.inl h))
    · exact Or.inl (Or.inr h)
theorem yhn_c {P Q : Nat → Bool} (h : ∀ j, j < 36 → P j = Q j) (i w : Nat) : yhn P i w = yhn Q i w := by
  unfold yhn
  by_cases g : ynb i w < 36
  · rw [h _ g]
  · rw [decide_eq_false g, Bool.false_and, Bool.false_and]
theorem yar_c {P Q : Nat → Bool} (h : ∀ j, j < 36 → P j = Q j) (i : Nat) : yar P i = yar Q i := by
  unfold yar
  rw [yhn_c h, yhn_c h, yhn_c h, yhn_c h]
theorem yar_m {P Q : Nat → Bool} (h : ∀ j, j < 36 → P j = true → Q j = true) {i : Nat} (hi : yar P i = true) : yar Q i = true := by
  obtain ⟨w, h1, h2, h3⟩ := yar_t.mp hi
  exact yar_t.mpr ⟨w, h1, h2, h _ h2 h3⟩
def yR (ok S : Nat → Bool) : Nat → Nat → Bool
  | 0 => fun i => S i && ok i
  | n + 1 => fun i => (yR ok S n i || yar (yR ok S n) i) && ok i
theorem yR_ok {ok S : Nat → Bool} : ∀ {n i : Nat}, yR ok S n i = true → ok i = true
  | 0, i, h => ((Bool.and_eq_true _ _).mp h).2
  | n + 1, i, h => ((Bool.and_eq_true _ _).mp h).2
theorem yR_1 {ok S : Nat → Bool} {n i : Nat} (h : yR ok S n i = true) : yR ok S (n + 1) i = true := by
  show ((yR ok S n i || yar (yR ok S n) i) && ok i) = true
  rw [h, yR_ok h]
  rfl
theorem yR_mono {ok S : Nat → Bool} {n i : Nat} (h : yR ok S n i = true) : ∀ m, yR ok S (n + m) i = true
  | 0 => h
  | m + 1 => yR_1 (yR_mono h m)
theorem yR_stab {ok S : Nat → Bool} {x : Nat} (h : ∀ i, i < 36 → yR ok S (x + 1) i = yR ok S x i) : ∀ m i, i < 36 → yR ok S (x + m) i = yR ok S x i
  | 0, i, _ => rfl
  | m + 1, i, hi => by
    show ((yR ok S (x + m) i || yar (yR ok S (x + m)) i) && ok i) = _
    rw [yR_stab h m i hi, yar_c (yR_stab h m) i]
    exact h i hi
theorem yR_grow {ok S : Nat → Bool} (n : Nat) : (∀ i, i < 36 → yR ok S (n + 1) i = yR ok S n i) ∨ fb_ct (yR ok S n) 36 + 1 ≤ fb_ct (yR ok S (n + 1)) 36 := by
  by_cases h : ∀ i, i < 36 → yR ok S (n + 1) i = yR ok S n i
  · exact Or.inl h
  · right
    have h2 : ∃ i, i < 36 ∧ yR ok S n i = false ∧ yR ok S (n + 1) i = true := by
      rcases Classical.em (∃ i, i < 36 ∧ yR ok S n i = false ∧ yR ok S (n + 1) i = true) with g | g
      · exact g
      · refine absurd (fun i hi => ?_) h
        cases e : yR ok S n i with
        | true => exact yR_1 e
        | false =>
          cases e2 : yR ok S (n + 1) i with
          | true => exact absurd ⟨i, hi, e, e2⟩ g
          | false => rfl
    obtain ⟨i, hi, e1, e2⟩ := h2
    have h3 := fb_ct_upd (yR ok S n) true hi
    rw [e1, if_pos rfl, if_neg (by decide)] at h3
    have h4 : fb_ct (fun k => if k = i then true else yR ok S n k) 36 ≤ fb_ct (yR ok S (n + 1)) 36 := fb_ct_sub (fun k hk g => by
      by_cases q : k = i
      · rw [q]; exact e2
      · rw [if_neg q] at g; exact yR_1 g)
    omega
theorem yR_fix (ok S : Nat → Bool) : ∀ i, i < 36 → yR ok S 37 i = yR ok S 36 i := by
  have h : ∀ n, (∃ x, x ≤ n ∧ ∀ i, i < 36 → yR ok S (x + 1) i = yR ok S x i) ∨ n + 1 ≤ fb_ct (yR ok S (n + 1)) 36 := by
    intro n
    induction n with
    | zero =>
      rcases yR_grow (ok := ok) (S := S) 0 with g | g
      · exact Or.inl ⟨0, by omega, g⟩
      · exact Or.inr (by omega)
    | succ n ih =>
      rcases ih with ⟨x, h1, h2⟩ | ih
      · exact Or.inl ⟨x, by omega, h2⟩
      · rcases yR_grow (ok := ok) (S := S) (n + 1) with g | g
        · exact Or.inl ⟨n + 1, by omega, g⟩
        · exact Or.inr (by omega)
  rcases h 36 with ⟨x, h1, h2⟩ | h
  · intro i hi
    have a := yR_stab h2 (37 - x) i hi
    have b := yR_stab h2 (36 - x) i hi
    rw [show x + (37 - x) = 37 by omega] at a
    rw [show x + (36 - x) = 36 by omega] at b
    rw [a, b]
  · have := fb_ct_le (yR ok S (36 + 1)) 36
    omega
theorem yR_cl {ok S : Nat → Bool} {i w : Nat} (hi : i < 36) (h : yR ok S 36 i = true) (hw : w < 4) (hn : ynb i w < 36) (ho : ok (ynb i w) = true) : yR ok S 36 (ynb i w) = true := by
  rw [← yR_fix ok S _ hn]
  show ((yR ok S 36 (ynb i w) || yar (yR ok S 36) (ynb i w)) && ok (ynb i w)) = true
  have e : yar (yR ok S 36) (ynb i w) = true := yar_t.mpr ⟨(w + 2) % 4, by omega, by rw [ynb_op i hi w hw hn]; exact hi, by rw [ynb_op i hi w hw hn]; exact h⟩
  rw [e, ho, Bool.or_true]
  rfl
/-- the least set that holds S (where it is ok) and is closed -/
theorem yR_min {ok S X : Nat → Bool} (h0 : ∀ i, i < 36 → S i = true → ok i = true → X i = true) (hc : ∀ i w, i < 36 → w < 4 → ynb i w < 36 → X i = true → ok (ynb i w) = true → X (ynb i w) = true) : ∀ n i, i < 36 → yR ok S n i = true → X i = true
  | 0, i, hi, h => h0 i hi ((Bool.and_eq_true _ _).mp h).1 ((Bool.and_eq_true _ _).mp h).2
  | n + 1, i, hi, h => by
    obtain ⟨h1, h2⟩ := (Bool.and_eq_true _ _).mp h
    rcases (Bool.or_eq_true _ _).mp h1 with g | g
    · exact yR_min h0 hc n i hi g
    · obtain ⟨w, a, b, c⟩ := yar_t.mp g
      have d := yR_min h0 hc n _ b c
      have e := hc (ynb i w) ((w + 2) % 4) b (by omega) (by rw [ynb_op i hi w a b]; exact hi) d (by rw [ynb_op i hi w a b]; exact h2)
      rw [ynb_op i hi w a b] at e
      exact e
theorem yR_c {ok ok' S S' : Nat → Bool} (h : ∀ i, i < 36 → ok i = ok' i) (g : ∀ i, i < 36 → S i = S' i) : ∀ n i, i < 36 → yR ok S n i = yR ok' S' n i
  | 0, i, hi => by
    show (S i && ok i) = (S' i && ok' i)
    rw [h i hi, g i hi]
  | n + 1, i, hi => by
    show ((yR ok S n i || yar (yR ok S n) i) && ok i) = ((yR ok' S' n i || yar (yR ok' S' n) i) && ok' i)
    rw [yR_c h g n i hi, yar_c (yR_c h g n) i, h i hi]
theorem y3reached_l {ok S : Nat → Bool} {w2 : Int64} (h2 : ySW w2 ok) : ∀ d x n w, x + d = 36 → d < n → ySW w (yR ok S x) → ∃ v, fX3_reached_8 n w2 w (nI x) = some v ∧ ySW v (yR ok S 36) := by
  intro d
  induction d with
  | zero =>
    intro x n w hx hn hw
    cases n with
    | zero => omega
    | succ n =>
      refine ⟨w, ?_, ?_⟩
      · unfold fX3_reached_8
        rw [if_pos (show (36 : Int32) ≤ nI x from nI_le (a := 36) (by omega) (by omega))]
      · rw [show 36 = x by omega]; exact hw
  | succ d ih =>
    intro x n w hx hn hw
    cases n with
    | zero => omega
    | succ n =>
      obtain ⟨v, hv, hsv⟩ := y3around hw
      have hs : ySW ((w ||| v) &&& w2) (yR ok S (x + 1)) := ySW_and (ySW_or hw hsv) h2
      unfold fX3_reached_8
      rw [if_neg (show ¬ (36 : Int32) ≤ nI x from nI_ge (b := 36) (by omega) (by omega)), hv, zbd_S, zbn_E]
      by_cases e : (w ||| v) &&& w2 = w
      · rw [if_pos ((zlc _ _).mpr e)]
        refine ⟨w, rfl, ?_⟩
        rw [e] at hs
        have hst : ∀ i, i < 36 → yR ok S (x + 1) i = yR ok S x i := fun i hi => by rw [← ySW_in hs hi, ySW_in hw hi]
        refine ySW_c hw (fun i hi => ?_)
        have := yR_stab hst (36 - x) i hi
        rw [show x + (36 - x) = 36 by omega] at this
        exact this.symm
      · rw [if_neg (fun z => e ((zlc _ _).mp z)), zbn_E]
        rw [show nI x + 1 = nI (x + 1) from nI_1 x]
        exact ih (x + 1) n _ (by omega) (by omega) hs
theorem y3reached {ok S : Nat → Bool} {w1 w2 : Int64} (h1 : ySW w1 S) (h2 : ySW w2 ok) : ∃ v, fX3_reached w1 w2 = some v ∧ ySW v (yR ok S 36) := by
  unfold fX3_reached
  rw [zbn_E]
  exact y3reached_l h2 36 0 zFu _ (by omega) (by unfold zFu; omega) (ySW_and h1 h2)
theorem y3room {P : Nat → Bool} {w : Int64} (h : ySW w P) {v : Nat} (hv : yLo P v) : ∃ u, fX3_lowestRoom w = some u ∧ ySW u (yR P (fun i => decide (i = v)) 36) := by
  obtain ⟨u, h1, h2⟩ := y3reached (ySW_low h hv) h
  refine ⟨u, ?_, h2⟩
  unfold fX3_lowestRoom
  rw [h1, zbd_S]
theorem y3room0 {w : Int64} (h : w = 0) : fX3_lowestRoom w = some 0 := by
  subst h
  decide +kernel
/-! the queue of squares: Q its places, D how far, M what is marked; k the place that is looked round from, w the way -/
def yRs (ok S : Nat → Bool) : Nat → Nat → Bool
  | 0 => S
  | n + 1 => fun i => yRs ok S n i || (yar (yRs ok S n) i && ok i)
theorem yRs_m {ok S : Nat → Bool} {n i : Nat} (h : yRs ok S n i = true) : ∀ m, yRs ok S (n + m) i = true
  | 0 => h
  | m + 1 => by
    show (yRs ok S (n + m) i || (yar (yRs ok S (n + m)) i && ok i)) = true
    rw [yRs_m h m]
    rfl
theorem yRs_le {ok S : Nat → Bool} {n m i : Nat} (h : yRs ok S n i = true) (hm : n ≤ m) : yRs ok S m i = true := by
  have := yRs_m h (m - n)
  rwa [show n + (m - n) = m by omega] at this
theorem yRs_R {ok S : Nat → Bool} (h : ∀ i, i < 36 → S i = true → ok i = true) : ∀ n i, i < 36 → yRs ok S n i = yR ok S n i
  | 0, i, hi => by
    show S i = (S i && ok i)
    cases e : S i with
    | true => rw [h i hi e]; rfl
    | false => rfl
  | n + 1, i, hi => by
    show (yRs ok S n i || (yar (yRs ok S n) i && ok i)) = ((yR ok S n i || yar (yR ok S n) i) && ok i)
    rw [yRs_R h n i hi, yar_c (yRs_R h n) i]
    cases e : yR ok S n i with
    | true => rw [yR_ok e]; rfl
    | false => rfl
def yB (ok S lim : Nat → Bool) (Q D : Nat → Nat) (M : Nat → Bool) (sz k w : Nat) : Prop :=
  k ≤ sz ∧ (∀ j, j < sz → Q j < 36 ∧ M (Q j) = true) ∧ (∀ i j, i < j → j < sz → Q i ≠ Q j) ∧ (∀ i, i < 36 → M i = true → ∃ j, j < sz ∧ Q j = i) ∧
  (∀ i, i < 36 → S i = true → M i = true ∧ D i = 0) ∧ (∀ i j, i ≤ j → j < sz → D (Q i) ≤ D (Q j)) ∧ (∀ j, j < sz → k < sz → D (Q j) ≤ D (Q k) + 1) ∧
  (∀ j, j < sz → D (Q j) ≤ j) ∧ (∀ j, j < sz → yRs ok S (D (Q j)) (Q j) = true) ∧
  (∀ i j, (i < k ∨ (i = k ∧ j < w)) → i < sz → lim (D (Q i)) = true → j < 4 → ynb (Q i) j < 36 → ok (ynb (Q i) j) = true → M (ynb (Q i) j) = true ∧ D (ynb (Q i) j) ≤ D (Q i) + 1) ∧
  (∀ j, j < sz → D (Q j) = 0 ∨ lim (D (Q j) - 1) = true)
theorem yB_sz {ok S lim : Nat → Bool} {Q D : Nat → Nat} {M : Nat → Bool} {sz k w : Nat} (h : yB ok S lim Q D M sz k w) : sz ≤ 36 :=
  fb_holes 36 sz Q (fun i hi => (h.2.1 i hi).1) h.2.2.1
theorem yB_skip {ok S lim : Nat → Bool} {Q D : Nat → Nat} {M : Nat → Bool} {sz k w : Nat} (h : yB ok S lim Q D M sz k w) (hk : k < sz) (hs : ynb (Q k) w < 36 → ok (ynb (Q k) w) = true → M (ynb (Q k) w) = true) : yB ok S lim Q D M sz k (w + 1) := by
  obtain ⟨h1, h2, h3, h4, h5, h6, h7, h8, h9, h10, h11⟩ := h
  refine ⟨h1, h2, h3, h4, h5, h6, h7, h8, h9, fun i j hij hi hl hj hn ho => ?_, h11⟩
  by_cases e : i = k ∧ j = w
  · obtain ⟨rfl, rfl⟩ := e
    have hm := hs hn ho
    obtain ⟨q, hq, e⟩ := h4 _ hn hm
    refine ⟨hm, ?_⟩
    rw [← e]
    exact h7 q hq hk
  · exact h10 i j (by omega) hi hl hj hn ho
theorem yB_add {ok S lim : Nat → Bool} {Q D : Nat → Nat} {M : Nat → Bool} {sz k w t : Nat} (h : yB ok S lim Q D M sz k w) (hk : k < sz) (hw : w < 4) (et : ynb (Q k) w = t) (ht : t < 36) (ho : ok t = true) (hm : M t = false) (hl : lim (D (Q k)) = true) :
    sz < 36 ∧ yB ok S lim (fun j => if j = sz then t else Q j) (fun j => if j = t then D (Q k) + 1 else D j) (fun j => if j = t then true else M j) (sz + 1) k (w + 1) := by
  obtain ⟨h1, h2, h3, h4, h5, h6, h7, h8, h9, h10, h11⟩ := h
  have hne : ∀ j, j < sz → Q j ≠ t := fun j hj e => by
    have := (h2 j hj).2
    rw [e, hm] at this
    cases this
  have hQ : ∀ j, j < sz → (if j = sz then t else Q j) = Q j := fun j hj => if_neg (by omega)
  have hD : ∀ j, j < sz → (if Q j = t then D (Q k) + 1 else D (Q j)) = D (Q j) := fun j hj => if_neg (hne j hj)
  have hd : ∀ i j, i < j → j < sz + 1 → (if i = sz then t else Q i) ≠ (if j = sz then t else Q j) := fun i j hij hj => by
    rw [hQ i (by omega)]
    by_cases e : j = sz
    · rw [if_pos e]; exact hne i (by omega)
    · rw [if_neg e]; exact h3 i j hij (by omega)
  have hs : sz + 1 ≤ 36 := fb_holes 36 (sz + 1) (fun j => if j = sz then t else Q j) (fun i hi => by
    show (if i = sz then t else Q i) < 36
    by_cases e : i = sz
    · rw [if_pos e]; exact ht
    · rw [if_neg e]; exact (h2 i (by omega)).1) hd
  refine ⟨by omega, by omega, ?_, hd, ?_, ?_, ?_, ?_, ?_, ?_, ?_, ?_⟩
  · intro j hj
    show (if j = sz then t else Q j) < 36 ∧ (if (if j = sz then t else Q j) = t then true else M (if j = sz then t else Q j)) = true
    by_cases e : j = sz
    · rw [if_pos e, if_pos rfl]; exact ⟨ht, rfl⟩
    · rw [if_neg e, if_neg (hne j (by omega))]; exact h2 j (by omega)
  · intro i hi hM
    by_cases e : i = t
    · exact ⟨sz, by omega, by show (if sz = sz then t else Q sz) = i; rw [if_pos rfl, e]⟩
    · have hM' : M i = true := by
        have : (if i = t then true else M i) = true := hM
        rwa [if_neg e] at this
      obtain ⟨j, a, b⟩ := h4 i hi hM'
      exact ⟨j, by omega, by show (if j = sz then t else Q j) = i; rw [hQ j a, b]⟩
  · intro i hi hS
    obtain ⟨a, b⟩ := h5 i hi hS
    have e : i ≠ t := fun e => by rw [e, hm] at a; cases a
    show (if i = t then true else M i) = true ∧ (if i = t then D (Q k) + 1 else D i) = 0
    rw [if_neg e, if_neg e]
    exact ⟨a, b⟩
  · intro i j hij hj
    show (if (if i = sz then t else Q i) = t then D (Q k) + 1 else D (if i = sz then t else Q i)) ≤ (if (if j = sz then t else Q j) = t then D (Q k) + 1 else D (if j = sz then t else Q j))
    by_cases e : j = sz
    · rw [if_pos (show (if j = sz then t else Q j) = t from if_pos e)]
      by_cases e2 : i = sz
      · rw [if_pos (show (if i = sz then t else Q i) = t from if_pos e2)]; exact Nat.le_refl _
      · rw [if_neg e2, hD i (by omega)]; exact h7 i (by omega) hk
    · rw [if_neg e, if_neg (show ¬ i = sz by omega), hD i (by omega), hD j (by omega)]
      exact h6 i j hij (by omega)
  · intro j hj _
    show (if (if j = sz then t else Q j) = t then D (Q k) + 1 else D (if j = sz then t else Q j)) ≤ (if (if k = sz then t else Q k) = t then D (Q k) + 1 else D (if k = sz then t else Q k)) + 1
    rw [hQ k hk, hD k hk]
    by_cases e : j = sz
    · rw [if_pos (show (if j = sz then t else Q j) = t from if_pos e)]; exact Nat.le_refl _
    · rw [if_neg e, hD j (by omega)]; exact h7 j (by omega) hk
  · intro j hj
    show (if (if j = sz then t else Q j) = t then D (Q k) + 1 else D (if j = sz then t else Q j)) ≤ j
    by_cases e : j = sz
    · rw [if_pos (show (if j = sz then t else Q j) = t from if_pos e)]
      have := h8 k hk
      omega
    · rw [if_neg e, hD j (by omega)]; exact h8 j (by omega)
  · intro j hj
    show yRs ok S (if (if j = sz then t else Q j) = t then D (Q k) + 1 else D (if j = sz then t else Q j)) (if j = sz then t else Q j) = true
    by_cases e : j = sz
    · rw [if_pos e, if_pos rfl]
      show (yRs ok S (D (Q k)) t || (yar (yRs ok S (D (Q k))) t && ok t)) = true
      have g := h9 k hk
      have q := ynb_op (Q k) (h2 k hk).1 w hw (by rw [et]; exact ht)
      rw [et] at q
      have a : yar (yRs ok S (D (Q k))) t = true := yar_t.mpr ⟨(w + 2) % 4, by omega, by rw [q]; exact (h2 k hk).1, by rw [q]; exact g⟩
      rw [a, ho]
      exact Bool.or_true _
    · rw [if_neg e, hD j (by omega)]; exact h9 j (by omega)
  · intro i j hij hi hl2 hj hn hok
    have hi' : i < sz := by omega
    have e0 : (if i = sz then t else Q i) = Q i := hQ i hi'
    have hl3 : lim (if (if i = sz then t else Q i) = t then D (Q k) + 1 else D (if i = sz then t else Q i)) = true := hl2
    have hn3 : ynb (if i = sz then t else Q i) j < 36 := hn
    have ho3 : ok (ynb (if i = sz then t else Q i) j) = true := hok
    show (if ynb (if i = sz then t else Q i) j = t then true else M (ynb (if i = sz then t else Q i) j)) = true ∧ (if ynb (if i = sz then t else Q i) j = t then D (Q k) + 1 else D (ynb (if i = sz then t else Q i) j)) ≤ (if (if i = sz then t else Q i) = t then D (Q k) + 1 else D (if i = sz then t else Q i)) + 1
    rw [e0] at hl3 hn3 ho3 ⊢
    rw [hD i hi'] at hl3 ⊢
    by_cases q : ynb (Q i) j = t
    · rw [if_pos q, if_pos q]
      refine ⟨rfl, ?_⟩
      by_cases q2 : i = k
      · rw [q2]; exact Nat.le_refl _
      · exfalso
        have := (h10 i j (Or.inl (by omega)) hi' hl3 hj hn3 ho3).1
        rw [q, hm] at this
        cases this
    · rw [if_neg q, if_neg q]
      refine h10 i j ?_ hi' hl3 hj hn3 ho3
      by_cases q2 : i = k
      · by_cases q3 : j = w
        · exfalso
          subst q2
          subst q3
          exact q et
        · omega
      · omega
  · intro j hj
    show (if (if j = sz then t else Q j) = t then D (Q k) + 1 else D (if j = sz then t else Q j)) = 0 ∨ lim ((if (if j = sz then t else Q j) = t then D (Q k) + 1 else D (if j = sz then t else Q j)) - 1) = true
    by_cases e : j = sz
    · rw [if_pos (show (if j = sz then t else Q j) = t from if_pos e)]
      exact Or.inr hl
    · rw [if_neg e, hD j (by omega)]; exact h11 j (by omega)
theorem yB_next {ok S lim : Nat → Bool} {Q D : Nat → Nat} {M : Nat → Bool} {sz k w : Nat} (h : yB ok S lim Q D M sz k w) (hk : k < sz) (hw : w = 4 ∨ lim (D (Q k)) = false) : yB ok S lim Q D M sz (k + 1) 0 := by
  obtain ⟨h1, h2, h3, h4, h5, h6, h7, h8, h9, h10, h11⟩ := h
  refine ⟨hk, h2, h3, h4, h5, h6, fun j hj hk1 => ?_, h8, h9, fun i j hij hi hl hj hn ho => ?_, h11⟩
  · have a := h7 j hj hk
    have b := h6 k (k + 1) (by omega) hk1
    omega
  · rcases hw with e | e
    · exact h10 i j (by omega) hi hl hj hn ho
    · by_cases q : i = k
      · rw [q, e] at hl; cases hl
      · exact h10 i j (by omega) hi hl hj hn ho
theorem yB_end {ok S lim : Nat → Bool} {Q D : Nat → Nat} {M : Nat → Bool} {sz w : Nat} (h : yB ok S lim Q D M sz sz w) : ∀ n, (∀ d, d < n → lim d = true) → ∀ i, i < 36 → (yRs ok S n i = true ↔ M i = true ∧ D i ≤ n) := by
  obtain ⟨h1, h2, h3, h4, h5, h6, h7, h8, h9, h10, h11⟩ := h
  intro n hl i hi
  constructor
  · revert i
    induction n with
    | zero =>
      intro i hi hs
      obtain ⟨a, b⟩ := h5 i hi hs
      exact ⟨a, by omega⟩
    | succ n ih =>
      intro i hi hs
      rcases (Bool.or_eq_true _ _).mp (show (yRs ok S n i || (yar (yRs ok S n) i && ok i)) = true from hs) with g | g
      · obtain ⟨a, b⟩ := ih (fun d hd => hl d (by omega)) i hi g
        exact ⟨a, by omega⟩
      · obtain ⟨g1, g2⟩ := (Bool.and_eq_true _ _).mp g
        obtain ⟨u, a, b, c⟩ := yar_t.mp g1
        obtain ⟨m1, m2⟩ := ih (fun d hd => hl d (by omega)) _ b c
        obtain ⟨j, j1, j2⟩ := h4 _ b m1
        have q := ynb_op i hi u a b
        have r := h10 j ((u + 2) % 4) (Or.inl j1) j1 (by rw [j2]; exact hl _ (by omega)) (by omega) (by rw [j2, q]; exact hi) (by rw [j2, q]; exact g2)
        rw [j2, q] at r
        exact ⟨r.1, by omega⟩
  · rintro ⟨a, b⟩
    obtain ⟨j, j1, j2⟩ := h4 i hi a
    have := h9 j j1
    rw [j2] at this
    exact yRs_le this b
theorem yB_35 {ok S lim : Nat → Bool} {Q D : Nat → Nat} {M : Nat → Bool} {sz k w : Nat} (h : yB ok S lim Q D M sz k w) {i : Nat} (hi : i < 36) (hm : M i = true) : D i < 36 := by
  have hs := yB_sz h
  obtain ⟨j, j1, j2⟩ := h.2.2.2.1 i hi hm
  have := h.2.2.2.2.2.2.2.1 j j1
  rw [j2] at this
  omega

/-! PURE 8: where a piece can go, as the class finds it -/
def ywy (d : Nat) : Nat := if d = 0 then 0 else if d = 1 then 3 else if d = 2 then 1 else 2
theorem y_dir : ∀ d, d < 4 → ∀ p, p < 36 → ∀ i, i < 36 → (decide (ynb i (ydw d) < 36) && decide (ynb i (ydw d) = p)) = (decide (i = ynb p (ywy d)) && decide (ynb p (ywy d) < 36)) := by decide +kernel
theorem ywy_4 : ∀ d, d < 4 → ywy d < 4 := by decide +kernel
def ynx (fr : Nat → Bool) (p w i : Nat) : Bool := (decide (i = ynb p w) && decide (ynb p w < 36)) && fr i
theorem ynx_of {fr : Nat → Bool} {v x2 : Int64} {p d : Nat} (hd : d < 4) (hp : p < 36) (h2 : ySW x2 fr) (hv : ySW v (fun i => yhn (fun j => decide (j = p)) i (ydw d))) : ySW (v &&& x2) (ynx fr p (ywy d)) := by
  refine ySW_c (ySW_and hv h2) (fun i hi => ?_)
  show ((decide (ynb i (ydw d) < 36) && decide (ynb i (ydw d) = p)) && fr i) = _
  rw [y_dir d hd p hp i hi]
  rfl
theorem c_ray {fr : Nat → Bool} {x0 x2 : Int64} (h2 : ySW x2 fr) {d : Nat} (hd : d < 4) (G : Option Int64 → Prop) (K : Int64 → Int64 → Int64 → Int32 → Option Int64) :
    ∀ m p c n x4 x7 acc, c + m = 6 → m < n → p < 36 → ySW x4 acc → ySW x7 (ynx fr p (ywy d)) → (∀ x4', ySW x4' (fun t => acc t || yRay fr (ywy d) m p t) → G (K x0 x2 x4' (nI (d + 1)))) → G (fX3_alongLines_25 K n x0 x2 x4 (nI d) x7 (nI c)) := by
  intro m
  induction m with
  | zero =>
    intro p c n x4 x7 acc hc hn hp h4 h7 hK
    cases n with
    | zero => omega
    | succ n =>
      rw [fX3_alongLines_25, if_pos (show (6 : Int32) ≤ nI c from nI_le (a := 6) (by omega) (by omega))]
      unfold fX3_alongLines_63
      rw [zbn_E, nI_1]
      refine hK x4 (ySW_c h4 (fun i hi => ?_))
      show acc i = (acc i || false)
      rw [Bool.or_false]
  | succ m ih =>
    intro p c n x4 x7 acc hc hn hp h4 h7 hK
    cases n with
    | zero => omega
    | succ n =>
      rw [fX3_alongLines_25, if_neg (show ¬ (6 : Int32) ≤ nI c from nI_ge (b := 6) (by omega) (by omega))]
      by_cases g : (decide (ynb p (ywy d) < 36) && fr (ynb p (ywy d))) = true
      · obtain ⟨g1, g2⟩ := (Bool.and_eq_true _ _).mp g
        have g3 := of_decide_eq_true g1
        have hnz : ¬ x7 = 0 := fun z => by
          have := (ySW_z h7).mp z _ g3
          unfold ynx at this
          rw [decide_eq_true rfl, g1, g2] at this
          cases this
        have h7' : ySW x7 (fun i => decide (i = ynb p (ywy d))) := ySW_c h7 (fun i hi => by
          unfold ynx
          rw [g1, Bool.and_true]
          by_cases e : i = ynb p (ywy d)
          · rw [e, g2, Bool.and_true]
          · rw [decide_eq_false e, Bool.false_and])
        obtain ⟨v, hv, hsv⟩ := y3stepped h7' hd
        rw [if_neg (fun z => hnz ((zlc _ _).mp z)), zbn_E, hv, zbd_S, zbn_E, zbn_E, nI_1]
        refine ih (ynb p (ywy d)) (c + 1) n _ _ (fun t => acc t || decide (t = ynb p (ywy d))) (by omega) (by omega) g3 (ySW_or h4 h7') (ynx_of hd g3 h2 hsv) (fun x4' h => hK x4' (ySW_c h (fun i hi => ?_)))
        show ((acc i || decide (i = ynb p (ywy d))) || yRay fr (ywy d) m (ynb p (ywy d)) i) = (acc i || ((decide (ynb p (ywy d) < 36) && fr (ynb p (ywy d))) && (decide (i = ynb p (ywy d)) || yRay fr (ywy d) m (ynb p (ywy d)) i)))
        rw [g, Bool.true_and, Bool.or_assoc]
      · have g' : (decide (ynb p (ywy d) < 36) && fr (ynb p (ywy d))) = false := by simpa using g
        have hz : x7 = 0 := (ySW_z h7).mpr (fun i hi => by
          unfold ynx
          by_cases e : i = ynb p (ywy d)
          · rw [← e] at g' ⊢
            rw [decide_eq_true rfl, Bool.true_and]
            exact g'
          · rw [decide_eq_false e, Bool.false_and, Bool.false_and])
        rw [if_pos ((zlc _ _).mpr hz)]
        unfold fX3_alongLines_63
        rw [zbn_E, nI_1]
        refine hK x4 (ySW_c h4 (fun i hi => ?_))
        show acc i = (acc i || ((decide (ynb p (ywy d) < 36) && fr (ynb p (ywy d))) && (decide (i = ynb p (ywy d)) || yRay fr (ywy d) m (ynb p (ywy d)) i)))
        rw [g', Bool.false_and, Bool.or_false]
theorem yw4_perm (X : Nat → Bool) : yw4 (fun d => X (ywy d)) 4 = yw4 X 4 := by
  show ((((false || X 0) || X 3) || X 1) || X 2) = ((((false || X 0) || X 1) || X 2) || X 3)
  cases X 0 <;> cases X 1 <;> cases X 2 <;> cases X 3 <;> rfl
theorem c_along {fr : Nat → Bool} {x0 x2 : Int64} {q : Nat} (hq : q < 36) (h0 : ySW x0 (fun i => decide (i = q))) (h2 : ySW x2 fr) : ∃ w, fX3_alongLines x0 x2 = some w ∧ ySW w (fun t => yw4 (fun w => yRay fr w 5 q t) 4) := by
  have hl : ∀ e d n x4, d + e = 4 → e < n → ySW x4 (fun t => yw4 (fun d => yRay fr (ywy d) 5 q t) d) → ∃ w, fX3_alongLines_6 n x0 x2 x4 (nI d) = some w ∧ ySW w (fun t => yw4 (fun w => yRay fr w 5 q t) 4) := by
    intro e
    induction e with
    | zero =>
      intro d n x4 hd hn h4
      cases n with
      | zero => omega
      | succ n =>
        rw [fX3_alongLines_6, if_pos (show (4 : Int32) ≤ nI d from nI_le (a := 4) (by omega) (by omega))]
        rw [show d = 4 by omega] at h4
        exact ⟨x4, rfl, ySW_c h4 (fun i hi => yw4_perm (fun w => yRay fr w 5 q i))⟩
    | succ e ih =>
      intro d n x4 hd hn h4
      cases n with
      | zero => omega
      | succ n =>
        obtain ⟨v, hv, hsv⟩ := y3stepped h0 (show d < 4 by omega)
        rw [fX3_alongLines_6, if_neg (show ¬ (4 : Int32) ≤ nI d from nI_ge (b := 4) (by omega) (by omega)), hv, zbd_S, zbn_E]
        refine c_ray h2 (show d < 4 by omega) (fun o => ∃ w, o = some w ∧ ySW w (fun t => yw4 (fun w => yRay fr w 5 q t) 4)) _ 5 q 1 zFu x4 _ _ (by omega) (by unfold zFu; omega) hq h4 (ynx_of (by omega) hq h2 hsv) (fun x4' h => ?_)
        exact ih (d + 1) n x4' (by omega) (by omega) h
  unfold fX3_alongLines
  exact hl 4 0 zFu 0 (by omega) (by unfold zFu; omega) ySW_0
theorem yhn_or (P Q : Nat → Bool) (i w : Nat) : yhn (fun j => P j || Q j) i w = (yhn P i w || yhn Q i w) := by
  unfold yhn
  cases decide (ynb i w < 36) <;> rfl
theorem yar_or (P Q : Nat → Bool) (i : Nat) : yar (fun j => P j || Q j) i = (yar P i || yar Q i) := by
  unfold yar
  rw [yhn_or, yhn_or, yhn_or, yhn_or]
  cases yhn P i 0 <;> cases yhn P i 1 <;> cases yhn P i 2 <;> cases yhn P i 3 <;> cases yhn Q i 0 <;> cases yhn Q i 1 <;> cases yhn Q i 2 <;> cases yhn Q i 3 <;> rfl
def yW (fr S : Nat → Bool) : Nat → Nat → Bool
  | 0 => fun t => yar S t && fr t
  | n + 1 => fun t => yW fr S n t || (yar (yW fr S n) t && fr t)
theorem yW_fr {fr S : Nat → Bool} : ∀ n t, yW fr S n t = true → fr t = true
  | 0, t, h => ((Bool.and_eq_true _ _).mp h).2
  | n + 1, t, h => by
    rcases (Bool.or_eq_true _ _).mp h with g | g
    · exact yW_fr n t g
    · exact ((Bool.and_eq_true _ _).mp g).2
theorem yW_0 {fr S : Nat → Bool} : ∀ n t, yW fr S 0 t = true → yW fr S n t = true
  | 0, _, h => h
  | n + 1, t, h => by
    show (yW fr S n t || (yar (yW fr S n) t && fr t)) = true
    rw [yW_0 n t h]
    rfl
theorem yRs_W {fr S : Nat → Bool} : ∀ n t, yRs fr S (n + 1) t = (S t || yW fr S n t)
  | 0, t => rfl
  | n + 1, t => by
    show (yRs fr S (n + 1) t || (yar (yRs fr S (n + 1)) t && fr t)) = (S t || (yW fr S n t || (yar (yW fr S n) t && fr t)))
    have e : yRs fr S (n + 1) = fun j => S j || yW fr S n j := funext (yRs_W n)
    rw [e, yar_or]
    have h := yW_0 (fr := fr) (S := S) n t
    have h2 : yW fr S 0 t = (yar S t && fr t) := rfl
    rw [h2] at h
    revert h
    show (_ → ((S t || yW fr S n t) || ((yar S t || yar (yW fr S n) t) && fr t)) = _)
    cases S t <;> cases yW fr S n t <;> cases yar S t <;> cases yar (yW fr S n) t <;> cases fr t <;> decide
theorem c_walk {fr : Nat → Bool} {x0 x2 : Int64} {q : Nat} (hfr : fr q = false) (h0 : ySW x0 (fun i => decide (i = q))) (h2 : ySW x2 fr) : ∃ w, fX3_byWalking x0 x2 3 = some w ∧ ySW w (fun t => yRs fr (fun i => decide (i = q)) 3 t && !decide (t = q)) := by
  obtain ⟨v1, e1, s1⟩ := y3around h0
  have w1 : ySW (v1 &&& x2) (yW fr (fun i => decide (i = q)) 0) := ySW_and s1 h2
  obtain ⟨v2, e2, s2⟩ := y3around w1
  have w2 : ySW ((v1 &&& x2) ||| (v2 &&& x2)) (yW fr (fun i => decide (i = q)) 1) := ySW_or w1 (ySW_and s2 h2)
  obtain ⟨v3, e3, s3⟩ := y3around w2
  have w3 : ySW (((v1 &&& x2) ||| (v2 &&& x2)) ||| (v3 &&& x2)) (yW fr (fun i => decide (i = q)) 2) := ySW_or w2 (ySW_and s3 h2)
  have hr : ∀ n, fX3_byWalking_11 (n + 1 + 1 + 1) x2 3 (v1 &&& x2) 1 = some (((v1 &&& x2) ||| (v2 &&& x2)) ||| (v3 &&& x2)) := by
    intro n
    rw [fX3_byWalking_11, if_neg (by decide), e2, zbd_S, zbn_E, zbn_E, fX3_byWalking_11, if_neg (by decide), e3, zbd_S, zbn_E, zbn_E, fX3_byWalking_11, if_pos (by decide)]
  refine ⟨_, ?_, ySW_c w3 (fun t ht => ?_)⟩
  · unfold fX3_byWalking
    rw [e1, zbd_S, zbn_E]
    exact hr 3997
  · rw [yRs_W 2 t]
    by_cases e : t = q
    · have : yW fr (fun i => decide (i = q)) 2 t = false := by
        cases g : yW fr (fun i => decide (i = q)) 2 t with
        | false => rfl
        | true =>
          have := yW_fr 2 t g
          rw [e, hfr] at this
          cases this
      rw [this, decide_eq_true e]
      rfl
    · rw [decide_eq_false e, Bool.false_or, Bool.not_false, Bool.and_true]
theorem y_near : ∀ q, q < 36 → ∀ t, t < 36 → yar (fun j => decide (j = q)) t = yw4 (fun w => decide (ynb q w = t)) 4 := by decide +kernel
theorem yw4_and (X : Nat → Bool) (c : Bool) : yw4 (fun w => X w && c) 4 = (yw4 X 4 && c) := by
  show ((((false || X 0 && c) || X 1 && c) || X 2 && c) || X 3 && c) = (((((false || X 0) || X 1) || X 2) || X 3) && c)
  cases c <;> cases X 0 <;> cases X 1 <;> cases X 2 <;> cases X 3 <;> rfl
theorem c_targets {f : Nat → Int64} {b : Nat → Nat} (h : yP f b) (hv : yV b) {q : Nat} (hq : q < 36) (hp : ysd (b q) ≤ 1) : ∃ w, fX2_targetsOf f (nI q) = some w ∧ ySW w (yTg b q) := by
  obtain ⟨p1, p2, p3⟩ := c_piece h hv hq hp rfl
  obtain ⟨x0, o1, o2⟩ := ySW_of hq
  obtain ⟨x1, n1, n2⟩ := c_open h hp
  have hf := y_free h hv n2
  have hc28 := yV_28 hv hq
  have hqf : yfr b (ysd (b q)) q = false := by
    unfold yfr
    rw [decide_eq_false ((ysk (b q) (by omega)).2 hp).1, Bool.and_false]
  unfold fX2_targetsOf
  rw [p1, zbd_S, if_neg (show ¬ nI (ysd (b q)) = -1 by rcases (show ysd (b q) = 0 ∨ ysd (b q) = 1 by omega) with e | e <;> rw [e] <;> decide), o1, zbd_S, n1, zbd_S, p_all, zbd_S, zbn_E, p2, zbd_S]
  rcases (show ykd (b q) = 0 ∨ ykd (b q) = 1 ∨ ykd (b q) = 2 ∨ ykd (b q) = 3 by omega) with e | e | e | e
  · obtain ⟨v, v1, v2⟩ := y3around o2
    rw [e, if_neg (by decide), if_neg (by decide), v1, zbd_S]
    refine ⟨_, rfl, ySW_c (ySW_and v2 hf) (fun t ht => ?_)⟩
    unfold yTg
    rw [if_pos hp, e, if_neg (by decide), if_neg (by decide), yw4_and, y_near q hq t ht]
  · obtain ⟨v, v1, v2⟩ := c_along hq o2 hf
    rw [e, if_pos (show nI 1 = (1 : Int32) from rfl), v1, zbd_S]
    refine ⟨_, rfl, ySW_c v2 (fun t ht => ?_)⟩
    unfold yTg
    rw [if_pos hp, e, if_pos rfl]
  · obtain ⟨v, v1, v2⟩ := c_walk hqf o2 hf
    rw [e, if_neg (by decide), if_pos (show nI 2 = (2 : Int32) from rfl), v1, zbd_S]
    refine ⟨_, rfl, ySW_c v2 (fun t ht => ?_)⟩
    unfold yTg
    rw [if_pos hp, e, if_neg (by decide), if_pos rfl]
    rfl
  · obtain ⟨v, v1, v2⟩ := y3around o2
    rw [e, if_neg (by decide), if_neg (by decide), v1, zbd_S]
    refine ⟨_, rfl, ySW_c (ySW_and v2 hf) (fun t ht => ?_)⟩
    unfold yTg
    rw [if_pos hp, e, if_neg (by decide), if_neg (by decide), yw4_and, y_near q hq t ht]

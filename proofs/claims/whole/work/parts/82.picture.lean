/-! PURE 42: picture and append -/
def yPiw (c d : Nat) : Nat := if (decide (ysd c = 0) || decide (ysd c = 1)) = true then 1 else if ywl c = true then 2 else if (decide (d = 1) || decide (d = 2)) = true then 3 else 0
def yPxs (s c d : Nat) : Bool := (decide (ysd c = s) || decide (d = s + 1)) || decide (ymd c = s)
def yPis (c d : Nat) : Nat := if yPxs 0 c d = true then 0 else if yPxs 1 c d = true then 1 else 2
/-- what the class shows -/
def yPic (u3 u5 u8 : Int32) : Option (Nat × Int32) := (if u5 = (1 : Int32) then (zbd (fX4_signOfPiece u3 u8) (fun u10 => (zck (zch u10) (some (0, u10))))) else (if u5 = (2 : Int32) then (zck (zch (35 : Int32)) (some (0, (35 : Int32)))) else (if u5 = (3 : Int32) then (if u3 = 0 then (zck (zch (40 : Int32)) (some (0, (40 : Int32)))) else (zck (zch (41 : Int32)) (some (0, (41 : Int32))))) else (zck (zch (46 : Int32)) (some (0, (46 : Int32)))))))
/-- what the model shows -/
def yPim (a4 a6 u7 : Int32) : Option Int32 := (if u7 = 0 then (if a4 = 0 then (if a6 = 0 then (zck (zch (46 : Int32)) (some (46 : Int32))) else (if a6 = (1 : Int32) then (zck (zch (40 : Int32)) (some (40 : Int32))) else (zck (zch (41 : Int32)) (some (41 : Int32))))) else (zbd (fX5_sideOf a4) (fun u9 => (if u9 = 0 then (zbd (fX5_kindOf a4) (fun u17 => (zck (zin u17 4) (zck (zch (zsc [85, 73, 87, 75] u17)) (some (zsc [85, 73, 87, 75] u17)))))) else (zbd (fX5_kindOf a4) (fun u12 => (zck (zin u12 4) (zck (zch (zsc [117, 105, 119, 107] u12)) (some (zsc [117, 105, 119, 107] u12)))))))))) else (zck (zch (35 : Int32)) (some (35 : Int32))))
def yPiv (c d : Nat) : Int32 := (yPim (nI c) (nI d) (yb (ywl c))).getD 0
def yPok (c d : Nat) : Bool := ((decide (c ≤ 8) || decide (20 ≤ c)) && (!decide (20 ≤ c) || decide (d = 0))) && (!decide (ysd c ≤ 1) || (decide (d = 0) || decide (d = ysd c + 1)))
theorem yPi_m : ∀ c, c < 29 → ∀ d, d < 3 → yPok c d = true → yPim (nI c) (nI d) (yb (ywl c)) = some (yPiv c d) := by decide +kernel
theorem yPi_c : ∀ c, c < 29 → ∀ d, d < 3 → yPok c d = true → yPic (yI (yPis c d) 1) (nI (yPiw c d)) (yI (ykk c) 3) = some (0, yPiv c d) := by decide +kernel
theorem yPok_of {c d : Nat} (h1 : c ≤ 8 ∨ 20 ≤ c) (h2 : 20 ≤ c → d = 0) (h3 : ysd c ≤ 1 → d = 0 ∨ d = ysd c + 1) : yPok c d = true := by
  unfold yPok
  rw [Bool.and_eq_true, Bool.and_eq_true]
  refine ⟨⟨?_, ?_⟩, ?_⟩
  · rcases h1 with h | h
    · rw [decide_eq_true h]; rfl
    · rw [decide_eq_true h, Bool.or_true]
  · by_cases g : 20 ≤ c
    · rw [decide_eq_true (h2 g), Bool.or_true]
    · rw [decide_eq_false g]; rfl
  · by_cases g : ysd c ≤ 1
    · rcases h3 g with h | h
      · rw [decide_eq_true h, Bool.true_or, Bool.or_true]
      · rw [decide_eq_true h, Bool.or_true, Bool.or_true]
    · rw [decide_eq_false g]; rfl
theorem m_picT (now : Nat → Int32) (x1 : Int32) {u7 : Int32} (h1 : zin x1 76 = true) (h2 : zin ((36 : Int32) + x1) 76 = true) (h3 : fX5_isWall now x1 = some u7) {v : Int32} (h4 : yPim (now x1.toNatClampNeg) (now ((36 : Int32) + x1).toNatClampNeg) u7 = some v) (thrown : Int32) : fX5_picture_14 now thrown x1 0 1 = some (v, 0) := by
  have key : ∀ (a4 a6 : Int32), yPim a4 a6 u7 = some v → (if u7 = 0 then (if a4 = 0 then (if a6 = 0 then (zck (zch (46 : Int32)) (some ((46 : Int32), (0 : Int32)))) else (if a6 = (1 : Int32) then (zck (zch (40 : Int32)) (some ((40 : Int32), (0 : Int32)))) else (zck (zch (41 : Int32)) (some ((41 : Int32), (0 : Int32)))))) else (zbd (fX5_sideOf a4) (fun u9 => (if u9 = 0 then (zbd (fX5_kindOf a4) (fun u17 => (zck (zin u17 4) (zck (zch (zsc [85, 73, 87, 75] u17)) (some ((zsc [85, 73, 87, 75] u17), (0 : Int32))))))) else (zbd (fX5_kindOf a4) (fun u12 => (zck (zin u12 4) (zck (zch (zsc [117, 105, 119, 107] u12)) (some ((zsc [117, 105, 119, 107] u12), (0 : Int32))))))))))) else (zck (zch (35 : Int32)) (some ((35 : Int32), (0 : Int32))))) = some (v, (0 : Int32)) := by
    intro a4 a6 h
    have cc : ∀ (bb : Bool) (z : Int32), zck bb (some z) = some v → zck bb (some (z, (0 : Int32))) = some (v, 0) := fun bb z h => by
      obtain ⟨e1, e2⟩ := zck_t h
      rw [e1, zck_T, Option.some.inj e2]
    unfold yPim at h
    split at h
    · rename_i g; rw [if_pos g]
      split at h
      · rename_i g2; rw [if_pos g2]
        split at h
        · rename_i g3; rw [if_pos g3]; exact cc _ _ h
        · rename_i g3; rw [if_neg g3]
          split at h
          · rename_i g4; rw [if_pos g4]; exact cc _ _ h
          · rename_i g4; rw [if_neg g4]; exact cc _ _ h
      · rename_i g2; rw [if_neg g2]
        obtain ⟨u9, e9, h⟩ := zbd_t h
        rw [e9, zbd_S]
        split at h
        · rename_i g3; rw [if_pos g3]
          obtain ⟨u, e, h⟩ := zbd_t h
          rw [e, zbd_S]
          obtain ⟨f1, h⟩ := zck_t h
          rw [f1, zck_T]
          exact cc _ _ h
        · rename_i g3; rw [if_neg g3]
          obtain ⟨u, e, h⟩ := zbd_t h
          rw [e, zbd_S]
          obtain ⟨f1, h⟩ := zck_t h
          rw [f1, zck_T]
          exact cc _ _ h
    · rename_i g; rw [if_neg g]; exact cc _ _ h
  unfold fX5_picture_14
  rw [m_fails0, zbd_S]
  dsimp only
  rw [if_pos (show (0 : Int32) = 0 from rfl), h1, zck_T, zbn_E, h2, zck_T, zbn_E, h3, zbd_S]
  exact key _ _ h4
theorem q_picture {f : Nat → Int64} {now : Nat → Int32} {b : Nat → Nat} (hP : yP f b) (hN : yN now b) (hv : yV b) (thrown : Int32) (p1 : Int32) :
    ∃ (x y : Int32) (o : Nat) (t : Int32), fX4_picture f p1 = some (o, x) ∧ fX5_picture thrown now p1 = some (y, t) ∧ ((o = 0 ∧ t = 0 ∧ x = y) ∨ (o = 1 ∧ t = 1)) := by
  unfold fX4_picture fX5_picture
  rcases y_sq p1 with ⟨q, hq, rfl, e1, e2⟩ | ⟨e1, e2⟩
  · have hv2 := hv
    obtain ⟨v1, v2, v3, v4, -⟩ := hv2
    have hc28 := yV_28 hv hq
    have hN1 := hN q (by omega)
    have hN2 := hN (36 + q) (by omega)
    have hok := yPok_of (by have := v1 q hq; omega) (v3 q hq) (v4 q hq)
    have hd := v2 q hq
    have k1 := yPi_m (b q) (by omega) (b (36 + q)) (by omega) hok
    have k2 := yPi_c (b q) (by omega) (b (36 + q)) (by omega) hok
    have h36 : (36 : Int32) + nI q = nI (36 + q) := nI_add 36 q
    have em := m_picT now (nI q) (by exact zin_N (by omega) (by omega)) (by rw [h36]; exact zin_N (by omega) (by omega)) (m_isWall hN hv hq) (v := yPiv (b q) (b (36 + q))) (by rw [h36, tn_n (by omega), tn_n (by omega), hN1, hN2]; exact k1) thrown
    rw [e1, e2, zbd_S, zbd_S, if_pos rfl, if_neg (show ¬ (1 : Int32) = 0 by decide), c_sideOn hP hq, zbd_S, c_whatOn hP hq, zbd_S, c_kindOn hP hq, em]
    exact ⟨_, _, _, _, k2, rfl, Or.inl ⟨rfl, rfl, rfl⟩⟩
  · rw [e1, e2, zbd_S, zbd_S, if_neg (by decide), if_pos rfl]
    exact ⟨_, _, _, _, rfl, rfl, Or.inr ⟨rfl, rfl⟩⟩
theorem ynar_c : ∀ n, n < 127 → vp_nar .char (nI n) = nI n := by decide +kernel
theorem q_append {ch text : Nat → Int32} {c : Nat → Nat} {L : Nat} (h : yTx ch text c L) (thrown p : Int32) :
    ∃ (o : Nat) (t x y ln' : Int32) (ch' text' : Nat → Int32) (c' : Nat → Nat) (L' : Nat), fX4_append ch (nI L) p = some (o, x, ch', ln') ∧ fX5_append thrown text (nI L) p = some (y, t, text', ln') ∧ ((o = 0 ∧ t = 0 ∧ x = y) ∨ (o = 2 ∧ t = 1) ∨ (o = 3 ∧ t = 2)) ∧ ln' = nI L' ∧ yTx ch' text' c' L' := by
  have hL := h.1
  unfold fX4_append fX5_append
  have out : (p < (32 : Int32) ∨ (126 : Int32) < p) → ∃ (o : Nat) (t x y ln' : Int32) (ch' text' : Nat → Int32) (c' : Nat → Nat) (L' : Nat), (if p < (32 : Int32) then (some (2, (0 : Int32), ch, nI L)) else (if p ≤ (126 : Int32) then (zbd (fX1_isFull (nI L)) (fun u1 => (if u1 = 0 then (zbd (fX1_put ch (nI L) p) (fun u3 => (some (0, u3.1, u3.2.1, u3.2.2)))) else (some (3, (0 : Int32), ch, nI L))))) else (some (2, (0 : Int32), ch, nI L)))) = some (o, x, ch', ln') ∧ (zbd (fX5_isBetween p (32 : Int32) (126 : Int32)) (fun u1 => (if u1 = 0 then (fX5_append_18 thrown text (nI L) p (1 : Int32) (1 : Int32)) else (fX5_append_18 thrown text (nI L) p (0 : Int32) (1 : Int32))))) = some (y, t, text', ln') ∧ ((o = 0 ∧ t = 0 ∧ x = y) ∨ (o = 2 ∧ t = 1) ∨ (o = 3 ∧ t = 2)) ∧ ln' = nI L' ∧ yTx ch' text' c' L' := fun g => by
    rw [y_btw g, zbd_S, if_pos rfl]
    unfold fX5_append_18
    rw [m_fails1, zbd_S]
    dsimp only
    rw [if_neg (show ¬ (1 : Int32) = 0 by decide)]
    by_cases g1 : p < (32 : Int32)
    · rw [if_pos g1]
      exact ⟨_, _, _, _, _, _, _, c, L, rfl, rfl, Or.inr (Or.inl ⟨rfl, rfl⟩), rfl, h⟩
    · have g2 := g.resolve_left g1
      rw [if_neg g1, if_neg (fun z => by
        have a1 := Int32.lt_iff_toInt_lt.mp g2
        have a2 := Int32.le_iff_toInt_le.mp z
        omega)]
      exact ⟨_, _, _, _, _, _, _, c, L, rfl, rfl, Or.inr (Or.inl ⟨rfl, rfl⟩), rfl, h⟩
  rcases y_between p 126 (by omega) with ⟨n, hn, rfl⟩ | g
  · by_cases g : n < 32
    · exact out (Or.inl (nI_lt (b := 32) g (by omega)))
    · clear out
      rw [show fX5_isBetween (nI n) 32 126 = some 1 from y_btw1 (lo := 32) (hi := 126) (by omega) hn (by omega), zbd_S, if_neg (show ¬ (1 : Int32) = 0 by decide), if_neg (show ¬ nI n < (32 : Int32) from nI_nlt (b := 32) (by omega) (by omega)), if_pos (show nI n ≤ (126 : Int32) from nI_le (b := 126) hn (by omega))]
      unfold fX1_isFull fX5_append_18
      rw [m_fails0, zbd_S]
      dsimp only
      rw [if_pos (show (0 : Int32) = 0 from rfl)]
      by_cases k : L < 60
      · have hu : yTx (upd ch L (nI n)) (upd text L (nI n)) (fun j => if j = L then n else c j) (L + 1) := by
          refine ⟨by omega, fun j hj => ?_⟩
          unfold upd
          by_cases e : j = L
          · dsimp only
            rw [if_pos e, if_pos e, if_pos e]
            exact ⟨by omega, rfl, rfl⟩
          · dsimp only
            rw [if_neg e, if_neg e, if_neg e]
            exact h.2 j (by omega)
        have hn60 : ¬ nI L = (60 : Int32) := fun z => by
          have := (nI_eq (b := 60) (by omega) (by omega)).mp z
          omega
        rw [if_pos (show nI L < (60 : Int32) from nI_lt (b := 60) k (by omega)), zbd_S, if_pos rfl, if_neg hn60]
        unfold fX1_put fX1_put_36 fX5_append_40
        rw [if_neg (nI_pos (by omega)), if_neg (show ¬ (60 : Int32) ≤ nI L from nI_ge (b := 60) k (by omega)), zck_N k (by omega), zbd_S, tn_n (by omega), ynar_c n (by omega), nI_1, m_fails0, zbd_S]
        dsimp only
        rw [if_pos (show (0 : Int32) = 0 from rfl), zck_N k (by omega)]
        exact ⟨_, _, _, _, _, _, _, _, L + 1, rfl, rfl, Or.inl ⟨rfl, rfl, rfl⟩, rfl, hu⟩
      · have e60 : L = 60 := by omega
        subst e60
        rw [if_neg (show ¬ nI 60 < (60 : Int32) by decide), zbd_S, if_neg (show ¬ (1 : Int32) = 0 by decide), if_pos (show nI 60 = (60 : Int32) from rfl)]
        unfold fX5_append_40
        rw [m_fails1, zbd_S]
        exact ⟨_, _, _, _, _, _, _, c, 60, rfl, rfl, Or.inr (Or.inr ⟨rfl, rfl⟩), rfl, h⟩
  · rcases g with g | g
    · refine out (Or.inl (Int32.lt_iff_toInt_lt.mpr ?_))
      have a1 := Int32.lt_iff_toInt_lt.mp g
      have e0 : (0 : Int32).toInt = 0 := rfl
      have e32 : (32 : Int32).toInt = 32 := rfl
      omega
    · exact out (Or.inr g)

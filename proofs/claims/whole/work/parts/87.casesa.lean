/-! PURE 44: each call of the script -/
theorem zck_true {β : Type} {bb : Bool} {x : Option β} (h : bb = true) : zck bb x = x := by rw [h]; rfl
set_option maxHeartbeats 800000 in
theorem rCase0 {sv : Int32} {kE : Int32} {kR : Int32} {fb : Nat → Int64} {fs : Nat → Int64} {rws : Nat → Int64} {nx : Int32} {ct : Int32} {ch : Nat → Int32} {ln : Int32} {now : Nat → Int32} {saved : Nat → Int32} {hist : Nat → Nat → Int32} {kept : Int32} {reason : Int32} {detail : Int32} {isSaved : Int32} {isInText : Int32} {text : Nat → Int32} {length : Int32} {errorPosition : Int32} (h : yRel sv kE kR fb fs rws nx ct ch ln now saved hist kept reason detail isSaved isInText text length errorPosition) (xs : Nat → Int32) {L : Nat} {i : Int32} (z1 : zin (i + (1 : Int32)) L = true) (z2 : zin (i + (2 : Int32)) L = true) (z3 : zin (i + (3 : Int32)) L = true) (ft : Nat → Int64) (oo : Nat → Int64) (od_ : Nat → UInt64) (thrown : Int32) (comes : Nat → Int32) (queue : Nat → Int32) (far : Nat → Int32) (ahead : Nat → Int32) (roomAt : Nat → Int32) (rooms : Int32) (at_ : Int32) (toldFrom : Int32) (toldTo : Int32) (isWrong : Int32) (before : Nat → Int32) : ∃ o, fCase0 xs L i sv kE kR fb ft fs rws nx ct ch ln oo od_ thrown now saved hist kept reason detail isSaved comes queue far isInText ahead roomAt rooms text length at_ errorPosition toldFrom toldTo isWrong before = some o ∧ yRl o := by
  obtain ⟨b, c, Lt, hV, hP, hN, hH, ⟨hT, rfl, rfl⟩, rfl, ⟨rfl, hE⟩, hK, hS⟩ := h
  unfold fCase0
  obtain ⟨x, fb1, rws1, nx1, ct1, now1, hist1, e1, e2, f1, f2, f3⟩ := q_start hH hP hN hV thrown
  simp (decide := true) only [z1, z2, z3, zck_T, zbd_S, e1, e2, fX5_thrown, fX5_thrown, ↓reduceIte, zin00, zup0, zlcs, zupd, if_true, if_false]
  exact ⟨_, rfl, rfl, (ySt 6), c, Lt, ySt_U, f1, f2, f3, ⟨hT, rfl, rfl⟩, rfl, ⟨rfl, hE⟩, hK, hS⟩
set_option maxHeartbeats 800000 in
theorem rCase1 {sv : Int32} {kE : Int32} {kR : Int32} {fb : Nat → Int64} {fs : Nat → Int64} {rws : Nat → Int64} {nx : Int32} {ct : Int32} {ch : Nat → Int32} {ln : Int32} {now : Nat → Int32} {saved : Nat → Int32} {hist : Nat → Nat → Int32} {kept : Int32} {reason : Int32} {detail : Int32} {isSaved : Int32} {isInText : Int32} {text : Nat → Int32} {length : Int32} {errorPosition : Int32} (h : yRel sv kE kR fb fs rws nx ct ch ln now saved hist kept reason detail isSaved isInText text length errorPosition) (xs : Nat → Int32) {L : Nat} {i : Int32} (z1 : zin (i + (1 : Int32)) L = true) (z2 : zin (i + (2 : Int32)) L = true) (z3 : zin (i + (3 : Int32)) L = true) (ft : Nat → Int64) (oo : Nat → Int64) (od_ : Nat → UInt64) (thrown : Int32) (comes : Nat → Int32) (queue : Nat → Int32) (far : Nat → Int32) (ahead : Nat → Int32) (roomAt : Nat → Int32) (rooms : Int32) (at_ : Int32) (toldFrom : Int32) (toldTo : Int32) (isWrong : Int32) (before : Nat → Int32) : ∃ o, fCase1 xs L i sv kE kR fb ft fs rws nx ct ch ln oo od_ thrown now saved hist kept reason detail isSaved comes queue far isInText ahead roomAt rooms text length at_ errorPosition toldFrom toldTo isWrong before = some o ∧ yRl o := by
  obtain ⟨b, c, Lt, hV, hP, hN, hH, ⟨hT, rfl, rfl⟩, rfl, ⟨rfl, hE⟩, hK, hS⟩ := h
  unfold fCase1
  obtain ⟨x, fb1, rws1, nx1, ct1, now1, hist1, e1, e2, f1, f2, f3⟩ := q_clear hH hP hN hV thrown
  simp (decide := true) only [z1, z2, z3, zck_T, zbd_S, e1, e2, fX5_thrown, fX5_thrown, ↓reduceIte, zin00, zup0, zlcs, zupd, if_true, if_false]
  exact ⟨_, rfl, rfl, yb0, c, Lt, yb0_U, f1, f2, f3, ⟨hT, rfl, rfl⟩, rfl, ⟨rfl, hE⟩, hK, hS⟩
set_option maxHeartbeats 800000 in
theorem rCase2 {sv : Int32} {kE : Int32} {kR : Int32} {fb : Nat → Int64} {fs : Nat → Int64} {rws : Nat → Int64} {nx : Int32} {ct : Int32} {ch : Nat → Int32} {ln : Int32} {now : Nat → Int32} {saved : Nat → Int32} {hist : Nat → Nat → Int32} {kept : Int32} {reason : Int32} {detail : Int32} {isSaved : Int32} {isInText : Int32} {text : Nat → Int32} {length : Int32} {errorPosition : Int32} (h : yRel sv kE kR fb fs rws nx ct ch ln now saved hist kept reason detail isSaved isInText text length errorPosition) (xs : Nat → Int32) {L : Nat} {i : Int32} (z1 : zin (i + (1 : Int32)) L = true) (z2 : zin (i + (2 : Int32)) L = true) (z3 : zin (i + (3 : Int32)) L = true) (ft : Nat → Int64) (oo : Nat → Int64) (od_ : Nat → UInt64) (thrown : Int32) (comes : Nat → Int32) (queue : Nat → Int32) (far : Nat → Int32) (ahead : Nat → Int32) (roomAt : Nat → Int32) (rooms : Int32) (at_ : Int32) (toldFrom : Int32) (toldTo : Int32) (isWrong : Int32) (before : Nat → Int32) : ∃ o, fCase2 xs L i sv kE kR fb ft fs rws nx ct ch ln oo od_ thrown now saved hist kept reason detail isSaved comes queue far isInText ahead roomAt rooms text length at_ errorPosition toldFrom toldTo isWrong before = some o ∧ yRl o := by
  obtain ⟨b, c, Lt, hV, hP, hN, hH, ⟨hT, rfl, rfl⟩, rfl, ⟨rfl, hE⟩, hK, hS⟩ := h
  unfold fCase2
  obtain ⟨o, t, x, y, nx1, ct1, fb1, rws1, now1, hist1, b1, e1, e2, e3, f1, f2, f3, f4⟩ := q_lay hH hP hN hV thrown (xs (i + (1 : Int32)).toNatClampNeg) (xs (i + (2 : Int32)).toNatClampNeg) (xs (i + (3 : Int32)).toNatClampNeg)
  rcases e3 with ⟨rfl, rfl, rfl⟩ | ⟨rfl, rfl⟩ | ⟨rfl, rfl⟩ | ⟨rfl, rfl⟩
  · simp (decide := true) only [z1, z2, z3, zck_T, zbd_S, e1, e2, fL_lay, fX5_thrown, ↓reduceIte, zin00, zup0, zlcs, zupd, if_true, if_false]
    exact ⟨_, rfl, rfl, b1, c, Lt, f4, f2, f3, f1, ⟨hT, rfl, rfl⟩, rfl, ⟨rfl, hE⟩, hK, hS⟩
  · simp (decide := true) only [z1, z2, z3, zck_T, zbd_S, e1, e2, fL_lay, fX5_thrown, ↓reduceIte, zin00, zup0, zlcs, zupd, if_true, if_false]
    exact ⟨_, rfl, rfl, b1, c, Lt, f4, f2, f3, f1, ⟨hT, rfl, rfl⟩, rfl, ⟨rfl, hE⟩, hK, hS⟩
  · simp (decide := true) only [z1, z2, z3, zck_T, zbd_S, e1, e2, fL_lay, fX5_thrown, ↓reduceIte, zin00, zup0, zlcs, zupd, if_true, if_false]
    exact ⟨_, rfl, rfl, b1, c, Lt, f4, f2, f3, f1, ⟨hT, rfl, rfl⟩, rfl, ⟨rfl, hE⟩, hK, hS⟩
  · simp (decide := true) only [z1, z2, z3, zck_T, zbd_S, e1, e2, fL_lay, fX5_thrown, ↓reduceIte, zin00, zup0, zlcs, zupd, if_true, if_false]
    exact ⟨_, rfl, rfl, b1, c, Lt, f4, f2, f3, f1, ⟨hT, rfl, rfl⟩, rfl, ⟨rfl, hE⟩, hK, hS⟩
set_option maxHeartbeats 800000 in
theorem rCase3 {sv : Int32} {kE : Int32} {kR : Int32} {fb : Nat → Int64} {fs : Nat → Int64} {rws : Nat → Int64} {nx : Int32} {ct : Int32} {ch : Nat → Int32} {ln : Int32} {now : Nat → Int32} {saved : Nat → Int32} {hist : Nat → Nat → Int32} {kept : Int32} {reason : Int32} {detail : Int32} {isSaved : Int32} {isInText : Int32} {text : Nat → Int32} {length : Int32} {errorPosition : Int32} (h : yRel sv kE kR fb fs rws nx ct ch ln now saved hist kept reason detail isSaved isInText text length errorPosition) (xs : Nat → Int32) {L : Nat} {i : Int32} (z1 : zin (i + (1 : Int32)) L = true) (z2 : zin (i + (2 : Int32)) L = true) (z3 : zin (i + (3 : Int32)) L = true) (ft : Nat → Int64) (oo : Nat → Int64) (od_ : Nat → UInt64) (thrown : Int32) (comes : Nat → Int32) (queue : Nat → Int32) (far : Nat → Int32) (ahead : Nat → Int32) (roomAt : Nat → Int32) (rooms : Int32) (at_ : Int32) (toldFrom : Int32) (toldTo : Int32) (isWrong : Int32) (before : Nat → Int32) : ∃ o, fCase3 xs L i sv kE kR fb ft fs rws nx ct ch ln oo od_ thrown now saved hist kept reason detail isSaved comes queue far isInText ahead roomAt rooms text length at_ errorPosition toldFrom toldTo isWrong before = some o ∧ yRl o := by
  obtain ⟨b, c, Lt, hV, hP, hN, hH, ⟨hT, rfl, rfl⟩, rfl, ⟨rfl, hE⟩, hK, hS⟩ := h
  unfold fCase3
  obtain ⟨o, t, x, y, nx1, ct1, fb1, rws1, now1, hist1, b1, e1, e2, e3, f1, f2, f3, f4⟩ := q_wall hH hP hN hV thrown (xs (i + (1 : Int32)).toNatClampNeg)
  rcases e3 with ⟨rfl, rfl, rfl⟩ | ⟨rfl, rfl⟩ | ⟨rfl, rfl⟩
  · simp (decide := true) only [z1, z2, z3, zck_T, zbd_S, e1, e2, fL_wall, fX5_thrown, ↓reduceIte, zin00, zup0, zlcs, zupd, if_true, if_false]
    exact ⟨_, rfl, rfl, b1, c, Lt, f4, f2, f3, f1, ⟨hT, rfl, rfl⟩, rfl, ⟨rfl, hE⟩, hK, hS⟩
  · simp (decide := true) only [z1, z2, z3, zck_T, zbd_S, e1, e2, fL_wall, fX5_thrown, ↓reduceIte, zin00, zup0, zlcs, zupd, if_true, if_false]
    exact ⟨_, rfl, rfl, b1, c, Lt, f4, f2, f3, f1, ⟨hT, rfl, rfl⟩, rfl, ⟨rfl, hE⟩, hK, hS⟩
  · simp (decide := true) only [z1, z2, z3, zck_T, zbd_S, e1, e2, fL_wall, fX5_thrown, ↓reduceIte, zin00, zup0, zlcs, zupd, if_true, if_false]
    exact ⟨_, rfl, rfl, b1, c, Lt, f4, f2, f3, f1, ⟨hT, rfl, rfl⟩, rfl, ⟨rfl, hE⟩, hK, hS⟩
set_option maxHeartbeats 800000 in
theorem rCase4 {sv : Int32} {kE : Int32} {kR : Int32} {fb : Nat → Int64} {fs : Nat → Int64} {rws : Nat → Int64} {nx : Int32} {ct : Int32} {ch : Nat → Int32} {ln : Int32} {now : Nat → Int32} {saved : Nat → Int32} {hist : Nat → Nat → Int32} {kept : Int32} {reason : Int32} {detail : Int32} {isSaved : Int32} {isInText : Int32} {text : Nat → Int32} {length : Int32} {errorPosition : Int32} (h : yRel sv kE kR fb fs rws nx ct ch ln now saved hist kept reason detail isSaved isInText text length errorPosition) (xs : Nat → Int32) {L : Nat} {i : Int32} (z1 : zin (i + (1 : Int32)) L = true) (z2 : zin (i + (2 : Int32)) L = true) (z3 : zin (i + (3 : Int32)) L = true) (ft : Nat → Int64) (oo : Nat → Int64) (od_ : Nat → UInt64) (thrown : Int32) (comes : Nat → Int32) (queue : Nat → Int32) (far : Nat → Int32) (ahead : Nat → Int32) (roomAt : Nat → Int32) (rooms : Int32) (at_ : Int32) (toldFrom : Int32) (toldTo : Int32) (isWrong : Int32) (before : Nat → Int32) : ∃ o, fCase4 xs L i sv kE kR fb ft fs rws nx ct ch ln oo od_ thrown now saved hist kept reason detail isSaved comes queue far isInText ahead roomAt rooms text length at_ errorPosition toldFrom toldTo isWrong before = some o ∧ yRl o := by
  obtain ⟨b, c, Lt, hV, hP, hN, hH, ⟨hT, rfl, rfl⟩, rfl, ⟨rfl, hE⟩, hK, hS⟩ := h
  unfold fCase4
  obtain ⟨o, t, x, y, kR1, nx1, ct1, rs1, dt1, fb1, rws1, now1, c1, q1, g1, hist1, b1, e1, e2, e3, f1, f2, f3, f4, f5⟩ := q_move hH hP hN hV hK thrown comes queue far (xs (i + (1 : Int32)).toNatClampNeg) (xs (i + (2 : Int32)).toNatClampNeg)
  rcases e3 with ⟨rfl, rfl, rfl⟩ | ⟨rfl, rfl⟩ | ⟨rfl, rfl⟩
  · simp (decide := true) only [z1, z2, z3, zck_T, zbd_S, e1, e2, fL_move, fX5_thrown, ↓reduceIte, zin00, zup0, zlcs, zupd, if_true, if_false]
    exact ⟨_, rfl, rfl, b1, c, Lt, f4, f2, f3, f1, ⟨hT, rfl, rfl⟩, rfl, ⟨rfl, hE⟩, f5, hS⟩
  · simp (decide := true) only [z1, z2, z3, zck_T, zbd_S, e1, e2, fL_move, fX5_thrown, ↓reduceIte, zin00, zup0, zlcs, zupd, if_true, if_false]
    exact ⟨_, rfl, rfl, b1, c, Lt, f4, f2, f3, f1, ⟨hT, rfl, rfl⟩, rfl, ⟨rfl, hE⟩, f5, hS⟩
  · simp (decide := true) only [z1, z2, z3, zck_T, zbd_S, e1, e2, fL_move, fX5_thrown, ↓reduceIte, zin00, zup0, zlcs, zupd, if_true, if_false]
    exact ⟨_, rfl, rfl, b1, c, Lt, f4, f2, f3, f1, ⟨hT, rfl, rfl⟩, rfl, ⟨rfl, hE⟩, f5, hS⟩
set_option maxHeartbeats 800000 in
theorem rCase5 {sv : Int32} {kE : Int32} {kR : Int32} {fb : Nat → Int64} {fs : Nat → Int64} {rws : Nat → Int64} {nx : Int32} {ct : Int32} {ch : Nat → Int32} {ln : Int32} {now : Nat → Int32} {saved : Nat → Int32} {hist : Nat → Nat → Int32} {kept : Int32} {reason : Int32} {detail : Int32} {isSaved : Int32} {isInText : Int32} {text : Nat → Int32} {length : Int32} {errorPosition : Int32} (h : yRel sv kE kR fb fs rws nx ct ch ln now saved hist kept reason detail isSaved isInText text length errorPosition) (xs : Nat → Int32) {L : Nat} {i : Int32} (z1 : zin (i + (1 : Int32)) L = true) (z2 : zin (i + (2 : Int32)) L = true) (z3 : zin (i + (3 : Int32)) L = true) (ft : Nat → Int64) (oo : Nat → Int64) (od_ : Nat → UInt64) (thrown : Int32) (comes : Nat → Int32) (queue : Nat → Int32) (far : Nat → Int32) (ahead : Nat → Int32) (roomAt : Nat → Int32) (rooms : Int32) (at_ : Int32) (toldFrom : Int32) (toldTo : Int32) (isWrong : Int32) (before : Nat → Int32) : ∃ o, fCase5 xs L i sv kE kR fb ft fs rws nx ct ch ln oo od_ thrown now saved hist kept reason detail isSaved comes queue far isInText ahead roomAt rooms text length at_ errorPosition toldFrom toldTo isWrong before = some o ∧ yRl o := by
  obtain ⟨b, c, Lt, hV, hP, hN, hH, ⟨hT, rfl, rfl⟩, rfl, ⟨rfl, hE⟩, hK, hS⟩ := h
  unfold fCase5
  obtain ⟨o, t, x, y, kR1, nx1, ct1, rs1, dt1, fb1, rws1, now1, c1, q1, g1, hist1, b1, e1, e2, e3, f1, f2, f3, f4, f5⟩ := q_door hH hP hN hV hK thrown comes queue far (xs (i + (1 : Int32)).toNatClampNeg)
  rcases e3 with ⟨rfl, rfl, rfl⟩ | ⟨rfl, rfl⟩ | ⟨rfl, rfl⟩
  · simp (decide := true) only [z1, z2, z3, zck_T, zbd_S, e1, e2, fL_door, fX5_thrown, ↓reduceIte, zin00, zup0, zlcs, zupd, if_true, if_false]
    exact ⟨_, rfl, rfl, b1, c, Lt, f4, f2, f3, f1, ⟨hT, rfl, rfl⟩, rfl, ⟨rfl, hE⟩, f5, hS⟩
  · simp (decide := true) only [z1, z2, z3, zck_T, zbd_S, e1, e2, fL_door, fX5_thrown, ↓reduceIte, zin00, zup0, zlcs, zupd, if_true, if_false]
    exact ⟨_, rfl, rfl, b1, c, Lt, f4, f2, f3, f1, ⟨hT, rfl, rfl⟩, rfl, ⟨rfl, hE⟩, f5, hS⟩
  · simp (decide := true) only [z1, z2, z3, zck_T, zbd_S, e1, e2, fL_door, fX5_thrown, ↓reduceIte, zin00, zup0, zlcs, zupd, if_true, if_false]
    exact ⟨_, rfl, rfl, b1, c, Lt, f4, f2, f3, f1, ⟨hT, rfl, rfl⟩, rfl, ⟨rfl, hE⟩, f5, hS⟩
set_option maxHeartbeats 800000 in
theorem rCase6 {sv : Int32} {kE : Int32} {kR : Int32} {fb : Nat → Int64} {fs : Nat → Int64} {rws : Nat → Int64} {nx : Int32} {ct : Int32} {ch : Nat → Int32} {ln : Int32} {now : Nat → Int32} {saved : Nat → Int32} {hist : Nat → Nat → Int32} {kept : Int32} {reason : Int32} {detail : Int32} {isSaved : Int32} {isInText : Int32} {text : Nat → Int32} {length : Int32} {errorPosition : Int32} (h : yRel sv kE kR fb fs rws nx ct ch ln now saved hist kept reason detail isSaved isInText text length errorPosition) (xs : Nat → Int32) {L : Nat} {i : Int32} (z1 : zin (i + (1 : Int32)) L = true) (z2 : zin (i + (2 : Int32)) L = true) (z3 : zin (i + (3 : Int32)) L = true) (ft : Nat → Int64) (oo : Nat → Int64) (od_ : Nat → UInt64) (thrown : Int32) (comes : Nat → Int32) (queue : Nat → Int32) (far : Nat → Int32) (ahead : Nat → Int32) (roomAt : Nat → Int32) (rooms : Int32) (at_ : Int32) (toldFrom : Int32) (toldTo : Int32) (isWrong : Int32) (before : Nat → Int32) : ∃ o, fCase6 xs L i sv kE kR fb ft fs rws nx ct ch ln oo od_ thrown now saved hist kept reason detail isSaved comes queue far isInText ahead roomAt rooms text length at_ errorPosition toldFrom toldTo isWrong before = some o ∧ yRl o := by
  obtain ⟨b, c, Lt, hV, hP, hN, hH, ⟨hT, rfl, rfl⟩, rfl, ⟨rfl, hE⟩, hK, hS⟩ := h
  unfold fCase6
  obtain ⟨o, t, x, y, kR1, nx1, ct1, rs1, dt1, fb1, rws1, now1, c1, q1, g1, hist1, b1, e1, e2, e3, f1, f2, f3, f4, f5⟩ := q_buy hH hP hN hV hK thrown comes queue far (xs (i + (1 : Int32)).toNatClampNeg)
  rcases e3 with ⟨rfl, rfl, rfl⟩ | ⟨rfl, rfl⟩ | ⟨rfl, rfl⟩
  · simp (decide := true) only [z1, z2, z3, zck_T, zbd_S, e1, e2, fL_buy, fX5_thrown, ↓reduceIte, zin00, zup0, zlcs, zupd, if_true, if_false]
    exact ⟨_, rfl, rfl, b1, c, Lt, f4, f2, f3, f1, ⟨hT, rfl, rfl⟩, rfl, ⟨rfl, hE⟩, f5, hS⟩
  · simp (decide := true) only [z1, z2, z3, zck_T, zbd_S, e1, e2, fL_buy, fX5_thrown, ↓reduceIte, zin00, zup0, zlcs, zupd, if_true, if_false]
    exact ⟨_, rfl, rfl, b1, c, Lt, f4, f2, f3, f1, ⟨hT, rfl, rfl⟩, rfl, ⟨rfl, hE⟩, f5, hS⟩
  · simp (decide := true) only [z1, z2, z3, zck_T, zbd_S, e1, e2, fL_buy, fX5_thrown, ↓reduceIte, zin00, zup0, zlcs, zupd, if_true, if_false]
    exact ⟨_, rfl, rfl, b1, c, Lt, f4, f2, f3, f1, ⟨hT, rfl, rfl⟩, rfl, ⟨rfl, hE⟩, f5, hS⟩
set_option maxHeartbeats 800000 in
theorem rCase7 {sv : Int32} {kE : Int32} {kR : Int32} {fb : Nat → Int64} {fs : Nat → Int64} {rws : Nat → Int64} {nx : Int32} {ct : Int32} {ch : Nat → Int32} {ln : Int32} {now : Nat → Int32} {saved : Nat → Int32} {hist : Nat → Nat → Int32} {kept : Int32} {reason : Int32} {detail : Int32} {isSaved : Int32} {isInText : Int32} {text : Nat → Int32} {length : Int32} {errorPosition : Int32} (h : yRel sv kE kR fb fs rws nx ct ch ln now saved hist kept reason detail isSaved isInText text length errorPosition) (xs : Nat → Int32) {L : Nat} {i : Int32} (z1 : zin (i + (1 : Int32)) L = true) (z2 : zin (i + (2 : Int32)) L = true) (z3 : zin (i + (3 : Int32)) L = true) (ft : Nat → Int64) (oo : Nat → Int64) (od_ : Nat → UInt64) (thrown : Int32) (comes : Nat → Int32) (queue : Nat → Int32) (far : Nat → Int32) (ahead : Nat → Int32) (roomAt : Nat → Int32) (rooms : Int32) (at_ : Int32) (toldFrom : Int32) (toldTo : Int32) (isWrong : Int32) (before : Nat → Int32) : ∃ o, fCase7 xs L i sv kE kR fb ft fs rws nx ct ch ln oo od_ thrown now saved hist kept reason detail isSaved comes queue far isInText ahead roomAt rooms text length at_ errorPosition toldFrom toldTo isWrong before = some o ∧ yRl o := by
  obtain ⟨b, c, Lt, hV, hP, hN, hH, ⟨hT, rfl, rfl⟩, rfl, ⟨rfl, hE⟩, hK, hS⟩ := h
  unfold fCase7
  obtain ⟨x, y, o, t, e1, e2, e3⟩ := q_square hP hN hV.1 thrown (xs (i + (1 : Int32)).toNatClampNeg) (xs (i + (2 : Int32)).toNatClampNeg)
  rcases e3 with ⟨rfl, rfl, rfl⟩ | ⟨rfl, rfl⟩ | ⟨rfl, rfl⟩
  · simp (decide := true) only [z1, z2, z3, zck_T, zbd_S, e1, e2, fL_square, fX5_thrown, ↓reduceIte, zin00, zup0, zlcs, zupd, if_true, if_false]
    exact ⟨_, rfl, rfl, b, c, Lt, hV, hP, hN, hH, ⟨hT, rfl, rfl⟩, rfl, ⟨rfl, hE⟩, hK, hS⟩
  · simp (decide := true) only [z1, z2, z3, zck_T, zbd_S, e1, e2, fL_square, fX5_thrown, ↓reduceIte, zin00, zup0, zlcs, zupd, if_true, if_false]
    exact ⟨_, rfl, rfl, b, c, Lt, hV, hP, hN, hH, ⟨hT, rfl, rfl⟩, rfl, ⟨rfl, hE⟩, hK, hS⟩
  · simp (decide := true) only [z1, z2, z3, zck_T, zbd_S, e1, e2, fL_square, fX5_thrown, ↓reduceIte, zin00, zup0, zlcs, zupd, if_true, if_false]
    exact ⟨_, rfl, rfl, b, c, Lt, hV, hP, hN, hH, ⟨hT, rfl, rfl⟩, rfl, ⟨rfl, hE⟩, hK, hS⟩
set_option maxHeartbeats 800000 in
theorem rCase8 {sv : Int32} {kE : Int32} {kR : Int32} {fb : Nat → Int64} {fs : Nat → Int64} {rws : Nat → Int64} {nx : Int32} {ct : Int32} {ch : Nat → Int32} {ln : Int32} {now : Nat → Int32} {saved : Nat → Int32} {hist : Nat → Nat → Int32} {kept : Int32} {reason : Int32} {detail : Int32} {isSaved : Int32} {isInText : Int32} {text : Nat → Int32} {length : Int32} {errorPosition : Int32} (h : yRel sv kE kR fb fs rws nx ct ch ln now saved hist kept reason detail isSaved isInText text length errorPosition) (xs : Nat → Int32) {L : Nat} {i : Int32} (z1 : zin (i + (1 : Int32)) L = true) (z2 : zin (i + (2 : Int32)) L = true) (z3 : zin (i + (3 : Int32)) L = true) (ft : Nat → Int64) (oo : Nat → Int64) (od_ : Nat → UInt64) (thrown : Int32) (comes : Nat → Int32) (queue : Nat → Int32) (far : Nat → Int32) (ahead : Nat → Int32) (roomAt : Nat → Int32) (rooms : Int32) (at_ : Int32) (toldFrom : Int32) (toldTo : Int32) (isWrong : Int32) (before : Nat → Int32) : ∃ o, fCase8 xs L i sv kE kR fb ft fs rws nx ct ch ln oo od_ thrown now saved hist kept reason detail isSaved comes queue far isInText ahead roomAt rooms text length at_ errorPosition toldFrom toldTo isWrong before = some o ∧ yRl o := by
  obtain ⟨b, c, Lt, hV, hP, hN, hH, ⟨hT, rfl, rfl⟩, rfl, ⟨rfl, hE⟩, hK, hS⟩ := h
  unfold fCase8
  obtain ⟨x, y, o, t, c1, q1, g1, e1, e2, e3⟩ := q_canMove hP hN hV.1 thrown comes queue far (xs (i + (1 : Int32)).toNatClampNeg) (xs (i + (2 : Int32)).toNatClampNeg)
  rcases e3 with ⟨rfl, rfl, rfl, cb, rfl⟩ | ⟨rfl, rfl⟩ | ⟨rfl, rfl⟩
  · cases cb with
    | false =>
      rw [yb_f] at e1 e2
      simp (decide := true) only [z1, z2, z3, zck_T, zbd_S, e1, e2, fL_canMove, fL_canMove_16, fX5_thrown, ↓reduceIte, zin00, zup0, zlcs, zupd, if_true, if_false]
      exact ⟨_, rfl, rfl, b, c, Lt, hV, hP, hN, hH, ⟨hT, rfl, rfl⟩, rfl, ⟨rfl, hE⟩, hK, hS⟩
    | true =>
      rw [yb_t] at e1 e2
      simp (decide := true) only [z1, z2, z3, zck_T, zbd_S, e1, e2, fL_canMove, fL_canMove_16, fX5_thrown, ↓reduceIte, zin00, zup0, zlcs, zupd, if_true, if_false]
      exact ⟨_, rfl, rfl, b, c, Lt, hV, hP, hN, hH, ⟨hT, rfl, rfl⟩, rfl, ⟨rfl, hE⟩, hK, hS⟩
  · simp (decide := true) only [z1, z2, z3, zck_T, zbd_S, e1, e2, fL_canMove, fL_canMove_16, fX5_thrown, ↓reduceIte, zin00, zup0, zlcs, zupd, if_true, if_false]
    exact ⟨_, rfl, rfl, b, c, Lt, hV, hP, hN, hH, ⟨hT, rfl, rfl⟩, rfl, ⟨rfl, hE⟩, hK, hS⟩
  · simp (decide := true) only [z1, z2, z3, zck_T, zbd_S, e1, e2, fL_canMove, fL_canMove_16, fX5_thrown, ↓reduceIte, zin00, zup0, zlcs, zupd, if_true, if_false]
    exact ⟨_, rfl, rfl, b, c, Lt, hV, hP, hN, hH, ⟨hT, rfl, rfl⟩, rfl, ⟨rfl, hE⟩, hK, hS⟩
set_option maxHeartbeats 800000 in
theorem rCase9 {sv : Int32} {kE : Int32} {kR : Int32} {fb : Nat → Int64} {fs : Nat → Int64} {rws : Nat → Int64} {nx : Int32} {ct : Int32} {ch : Nat → Int32} {ln : Int32} {now : Nat → Int32} {saved : Nat → Int32} {hist : Nat → Nat → Int32} {kept : Int32} {reason : Int32} {detail : Int32} {isSaved : Int32} {isInText : Int32} {text : Nat → Int32} {length : Int32} {errorPosition : Int32} (h : yRel sv kE kR fb fs rws nx ct ch ln now saved hist kept reason detail isSaved isInText text length errorPosition) (xs : Nat → Int32) {L : Nat} {i : Int32} (z1 : zin (i + (1 : Int32)) L = true) (z2 : zin (i + (2 : Int32)) L = true) (z3 : zin (i + (3 : Int32)) L = true) (ft : Nat → Int64) (oo : Nat → Int64) (od_ : Nat → UInt64) (thrown : Int32) (comes : Nat → Int32) (queue : Nat → Int32) (far : Nat → Int32) (ahead : Nat → Int32) (roomAt : Nat → Int32) (rooms : Int32) (at_ : Int32) (toldFrom : Int32) (toldTo : Int32) (isWrong : Int32) (before : Nat → Int32) : ∃ o, fCase9 xs L i sv kE kR fb ft fs rws nx ct ch ln oo od_ thrown now saved hist kept reason detail isSaved comes queue far isInText ahead roomAt rooms text length at_ errorPosition toldFrom toldTo isWrong before = some o ∧ yRl o := by
  obtain ⟨b, c, Lt, hV, hP, hN, hH, ⟨hT, rfl, rfl⟩, rfl, ⟨rfl, hE⟩, hK, hS⟩ := h
  unfold fCase9
  obtain ⟨x, y, o, t, c1, q1, g1, e1, e2, e3⟩ := q_moves hP hN hV.1 thrown comes queue far (xs (i + (1 : Int32)).toNatClampNeg)
  rcases e3 with ⟨rfl, rfl, rfl⟩ | ⟨rfl, rfl⟩ | ⟨rfl, rfl⟩
  · simp (decide := true) only [z1, z2, z3, zck_T, zbd_S, e1, e2, fL_moves, fX5_thrown, ↓reduceIte, zin00, zup0, zlcs, zupd, if_true, if_false]
    exact ⟨_, rfl, rfl, b, c, Lt, hV, hP, hN, hH, ⟨hT, rfl, rfl⟩, rfl, ⟨rfl, hE⟩, hK, hS⟩
  · simp (decide := true) only [z1, z2, z3, zck_T, zbd_S, e1, e2, fL_moves, fX5_thrown, ↓reduceIte, zin00, zup0, zlcs, zupd, if_true, if_false]
    exact ⟨_, rfl, rfl, b, c, Lt, hV, hP, hN, hH, ⟨hT, rfl, rfl⟩, rfl, ⟨rfl, hE⟩, hK, hS⟩
  · simp (decide := true) only [z1, z2, z3, zck_T, zbd_S, e1, e2, fL_moves, fX5_thrown, ↓reduceIte, zin00, zup0, zlcs, zupd, if_true, if_false]
    exact ⟨_, rfl, rfl, b, c, Lt, hV, hP, hN, hH, ⟨hT, rfl, rfl⟩, rfl, ⟨rfl, hE⟩, hK, hS⟩

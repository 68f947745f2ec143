set_option maxHeartbeats 800000 in
theorem rCase20 {sv : Int32} {kE : Int32} {kR : Int32} {fb : Nat → Int64} {fs : Nat → Int64} {rws : Nat → Int64} {nx : Int32} {ct : Int32} {ch : Nat → Int32} {ln : Int32} {now : Nat → Int32} {saved : Nat → Int32} {hist : Nat → Nat → Int32} {kept : Int32} {reason : Int32} {detail : Int32} {isSaved : Int32} {isInText : Int32} {text : Nat → Int32} {length : Int32} {errorPosition : Int32} (h : yRel sv kE kR fb fs rws nx ct ch ln now saved hist kept reason detail isSaved isInText text length errorPosition) (xs : Nat → Int32) {L : Nat} {i : Int32} (z1 : zin (i + (1 : Int32)) L = true) (z2 : zin (i + (2 : Int32)) L = true) (z3 : zin (i + (3 : Int32)) L = true) (ft : Nat → Int64) (oo : Nat → Int64) (od_ : Nat → UInt64) (thrown : Int32) (comes : Nat → Int32) (queue : Nat → Int32) (far : Nat → Int32) (ahead : Nat → Int32) (roomAt : Nat → Int32) (rooms : Int32) (at_ : Int32) (toldFrom : Int32) (toldTo : Int32) (isWrong : Int32) (before : Nat → Int32) : ∃ o, fCase20 xs L i sv kE kR fb ft fs rws nx ct ch ln oo od_ thrown now saved hist kept reason detail isSaved comes queue far isInText ahead roomAt rooms text length at_ errorPosition toldFrom toldTo isWrong before = some o ∧ yRl o := by
  obtain ⟨b, c, Lt, hV, hP, hN, hH, ⟨hT, rfl, rfl⟩, rfl, ⟨rfl, hE⟩, hK, hS⟩ := h
  unfold fCase20
  obtain ⟨o, t, x, y, ln1, ch1, tx1, c1, L1, e1, e2, e3, rfl, f2⟩ := q_append hT thrown (((xs (i + (1 : Int32)).toNatClampNeg).toUInt32 % 65536).toInt32)
  rcases e3 with ⟨rfl, rfl, rfl⟩ | ⟨rfl, rfl⟩ | ⟨rfl, rfl⟩
  · simp (decide := true) only [z1, z2, z3, zck_T, zbd_S, e1, e2, fL_append, fX5_thrown, ↓reduceIte, zin00, zup0, zlcs, zupd, if_true, if_false]
    exact ⟨_, rfl, rfl, b, c1, L1, hV, hP, hN, hH, ⟨f2, rfl, rfl⟩, rfl, ⟨rfl, hE⟩, hK, hS⟩
  · simp (decide := true) only [z1, z2, z3, zck_T, zbd_S, e1, e2, fL_append, fX5_thrown, ↓reduceIte, zin00, zup0, zlcs, zupd, if_true, if_false]
    exact ⟨_, rfl, rfl, b, c1, L1, hV, hP, hN, hH, ⟨f2, rfl, rfl⟩, rfl, ⟨rfl, hE⟩, hK, hS⟩
  · simp (decide := true) only [z1, z2, z3, zck_T, zbd_S, e1, e2, fL_append, fX5_thrown, ↓reduceIte, zin00, zup0, zlcs, zupd, if_true, if_false]
    exact ⟨_, rfl, rfl, b, c1, L1, hV, hP, hN, hH, ⟨f2, rfl, rfl⟩, rfl, ⟨rfl, hE⟩, hK, hS⟩
set_option maxHeartbeats 800000 in
theorem rCase21 {sv : Int32} {kE : Int32} {kR : Int32} {fb : Nat → Int64} {fs : Nat → Int64} {rws : Nat → Int64} {nx : Int32} {ct : Int32} {ch : Nat → Int32} {ln : Int32} {now : Nat → Int32} {saved : Nat → Int32} {hist : Nat → Nat → Int32} {kept : Int32} {reason : Int32} {detail : Int32} {isSaved : Int32} {isInText : Int32} {text : Nat → Int32} {length : Int32} {errorPosition : Int32} (h : yRel sv kE kR fb fs rws nx ct ch ln now saved hist kept reason detail isSaved isInText text length errorPosition) (xs : Nat → Int32) {L : Nat} {i : Int32} (z1 : zin (i + (1 : Int32)) L = true) (z2 : zin (i + (2 : Int32)) L = true) (z3 : zin (i + (3 : Int32)) L = true) (ft : Nat → Int64) (oo : Nat → Int64) (od_ : Nat → UInt64) (thrown : Int32) (comes : Nat → Int32) (queue : Nat → Int32) (far : Nat → Int32) (ahead : Nat → Int32) (roomAt : Nat → Int32) (rooms : Int32) (at_ : Int32) (toldFrom : Int32) (toldTo : Int32) (isWrong : Int32) (before : Nat → Int32) : ∃ o, fCase21 xs L i sv kE kR fb ft fs rws nx ct ch ln oo od_ thrown now saved hist kept reason detail isSaved comes queue far isInText ahead roomAt rooms text length at_ errorPosition toldFrom toldTo isWrong before = some o ∧ yRl o := by
  obtain ⟨b, c, Lt, hV, hP, hN, hH, ⟨hT, rfl, rfl⟩, rfl, ⟨rfl, hE⟩, hK, hS⟩ := h
  unfold fCase21
  obtain ⟨o, t, x, y, kE1, kR1, nx1, ct1, ln1, rs1, dt1, at1, tf1, tt1, wr1, it1, fb1, ft1, rws1, now1, c1, q1, g1, bf1, hist1, b1, e1, e2, e3, rfl, rfl, f3, f4, f5, f6, f7, f8⟩ := q_read hT hH hP hN hV hK ft thrown kE toldFrom toldTo at_ isWrong comes queue far before hE
  have hT0 : yTx ch text c 0 := ⟨by omega, fun j hj => absurd hj (by omega)⟩
  rcases e3 with ⟨rfl, rfl, rfl⟩ | ⟨rfl, rfl⟩ | ⟨rfl, rfl⟩
  · simp (decide := true) only [z1, z2, z3, zck_T, zbd_S, e1, e2, fL_read, fX5_thrown, ↓reduceIte, zin00, zup0, zlcs, zupd, if_true, if_false]
    exact ⟨_, rfl, rfl, b1, c, 0, f7, f5, f6, f4, ⟨hT0, rfl, rfl⟩, rfl, ⟨rfl, f3⟩, f8, hS⟩
  · simp (decide := true) only [z1, z2, z3, zck_T, zbd_S, e1, e2, fL_read, fX5_thrown, ↓reduceIte, zin00, zup0, zlcs, zupd, if_true, if_false]
    exact ⟨_, rfl, rfl, b1, c, 0, f7, f5, f6, f4, ⟨hT0, rfl, rfl⟩, rfl, ⟨rfl, f3⟩, f8, hS⟩
  · simp (decide := true) only [z1, z2, z3, zck_T, zbd_S, e1, e2, fL_read, fX5_thrown, ↓reduceIte, zin00, zup0, zlcs, zupd, if_true, if_false]
    exact ⟨_, rfl, rfl, b1, c, 0, f7, f5, f6, f4, ⟨hT0, rfl, rfl⟩, rfl, ⟨rfl, f3⟩, f8, hS⟩
set_option maxHeartbeats 800000 in
theorem rCase22 {sv : Int32} {kE : Int32} {kR : Int32} {fb : Nat → Int64} {fs : Nat → Int64} {rws : Nat → Int64} {nx : Int32} {ct : Int32} {ch : Nat → Int32} {ln : Int32} {now : Nat → Int32} {saved : Nat → Int32} {hist : Nat → Nat → Int32} {kept : Int32} {reason : Int32} {detail : Int32} {isSaved : Int32} {isInText : Int32} {text : Nat → Int32} {length : Int32} {errorPosition : Int32} (h : yRel sv kE kR fb fs rws nx ct ch ln now saved hist kept reason detail isSaved isInText text length errorPosition) (xs : Nat → Int32) {L : Nat} {i : Int32} (z1 : zin (i + (1 : Int32)) L = true) (z2 : zin (i + (2 : Int32)) L = true) (z3 : zin (i + (3 : Int32)) L = true) (ft : Nat → Int64) (oo : Nat → Int64) (od_ : Nat → UInt64) (thrown : Int32) (comes : Nat → Int32) (queue : Nat → Int32) (far : Nat → Int32) (ahead : Nat → Int32) (roomAt : Nat → Int32) (rooms : Int32) (at_ : Int32) (toldFrom : Int32) (toldTo : Int32) (isWrong : Int32) (before : Nat → Int32) : ∃ o, fCase22 xs L i sv kE kR fb ft fs rws nx ct ch ln oo od_ thrown now saved hist kept reason detail isSaved comes queue far isInText ahead roomAt rooms text length at_ errorPosition toldFrom toldTo isWrong before = some o ∧ yRl o := by
  obtain ⟨b, c, Lt, hV, hP, hN, hH, ⟨hT, rfl, rfl⟩, rfl, ⟨rfl, hE⟩, hK, hS⟩ := h
  unfold fCase22
  obtain ⟨x, y, o, t, e1, e2, e3⟩ := q_errorPosition kE thrown hE
  rcases e3 with ⟨rfl, rfl, rfl⟩ | ⟨rfl, rfl⟩
  · simp (decide := true) only [z1, z2, z3, zck_T, zbd_S, e1, e2, fL_errorPosition, fX5_thrown, ↓reduceIte, zin00, zup0, zlcs, zupd, if_true, if_false]
    exact ⟨_, rfl, rfl, b, c, Lt, hV, hP, hN, hH, ⟨hT, rfl, rfl⟩, rfl, ⟨rfl, hE⟩, hK, hS⟩
  · simp (decide := true) only [z1, z2, z3, zck_T, zbd_S, e1, e2, fL_errorPosition, fX5_thrown, ↓reduceIte, zin00, zup0, zlcs, zupd, if_true, if_false]
    exact ⟨_, rfl, rfl, b, c, Lt, hV, hP, hN, hH, ⟨hT, rfl, rfl⟩, rfl, ⟨rfl, hE⟩, hK, hS⟩
set_option maxHeartbeats 800000 in
theorem rCase23 {sv : Int32} {kE : Int32} {kR : Int32} {fb : Nat → Int64} {fs : Nat → Int64} {rws : Nat → Int64} {nx : Int32} {ct : Int32} {ch : Nat → Int32} {ln : Int32} {now : Nat → Int32} {saved : Nat → Int32} {hist : Nat → Nat → Int32} {kept : Int32} {reason : Int32} {detail : Int32} {isSaved : Int32} {isInText : Int32} {text : Nat → Int32} {length : Int32} {errorPosition : Int32} (h : yRel sv kE kR fb fs rws nx ct ch ln now saved hist kept reason detail isSaved isInText text length errorPosition) (xs : Nat → Int32) {L : Nat} {i : Int32} (z1 : zin (i + (1 : Int32)) L = true) (z2 : zin (i + (2 : Int32)) L = true) (z3 : zin (i + (3 : Int32)) L = true) (ft : Nat → Int64) (oo : Nat → Int64) (od_ : Nat → UInt64) (thrown : Int32) (comes : Nat → Int32) (queue : Nat → Int32) (far : Nat → Int32) (ahead : Nat → Int32) (roomAt : Nat → Int32) (rooms : Int32) (at_ : Int32) (toldFrom : Int32) (toldTo : Int32) (isWrong : Int32) (before : Nat → Int32) : ∃ o, fCase23 xs L i sv kE kR fb ft fs rws nx ct ch ln oo od_ thrown now saved hist kept reason detail isSaved comes queue far isInText ahead roomAt rooms text length at_ errorPosition toldFrom toldTo isWrong before = some o ∧ yRl o := by
  obtain ⟨b, c, Lt, hV, hP, hN, hH, ⟨hT, rfl, rfl⟩, rfl, ⟨rfl, hE⟩, hK, hS⟩ := h
  unfold fCase23
  by_cases hx : (xs (i + (1 : Int32)).toNatClampNeg) = 0
  · obtain ⟨x, y, o, t, e1, e2, e3⟩ := q_reason hK thrown 0
    rw [zck_true z1, if_pos hx]
    rcases e3 with ⟨rfl, rfl, rfl⟩ | ⟨rfl, rfl⟩
    · simp (decide := true) only [hx, z1, z2, z3, zck_T, zbd_S, e1, e2, fL_reason, fX5_thrown, ↓reduceIte, zin00, zup0, zlcs, if_true, if_false]
      exact ⟨_, rfl, rfl, b, c, Lt, hV, hP, hN, hH, ⟨hT, rfl, rfl⟩, rfl, ⟨rfl, hE⟩, hK, hS⟩
    · simp (decide := true) only [hx, z1, z2, z3, zck_T, zbd_S, e1, e2, fL_reason, fX5_thrown, ↓reduceIte, zin00, zup0, zlcs, if_true, if_false]
      exact ⟨_, rfl, rfl, b, c, Lt, hV, hP, hN, hH, ⟨hT, rfl, rfl⟩, rfl, ⟨rfl, hE⟩, hK, hS⟩
  · obtain ⟨x, y, o, t, e1, e2, e3⟩ := q_reason hK thrown 1
    rw [zck_true z1, if_neg hx]
    rcases e3 with ⟨rfl, rfl, rfl⟩ | ⟨rfl, rfl⟩
    · simp (decide := true) only [hx, z1, z2, z3, zck_T, zbd_S, e1, e2, fL_reason, fX5_thrown, ↓reduceIte, zin00, zup0, zlcs, if_true, if_false]
      exact ⟨_, rfl, rfl, b, c, Lt, hV, hP, hN, hH, ⟨hT, rfl, rfl⟩, rfl, ⟨rfl, hE⟩, hK, hS⟩
    · simp (decide := true) only [hx, z1, z2, z3, zck_T, zbd_S, e1, e2, fL_reason, fX5_thrown, ↓reduceIte, zin00, zup0, zlcs, if_true, if_false]
      exact ⟨_, rfl, rfl, b, c, Lt, hV, hP, hN, hH, ⟨hT, rfl, rfl⟩, rfl, ⟨rfl, hE⟩, hK, hS⟩
set_option maxHeartbeats 800000 in
theorem rCase24 {sv : Int32} {kE : Int32} {kR : Int32} {fb : Nat → Int64} {fs : Nat → Int64} {rws : Nat → Int64} {nx : Int32} {ct : Int32} {ch : Nat → Int32} {ln : Int32} {now : Nat → Int32} {saved : Nat → Int32} {hist : Nat → Nat → Int32} {kept : Int32} {reason : Int32} {detail : Int32} {isSaved : Int32} {isInText : Int32} {text : Nat → Int32} {length : Int32} {errorPosition : Int32} (h : yRel sv kE kR fb fs rws nx ct ch ln now saved hist kept reason detail isSaved isInText text length errorPosition) (xs : Nat → Int32) {L : Nat} {i : Int32} (z1 : zin (i + (1 : Int32)) L = true) (z2 : zin (i + (2 : Int32)) L = true) (z3 : zin (i + (3 : Int32)) L = true) (ft : Nat → Int64) (oo : Nat → Int64) (od_ : Nat → UInt64) (thrown : Int32) (comes : Nat → Int32) (queue : Nat → Int32) (far : Nat → Int32) (ahead : Nat → Int32) (roomAt : Nat → Int32) (rooms : Int32) (at_ : Int32) (toldFrom : Int32) (toldTo : Int32) (isWrong : Int32) (before : Nat → Int32) : ∃ o, fCase24 xs L i sv kE kR fb ft fs rws nx ct ch ln oo od_ thrown now saved hist kept reason detail isSaved comes queue far isInText ahead roomAt rooms text length at_ errorPosition toldFrom toldTo isWrong before = some o ∧ yRl o := by
  obtain ⟨b, c, Lt, hV, hP, hN, hH, ⟨hT, rfl, rfl⟩, rfl, ⟨rfl, hE⟩, hK, hS⟩ := h
  unfold fCase24
  obtain ⟨x, y, o, t, e1, e2, e3⟩ := q_picture hP hN hV.1 thrown (xs (i + (1 : Int32)).toNatClampNeg)
  rcases e3 with ⟨rfl, rfl, rfl⟩ | ⟨rfl, rfl⟩
  · simp (decide := true) only [z1, z2, z3, zck_T, zbd_S, e1, e2, fL_picture, fX5_thrown, ↓reduceIte, zin00, zup0, zlcs, zupd, if_true, if_false]
    exact ⟨_, rfl, rfl, b, c, Lt, hV, hP, hN, hH, ⟨hT, rfl, rfl⟩, rfl, ⟨rfl, hE⟩, hK, hS⟩
  · simp (decide := true) only [z1, z2, z3, zck_T, zbd_S, e1, e2, fL_picture, fX5_thrown, ↓reduceIte, zin00, zup0, zlcs, zupd, if_true, if_false]
    exact ⟨_, rfl, rfl, b, c, Lt, hV, hP, hN, hH, ⟨hT, rfl, rfl⟩, rfl, ⟨rfl, hE⟩, hK, hS⟩
set_option maxHeartbeats 800000 in
theorem rCase25 {sv : Int32} {kE : Int32} {kR : Int32} {fb : Nat → Int64} {fs : Nat → Int64} {rws : Nat → Int64} {nx : Int32} {ct : Int32} {ch : Nat → Int32} {ln : Int32} {now : Nat → Int32} {saved : Nat → Int32} {hist : Nat → Nat → Int32} {kept : Int32} {reason : Int32} {detail : Int32} {isSaved : Int32} {isInText : Int32} {text : Nat → Int32} {length : Int32} {errorPosition : Int32} (h : yRel sv kE kR fb fs rws nx ct ch ln now saved hist kept reason detail isSaved isInText text length errorPosition) (xs : Nat → Int32) {L : Nat} {i : Int32} (z1 : zin (i + (1 : Int32)) L = true) (z2 : zin (i + (2 : Int32)) L = true) (z3 : zin (i + (3 : Int32)) L = true) (ft : Nat → Int64) (oo : Nat → Int64) (od_ : Nat → UInt64) (thrown : Int32) (comes : Nat → Int32) (queue : Nat → Int32) (far : Nat → Int32) (ahead : Nat → Int32) (roomAt : Nat → Int32) (rooms : Int32) (at_ : Int32) (toldFrom : Int32) (toldTo : Int32) (isWrong : Int32) (before : Nat → Int32) : ∃ o, fCase25 xs L i sv kE kR fb ft fs rws nx ct ch ln oo od_ thrown now saved hist kept reason detail isSaved comes queue far isInText ahead roomAt rooms text length at_ errorPosition toldFrom toldTo isWrong before = some o ∧ yRl o := by
  obtain ⟨b, c, Lt, hV, hP, hN, hH, ⟨hT, rfl, rfl⟩, rfl, ⟨rfl, hE⟩, hK, hS⟩ := h
  unfold fCase25
  have hct := yH_ct hH
  subst hct
  obtain ⟨x, y, o, t, e1, e2, e3⟩ := q_account hP hN hV.1 thrown ct (nI Lt) (xs (i + (1 : Int32)).toNatClampNeg)
  rcases e3 with ⟨rfl, rfl, rfl⟩ | ⟨rfl, rfl⟩
  · simp (decide := true) only [z1, z2, z3, zck_T, zbd_S, e1, e2, fL_account, fX5_thrown, ↓reduceIte, zin00, zup0, zlcs, zupd, if_true, if_false]
    exact ⟨_, rfl, rfl, b, c, Lt, hV, hP, hN, hH, ⟨hT, rfl, rfl⟩, rfl, ⟨rfl, hE⟩, hK, hS⟩
  · simp (decide := true) only [z1, z2, z3, zck_T, zbd_S, e1, e2, fL_account, fX5_thrown, ↓reduceIte, zin00, zup0, zlcs, zupd, if_true, if_false]
    exact ⟨_, rfl, rfl, b, c, Lt, hV, hP, hN, hH, ⟨hT, rfl, rfl⟩, rfl, ⟨rfl, hE⟩, hK, hS⟩
set_option maxHeartbeats 800000 in
theorem rCase26 {sv : Int32} {kE : Int32} {kR : Int32} {fb : Nat → Int64} {fs : Nat → Int64} {rws : Nat → Int64} {nx : Int32} {ct : Int32} {ch : Nat → Int32} {ln : Int32} {now : Nat → Int32} {saved : Nat → Int32} {hist : Nat → Nat → Int32} {kept : Int32} {reason : Int32} {detail : Int32} {isSaved : Int32} {isInText : Int32} {text : Nat → Int32} {length : Int32} {errorPosition : Int32} (h : yRel sv kE kR fb fs rws nx ct ch ln now saved hist kept reason detail isSaved isInText text length errorPosition) (xs : Nat → Int32) {L : Nat} {i : Int32} (z1 : zin (i + (1 : Int32)) L = true) (z2 : zin (i + (2 : Int32)) L = true) (z3 : zin (i + (3 : Int32)) L = true) (ft : Nat → Int64) (oo : Nat → Int64) (od_ : Nat → UInt64) (thrown : Int32) (comes : Nat → Int32) (queue : Nat → Int32) (far : Nat → Int32) (ahead : Nat → Int32) (roomAt : Nat → Int32) (rooms : Int32) (at_ : Int32) (toldFrom : Int32) (toldTo : Int32) (isWrong : Int32) (before : Nat → Int32) : ∃ o, fCase26 xs L i sv kE kR fb ft fs rws nx ct ch ln oo od_ thrown now saved hist kept reason detail isSaved comes queue far isInText ahead roomAt rooms text length at_ errorPosition toldFrom toldTo isWrong before = some o ∧ yRl o := by
  obtain ⟨b, c, Lt, hV, hP, hN, hH, ⟨hT, rfl, rfl⟩, rfl, ⟨rfl, hE⟩, hK, hS⟩ := h
  unfold fCase26
  rcases q_undo hH fb now thrown with ⟨e1, e2⟩ | ⟨ct1, nx1, fb1, now1, b1, e1, e2, f1, f2, f3, f4⟩
  · simp (decide := true) only [z1, z2, z3, zck_T, zbd_S, e1, e2, fL_undo, fX5_thrown, ↓reduceIte, zin00, zup0, zlcs, zupd, if_true, if_false]
    exact ⟨_, rfl, rfl, b, c, Lt, hV, hP, hN, hH, ⟨hT, rfl, rfl⟩, rfl, ⟨rfl, hE⟩, hK, hS⟩
  · simp (decide := true) only [z1, z2, z3, zck_T, zbd_S, e1, e2, fL_undo, fX5_thrown, ↓reduceIte, zin00, zup0, zlcs, zupd, if_true, if_false]
    exact ⟨_, rfl, rfl, b1, c, Lt, f3, f1, f2, f4, ⟨hT, rfl, rfl⟩, rfl, ⟨rfl, hE⟩, hK, hS⟩
set_option maxHeartbeats 800000 in
theorem rCase27 {sv : Int32} {kE : Int32} {kR : Int32} {fb : Nat → Int64} {fs : Nat → Int64} {rws : Nat → Int64} {nx : Int32} {ct : Int32} {ch : Nat → Int32} {ln : Int32} {now : Nat → Int32} {saved : Nat → Int32} {hist : Nat → Nat → Int32} {kept : Int32} {reason : Int32} {detail : Int32} {isSaved : Int32} {isInText : Int32} {text : Nat → Int32} {length : Int32} {errorPosition : Int32} (h : yRel sv kE kR fb fs rws nx ct ch ln now saved hist kept reason detail isSaved isInText text length errorPosition) (xs : Nat → Int32) {L : Nat} {i : Int32} (z1 : zin (i + (1 : Int32)) L = true) (z2 : zin (i + (2 : Int32)) L = true) (z3 : zin (i + (3 : Int32)) L = true) (ft : Nat → Int64) (oo : Nat → Int64) (od_ : Nat → UInt64) (thrown : Int32) (comes : Nat → Int32) (queue : Nat → Int32) (far : Nat → Int32) (ahead : Nat → Int32) (roomAt : Nat → Int32) (rooms : Int32) (at_ : Int32) (toldFrom : Int32) (toldTo : Int32) (isWrong : Int32) (before : Nat → Int32) : ∃ o, fCase27 xs L i sv kE kR fb ft fs rws nx ct ch ln oo od_ thrown now saved hist kept reason detail isSaved comes queue far isInText ahead roomAt rooms text length at_ errorPosition toldFrom toldTo isWrong before = some o ∧ yRl o := by
  obtain ⟨b, c, Lt, hV, hP, hN, hH, ⟨hT, rfl, rfl⟩, rfl, ⟨rfl, hE⟩, hK, hS⟩ := h
  unfold fCase27
  obtain ⟨x, fs1, sv1, e1, e2, f1, f2⟩ := q_save (fs := fs) (saved := saved) hP hN hV.1 sv thrown isSaved
  simp (decide := true) only [z1, z2, z3, zck_T, zbd_S, e1, e2, fX5_thrown, fX5_thrown, ↓reduceIte, zin00, zup0, zlcs, zupd, if_true, if_false]
  exact ⟨_, rfl, rfl, b, c, Lt, hV, hP, hN, hH, ⟨hT, rfl, rfl⟩, rfl, ⟨rfl, hE⟩, hK, Or.inr ⟨rfl, rfl, b, hV, f1, f2⟩⟩
set_option maxHeartbeats 800000 in
theorem rCase28 {sv : Int32} {kE : Int32} {kR : Int32} {fb : Nat → Int64} {fs : Nat → Int64} {rws : Nat → Int64} {nx : Int32} {ct : Int32} {ch : Nat → Int32} {ln : Int32} {now : Nat → Int32} {saved : Nat → Int32} {hist : Nat → Nat → Int32} {kept : Int32} {reason : Int32} {detail : Int32} {isSaved : Int32} {isInText : Int32} {text : Nat → Int32} {length : Int32} {errorPosition : Int32} (h : yRel sv kE kR fb fs rws nx ct ch ln now saved hist kept reason detail isSaved isInText text length errorPosition) (xs : Nat → Int32) {L : Nat} {i : Int32} (z1 : zin (i + (1 : Int32)) L = true) (z2 : zin (i + (2 : Int32)) L = true) (z3 : zin (i + (3 : Int32)) L = true) (ft : Nat → Int64) (oo : Nat → Int64) (od_ : Nat → UInt64) (thrown : Int32) (comes : Nat → Int32) (queue : Nat → Int32) (far : Nat → Int32) (ahead : Nat → Int32) (roomAt : Nat → Int32) (rooms : Int32) (at_ : Int32) (toldFrom : Int32) (toldTo : Int32) (isWrong : Int32) (before : Nat → Int32) : ∃ o, fCase28 xs L i sv kE kR fb ft fs rws nx ct ch ln oo od_ thrown now saved hist kept reason detail isSaved comes queue far isInText ahead roomAt rooms text length at_ errorPosition toldFrom toldTo isWrong before = some o ∧ yRl o := by
  obtain ⟨b, c, Lt, hV, hP, hN, hH, ⟨hT, rfl, rfl⟩, rfl, ⟨rfl, hE⟩, hK, hS⟩ := h
  unfold fCase28
  rcases hS with ⟨rfl, rfl⟩ | ⟨rfl, rfl, bs, g1, g2, g3⟩
  · obtain ⟨e1, e2⟩ := q_restore0 fb fs now saved ct kept thrown
    simp (decide := true) only [z1, z2, z3, zck_T, zbd_S, e1, e2, fL_restore, fX5_thrown, ↓reduceIte, zin00, zup0, zlcs, zupd, if_true, if_false]
    exact ⟨_, rfl, rfl, b, c, Lt, hV, hP, hN, hH, ⟨hT, rfl, rfl⟩, rfl, ⟨rfl, hE⟩, hK, Or.inl ⟨rfl, rfl⟩⟩
  · obtain ⟨x, fb1, now1, e1, e2, f1, f2⟩ := q_restore (fb := fb) (now := now) g2 g3 g1.1 ct kept thrown
    simp (decide := true) only [z1, z2, z3, zck_T, zbd_S, e1, e2, fL_restore, fX5_thrown, ↓reduceIte, zin00, zup0, zlcs, zupd, if_true, if_false]
    exact ⟨_, rfl, rfl, bs, c, Lt, g1, f1, f2, (yH_0 hH), ⟨hT, rfl, rfl⟩, rfl, ⟨rfl, hE⟩, hK, Or.inr ⟨rfl, rfl, bs, g1, g2, g3⟩⟩

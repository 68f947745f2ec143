set_option maxHeartbeats 800000 in
theorem rCase10 {sv : Int32} {kE : Int32} {kR : Int32} {fb : Nat → Int64} {fs : Nat → Int64} {rws : Nat → Int64} {nx : Int32} {ct : Int32} {ch : Nat → Int32} {ln : Int32} {now : Nat → Int32} {saved : Nat → Int32} {hist : Nat → Nat → Int32} {kept : Int32} {reason : Int32} {detail : Int32} {isSaved : Int32} {isInText : Int32} {text : Nat → Int32} {length : Int32} {errorPosition : Int32} (h : yRel sv kE kR fb fs rws nx ct ch ln now saved hist kept reason detail isSaved isInText text length errorPosition) (xs : Nat → Int32) {L : Nat} {i : Int32} (z1 : zin (i + (1 : Int32)) L = true) (z2 : zin (i + (2 : Int32)) L = true) (z3 : zin (i + (3 : Int32)) L = true) (ft : Nat → Int64) (oo : Nat → Int64) (od_ : Nat → UInt64) (thrown : Int32) (comes : Nat → Int32) (queue : Nat → Int32) (far : Nat → Int32) (ahead : Nat → Int32) (roomAt : Nat → Int32) (rooms : Int32) (at_ : Int32) (toldFrom : Int32) (toldTo : Int32) (isWrong : Int32) (before : Nat → Int32) : ∃ o, fCase10 xs L i sv kE kR fb ft fs rws nx ct ch ln oo od_ thrown now saved hist kept reason detail isSaved comes queue far isInText ahead roomAt rooms text length at_ errorPosition toldFrom toldTo isWrong before = some o ∧ yRl o := by
  obtain ⟨b, c, Lt, hV, hP, hN, hH, ⟨hT, rfl, rfl⟩, rfl, ⟨rfl, hE⟩, hK, hS⟩ := h
  unfold fCase10
  obtain ⟨o, t, x, y, ft1, now1, c1, q1, g1, a1, e1, e2, e3, f1⟩ := q_captures (ft := ft) hP hN hV.1 thrown comes queue far ahead (xs (i + (1 : Int32)).toNatClampNeg) (xs (i + (2 : Int32)).toNatClampNeg)
  rcases e3 with ⟨rfl, rfl, rfl⟩ | ⟨rfl, rfl⟩ | ⟨rfl, rfl⟩
  · simp (decide := true) only [z1, z2, z3, zck_T, zbd_S, e1, e2, fL_captures, fX5_thrown, ↓reduceIte, zin00, zup0, zlcs, zupd, if_true, if_false]
    exact ⟨_, rfl, rfl, b, c, Lt, hV, hP, f1, hH, ⟨hT, rfl, rfl⟩, rfl, ⟨rfl, hE⟩, hK, hS⟩
  · simp (decide := true) only [z1, z2, z3, zck_T, zbd_S, e1, e2, fL_captures, fX5_thrown, ↓reduceIte, zin00, zup0, zlcs, zupd, if_true, if_false]
    exact ⟨_, rfl, rfl, b, c, Lt, hV, hP, f1, hH, ⟨hT, rfl, rfl⟩, rfl, ⟨rfl, hE⟩, hK, hS⟩
  · simp (decide := true) only [z1, z2, z3, zck_T, zbd_S, e1, e2, fL_captures, fX5_thrown, ↓reduceIte, zin00, zup0, zlcs, zupd, if_true, if_false]
    exact ⟨_, rfl, rfl, b, c, Lt, hV, hP, f1, hH, ⟨hT, rfl, rfl⟩, rfl, ⟨rfl, hE⟩, hK, hS⟩
set_option maxHeartbeats 800000 in
theorem rCase11 {sv : Int32} {kE : Int32} {kR : Int32} {fb : Nat → Int64} {fs : Nat → Int64} {rws : Nat → Int64} {nx : Int32} {ct : Int32} {ch : Nat → Int32} {ln : Int32} {now : Nat → Int32} {saved : Nat → Int32} {hist : Nat → Nat → Int32} {kept : Int32} {reason : Int32} {detail : Int32} {isSaved : Int32} {isInText : Int32} {text : Nat → Int32} {length : Int32} {errorPosition : Int32} (h : yRel sv kE kR fb fs rws nx ct ch ln now saved hist kept reason detail isSaved isInText text length errorPosition) (xs : Nat → Int32) {L : Nat} {i : Int32} (z1 : zin (i + (1 : Int32)) L = true) (z2 : zin (i + (2 : Int32)) L = true) (z3 : zin (i + (3 : Int32)) L = true) (ft : Nat → Int64) (oo : Nat → Int64) (od_ : Nat → UInt64) (thrown : Int32) (comes : Nat → Int32) (queue : Nat → Int32) (far : Nat → Int32) (ahead : Nat → Int32) (roomAt : Nat → Int32) (rooms : Int32) (at_ : Int32) (toldFrom : Int32) (toldTo : Int32) (isWrong : Int32) (before : Nat → Int32) : ∃ o, fCase11 xs L i sv kE kR fb ft fs rws nx ct ch ln oo od_ thrown now saved hist kept reason detail isSaved comes queue far isInText ahead roomAt rooms text length at_ errorPosition toldFrom toldTo isWrong before = some o ∧ yRl o := by
  obtain ⟨b, c, Lt, hV, hP, hN, hH, ⟨hT, rfl, rfl⟩, rfl, ⟨rfl, hE⟩, hK, hS⟩ := h
  unfold fCase11
  obtain ⟨o, t, x, y, r1, ft1, now1, c1, q1, g1, a1, ra1, e1, e2, e3, f1⟩ := q_best (ft := ft) hP hN hV.1 thrown comes queue far ahead roomAt rooms
  rcases e3 with ⟨rfl, rfl, rfl⟩ | ⟨rfl, rfl⟩
  · simp (decide := true) only [z1, z2, z3, zck_T, zbd_S, e1, e2, fL_best, fX5_thrown, ↓reduceIte, zin00, zup0, zlcs, zupd, if_true, if_false]
    exact ⟨_, rfl, rfl, b, c, Lt, hV, hP, f1, hH, ⟨hT, rfl, rfl⟩, rfl, ⟨rfl, hE⟩, hK, hS⟩
  · simp (decide := true) only [z1, z2, z3, zck_T, zbd_S, e1, e2, fL_best, fX5_thrown, ↓reduceIte, zin00, zup0, zlcs, zupd, if_true, if_false]
    exact ⟨_, rfl, rfl, b, c, Lt, hV, hP, f1, hH, ⟨hT, rfl, rfl⟩, rfl, ⟨rfl, hE⟩, hK, hS⟩
set_option maxHeartbeats 800000 in
theorem rCase12 {sv : Int32} {kE : Int32} {kR : Int32} {fb : Nat → Int64} {fs : Nat → Int64} {rws : Nat → Int64} {nx : Int32} {ct : Int32} {ch : Nat → Int32} {ln : Int32} {now : Nat → Int32} {saved : Nat → Int32} {hist : Nat → Nat → Int32} {kept : Int32} {reason : Int32} {detail : Int32} {isSaved : Int32} {isInText : Int32} {text : Nat → Int32} {length : Int32} {errorPosition : Int32} (h : yRel sv kE kR fb fs rws nx ct ch ln now saved hist kept reason detail isSaved isInText text length errorPosition) (xs : Nat → Int32) {L : Nat} {i : Int32} (z1 : zin (i + (1 : Int32)) L = true) (z2 : zin (i + (2 : Int32)) L = true) (z3 : zin (i + (3 : Int32)) L = true) (ft : Nat → Int64) (oo : Nat → Int64) (od_ : Nat → UInt64) (thrown : Int32) (comes : Nat → Int32) (queue : Nat → Int32) (far : Nat → Int32) (ahead : Nat → Int32) (roomAt : Nat → Int32) (rooms : Int32) (at_ : Int32) (toldFrom : Int32) (toldTo : Int32) (isWrong : Int32) (before : Nat → Int32) : ∃ o, fCase12 xs L i sv kE kR fb ft fs rws nx ct ch ln oo od_ thrown now saved hist kept reason detail isSaved comes queue far isInText ahead roomAt rooms text length at_ errorPosition toldFrom toldTo isWrong before = some o ∧ yRl o := by
  obtain ⟨b, c, Lt, hV, hP, hN, hH, ⟨hT, rfl, rfl⟩, rfl, ⟨rfl, hE⟩, hK, hS⟩ := h
  unfold fCase12
  obtain ⟨o, t, x, y, r1, ft1, now1, c1, q1, g1, a1, ra1, e1, e2, e3, f1⟩ := q_worth (ft := ft) hP hN hV.1 thrown comes queue far ahead roomAt rooms (xs (i + (1 : Int32)).toNatClampNeg) (xs (i + (2 : Int32)).toNatClampNeg)
  rcases e3 with ⟨rfl, rfl, rfl⟩ | ⟨rfl, rfl⟩ | ⟨rfl, rfl⟩
  · simp (decide := true) only [z1, z2, z3, zck_T, zbd_S, e1, e2, fL_worth, fX5_thrown, ↓reduceIte, zin00, zup0, zlcs, zupd, if_true, if_false]
    exact ⟨_, rfl, rfl, b, c, Lt, hV, hP, f1, hH, ⟨hT, rfl, rfl⟩, rfl, ⟨rfl, hE⟩, hK, hS⟩
  · simp (decide := true) only [z1, z2, z3, zck_T, zbd_S, e1, e2, fL_worth, fX5_thrown, ↓reduceIte, zin00, zup0, zlcs, zupd, if_true, if_false]
    exact ⟨_, rfl, rfl, b, c, Lt, hV, hP, f1, hH, ⟨hT, rfl, rfl⟩, rfl, ⟨rfl, hE⟩, hK, hS⟩
  · simp (decide := true) only [z1, z2, z3, zck_T, zbd_S, e1, e2, fL_worth, fX5_thrown, ↓reduceIte, zin00, zup0, zlcs, zupd, if_true, if_false]
    exact ⟨_, rfl, rfl, b, c, Lt, hV, hP, f1, hH, ⟨hT, rfl, rfl⟩, rfl, ⟨rfl, hE⟩, hK, hS⟩
set_option maxHeartbeats 800000 in
theorem rCase13 {sv : Int32} {kE : Int32} {kR : Int32} {fb : Nat → Int64} {fs : Nat → Int64} {rws : Nat → Int64} {nx : Int32} {ct : Int32} {ch : Nat → Int32} {ln : Int32} {now : Nat → Int32} {saved : Nat → Int32} {hist : Nat → Nat → Int32} {kept : Int32} {reason : Int32} {detail : Int32} {isSaved : Int32} {isInText : Int32} {text : Nat → Int32} {length : Int32} {errorPosition : Int32} (h : yRel sv kE kR fb fs rws nx ct ch ln now saved hist kept reason detail isSaved isInText text length errorPosition) (xs : Nat → Int32) {L : Nat} {i : Int32} (z1 : zin (i + (1 : Int32)) L = true) (z2 : zin (i + (2 : Int32)) L = true) (z3 : zin (i + (3 : Int32)) L = true) (ft : Nat → Int64) (oo : Nat → Int64) (od_ : Nat → UInt64) (thrown : Int32) (comes : Nat → Int32) (queue : Nat → Int32) (far : Nat → Int32) (ahead : Nat → Int32) (roomAt : Nat → Int32) (rooms : Int32) (at_ : Int32) (toldFrom : Int32) (toldTo : Int32) (isWrong : Int32) (before : Nat → Int32) : ∃ o, fCase13 xs L i sv kE kR fb ft fs rws nx ct ch ln oo od_ thrown now saved hist kept reason detail isSaved comes queue far isInText ahead roomAt rooms text length at_ errorPosition toldFrom toldTo isWrong before = some o ∧ yRl o := by
  obtain ⟨b, c, Lt, hV, hP, hN, hH, ⟨hT, rfl, rfl⟩, rfl, ⟨rfl, hE⟩, hK, hS⟩ := h
  unfold fCase13
  rcases q_rooms hP hN hV.1 thrown queue roomAt rooms (xs (i + (1 : Int32)).toNatClampNeg) with ⟨q1, ra1, r1, e1, e2⟩ | ⟨x, q1, ra1, r1, e1, e2⟩
  · simp (decide := true) only [z1, z2, z3, zck_T, zbd_S, e1, e2, fL_rooms, fX5_thrown, ↓reduceIte, zin00, zup0, zlcs, zupd, if_true, if_false]
    exact ⟨_, rfl, rfl, b, c, Lt, hV, hP, hN, hH, ⟨hT, rfl, rfl⟩, rfl, ⟨rfl, hE⟩, hK, hS⟩
  · simp (decide := true) only [z1, z2, z3, zck_T, zbd_S, e1, e2, fL_rooms, fX5_thrown, ↓reduceIte, zin00, zup0, zlcs, zupd, if_true, if_false]
    exact ⟨_, rfl, rfl, b, c, Lt, hV, hP, hN, hH, ⟨hT, rfl, rfl⟩, rfl, ⟨rfl, hE⟩, hK, hS⟩
set_option maxHeartbeats 800000 in
theorem rCase14 {sv : Int32} {kE : Int32} {kR : Int32} {fb : Nat → Int64} {fs : Nat → Int64} {rws : Nat → Int64} {nx : Int32} {ct : Int32} {ch : Nat → Int32} {ln : Int32} {now : Nat → Int32} {saved : Nat → Int32} {hist : Nat → Nat → Int32} {kept : Int32} {reason : Int32} {detail : Int32} {isSaved : Int32} {isInText : Int32} {text : Nat → Int32} {length : Int32} {errorPosition : Int32} (h : yRel sv kE kR fb fs rws nx ct ch ln now saved hist kept reason detail isSaved isInText text length errorPosition) (xs : Nat → Int32) {L : Nat} {i : Int32} (z1 : zin (i + (1 : Int32)) L = true) (z2 : zin (i + (2 : Int32)) L = true) (z3 : zin (i + (3 : Int32)) L = true) (ft : Nat → Int64) (oo : Nat → Int64) (od_ : Nat → UInt64) (thrown : Int32) (comes : Nat → Int32) (queue : Nat → Int32) (far : Nat → Int32) (ahead : Nat → Int32) (roomAt : Nat → Int32) (rooms : Int32) (at_ : Int32) (toldFrom : Int32) (toldTo : Int32) (isWrong : Int32) (before : Nat → Int32) : ∃ o, fCase14 xs L i sv kE kR fb ft fs rws nx ct ch ln oo od_ thrown now saved hist kept reason detail isSaved comes queue far isInText ahead roomAt rooms text length at_ errorPosition toldFrom toldTo isWrong before = some o ∧ yRl o := by
  obtain ⟨b, c, Lt, hV, hP, hN, hH, ⟨hT, rfl, rfl⟩, rfl, ⟨rfl, hE⟩, hK, hS⟩ := h
  unfold fCase14
  obtain ⟨x, y, o, t, q1, ra1, r1, e1, e2, e3⟩ := q_room hP hN hV.1 thrown queue roomAt rooms (xs (i + (1 : Int32)).toNatClampNeg) (xs (i + (2 : Int32)).toNatClampNeg)
  rcases e3 with ⟨rfl, rfl, rfl⟩ | ⟨rfl, rfl⟩ | ⟨rfl, rfl⟩
  · simp (decide := true) only [z1, z2, z3, zck_T, zbd_S, e1, e2, fL_room, fX5_thrown, ↓reduceIte, zin00, zup0, zlcs, zupd, if_true, if_false]
    exact ⟨_, rfl, rfl, b, c, Lt, hV, hP, hN, hH, ⟨hT, rfl, rfl⟩, rfl, ⟨rfl, hE⟩, hK, hS⟩
  · simp (decide := true) only [z1, z2, z3, zck_T, zbd_S, e1, e2, fL_room, fX5_thrown, ↓reduceIte, zin00, zup0, zlcs, zupd, if_true, if_false]
    exact ⟨_, rfl, rfl, b, c, Lt, hV, hP, hN, hH, ⟨hT, rfl, rfl⟩, rfl, ⟨rfl, hE⟩, hK, hS⟩
  · simp (decide := true) only [z1, z2, z3, zck_T, zbd_S, e1, e2, fL_room, fX5_thrown, ↓reduceIte, zin00, zup0, zlcs, zupd, if_true, if_false]
    exact ⟨_, rfl, rfl, b, c, Lt, hV, hP, hN, hH, ⟨hT, rfl, rfl⟩, rfl, ⟨rfl, hE⟩, hK, hS⟩
set_option maxHeartbeats 800000 in
theorem rCase15 {sv : Int32} {kE : Int32} {kR : Int32} {fb : Nat → Int64} {fs : Nat → Int64} {rws : Nat → Int64} {nx : Int32} {ct : Int32} {ch : Nat → Int32} {ln : Int32} {now : Nat → Int32} {saved : Nat → Int32} {hist : Nat → Nat → Int32} {kept : Int32} {reason : Int32} {detail : Int32} {isSaved : Int32} {isInText : Int32} {text : Nat → Int32} {length : Int32} {errorPosition : Int32} (h : yRel sv kE kR fb fs rws nx ct ch ln now saved hist kept reason detail isSaved isInText text length errorPosition) (xs : Nat → Int32) {L : Nat} {i : Int32} (z1 : zin (i + (1 : Int32)) L = true) (z2 : zin (i + (2 : Int32)) L = true) (z3 : zin (i + (3 : Int32)) L = true) (ft : Nat → Int64) (oo : Nat → Int64) (od_ : Nat → UInt64) (thrown : Int32) (comes : Nat → Int32) (queue : Nat → Int32) (far : Nat → Int32) (ahead : Nat → Int32) (roomAt : Nat → Int32) (rooms : Int32) (at_ : Int32) (toldFrom : Int32) (toldTo : Int32) (isWrong : Int32) (before : Nat → Int32) : ∃ o, fCase15 xs L i sv kE kR fb ft fs rws nx ct ch ln oo od_ thrown now saved hist kept reason detail isSaved comes queue far isInText ahead roomAt rooms text length at_ errorPosition toldFrom toldTo isWrong before = some o ∧ yRl o := by
  obtain ⟨b, c, Lt, hV, hP, hN, hH, ⟨hT, rfl, rfl⟩, rfl, ⟨rfl, hE⟩, hK, hS⟩ := h
  unfold fCase15
  obtain ⟨x, y, o, t, q1, ra1, r1, e1, e2, e3⟩ := q_roomOf hP hN hV.1 thrown queue roomAt rooms (xs (i + (1 : Int32)).toNatClampNeg) (xs (i + (2 : Int32)).toNatClampNeg) (xs (i + (3 : Int32)).toNatClampNeg)
  rcases e3 with ⟨rfl, rfl, rfl⟩ | ⟨rfl, rfl⟩ | ⟨rfl, rfl⟩
  · simp (decide := true) only [z1, z2, z3, zck_T, zbd_S, e1, e2, fL_roomOf, fX5_thrown, ↓reduceIte, zin00, zup0, zlcs, zupd, if_true, if_false]
    exact ⟨_, rfl, rfl, b, c, Lt, hV, hP, hN, hH, ⟨hT, rfl, rfl⟩, rfl, ⟨rfl, hE⟩, hK, hS⟩
  · simp (decide := true) only [z1, z2, z3, zck_T, zbd_S, e1, e2, fL_roomOf, fX5_thrown, ↓reduceIte, zin00, zup0, zlcs, zupd, if_true, if_false]
    exact ⟨_, rfl, rfl, b, c, Lt, hV, hP, hN, hH, ⟨hT, rfl, rfl⟩, rfl, ⟨rfl, hE⟩, hK, hS⟩
  · simp (decide := true) only [z1, z2, z3, zck_T, zbd_S, e1, e2, fL_roomOf, fX5_thrown, ↓reduceIte, zin00, zup0, zlcs, zupd, if_true, if_false]
    exact ⟨_, rfl, rfl, b, c, Lt, hV, hP, hN, hH, ⟨hT, rfl, rfl⟩, rfl, ⟨rfl, hE⟩, hK, hS⟩
set_option maxHeartbeats 800000 in
theorem rCase16 {sv : Int32} {kE : Int32} {kR : Int32} {fb : Nat → Int64} {fs : Nat → Int64} {rws : Nat → Int64} {nx : Int32} {ct : Int32} {ch : Nat → Int32} {ln : Int32} {now : Nat → Int32} {saved : Nat → Int32} {hist : Nat → Nat → Int32} {kept : Int32} {reason : Int32} {detail : Int32} {isSaved : Int32} {isInText : Int32} {text : Nat → Int32} {length : Int32} {errorPosition : Int32} (h : yRel sv kE kR fb fs rws nx ct ch ln now saved hist kept reason detail isSaved isInText text length errorPosition) (xs : Nat → Int32) {L : Nat} {i : Int32} (z1 : zin (i + (1 : Int32)) L = true) (z2 : zin (i + (2 : Int32)) L = true) (z3 : zin (i + (3 : Int32)) L = true) (ft : Nat → Int64) (oo : Nat → Int64) (od_ : Nat → UInt64) (thrown : Int32) (comes : Nat → Int32) (queue : Nat → Int32) (far : Nat → Int32) (ahead : Nat → Int32) (roomAt : Nat → Int32) (rooms : Int32) (at_ : Int32) (toldFrom : Int32) (toldTo : Int32) (isWrong : Int32) (before : Nat → Int32) : ∃ o, fCase16 xs L i sv kE kR fb ft fs rws nx ct ch ln oo od_ thrown now saved hist kept reason detail isSaved comes queue far isInText ahead roomAt rooms text length at_ errorPosition toldFrom toldTo isWrong before = some o ∧ yRl o := by
  obtain ⟨b, c, Lt, hV, hP, hN, hH, ⟨hT, rfl, rfl⟩, rfl, ⟨rfl, hE⟩, hK, hS⟩ := h
  unfold fCase16
  rcases q_sealed hP hN hV.1 thrown queue roomAt rooms (xs (i + (1 : Int32)).toNatClampNeg) with ⟨q1, ra1, r1, e1, e2⟩ | ⟨x, q1, ra1, r1, e1, e2⟩
  · simp (decide := true) only [z1, z2, z3, zck_T, zbd_S, e1, e2, fL_sealed, fX5_thrown, ↓reduceIte, zin00, zup0, zlcs, zupd, if_true, if_false]
    exact ⟨_, rfl, rfl, b, c, Lt, hV, hP, hN, hH, ⟨hT, rfl, rfl⟩, rfl, ⟨rfl, hE⟩, hK, hS⟩
  · simp (decide := true) only [z1, z2, z3, zck_T, zbd_S, e1, e2, fL_sealed, fX5_thrown, ↓reduceIte, zin00, zup0, zlcs, zupd, if_true, if_false]
    exact ⟨_, rfl, rfl, b, c, Lt, hV, hP, hN, hH, ⟨hT, rfl, rfl⟩, rfl, ⟨rfl, hE⟩, hK, hS⟩
set_option maxHeartbeats 800000 in
theorem rCase17 {sv : Int32} {kE : Int32} {kR : Int32} {fb : Nat → Int64} {fs : Nat → Int64} {rws : Nat → Int64} {nx : Int32} {ct : Int32} {ch : Nat → Int32} {ln : Int32} {now : Nat → Int32} {saved : Nat → Int32} {hist : Nat → Nat → Int32} {kept : Int32} {reason : Int32} {detail : Int32} {isSaved : Int32} {isInText : Int32} {text : Nat → Int32} {length : Int32} {errorPosition : Int32} (h : yRel sv kE kR fb fs rws nx ct ch ln now saved hist kept reason detail isSaved isInText text length errorPosition) (xs : Nat → Int32) {L : Nat} {i : Int32} (z1 : zin (i + (1 : Int32)) L = true) (z2 : zin (i + (2 : Int32)) L = true) (z3 : zin (i + (3 : Int32)) L = true) (ft : Nat → Int64) (oo : Nat → Int64) (od_ : Nat → UInt64) (thrown : Int32) (comes : Nat → Int32) (queue : Nat → Int32) (far : Nat → Int32) (ahead : Nat → Int32) (roomAt : Nat → Int32) (rooms : Int32) (at_ : Int32) (toldFrom : Int32) (toldTo : Int32) (isWrong : Int32) (before : Nat → Int32) : ∃ o, fCase17 xs L i sv kE kR fb ft fs rws nx ct ch ln oo od_ thrown now saved hist kept reason detail isSaved comes queue far isInText ahead roomAt rooms text length at_ errorPosition toldFrom toldTo isWrong before = some o ∧ yRl o := by
  obtain ⟨b, c, Lt, hV, hP, hN, hH, ⟨hT, rfl, rfl⟩, rfl, ⟨rfl, hE⟩, hK, hS⟩ := h
  unfold fCase17
  obtain ⟨x, y, o, t, q1, g1, e1, e2, e3⟩ := q_sealedAgain hP hN hV.1 thrown queue far (xs (i + (1 : Int32)).toNatClampNeg)
  rcases e3 with ⟨rfl, rfl, rfl⟩ | ⟨rfl, rfl⟩
  · simp (decide := true) only [z1, z2, z3, zck_T, zbd_S, e1, e2, fL_sealedAgain, fX5_thrown, ↓reduceIte, zin00, zup0, zlcs, zupd, if_true, if_false]
    exact ⟨_, rfl, rfl, b, c, Lt, hV, hP, hN, hH, ⟨hT, rfl, rfl⟩, rfl, ⟨rfl, hE⟩, hK, hS⟩
  · simp (decide := true) only [z1, z2, z3, zck_T, zbd_S, e1, e2, fL_sealedAgain, fX5_thrown, ↓reduceIte, zin00, zup0, zlcs, zupd, if_true, if_false]
    exact ⟨_, rfl, rfl, b, c, Lt, hV, hP, hN, hH, ⟨hT, rfl, rfl⟩, rfl, ⟨rfl, hE⟩, hK, hS⟩
set_option maxHeartbeats 800000 in
theorem rCase18 {sv : Int32} {kE : Int32} {kR : Int32} {fb : Nat → Int64} {fs : Nat → Int64} {rws : Nat → Int64} {nx : Int32} {ct : Int32} {ch : Nat → Int32} {ln : Int32} {now : Nat → Int32} {saved : Nat → Int32} {hist : Nat → Nat → Int32} {kept : Int32} {reason : Int32} {detail : Int32} {isSaved : Int32} {isInText : Int32} {text : Nat → Int32} {length : Int32} {errorPosition : Int32} (h : yRel sv kE kR fb fs rws nx ct ch ln now saved hist kept reason detail isSaved isInText text length errorPosition) (xs : Nat → Int32) {L : Nat} {i : Int32} (z1 : zin (i + (1 : Int32)) L = true) (z2 : zin (i + (2 : Int32)) L = true) (z3 : zin (i + (3 : Int32)) L = true) (ft : Nat → Int64) (oo : Nat → Int64) (od_ : Nat → UInt64) (thrown : Int32) (comes : Nat → Int32) (queue : Nat → Int32) (far : Nat → Int32) (ahead : Nat → Int32) (roomAt : Nat → Int32) (rooms : Int32) (at_ : Int32) (toldFrom : Int32) (toldTo : Int32) (isWrong : Int32) (before : Nat → Int32) : ∃ o, fCase18 xs L i sv kE kR fb ft fs rws nx ct ch ln oo od_ thrown now saved hist kept reason detail isSaved comes queue far isInText ahead roomAt rooms text length at_ errorPosition toldFrom toldTo isWrong before = some o ∧ yRl o := by
  obtain ⟨b, c, Lt, hV, hP, hN, hH, ⟨hT, rfl, rfl⟩, rfl, ⟨rfl, hE⟩, hK, hS⟩ := h
  unfold fCase18
  obtain ⟨x, y, o, t, q1, g1, e1, e2, e3⟩ := q_steps hP hN hV.1 thrown queue far (xs (i + (1 : Int32)).toNatClampNeg) (xs (i + (2 : Int32)).toNatClampNeg)
  rcases e3 with ⟨rfl, rfl, rfl⟩ | ⟨rfl, rfl⟩ | ⟨rfl, rfl⟩
  · simp (decide := true) only [z1, z2, z3, zck_T, zbd_S, e1, e2, fL_steps, fX5_thrown, ↓reduceIte, zin00, zup0, zlcs, zupd, if_true, if_false]
    exact ⟨_, rfl, rfl, b, c, Lt, hV, hP, hN, hH, ⟨hT, rfl, rfl⟩, rfl, ⟨rfl, hE⟩, hK, hS⟩
  · simp (decide := true) only [z1, z2, z3, zck_T, zbd_S, e1, e2, fL_steps, fX5_thrown, ↓reduceIte, zin00, zup0, zlcs, zupd, if_true, if_false]
    exact ⟨_, rfl, rfl, b, c, Lt, hV, hP, hN, hH, ⟨hT, rfl, rfl⟩, rfl, ⟨rfl, hE⟩, hK, hS⟩
  · simp (decide := true) only [z1, z2, z3, zck_T, zbd_S, e1, e2, fL_steps, fX5_thrown, ↓reduceIte, zin00, zup0, zlcs, zupd, if_true, if_false]
    exact ⟨_, rfl, rfl, b, c, Lt, hV, hP, hN, hH, ⟨hT, rfl, rfl⟩, rfl, ⟨rfl, hE⟩, hK, hS⟩
set_option maxHeartbeats 800000 in
theorem rCase19 {sv : Int32} {kE : Int32} {kR : Int32} {fb : Nat → Int64} {fs : Nat → Int64} {rws : Nat → Int64} {nx : Int32} {ct : Int32} {ch : Nat → Int32} {ln : Int32} {now : Nat → Int32} {saved : Nat → Int32} {hist : Nat → Nat → Int32} {kept : Int32} {reason : Int32} {detail : Int32} {isSaved : Int32} {isInText : Int32} {text : Nat → Int32} {length : Int32} {errorPosition : Int32} (h : yRel sv kE kR fb fs rws nx ct ch ln now saved hist kept reason detail isSaved isInText text length errorPosition) (xs : Nat → Int32) {L : Nat} {i : Int32} (z1 : zin (i + (1 : Int32)) L = true) (z2 : zin (i + (2 : Int32)) L = true) (z3 : zin (i + (3 : Int32)) L = true) (ft : Nat → Int64) (oo : Nat → Int64) (od_ : Nat → UInt64) (thrown : Int32) (comes : Nat → Int32) (queue : Nat → Int32) (far : Nat → Int32) (ahead : Nat → Int32) (roomAt : Nat → Int32) (rooms : Int32) (at_ : Int32) (toldFrom : Int32) (toldTo : Int32) (isWrong : Int32) (before : Nat → Int32) : ∃ o, fCase19 xs L i sv kE kR fb ft fs rws nx ct ch ln oo od_ thrown now saved hist kept reason detail isSaved comes queue far isInText ahead roomAt rooms text length at_ errorPosition toldFrom toldTo isWrong before = some o ∧ yRl o := by
  obtain ⟨b, c, Lt, hV, hP, hN, hH, ⟨hT, rfl, rfl⟩, rfl, ⟨rfl, hE⟩, hK, hS⟩ := h
  unfold fCase19
  obtain ⟨x, y, o, t, q1, ra1, r1, e1, e2, e3⟩ := q_sealedShare hP hN hV.1 thrown queue roomAt rooms (xs (i + (1 : Int32)).toNatClampNeg)
  rcases e3 with ⟨rfl, rfl, rfl, ez⟩ | ⟨rfl, rfl⟩ | ⟨rfl, rfl⟩
  · simp (decide := true) only [z1, z2, z3, zck_T, zbd_S, e1, e2, fL_sealedShare, ez, fX5_thrown, ↓reduceIte, zin00, zup0, zlcs, zupd, if_true, if_false]
    exact ⟨_, rfl, rfl, b, c, Lt, hV, hP, hN, hH, ⟨hT, rfl, rfl⟩, rfl, ⟨rfl, hE⟩, hK, hS⟩
  · simp (decide := true) only [z1, z2, z3, zck_T, zbd_S, e1, e2, fL_sealedShare, fX5_thrown, ↓reduceIte, zin00, zup0, zlcs, zupd, if_true, if_false]
    exact ⟨_, rfl, rfl, b, c, Lt, hV, hP, hN, hH, ⟨hT, rfl, rfl⟩, rfl, ⟨rfl, hE⟩, hK, hS⟩
  · simp (decide := true) only [z1, z2, z3, zck_T, zbd_S, e1, e2, fL_sealedShare, fX5_thrown, ↓reduceIte, zin00, zup0, zlcs, zupd, if_true, if_false]
    exact ⟨_, rfl, rfl, b, c, Lt, hV, hP, hN, hH, ⟨hT, rfl, rfl⟩, rfl, ⟨rfl, hE⟩, hK, hS⟩

/-! PURE 43: the relation of both states -/
abbrev ySv (sv : Int32) (fs : Nat → Int64) (saved : Nat → Int32) (isSaved : Int32) : Prop := (sv = 0 ∧ isSaved = 0) ∨ (sv = 1 ∧ isSaved = 1 ∧ ∃ bs, yV2 bs ∧ yP fs bs ∧ yN saved bs)
abbrev yRel (sv : Int32) (kE : Int32) (kR : Int32) (fb : Nat → Int64) (fs : Nat → Int64) (rws : Nat → Int64) (nx : Int32) (ct : Int32) (ch : Nat → Int32) (ln : Int32) (now : Nat → Int32) (saved : Nat → Int32) (hist : Nat → Nat → Int32) (kept : Int32) (reason : Int32) (detail : Int32) (isSaved : Int32) (isInText : Int32) (text : Nat → Int32) (length : Int32) (errorPosition : Int32) : Prop := ∃ (b c : Nat → Nat) (Lt : Nat), yV2 b ∧ yP fb b ∧ yN now b ∧ yH rws nx ct hist kept ∧ (yTx ch text c Lt ∧ ln = nI Lt ∧ length = nI Lt) ∧ isInText = 0 ∧ (kE = errorPosition ∧ (kE = -1 ∨ ∃ j, j < 100 ∧ kE = nI j)) ∧ yK kR reason detail ∧ ySv sv fs saved isSaved
abbrev yRl (o : zSt) : Prop := o.1 = 1 ∧ yRel o.2.1 o.2.2.1 o.2.2.2.1 o.2.2.2.2.1 o.2.2.2.2.2.2.1 o.2.2.2.2.2.2.2.1 o.2.2.2.2.2.2.2.2.1 o.2.2.2.2.2.2.2.2.2.1 o.2.2.2.2.2.2.2.2.2.2.1 o.2.2.2.2.2.2.2.2.2.2.2.1 o.2.2.2.2.2.2.2.2.2.2.2.2.2.2.2.1 o.2.2.2.2.2.2.2.2.2.2.2.2.2.2.2.2.1 o.2.2.2.2.2.2.2.2.2.2.2.2.2.2.2.2.2.1 o.2.2.2.2.2.2.2.2.2.2.2.2.2.2.2.2.2.2.1 o.2.2.2.2.2.2.2.2.2.2.2.2.2.2.2.2.2.2.2.1 o.2.2.2.2.2.2.2.2.2.2.2.2.2.2.2.2.2.2.2.2.1 o.2.2.2.2.2.2.2.2.2.2.2.2.2.2.2.2.2.2.2.2.2.1 o.2.2.2.2.2.2.2.2.2.2.2.2.2.2.2.2.2.2.2.2.2.2.2.2.2.1 o.2.2.2.2.2.2.2.2.2.2.2.2.2.2.2.2.2.2.2.2.2.2.2.2.2.2.2.2.2.1 o.2.2.2.2.2.2.2.2.2.2.2.2.2.2.2.2.2.2.2.2.2.2.2.2.2.2.2.2.2.2.1 o.2.2.2.2.2.2.2.2.2.2.2.2.2.2.2.2.2.2.2.2.2.2.2.2.2.2.2.2.2.2.2.2.1
theorem zin00 : zin (0 : Int32) 1 = true := rfl
theorem zup0 (f : Nat → Int64) (v : Int64) : vp_updL f (0 : Int32).toNatClampNeg v (0 : Int32).toNatClampNeg = v := rfl
theorem zupd (f : Nat → UInt64) (v : UInt64) : vf_upd f (0 : Int32).toNatClampNeg v (0 : Int32).toNatClampNeg = v := rfl
theorem zlcs (a : Int64) : lg_cmp a a = 0 := (zlc a a).mpr rfl
theorem yH_ct {rws : Nat → Int64} {nx ct kept : Int32} {hist : Nat → Nat → Int32} (h : yH rws nx ct hist kept) : ct = kept := by
  obtain ⟨x, c, B, _, _, _, e1, e2, _⟩ := h
  rw [e1, e2]
theorem yH_0 {rws : Nat → Int64} {nx ct kept : Int32} {hist : Nat → Nat → Int32} (h : yH rws nx ct hist kept) : yH rws nx 0 hist 0 := by
  obtain ⟨x, c, B, h1, _, h2, _, _, _⟩ := h
  exact ⟨x, 0, B, h1, by omega, h2, rfl, rfl, fun i hi => absurd hi (by omega)⟩

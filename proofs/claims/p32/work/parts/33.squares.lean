def zSq (ad : Nat → Nat) (b1 : Nat) (b2 : Nat) (b3 : Nat) (k : Nat → ClassId) (sv : Int32) (kE : Int32) (kR : Int32) (fb : Nat → Int64) (ft : Nat → Int64) (fs : Nat → Int64) (rws : Nat → Int64) (nx : Int32) (ct : Int32) (ch : Nat → Int32) (ln : Int32) (c1 : Nat → Int32) (c2 : Nat → Int32) (c3 : Nat → Int32) : va_W := [((ad 0), .inr (3, [.ref (ad 1), .ref (ad 3), .ref (ad 5), .ref (ad 7), .ref (ad 9), .int sv, .int kE, .int kR])), ((ad 1), .inr (2, [.ref (ad 2)])), ((ad 2), .inl (k 0, 15, .inr (.inl fb))), ((ad 3), .inr (2, [.ref (ad 4)])), ((ad 4), .inl (k 0, 15, .inr (.inl ft))), ((ad 5), .inr (2, [.ref (ad 6)])), ((ad 6), .inl (k 0, 15, .inr (.inl fs))), ((ad 7), .inr (0, [.ref (ad 8), .int nx, .int ct])), ((ad 8), .inl (k 0, 90, .inr (.inl rws))), ((ad 9), .inr (1, [.ref (ad 10), .int ln])), ((ad 10), .inl (k 1, 60, .inl ch)), (b1, .inl (k 2, 4, .inl c1)), (b2, .inl (k 2, 2, .inl c2)), (b3, .inl (k 2, 2, .inl c3))]
/-! SealedBoardLaw.areSquares(LSealedBoard;)Z -/
abbrev rmL_areSquares : Room := { frames := 9, cells := 673, slots := 4028, locals := 147 }
theorem kdL_areSquares : yL_areSquares.cls ≠ "java/lang/invoke/MethodHandle" ∧ yL_areSquares.cls ≠ "java/lang/invoke/VarHandle" ∧ (parseMethodDescriptor yL_areSquares.desc).map (fun d => d.parameters.length) = some 1 := by decide +kernel
def fL_areSquares_262  (fb : Nat → Int64) (ct : Int32) (ln : Int32) (c1 : Nat → Int32) (c2 : Nat → Int32) (c3 : Nat → Int32) (x4 : Int32) (x5 : Int32) : Option (Int32 × (Nat → Int32) × (Nat → Int32) × (Nat → Int32)) := (if x5 = 0 then (some ((0 : Int32), c1, c2, c3)) else (zck (zin (0 : Int32) 2) (zbd (fX4_account fb ct ln (0 : Int32)) (fun u2 => (if u2.1 = 0 then (if (c2 (0 : Int32).toNatClampNeg) = u2.2 then (zck (zin (1 : Int32) 2) (zbd (fX4_account fb ct ln (1 : Int32)) (fun u6 => (if u6.1 = 0 then (if (c2 (1 : Int32).toNatClampNeg) = u6.2 then (zck (zin (2 : Int32) 4) (zbd (fX4_account fb ct ln (2 : Int32)) (fun u10 => (if u10.1 = 0 then (if (c1 (2 : Int32).toNatClampNeg) = u10.2 then (zbd (fX4_account fb ct ln (3 : Int32)) (fun u13 => (if u13.1 = 0 then (if x4 = u13.2 then (zck (zin (0 : Int32) 2) (if (1 : Int32) < (c3 (0 : Int32).toNatClampNeg) then (some ((0 : Int32), c1, c2, c3)) else (zck (zin (1 : Int32) 2) (if (1 : Int32) < (c3 (1 : Int32).toNatClampNeg) then (some ((0 : Int32), c1, c2, c3)) else (some ((1 : Int32), c1, c2, c3)))))) else (some ((0 : Int32), c1, c2, c3))) else none))) else (some ((0 : Int32), c1, c2, c3))) else none)))) else (some ((0 : Int32), c1, c2, c3))) else none)))) else (some ((0 : Int32), c1, c2, c3))) else none)))))
def fL_areSquares_253 (k21 : (Nat → Int32) → (Nat → Int32) → (Nat → Int32) → Int32 → Int32 → Int32 → Option (Int32 × (Nat → Int32) × (Nat → Int32) × (Nat → Int32))) (fb : Nat → Int64) (ct : Int32) (ln : Int32) (c1 : Nat → Int32) (c2 : Nat → Int32) (c3 : Nat → Int32) (x4 : Int32) (x6 : Int32) (s0 : Int32) (s1 : Int32) : Option (Int32 × (Nat → Int32) × (Nat → Int32) × (Nat → Int32)) := (zbn (s1 &&& s0) (fun a1 => (zbn (x6 + (1 : Int32)) (fun a2 => (k21 c1 c2 c3 x4 a1 a2)))))
def fL_areSquares_245 (k21 : (Nat → Int32) → (Nat → Int32) → (Nat → Int32) → Int32 → Int32 → Int32 → Option (Int32 × (Nat → Int32) × (Nat → Int32) × (Nat → Int32))) (fb : Nat → Int64) (ct : Int32) (ln : Int32) (c1 : Nat → Int32) (c2 : Nat → Int32) (c3 : Nat → Int32) (x4 : Int32) (x6 : Int32) (s0 : Int32) (s1 : Int32) (s2 : Int32) : Option (Int32 × (Nat → Int32) × (Nat → Int32) × (Nat → Int32)) := (if s1 = s0 then (fL_areSquares_253 k21 fb ct ln  c1 c2 c3 x4 x6 (1 : Int32) s2) else (fL_areSquares_253 k21 fb ct ln  c1 c2 c3 x4 x6 (0 : Int32) s2))
def fL_areSquares_234 (k21 : (Nat → Int32) → (Nat → Int32) → (Nat → Int32) → Int32 → Int32 → Int32 → Option (Int32 × (Nat → Int32) × (Nat → Int32) × (Nat → Int32))) (fb : Nat → Int64) (ct : Int32) (ln : Int32) (c1 : Nat → Int32) (c2 : Nat → Int32) (c3 : Nat → Int32) (x4 : Int32) (x6 : Int32) (x7 : Int32) (s0 : Int32) (s1 : Int32) : Option (Int32 × (Nat → Int32) × (Nat → Int32) × (Nat → Int32)) := (if x7 = (1 : Int32) then (fL_areSquares_245 k21 fb ct ln  c1 c2 c3 x4 x6 (0 : Int32) s0 s1) else (fL_areSquares_245 k21 fb ct ln  c1 c2 c3 x4 x6 (1 : Int32) s0 s1))
def fL_areSquares_215 (k21 : (Nat → Int32) → (Nat → Int32) → (Nat → Int32) → Int32 → Int32 → Int32 → Option (Int32 × (Nat → Int32) × (Nat → Int32) × (Nat → Int32))) (fb : Nat → Int64) (ct : Int32) (ln : Int32) (c1 : Nat → Int32) (c2 : Nat → Int32) (c3 : Nat → Int32) (x4 : Int32) (x5 : Int32) (x6 : Int32) (x7 : Int32) : Option (Int32 × (Nat → Int32) × (Nat → Int32) × (Nat → Int32)) := (zbd (fL_moves fb x6) (fun u1 => (if u1 = (-1000 : Int32) then (fL_areSquares_234 k21 fb ct ln  c1 c2 c3 x4 x6 x7 (1 : Int32) x5) else (fL_areSquares_234 k21 fb ct ln  c1 c2 c3 x4 x6 x7 (0 : Int32) x5))))
def fL_areSquares_213 (k21 : (Nat → Int32) → (Nat → Int32) → (Nat → Int32) → Int32 → Int32 → Int32 → Option (Int32 × (Nat → Int32) × (Nat → Int32) × (Nat → Int32))) (fb : Nat → Int64) (ct : Int32) (ln : Int32) (c1 : Nat → Int32) (c2 : Nat → Int32) (c3 : Nat → Int32) (x4 : Int32) (x5 : Int32) (x6 : Int32) (x7 : Int32) (s0 : Int32) (s1 : Int32) (s2 : Int32) : Option (Int32 × (Nat → Int32) × (Nat → Int32) × (Nat → Int32)) := (zck (zin s2 2) (fL_areSquares_215 k21 fb ct ln  c1 c2 (upd c3 s2.toNatClampNeg (s1 + s0)) x4 x5 x6 x7))
def fL_areSquares_175 (k21 : (Nat → Int32) → (Nat → Int32) → (Nat → Int32) → Int32 → Int32 → Int32 → Option (Int32 × (Nat → Int32) × (Nat → Int32) × (Nat → Int32))) (fb : Nat → Int64) (ct : Int32) (ln : Int32) (c1 : Nat → Int32) (c2 : Nat → Int32) (c3 : Nat → Int32) (x4 : Int32) (x6 : Int32) (x7 : Int32) (x8 : Int32) (s0 : Int32) (s1 : Int32) : Option (Int32 × (Nat → Int32) × (Nat → Int32) × (Nat → Int32)) := (zbn (s1 &&& s0) (fun a1 => (if x7 = (1 : Int32) then (zck (zin x8 2) (zck (zin x8 2) (zck (zin x8 2) (zbd (fX4_square fb x6 (2 : Int32)) (fun u5 => (if u5.1 = 0 then (if u5.2 = (3 : Int32) then (fL_areSquares_213 k21 fb ct ln  c1 (upd c2 x8.toNatClampNeg ((c2 x8.toNatClampNeg) + (1 : Int32))) c3 x4 a1 x6 x7 (1 : Int32) (c3 x8.toNatClampNeg) x8) else (fL_areSquares_213 k21 fb ct ln  c1 (upd c2 x8.toNatClampNeg ((c2 x8.toNatClampNeg) + (1 : Int32))) c3 x4 a1 x6 x7 (0 : Int32) (c3 x8.toNatClampNeg) x8)) else none)))))) else (fL_areSquares_215 k21 fb ct ln  c1 c2 c3 x4 a1 x6 x7))))
def fL_areSquares_174 (k21 : (Nat → Int32) → (Nat → Int32) → (Nat → Int32) → Int32 → Int32 → Int32 → Option (Int32 × (Nat → Int32) × (Nat → Int32) × (Nat → Int32))) (fb : Nat → Int64) (ct : Int32) (ln : Int32) (c1 : Nat → Int32) (c2 : Nat → Int32) (c3 : Nat → Int32) (x4 : Int32) (x6 : Int32) (x7 : Int32) (x8 : Int32) (s0 : Int32) : Option (Int32 × (Nat → Int32) × (Nat → Int32) × (Nat → Int32)) := (fL_areSquares_175 k21 fb ct ln  c1 c2 c3 x4 x6 x7 x8 (0 : Int32) s0)
def fL_areSquares_170 (k21 : (Nat → Int32) → (Nat → Int32) → (Nat → Int32) → Int32 → Int32 → Int32 → Option (Int32 × (Nat → Int32) × (Nat → Int32) × (Nat → Int32))) (fb : Nat → Int64) (ct : Int32) (ln : Int32) (c1 : Nat → Int32) (c2 : Nat → Int32) (c3 : Nat → Int32) (x4 : Int32) (x6 : Int32) (x7 : Int32) (x8 : Int32) (s0 : Int32) : Option (Int32 × (Nat → Int32) × (Nat → Int32) × (Nat → Int32)) := (fL_areSquares_175 k21 fb ct ln  c1 c2 c3 x4 x6 x7 x8 (1 : Int32) s0)
def fL_areSquares_167 (k21 : (Nat → Int32) → (Nat → Int32) → (Nat → Int32) → Int32 → Int32 → Int32 → Option (Int32 × (Nat → Int32) × (Nat → Int32) × (Nat → Int32))) (fb : Nat → Int64) (ct : Int32) (ln : Int32) (c1 : Nat → Int32) (c2 : Nat → Int32) (c3 : Nat → Int32) (x4 : Int32) (x6 : Int32) (x7 : Int32) (x8 : Int32) (s0 : Int32) (s1 : Int32) (s2 : Int32) : Option (Int32 × (Nat → Int32) × (Nat → Int32) × (Nat → Int32)) := (if s1 = s0 then (fL_areSquares_170 k21 fb ct ln  c1 c2 c3 x4 x6 x7 x8 s2) else (fL_areSquares_174 k21 fb ct ln  c1 c2 c3 x4 x6 x7 x8 s2))
def fL_areSquares_151 (k21 : (Nat → Int32) → (Nat → Int32) → (Nat → Int32) → Int32 → Int32 → Int32 → Option (Int32 × (Nat → Int32) × (Nat → Int32) × (Nat → Int32))) (fb : Nat → Int64) (ct : Int32) (ln : Int32) (c1 : Nat → Int32) (c2 : Nat → Int32) (c3 : Nat → Int32) (x4 : Int32) (x6 : Int32) (x7 : Int32) (x8 : Int32) (s0 : Int32) (s1 : Int32) : Option (Int32 × (Nat → Int32) × (Nat → Int32) × (Nat → Int32)) := (zbd (fX4_square fb x6 (2 : Int32)) (fun u1 => (if u1.1 = 0 then (if u1.2 = (-1 : Int32) then (fL_areSquares_167 k21 fb ct ln  c1 c2 c3 x4 x6 x7 x8 (1 : Int32) s0 s1) else (fL_areSquares_167 k21 fb ct ln  c1 c2 c3 x4 x6 x7 x8 (0 : Int32) s0 s1)) else none)))
def fL_areSquares_109 (k21 : (Nat → Int32) → (Nat → Int32) → (Nat → Int32) → Int32 → Int32 → Int32 → Option (Int32 × (Nat → Int32) × (Nat → Int32) × (Nat → Int32))) (fb : Nat → Int64) (ct : Int32) (ln : Int32) (c1 : Nat → Int32) (c2 : Nat → Int32) (c3 : Nat → Int32) (x4 : Int32) (x6 : Int32) (x7 : Int32) (x8 : Int32) (s0 : Int32) : Option (Int32 × (Nat → Int32) × (Nat → Int32) × (Nat → Int32)) := (if x7 = (2 : Int32) then (zbd (fX4_square fb x6 (3 : Int32)) (fun u1 => (if u1.1 = 0 then (if u1.2 = 0 then (zbd (fX4_picture fb x6) (fun u4 => (if u4.1 = 0 then (if u4.2 = (35 : Int32) then (if x8 = (-1 : Int32) then (fL_areSquares_151 k21 fb ct ln  c1 c2 c3 x4 x6 x7 x8 (1 : Int32) s0) else (fL_areSquares_151 k21 fb ct ln  c1 c2 c3 x4 x6 x7 x8 (0 : Int32) s0)) else (fL_areSquares_174 k21 fb ct ln  c1 c2 c3 x4 x6 x7 x8 s0)) else none))) else (fL_areSquares_174 k21 fb ct ln  c1 c2 c3 x4 x6 x7 x8 s0)) else none))) else (fL_areSquares_170 k21 fb ct ln  c1 c2 c3 x4 x6 x7 x8 s0))
def fL_areSquares_108 (k21 : (Nat → Int32) → (Nat → Int32) → (Nat → Int32) → Int32 → Int32 → Int32 → Option (Int32 × (Nat → Int32) × (Nat → Int32) × (Nat → Int32))) (fb : Nat → Int64) (ct : Int32) (ln : Int32) (c1 : Nat → Int32) (c2 : Nat → Int32) (c3 : Nat → Int32) (x4 : Int32) (x6 : Int32) (x7 : Int32) (x8 : Int32) : Option (Int32 × (Nat → Int32) × (Nat → Int32) × (Nat → Int32)) := (fL_areSquares_109 k21 fb ct ln  c1 c2 c3 x4 x6 x7 x8 (0 : Int32))
def fL_areSquares_104 (k21 : (Nat → Int32) → (Nat → Int32) → (Nat → Int32) → Int32 → Int32 → Int32 → Option (Int32 × (Nat → Int32) × (Nat → Int32) × (Nat → Int32))) (fb : Nat → Int64) (ct : Int32) (ln : Int32) (c1 : Nat → Int32) (c2 : Nat → Int32) (c3 : Nat → Int32) (x4 : Int32) (x6 : Int32) (x7 : Int32) (x8 : Int32) : Option (Int32 × (Nat → Int32) × (Nat → Int32) × (Nat → Int32)) := (fL_areSquares_109 k21 fb ct ln  c1 c2 c3 x4 x6 x7 x8 (1 : Int32))
def fL_areSquares_21  (fb : Nat → Int64) (ct : Int32) (ln : Int32) : Nat → (Nat → Int32) → (Nat → Int32) → (Nat → Int32) → Int32 → Int32 → Int32 → Option (Int32 × (Nat → Int32) × (Nat → Int32) × (Nat → Int32))
  | 0, _, _, _, _, _, _ => none
  | n + 1, c1, c2, c3, x4, x5, x6 => (if x5 = 0 then (fL_areSquares_262  fb ct ln  c1 c2 c3 x4 x5) else (if (36 : Int32) ≤ x6 then (fL_areSquares_262  fb ct ln  c1 c2 c3 x4 x5) else (zbd (fX4_square fb x6 (0 : Int32)) (fun u1 => (if u1.1 = 0 then (zbd (fX4_square fb x6 (1 : Int32)) (fun u4 => (if u4.1 = 0 then (zck (zin u1.2 4) (zck (zin u1.2 4) (zbd (fX4_square fb x6 (3 : Int32)) (fun u9 => (if u9.1 = 0 then (zbn (x4 + u9.2) (fun a12 => (if u1.2 = 0 then (if u4.2 = (-1 : Int32) then (zbd (fX4_square fb x6 (2 : Int32)) (fun u13 => (if u13.1 = 0 then (if u13.2 = (-1 : Int32) then (zbd (fX4_picture fb x6) (fun u16 => (if u16.1 = 0 then (if u16.2 = (46 : Int32) then (fL_areSquares_104 (fun z0 z1 z2 z3 z4 z5 => fL_areSquares_21  fb ct ln n z0 z1 z2 z3 z4 z5) fb ct ln  (upd c1 u1.2.toNatClampNeg ((c1 u1.2.toNatClampNeg) + (1 : Int32))) c2 c3 a12 x6 u1.2 u4.2) else (fL_areSquares_108 (fun z0 z1 z2 z3 z4 z5 => fL_areSquares_21  fb ct ln n z0 z1 z2 z3 z4 z5) fb ct ln  (upd c1 u1.2.toNatClampNeg ((c1 u1.2.toNatClampNeg) + (1 : Int32))) c2 c3 a12 x6 u1.2 u4.2)) else none))) else (fL_areSquares_108 (fun z0 z1 z2 z3 z4 z5 => fL_areSquares_21  fb ct ln n z0 z1 z2 z3 z4 z5) fb ct ln  (upd c1 u1.2.toNatClampNeg ((c1 u1.2.toNatClampNeg) + (1 : Int32))) c2 c3 a12 x6 u1.2 u4.2)) else none))) else (fL_areSquares_108 (fun z0 z1 z2 z3 z4 z5 => fL_areSquares_21  fb ct ln n z0 z1 z2 z3 z4 z5) fb ct ln  (upd c1 u1.2.toNatClampNeg ((c1 u1.2.toNatClampNeg) + (1 : Int32))) c2 c3 a12 x6 u1.2 u4.2)) else (fL_areSquares_104 (fun z0 z1 z2 z3 z4 z5 => fL_areSquares_21  fb ct ln n z0 z1 z2 z3 z4 z5) fb ct ln  (upd c1 u1.2.toNatClampNeg ((c1 u1.2.toNatClampNeg) + (1 : Int32))) c2 c3 a12 x6 u1.2 u4.2)))) else none))))) else none))) else none)))))
def fL_areSquares (fb : Nat → Int64) (ct : Int32) (ln : Int32) : Option (Int32 × (Nat → Int32) × (Nat → Int32) × (Nat → Int32)) := (fL_areSquares_21  fb ct ln 37 (fun _ => (0 : Int32)) (fun _ => (0 : Int32)) (fun _ => (0 : Int32)) (0 : Int32) (1 : Int32) (0 : Int32))
set_option maxHeartbeats 1000000 in
set_option maxRecDepth 100000 in
theorem wL_areSquares_262 {p : Program} {l : Launch} {e : Env} {s : State} {m : MethodId} {args : Array Value} {below : List Frame} {meth : Method} {c : Code} {A : Nat → Prop} {Q : State → Prop} {G : va_G} {k : Nat → ClassId} {ad : Nat → Nat} {b1 : Nat} {b2 : Nat} {b3 : Nat} {sv : Int32} {kE : Int32} {kR : Int32} {fb : Nat → Int64} {ft : Nat → Int64} {fs : Nat → Int64} {rws : Nat → Int64} {nx : Int32} {ct : Int32} {ch : Nat → Int32} {ln : Int32} {o : Int32 × (Nat → Int32) × (Nat → Int32) × (Nat → Int32)} (C0 : zCx p s m args meth c wsL_areSquares cL_areSquares RL (some .boolean) 9) (hl9 : l.stackTraces = false) (hK : zKK G k A s s.heap) (hA : ∀ q : Nat, s.heap.size ≤ q → A q) (hret : zRI p l e rmL_areSquares s m args below meth c cL_areSquares G A 673 4028 Q .boolean (zSq ad b1 b2 b3 k sv kE kR fb ft fs rws nx ct ch ln o.2.1 o.2.2.1 o.2.2.2) o.1)   : ∀ (c1 : Nat → Int32) (c2 : Nat → Int32) (c3 : Nat → Int32) (x4 : Int32) (x5 : Int32), fL_areSquares_262  fb ct ln c1 c2 c3 x4 x5 = some o → ∀ (ca cb : Nat), ca + (4) ≤ 673 → cb + (24) ≤ 4028 → ∀ (H : Heap) (locs : List Loc) (ls : Array Slot), zWd G A s (zSq ad b1 b2 b3 k sv kE kR fb ft fs rws nx ct ch ln c1 c2 c3) H locs → lv_has ls 9 [(0, .ref (ad 0)), (1, .ref b1), (2, .ref b2), (3, .ref b3), (4, .int x4), (5, .int x5)] → W p l e rmL_areSquares s m args below meth c H locs ca cb Q (F0 m 262 ls []) := by
  obtain ⟨hx, hb, hr, hml, hown, hts, hlocks⟩ := id C0
  intro c1 c2 c3 x4 x5 hF ca cb hca hcb H locs ls hw hl
  unfold fL_areSquares_262 at hF
  refine lv_iload hx hb dL_areSquares_262 (lv_at hl 5 rfl) ?_
  refine lv_if_eq (tgt := 328) hx hb dL_areSquares_264 (by decide) (fun hc => ?_) (fun hc => ?_)
  · have hF := zif_t hc hF
    refine lv_iconst (v := (0 : Int32)) hx hb dL_areSquares_328 (by decide) ?_
    obtain rfl := Option.some.inj hF
    refine W.widen (k := 673) (n := 4028) (by omega) (by omega) ?_
    exact hret _ _ _ _ (zbo_n (x := (0 : Int32)) (by decide)) hw dL_areSquares_329
  · have hF := zif_f hc hF
    refine lv_aload_n hx hb dL_areSquares_267 rfl (lv_at hl 2 rfl) ?_
    refine lv_iconst (v := (0 : Int32)) hx hb dL_areSquares_268 (by decide) ?_
    obtain ⟨hi1, hF⟩ := zck_in hF
    refine va_iald hx hb hK.1 hw.1 12 2 rfl rfl hi1 dL_areSquares_269 ?_
    refine lv_aload_n hx hb dL_areSquares_270 rfl (lv_at hl 0 rfl) ?_
    refine lv_iconst (v := (0 : Int32)) hx hb dL_areSquares_271 (by decide) ?_
    obtain ⟨u2, hq3, hF⟩ := zbd_t hF
    refine zgoXI4 (o0 := u2.1) (w' := (zSq ad b1 b2 b3 k sv kE kR fb ft fs rws nx ct ch ln c1 c2 c3)) (wa := []) (wc := (zC ad k sv kE kR fb ft fs rws nx ct ch ln)) (wc' := (zC ad k sv kE kR fb ft fs rws nx ct ch ln)) (wr := [(b1, .inl (k 2, 4, .inl c1)), (b2, .inl (k 2, 2, .inl c2)), (b3, .inl (k 2, 2, .inl c3))]) hw rfl rfl hA (zVx4 (wa := []) (wc := (zC ad k sv kE kR fb ft fs rws nx ct ch ln)) (wr := [(b1, .inl (k 2, 4, .inl c1)), (b2, .inl (k 2, 2, .inl c2)), (b3, .inl (k 2, 2, .inl c3))]) (As := [.int (0 : Int32)]) (rest := [.int (c2 (0 : Int32).toNatClampNeg)]) ⟨hx, hb, hml, hown, hts⟩ (mX4_account l hl9 G k ad H.size sv kE kR fb ft fs rws nx ct ch ln (0 : Int32) u2 hq3) (cwV 1 hts gL_areSquares_X4_account rfl rfl rfl kdX4_account ⟨Nat.le_of_ble_eq_true rfl, Nat.le_of_ble_eq_true rfl⟩) hK hA hw rfl 0 rfl rfl rfl rfl hl.1 rfl (Nat.le_of_ble_eq_true rfl) dL_areSquares_272 ⟨(by show _ ≤ 673; omega), (by show _ ≤ 4028; omega)⟩) rfl (fun h04 H locs q9 E9 ce9 hw g1 g2 g3 g4 => ?_) (fun h04 H locs hw => ?_)
    · exact nomatch (zif_f h04 hF)
    have hF := zif_t h04 hF
    refine lv_icmp_ne (tgt := 328) hx hb dL_areSquares_275 (by decide) (fun hc => ?_) (fun hc => ?_)
    · have hF := zif_f hc hF
      refine lv_iconst (v := (0 : Int32)) hx hb dL_areSquares_328 (by decide) ?_
      obtain rfl := Option.some.inj hF
      refine W.widen (k := 673) (n := 4028) (by omega) (by omega) ?_
      exact hret _ _ _ _ (zbo_n (x := (0 : Int32)) (by decide)) hw dL_areSquares_329
    · have hF := zif_t hc hF
      refine lv_aload_n hx hb dL_areSquares_278 rfl (lv_at hl 2 rfl) ?_
      refine lv_iconst (v := (1 : Int32)) hx hb dL_areSquares_279 (by decide) ?_
      obtain ⟨hi5, hF⟩ := zck_in hF
      refine va_iald hx hb hK.1 hw.1 12 2 rfl rfl hi5 dL_areSquares_280 ?_
      refine lv_aload_n hx hb dL_areSquares_281 rfl (lv_at hl 0 rfl) ?_
      refine lv_iconst (v := (1 : Int32)) hx hb dL_areSquares_282 (by decide) ?_
      obtain ⟨u6, hq7, hF⟩ := zbd_t hF
      refine zgoXI4 (o0 := u6.1) (w' := (zSq ad b1 b2 b3 k sv kE kR fb ft fs rws nx ct ch ln c1 c2 c3)) (wa := []) (wc := (zC ad k sv kE kR fb ft fs rws nx ct ch ln)) (wc' := (zC ad k sv kE kR fb ft fs rws nx ct ch ln)) (wr := [(b1, .inl (k 2, 4, .inl c1)), (b2, .inl (k 2, 2, .inl c2)), (b3, .inl (k 2, 2, .inl c3))]) hw rfl rfl hA (zVx4 (wa := []) (wc := (zC ad k sv kE kR fb ft fs rws nx ct ch ln)) (wr := [(b1, .inl (k 2, 4, .inl c1)), (b2, .inl (k 2, 2, .inl c2)), (b3, .inl (k 2, 2, .inl c3))]) (As := [.int (1 : Int32)]) (rest := [.int (c2 (1 : Int32).toNatClampNeg)]) ⟨hx, hb, hml, hown, hts⟩ (mX4_account l hl9 G k ad H.size sv kE kR fb ft fs rws nx ct ch ln (1 : Int32) u6 hq7) (cwV 1 hts gL_areSquares_X4_account rfl rfl rfl kdX4_account ⟨Nat.le_of_ble_eq_true rfl, Nat.le_of_ble_eq_true rfl⟩) hK hA hw rfl 0 rfl rfl rfl rfl hl.1 rfl (Nat.le_of_ble_eq_true rfl) dL_areSquares_283 ⟨(by show _ ≤ 673; omega), (by show _ ≤ 4028; omega)⟩) rfl (fun h08 H locs q9 E9 ce9 hw g1 g2 g3 g4 => ?_) (fun h08 H locs hw => ?_)
      · exact nomatch (zif_f h08 hF)
      have hF := zif_t h08 hF
      refine lv_icmp_ne (tgt := 328) hx hb dL_areSquares_286 (by decide) (fun hc => ?_) (fun hc => ?_)
      · have hF := zif_f hc hF
        refine lv_iconst (v := (0 : Int32)) hx hb dL_areSquares_328 (by decide) ?_
        obtain rfl := Option.some.inj hF
        refine W.widen (k := 673) (n := 4028) (by omega) (by omega) ?_
        exact hret _ _ _ _ (zbo_n (x := (0 : Int32)) (by decide)) hw dL_areSquares_329
      · have hF := zif_t hc hF
        refine lv_aload_n hx hb dL_areSquares_289 rfl (lv_at hl 1 rfl) ?_
        refine lv_iconst (v := (2 : Int32)) hx hb dL_areSquares_290 (by decide) ?_
        obtain ⟨hi9, hF⟩ := zck_in hF
        refine va_iald hx hb hK.1 hw.1 11 2 rfl rfl hi9 dL_areSquares_291 ?_
        refine lv_aload_n hx hb dL_areSquares_292 rfl (lv_at hl 0 rfl) ?_
        refine lv_iconst (v := (2 : Int32)) hx hb dL_areSquares_293 (by decide) ?_
        obtain ⟨u10, hq11, hF⟩ := zbd_t hF
        refine zgoXI4 (o0 := u10.1) (w' := (zSq ad b1 b2 b3 k sv kE kR fb ft fs rws nx ct ch ln c1 c2 c3)) (wa := []) (wc := (zC ad k sv kE kR fb ft fs rws nx ct ch ln)) (wc' := (zC ad k sv kE kR fb ft fs rws nx ct ch ln)) (wr := [(b1, .inl (k 2, 4, .inl c1)), (b2, .inl (k 2, 2, .inl c2)), (b3, .inl (k 2, 2, .inl c3))]) hw rfl rfl hA (zVx4 (wa := []) (wc := (zC ad k sv kE kR fb ft fs rws nx ct ch ln)) (wr := [(b1, .inl (k 2, 4, .inl c1)), (b2, .inl (k 2, 2, .inl c2)), (b3, .inl (k 2, 2, .inl c3))]) (As := [.int (2 : Int32)]) (rest := [.int (c1 (2 : Int32).toNatClampNeg)]) ⟨hx, hb, hml, hown, hts⟩ (mX4_account l hl9 G k ad H.size sv kE kR fb ft fs rws nx ct ch ln (2 : Int32) u10 hq11) (cwV 1 hts gL_areSquares_X4_account rfl rfl rfl kdX4_account ⟨Nat.le_of_ble_eq_true rfl, Nat.le_of_ble_eq_true rfl⟩) hK hA hw rfl 0 rfl rfl rfl rfl hl.1 rfl (Nat.le_of_ble_eq_true rfl) dL_areSquares_294 ⟨(by show _ ≤ 673; omega), (by show _ ≤ 4028; omega)⟩) rfl (fun h012 H locs q9 E9 ce9 hw g1 g2 g3 g4 => ?_) (fun h012 H locs hw => ?_)
        · exact nomatch (zif_f h012 hF)
        have hF := zif_t h012 hF
        refine lv_icmp_ne (tgt := 328) hx hb dL_areSquares_297 (by decide) (fun hc => ?_) (fun hc => ?_)
        · have hF := zif_f hc hF
          refine lv_iconst (v := (0 : Int32)) hx hb dL_areSquares_328 (by decide) ?_
          obtain rfl := Option.some.inj hF
          refine W.widen (k := 673) (n := 4028) (by omega) (by omega) ?_
          exact hret _ _ _ _ (zbo_n (x := (0 : Int32)) (by decide)) hw dL_areSquares_329
        · have hF := zif_t hc hF
          refine lv_iload hx hb dL_areSquares_300 (lv_at hl 4 rfl) ?_
          refine lv_aload_n hx hb dL_areSquares_302 rfl (lv_at hl 0 rfl) ?_
          refine lv_iconst (v := (3 : Int32)) hx hb dL_areSquares_303 (by decide) ?_
          obtain ⟨u13, hq14, hF⟩ := zbd_t hF
          refine zgoXI4 (o0 := u13.1) (w' := (zSq ad b1 b2 b3 k sv kE kR fb ft fs rws nx ct ch ln c1 c2 c3)) (wa := []) (wc := (zC ad k sv kE kR fb ft fs rws nx ct ch ln)) (wc' := (zC ad k sv kE kR fb ft fs rws nx ct ch ln)) (wr := [(b1, .inl (k 2, 4, .inl c1)), (b2, .inl (k 2, 2, .inl c2)), (b3, .inl (k 2, 2, .inl c3))]) hw rfl rfl hA (zVx4 (wa := []) (wc := (zC ad k sv kE kR fb ft fs rws nx ct ch ln)) (wr := [(b1, .inl (k 2, 4, .inl c1)), (b2, .inl (k 2, 2, .inl c2)), (b3, .inl (k 2, 2, .inl c3))]) (As := [.int (3 : Int32)]) (rest := [.int x4]) ⟨hx, hb, hml, hown, hts⟩ (mX4_account l hl9 G k ad H.size sv kE kR fb ft fs rws nx ct ch ln (3 : Int32) u13 hq14) (cwV 1 hts gL_areSquares_X4_account rfl rfl rfl kdX4_account ⟨Nat.le_of_ble_eq_true rfl, Nat.le_of_ble_eq_true rfl⟩) hK hA hw rfl 0 rfl rfl rfl rfl hl.1 rfl (Nat.le_of_ble_eq_true rfl) dL_areSquares_304 ⟨(by show _ ≤ 673; omega), (by show _ ≤ 4028; omega)⟩) rfl (fun h015 H locs q9 E9 ce9 hw g1 g2 g3 g4 => ?_) (fun h015 H locs hw => ?_)
          · exact nomatch (zif_f h015 hF)
          have hF := zif_t h015 hF
          refine lv_icmp_ne (tgt := 328) hx hb dL_areSquares_307 (by decide) (fun hc => ?_) (fun hc => ?_)
          · have hF := zif_f hc hF
            refine lv_iconst (v := (0 : Int32)) hx hb dL_areSquares_328 (by decide) ?_
            obtain rfl := Option.some.inj hF
            refine W.widen (k := 673) (n := 4028) (by omega) (by omega) ?_
            exact hret _ _ _ _ (zbo_n (x := (0 : Int32)) (by decide)) hw dL_areSquares_329
          · have hF := zif_t hc hF
            refine lv_aload_n hx hb dL_areSquares_310 rfl (lv_at hl 3 rfl) ?_
            refine lv_iconst (v := (0 : Int32)) hx hb dL_areSquares_311 (by decide) ?_
            obtain ⟨hi16, hF⟩ := zck_in hF
            refine va_iald hx hb hK.1 hw.1 13 2 rfl rfl hi16 dL_areSquares_312 ?_
            refine lv_iconst (v := (1 : Int32)) hx hb dL_areSquares_313 (by decide) ?_
            refine lv_icmp_gt (tgt := 328) hx hb dL_areSquares_314 (by decide) (fun hc => ?_) (fun hc => ?_)
            · have hF := zif_t hc hF
              refine lv_iconst (v := (0 : Int32)) hx hb dL_areSquares_328 (by decide) ?_
              obtain rfl := Option.some.inj hF
              refine W.widen (k := 673) (n := 4028) (by omega) (by omega) ?_
              exact hret _ _ _ _ (zbo_n (x := (0 : Int32)) (by decide)) hw dL_areSquares_329
            · have hF := zif_f hc hF
              refine lv_aload_n hx hb dL_areSquares_317 rfl (lv_at hl 3 rfl) ?_
              refine lv_iconst (v := (1 : Int32)) hx hb dL_areSquares_318 (by decide) ?_
              obtain ⟨hi17, hF⟩ := zck_in hF
              refine va_iald hx hb hK.1 hw.1 13 2 rfl rfl hi17 dL_areSquares_319 ?_
              refine lv_iconst (v := (1 : Int32)) hx hb dL_areSquares_320 (by decide) ?_
              refine lv_icmp_gt (tgt := 328) hx hb dL_areSquares_321 (by decide) (fun hc => ?_) (fun hc => ?_)
              · have hF := zif_t hc hF
                refine lv_iconst (v := (0 : Int32)) hx hb dL_areSquares_328 (by decide) ?_
                obtain rfl := Option.some.inj hF
                refine W.widen (k := 673) (n := 4028) (by omega) (by omega) ?_
                exact hret _ _ _ _ (zbo_n (x := (0 : Int32)) (by decide)) hw dL_areSquares_329
              · have hF := zif_f hc hF
                refine lv_iconst (v := (1 : Int32)) hx hb dL_areSquares_324 (by decide) ?_
                refine lv_goto (tgt := 329) hx hb dL_areSquares_325 (by decide) ?_
                obtain rfl := Option.some.inj hF
                refine W.widen (k := 673) (n := 4028) (by omega) (by omega) ?_
                exact hret _ _ _ _ (zbo_n (x := (1 : Int32)) (by decide)) hw dL_areSquares_329
set_option maxHeartbeats 1000000 in
set_option maxRecDepth 100000 in
theorem wL_areSquares_253 {p : Program} {l : Launch} {e : Env} {s : State} {m : MethodId} {args : Array Value} {below : List Frame} {meth : Method} {c : Code} {A : Nat → Prop} {Q : State → Prop} {G : va_G} {k : Nat → ClassId} {ad : Nat → Nat} {b1 : Nat} {b2 : Nat} {b3 : Nat} {sv : Int32} {kE : Int32} {kR : Int32} {fb : Nat → Int64} {ft : Nat → Int64} {fs : Nat → Int64} {rws : Nat → Int64} {nx : Int32} {ct : Int32} {ch : Nat → Int32} {ln : Int32} {o : Int32 × (Nat → Int32) × (Nat → Int32) × (Nat → Int32)} (C0 : zCx p s m args meth c wsL_areSquares cL_areSquares RL (some .boolean) 9) (hl9 : l.stackTraces = false) (hK : zKK G k A s s.heap) (hA : ∀ q : Nat, s.heap.size ≤ q → A q) (hret : zRI p l e rmL_areSquares s m args below meth c cL_areSquares G A 673 4028 Q .boolean (zSq ad b1 b2 b3 k sv kE kR fb ft fs rws nx ct ch ln o.2.1 o.2.2.1 o.2.2.2) o.1)  {d1_21 d2_21 : Nat} (k21 : (Nat → Int32) → (Nat → Int32) → (Nat → Int32) → Int32 → Int32 → Int32 → Option (Int32 × (Nat → Int32) × (Nat → Int32) × (Nat → Int32))) (hk21 : ∀ (c1 : Nat → Int32) (c2 : Nat → Int32) (c3 : Nat → Int32) (x4 : Int32) (x5 : Int32) (x6 : Int32), k21 c1 c2 c3 x4 x5 x6 = some o → ∀ (ca cb : Nat), ca + d1_21 ≤ 673 → cb + d2_21 ≤ 4028 → ∀ (H : Heap) (locs : List Loc) (ls : Array Slot), zWd G A s (zSq ad b1 b2 b3 k sv kE kR fb ft fs rws nx ct ch ln c1 c2 c3) H locs → lv_has ls 9 [(0, .ref (ad 0)), (1, .ref b1), (2, .ref b2), (3, .ref b3), (4, .int x4), (5, .int x5), (6, .int x6)] → W p l e rmL_areSquares s m args below meth c H locs ca cb Q (F0 m 21 ls [])) : ∀ (c1 : Nat → Int32) (c2 : Nat → Int32) (c3 : Nat → Int32) (x4 : Int32) (x6 : Int32) (s0 : Int32) (s1 : Int32), fL_areSquares_253 k21 fb ct ln c1 c2 c3 x4 x6 s0 s1 = some o → ∀ (ca cb : Nat), ca + (0 + d1_21) ≤ 673 → cb + (0 + d2_21) ≤ 4028 → ∀ (H : Heap) (locs : List Loc) (ls : Array Slot), zWd G A s (zSq ad b1 b2 b3 k sv kE kR fb ft fs rws nx ct ch ln c1 c2 c3) H locs → lv_has ls 9 [(0, .ref (ad 0)), (1, .ref b1), (2, .ref b2), (3, .ref b3), (4, .int x4), (6, .int x6)] → W p l e rmL_areSquares s m args below meth c H locs ca cb Q (F0 m 253 ls [.int s0, .int s1]) := by
  obtain ⟨hx, hb, hr, hml, hown, hts, hlocks⟩ := id C0
  intro c1 c2 c3 x4 x6 s0 s1 hF ca cb hca hcb H locs ls hw hl
  unfold fL_areSquares_253 at hF
  refine lv_iand hx hb dL_areSquares_253 ?_
  refine lv_topi (fun a1 ea1 => ?_)
  have hF := zbn_t ea1 hF
  refine lv_istore (lv' := [(5, .int a1), (0, .ref (ad 0)), (1, .ref b1), (2, .ref b2), (3, .ref b3), (4, .int x4), (6, .int x6)]) hx hb dL_areSquares_254 hl (by decide) rfl (fun ls hl => ?_)
  obtain ⟨a2, ea2⟩ : ∃ z : Int32, z = x6 + (1 : Int32) := ⟨_, rfl⟩
  have hF := zbn_t ea2 hF
  refine lv_iinc (v := a2) (lv' := [(6, .int a2), (5, .int a1), (0, .ref (ad 0)), (1, .ref b1), (2, .ref b2), (3, .ref b3), (4, .int x4)]) hx hb dL_areSquares_256 hl (k := 6) rfl (by rw [ea2]; rfl) (by decide) rfl (fun ls hl => ?_)
  refine lv_goto (tgt := 21) hx hb dL_areSquares_259 (by decide) ?_
  exact hk21 _ _ _ _ _ _ hF _ _ (by omega) (by omega) _ _ _ hw (lv_sub hl [2, 3, 4, 5, 6, 1, 0] rfl)
set_option maxHeartbeats 1000000 in
set_option maxRecDepth 100000 in
theorem wL_areSquares_245 {p : Program} {l : Launch} {e : Env} {s : State} {m : MethodId} {args : Array Value} {below : List Frame} {meth : Method} {c : Code} {A : Nat → Prop} {Q : State → Prop} {G : va_G} {k : Nat → ClassId} {ad : Nat → Nat} {b1 : Nat} {b2 : Nat} {b3 : Nat} {sv : Int32} {kE : Int32} {kR : Int32} {fb : Nat → Int64} {ft : Nat → Int64} {fs : Nat → Int64} {rws : Nat → Int64} {nx : Int32} {ct : Int32} {ch : Nat → Int32} {ln : Int32} {o : Int32 × (Nat → Int32) × (Nat → Int32) × (Nat → Int32)} (C0 : zCx p s m args meth c wsL_areSquares cL_areSquares RL (some .boolean) 9) (hl9 : l.stackTraces = false) (hK : zKK G k A s s.heap) (hA : ∀ q : Nat, s.heap.size ≤ q → A q) (hret : zRI p l e rmL_areSquares s m args below meth c cL_areSquares G A 673 4028 Q .boolean (zSq ad b1 b2 b3 k sv kE kR fb ft fs rws nx ct ch ln o.2.1 o.2.2.1 o.2.2.2) o.1)  {d1_21 d2_21 : Nat} (k21 : (Nat → Int32) → (Nat → Int32) → (Nat → Int32) → Int32 → Int32 → Int32 → Option (Int32 × (Nat → Int32) × (Nat → Int32) × (Nat → Int32))) (hk21 : ∀ (c1 : Nat → Int32) (c2 : Nat → Int32) (c3 : Nat → Int32) (x4 : Int32) (x5 : Int32) (x6 : Int32), k21 c1 c2 c3 x4 x5 x6 = some o → ∀ (ca cb : Nat), ca + d1_21 ≤ 673 → cb + d2_21 ≤ 4028 → ∀ (H : Heap) (locs : List Loc) (ls : Array Slot), zWd G A s (zSq ad b1 b2 b3 k sv kE kR fb ft fs rws nx ct ch ln c1 c2 c3) H locs → lv_has ls 9 [(0, .ref (ad 0)), (1, .ref b1), (2, .ref b2), (3, .ref b3), (4, .int x4), (5, .int x5), (6, .int x6)] → W p l e rmL_areSquares s m args below meth c H locs ca cb Q (F0 m 21 ls [])) : ∀ (c1 : Nat → Int32) (c2 : Nat → Int32) (c3 : Nat → Int32) (x4 : Int32) (x6 : Int32) (s0 : Int32) (s1 : Int32) (s2 : Int32), fL_areSquares_245 k21 fb ct ln c1 c2 c3 x4 x6 s0 s1 s2 = some o → ∀ (ca cb : Nat), ca + (0 + d1_21) ≤ 673 → cb + (0 + d2_21) ≤ 4028 → ∀ (H : Heap) (locs : List Loc) (ls : Array Slot), zWd G A s (zSq ad b1 b2 b3 k sv kE kR fb ft fs rws nx ct ch ln c1 c2 c3) H locs → lv_has ls 9 [(0, .ref (ad 0)), (1, .ref b1), (2, .ref b2), (3, .ref b3), (4, .int x4), (6, .int x6)] → W p l e rmL_areSquares s m args below meth c H locs ca cb Q (F0 m 245 ls [.int s0, .int s1, .int s2]) := by
  obtain ⟨hx, hb, hr, hml, hown, hts, hlocks⟩ := id C0
  intro c1 c2 c3 x4 x6 s0 s1 s2 hF ca cb hca hcb H locs ls hw hl
  unfold fL_areSquares_245 at hF
  refine lv_icmp_ne (tgt := 252) hx hb dL_areSquares_245 (by decide) (fun hc => ?_) (fun hc => ?_)
  · have hF := zif_f hc hF
    refine lv_iconst (v := (0 : Int32)) hx hb dL_areSquares_252 (by decide) ?_
    exact wL_areSquares_253 C0 hl9 hK hA hret k21 hk21   _ _ _ _ _ _ _ hF _ _ (by omega) (by omega) _ _ _ hw (lv_sub hl [0, 1, 2, 3, 4, 5] rfl)
  · have hF := zif_t hc hF
    refine lv_iconst (v := (1 : Int32)) hx hb dL_areSquares_248 (by decide) ?_
    refine lv_goto (tgt := 253) hx hb dL_areSquares_249 (by decide) ?_
    exact wL_areSquares_253 C0 hl9 hK hA hret k21 hk21   _ _ _ _ _ _ _ hF _ _ (by omega) (by omega) _ _ _ hw (lv_sub hl [0, 1, 2, 3, 4, 5] rfl)
set_option maxHeartbeats 1000000 in
set_option maxRecDepth 100000 in
theorem wL_areSquares_234 {p : Program} {l : Launch} {e : Env} {s : State} {m : MethodId} {args : Array Value} {below : List Frame} {meth : Method} {c : Code} {A : Nat → Prop} {Q : State → Prop} {G : va_G} {k : Nat → ClassId} {ad : Nat → Nat} {b1 : Nat} {b2 : Nat} {b3 : Nat} {sv : Int32} {kE : Int32} {kR : Int32} {fb : Nat → Int64} {ft : Nat → Int64} {fs : Nat → Int64} {rws : Nat → Int64} {nx : Int32} {ct : Int32} {ch : Nat → Int32} {ln : Int32} {o : Int32 × (Nat → Int32) × (Nat → Int32) × (Nat → Int32)} (C0 : zCx p s m args meth c wsL_areSquares cL_areSquares RL (some .boolean) 9) (hl9 : l.stackTraces = false) (hK : zKK G k A s s.heap) (hA : ∀ q : Nat, s.heap.size ≤ q → A q) (hret : zRI p l e rmL_areSquares s m args below meth c cL_areSquares G A 673 4028 Q .boolean (zSq ad b1 b2 b3 k sv kE kR fb ft fs rws nx ct ch ln o.2.1 o.2.2.1 o.2.2.2) o.1)  {d1_21 d2_21 : Nat} (k21 : (Nat → Int32) → (Nat → Int32) → (Nat → Int32) → Int32 → Int32 → Int32 → Option (Int32 × (Nat → Int32) × (Nat → Int32) × (Nat → Int32))) (hk21 : ∀ (c1 : Nat → Int32) (c2 : Nat → Int32) (c3 : Nat → Int32) (x4 : Int32) (x5 : Int32) (x6 : Int32), k21 c1 c2 c3 x4 x5 x6 = some o → ∀ (ca cb : Nat), ca + d1_21 ≤ 673 → cb + d2_21 ≤ 4028 → ∀ (H : Heap) (locs : List Loc) (ls : Array Slot), zWd G A s (zSq ad b1 b2 b3 k sv kE kR fb ft fs rws nx ct ch ln c1 c2 c3) H locs → lv_has ls 9 [(0, .ref (ad 0)), (1, .ref b1), (2, .ref b2), (3, .ref b3), (4, .int x4), (5, .int x5), (6, .int x6)] → W p l e rmL_areSquares s m args below meth c H locs ca cb Q (F0 m 21 ls [])) : ∀ (c1 : Nat → Int32) (c2 : Nat → Int32) (c3 : Nat → Int32) (x4 : Int32) (x6 : Int32) (x7 : Int32) (s0 : Int32) (s1 : Int32), fL_areSquares_234 k21 fb ct ln c1 c2 c3 x4 x6 x7 s0 s1 = some o → ∀ (ca cb : Nat), ca + (0 + d1_21) ≤ 673 → cb + (0 + d2_21) ≤ 4028 → ∀ (H : Heap) (locs : List Loc) (ls : Array Slot), zWd G A s (zSq ad b1 b2 b3 k sv kE kR fb ft fs rws nx ct ch ln c1 c2 c3) H locs → lv_has ls 9 [(0, .ref (ad 0)), (1, .ref b1), (2, .ref b2), (3, .ref b3), (4, .int x4), (6, .int x6), (7, .int x7)] → W p l e rmL_areSquares s m args below meth c H locs ca cb Q (F0 m 234 ls [.int s0, .int s1]) := by
  obtain ⟨hx, hb, hr, hml, hown, hts, hlocks⟩ := id C0
  intro c1 c2 c3 x4 x6 x7 s0 s1 hF ca cb hca hcb H locs ls hw hl
  unfold fL_areSquares_234 at hF
  refine lv_iload hx hb dL_areSquares_234 (lv_at hl 6 rfl) ?_
  refine lv_iconst (v := (1 : Int32)) hx hb dL_areSquares_236 (by decide) ?_
  refine lv_icmp_eq (tgt := 244) hx hb dL_areSquares_237 (by decide) (fun hc => ?_) (fun hc => ?_)
  · have hF := zif_t hc hF
    refine lv_iconst (v := (0 : Int32)) hx hb dL_areSquares_244 (by decide) ?_
    exact wL_areSquares_245 C0 hl9 hK hA hret k21 hk21   _ _ _ _ _ _ _ _ hF _ _ (by omega) (by omega) _ _ _ hw (lv_sub hl [0, 1, 2, 3, 4, 5] rfl)
  · have hF := zif_f hc hF
    refine lv_iconst (v := (1 : Int32)) hx hb dL_areSquares_240 (by decide) ?_
    refine lv_goto (tgt := 245) hx hb dL_areSquares_241 (by decide) ?_
    exact wL_areSquares_245 C0 hl9 hK hA hret k21 hk21   _ _ _ _ _ _ _ _ hF _ _ (by omega) (by omega) _ _ _ hw (lv_sub hl [0, 1, 2, 3, 4, 5] rfl)
set_option maxHeartbeats 1000000 in
set_option maxRecDepth 100000 in
theorem wL_areSquares_215 {p : Program} {l : Launch} {e : Env} {s : State} {m : MethodId} {args : Array Value} {below : List Frame} {meth : Method} {c : Code} {A : Nat → Prop} {Q : State → Prop} {G : va_G} {k : Nat → ClassId} {ad : Nat → Nat} {b1 : Nat} {b2 : Nat} {b3 : Nat} {sv : Int32} {kE : Int32} {kR : Int32} {fb : Nat → Int64} {ft : Nat → Int64} {fs : Nat → Int64} {rws : Nat → Int64} {nx : Int32} {ct : Int32} {ch : Nat → Int32} {ln : Int32} {o : Int32 × (Nat → Int32) × (Nat → Int32) × (Nat → Int32)} (C0 : zCx p s m args meth c wsL_areSquares cL_areSquares RL (some .boolean) 9) (hl9 : l.stackTraces = false) (hK : zKK G k A s s.heap) (hA : ∀ q : Nat, s.heap.size ≤ q → A q) (hret : zRI p l e rmL_areSquares s m args below meth c cL_areSquares G A 673 4028 Q .boolean (zSq ad b1 b2 b3 k sv kE kR fb ft fs rws nx ct ch ln o.2.1 o.2.2.1 o.2.2.2) o.1)  {d1_21 d2_21 : Nat} (k21 : (Nat → Int32) → (Nat → Int32) → (Nat → Int32) → Int32 → Int32 → Int32 → Option (Int32 × (Nat → Int32) × (Nat → Int32) × (Nat → Int32))) (hk21 : ∀ (c1 : Nat → Int32) (c2 : Nat → Int32) (c3 : Nat → Int32) (x4 : Int32) (x5 : Int32) (x6 : Int32), k21 c1 c2 c3 x4 x5 x6 = some o → ∀ (ca cb : Nat), ca + d1_21 ≤ 673 → cb + d2_21 ≤ 4028 → ∀ (H : Heap) (locs : List Loc) (ls : Array Slot), zWd G A s (zSq ad b1 b2 b3 k sv kE kR fb ft fs rws nx ct ch ln c1 c2 c3) H locs → lv_has ls 9 [(0, .ref (ad 0)), (1, .ref b1), (2, .ref b2), (3, .ref b3), (4, .int x4), (5, .int x5), (6, .int x6)] → W p l e rmL_areSquares s m args below meth c H locs ca cb Q (F0 m 21 ls [])) : ∀ (c1 : Nat → Int32) (c2 : Nat → Int32) (c3 : Nat → Int32) (x4 : Int32) (x5 : Int32) (x6 : Int32) (x7 : Int32), fL_areSquares_215 k21 fb ct ln c1 c2 c3 x4 x5 x6 x7 = some o → ∀ (ca cb : Nat), ca + (2 + d1_21) ≤ 673 → cb + (12 + d2_21) ≤ 4028 → ∀ (H : Heap) (locs : List Loc) (ls : Array Slot), zWd G A s (zSq ad b1 b2 b3 k sv kE kR fb ft fs rws nx ct ch ln c1 c2 c3) H locs → lv_has ls 9 [(0, .ref (ad 0)), (1, .ref b1), (2, .ref b2), (3, .ref b3), (4, .int x4), (5, .int x5), (6, .int x6), (7, .int x7)] → W p l e rmL_areSquares s m args below meth c H locs ca cb Q (F0 m 215 ls []) := by
  obtain ⟨hx, hb, hr, hml, hown, hts, hlocks⟩ := id C0
  intro c1 c2 c3 x4 x5 x6 x7 hF ca cb hca hcb H locs ls hw hl
  unfold fL_areSquares_215 at hF
  refine lv_iload hx hb dL_areSquares_215 (lv_at hl 5 rfl) ?_
  refine lv_aload_n hx hb dL_areSquares_217 rfl (lv_at hl 0 rfl) ?_
  refine lv_iload hx hb dL_areSquares_218 (lv_at hl 6 rfl) ?_
  obtain ⟨u1, hq2, hF⟩ := zbd_t hF
  refine zgoI4 (w' := (zSq ad b1 b2 b3 k sv kE kR fb ft fs rws nx ct ch ln c1 c2 c3)) (wa := []) (wc := (zC ad k sv kE kR fb ft fs rws nx ct ch ln)) (wc' := (zC ad k sv kE kR fb ft fs rws nx ct ch ln)) (wr := [(b1, .inl (k 2, 4, .inl c1)), (b2, .inl (k 2, 2, .inl c2)), (b3, .inl (k 2, 2, .inl c3))]) hw rfl rfl hA (zSW4 (wa := []) (wc := (zC ad k sv kE kR fb ft fs rws nx ct ch ln)) (wr := [(b1, .inl (k 2, 4, .inl c1)), (b2, .inl (k 2, 2, .inl c2)), (b3, .inl (k 2, 2, .inl c3))]) (As := [.ref (ad 0), .int x6]) (rest := [.int x5]) ⟨hx, hb, hml, hown, hts⟩ (mL_moves l hl9 G k ad H.size sv kE kR fb ft fs rws nx ct ch ln x6 u1 hq2) (vx_cwSW 2 hts gL_areSquares_L_moves rfl rfl rfl kdL_moves ⟨Nat.le_of_ble_eq_true rfl, Nat.le_of_ble_eq_true rfl⟩) hK hA hw rfl rfl hl.1 rfl (Nat.le_of_ble_eq_true rfl) dL_areSquares_220 ⟨(by show _ ≤ 673; omega), (by show _ ≤ 4028; omega)⟩) rfl (fun H locs hw => ?_)
  refine lv_sipush (v := (-1000 : Int32)) hx hb dL_areSquares_223 (by decide) ?_
  refine lv_icmp_ne (tgt := 233) hx hb dL_areSquares_226 (by decide) (fun hc => ?_) (fun hc => ?_)
  · have hF := zif_f hc hF
    refine lv_iconst (v := (0 : Int32)) hx hb dL_areSquares_233 (by decide) ?_
    exact wL_areSquares_234 C0 hl9 hK hA hret k21 hk21   _ _ _ _ _ _ _ _ hF _ _ (by omega) (by omega) _ _ _ hw (lv_sub hl [0, 1, 2, 3, 4, 6, 7] rfl)
  · have hF := zif_t hc hF
    refine lv_iconst (v := (1 : Int32)) hx hb dL_areSquares_229 (by decide) ?_
    refine lv_goto (tgt := 234) hx hb dL_areSquares_230 (by decide) ?_
    exact wL_areSquares_234 C0 hl9 hK hA hret k21 hk21   _ _ _ _ _ _ _ _ hF _ _ (by omega) (by omega) _ _ _ hw (lv_sub hl [0, 1, 2, 3, 4, 6, 7] rfl)
set_option maxHeartbeats 1000000 in
set_option maxRecDepth 100000 in
theorem wL_areSquares_213 {p : Program} {l : Launch} {e : Env} {s : State} {m : MethodId} {args : Array Value} {below : List Frame} {meth : Method} {c : Code} {A : Nat → Prop} {Q : State → Prop} {G : va_G} {k : Nat → ClassId} {ad : Nat → Nat} {b1 : Nat} {b2 : Nat} {b3 : Nat} {sv : Int32} {kE : Int32} {kR : Int32} {fb : Nat → Int64} {ft : Nat → Int64} {fs : Nat → Int64} {rws : Nat → Int64} {nx : Int32} {ct : Int32} {ch : Nat → Int32} {ln : Int32} {o : Int32 × (Nat → Int32) × (Nat → Int32) × (Nat → Int32)} (C0 : zCx p s m args meth c wsL_areSquares cL_areSquares RL (some .boolean) 9) (hl9 : l.stackTraces = false) (hK : zKK G k A s s.heap) (hA : ∀ q : Nat, s.heap.size ≤ q → A q) (hret : zRI p l e rmL_areSquares s m args below meth c cL_areSquares G A 673 4028 Q .boolean (zSq ad b1 b2 b3 k sv kE kR fb ft fs rws nx ct ch ln o.2.1 o.2.2.1 o.2.2.2) o.1)  {d1_21 d2_21 : Nat} (k21 : (Nat → Int32) → (Nat → Int32) → (Nat → Int32) → Int32 → Int32 → Int32 → Option (Int32 × (Nat → Int32) × (Nat → Int32) × (Nat → Int32))) (hk21 : ∀ (c1 : Nat → Int32) (c2 : Nat → Int32) (c3 : Nat → Int32) (x4 : Int32) (x5 : Int32) (x6 : Int32), k21 c1 c2 c3 x4 x5 x6 = some o → ∀ (ca cb : Nat), ca + d1_21 ≤ 673 → cb + d2_21 ≤ 4028 → ∀ (H : Heap) (locs : List Loc) (ls : Array Slot), zWd G A s (zSq ad b1 b2 b3 k sv kE kR fb ft fs rws nx ct ch ln c1 c2 c3) H locs → lv_has ls 9 [(0, .ref (ad 0)), (1, .ref b1), (2, .ref b2), (3, .ref b3), (4, .int x4), (5, .int x5), (6, .int x6)] → W p l e rmL_areSquares s m args below meth c H locs ca cb Q (F0 m 21 ls [])) : ∀ (c1 : Nat → Int32) (c2 : Nat → Int32) (c3 : Nat → Int32) (x4 : Int32) (x5 : Int32) (x6 : Int32) (x7 : Int32) (s0 : Int32) (s1 : Int32) (s2 : Int32), fL_areSquares_213 k21 fb ct ln c1 c2 c3 x4 x5 x6 x7 s0 s1 s2 = some o → ∀ (ca cb : Nat), ca + (2 + d1_21) ≤ 673 → cb + (12 + d2_21) ≤ 4028 → ∀ (H : Heap) (locs : List Loc) (ls : Array Slot), zWd G A s (zSq ad b1 b2 b3 k sv kE kR fb ft fs rws nx ct ch ln c1 c2 c3) H locs → lv_has ls 9 [(0, .ref (ad 0)), (1, .ref b1), (2, .ref b2), (3, .ref b3), (4, .int x4), (5, .int x5), (6, .int x6), (7, .int x7)] → W p l e rmL_areSquares s m args below meth c H locs ca cb Q (F0 m 213 ls [.int s0, .int s1, .int s2, .ref b3]) := by
  obtain ⟨hx, hb, hr, hml, hown, hts, hlocks⟩ := id C0
  intro c1 c2 c3 x4 x5 x6 x7 s0 s1 s2 hF ca cb hca hcb H locs ls hw hl
  unfold fL_areSquares_213 at hF
  refine lv_iadd hx hb dL_areSquares_213 ?_
  obtain ⟨hi1, hF⟩ := zck_in hF
  refine va_iast hx hb hK.1 hw.1 hw.2.1 hw.2.2 13 2 rfl rfl hi1 dL_areSquares_214 (fun H locs hP hD hS => ?_)
  have hw : zWd G A s (zSq ad b1 b2 b3 k sv kE kR fb ft fs rws nx ct ch ln c1 c2 (upd c3 s2.toNatClampNeg (s1 + s0))) H locs := ⟨hP, hD, hS⟩
  exact wL_areSquares_215 C0 hl9 hK hA hret k21 hk21   _ _ _ _ _ _ _ hF _ _ (by omega) (by omega) _ _ _ hw (lv_sub hl [0, 1, 2, 3, 4, 5, 6, 7] rfl)
set_option maxHeartbeats 1000000 in
set_option maxRecDepth 100000 in
theorem wL_areSquares_175 {p : Program} {l : Launch} {e : Env} {s : State} {m : MethodId} {args : Array Value} {below : List Frame} {meth : Method} {c : Code} {A : Nat → Prop} {Q : State → Prop} {G : va_G} {k : Nat → ClassId} {ad : Nat → Nat} {b1 : Nat} {b2 : Nat} {b3 : Nat} {sv : Int32} {kE : Int32} {kR : Int32} {fb : Nat → Int64} {ft : Nat → Int64} {fs : Nat → Int64} {rws : Nat → Int64} {nx : Int32} {ct : Int32} {ch : Nat → Int32} {ln : Int32} {o : Int32 × (Nat → Int32) × (Nat → Int32) × (Nat → Int32)} (C0 : zCx p s m args meth c wsL_areSquares cL_areSquares RL (some .boolean) 9) (hl9 : l.stackTraces = false) (hK : zKK G k A s s.heap) (hA : ∀ q : Nat, s.heap.size ≤ q → A q) (hret : zRI p l e rmL_areSquares s m args below meth c cL_areSquares G A 673 4028 Q .boolean (zSq ad b1 b2 b3 k sv kE kR fb ft fs rws nx ct ch ln o.2.1 o.2.2.1 o.2.2.2) o.1)  {d1_21 d2_21 : Nat} (k21 : (Nat → Int32) → (Nat → Int32) → (Nat → Int32) → Int32 → Int32 → Int32 → Option (Int32 × (Nat → Int32) × (Nat → Int32) × (Nat → Int32))) (hk21 : ∀ (c1 : Nat → Int32) (c2 : Nat → Int32) (c3 : Nat → Int32) (x4 : Int32) (x5 : Int32) (x6 : Int32), k21 c1 c2 c3 x4 x5 x6 = some o → ∀ (ca cb : Nat), ca + d1_21 ≤ 673 → cb + d2_21 ≤ 4028 → ∀ (H : Heap) (locs : List Loc) (ls : Array Slot), zWd G A s (zSq ad b1 b2 b3 k sv kE kR fb ft fs rws nx ct ch ln c1 c2 c3) H locs → lv_has ls 9 [(0, .ref (ad 0)), (1, .ref b1), (2, .ref b2), (3, .ref b3), (4, .int x4), (5, .int x5), (6, .int x6)] → W p l e rmL_areSquares s m args below meth c H locs ca cb Q (F0 m 21 ls [])) : ∀ (c1 : Nat → Int32) (c2 : Nat → Int32) (c3 : Nat → Int32) (x4 : Int32) (x6 : Int32) (x7 : Int32) (x8 : Int32) (s0 : Int32) (s1 : Int32), fL_areSquares_175 k21 fb ct ln c1 c2 c3 x4 x6 x7 x8 s0 s1 = some o → ∀ (ca cb : Nat), ca + (4 + d1_21) ≤ 673 → cb + (24 + d2_21) ≤ 4028 → ∀ (H : Heap) (locs : List Loc) (ls : Array Slot), zWd G A s (zSq ad b1 b2 b3 k sv kE kR fb ft fs rws nx ct ch ln c1 c2 c3) H locs → lv_has ls 9 [(0, .ref (ad 0)), (1, .ref b1), (2, .ref b2), (3, .ref b3), (4, .int x4), (6, .int x6), (7, .int x7), (8, .int x8)] → W p l e rmL_areSquares s m args below meth c H locs ca cb Q (F0 m 175 ls [.int s0, .int s1]) := by
  obtain ⟨hx, hb, hr, hml, hown, hts, hlocks⟩ := id C0
  intro c1 c2 c3 x4 x6 x7 x8 s0 s1 hF ca cb hca hcb H locs ls hw hl
  unfold fL_areSquares_175 at hF
  refine lv_iand hx hb dL_areSquares_175 ?_
  refine lv_topi (fun a1 ea1 => ?_)
  have hF := zbn_t ea1 hF
  refine lv_istore (lv' := [(5, .int a1), (0, .ref (ad 0)), (1, .ref b1), (2, .ref b2), (3, .ref b3), (4, .int x4), (6, .int x6), (7, .int x7), (8, .int x8)]) hx hb dL_areSquares_176 hl (by decide) rfl (fun ls hl => ?_)
  refine lv_iload hx hb dL_areSquares_178 (lv_at hl 7 rfl) ?_
  refine lv_iconst (v := (1 : Int32)) hx hb dL_areSquares_180 (by decide) ?_
  refine lv_icmp_ne (tgt := 215) hx hb dL_areSquares_181 (by decide) (fun hc => ?_) (fun hc => ?_)
  · have hF := zif_f hc hF
    exact wL_areSquares_215 C0 hl9 hK hA hret k21 hk21   _ _ _ _ _ _ _ hF _ _ (by omega) (by omega) _ _ _ hw (lv_sub hl [1, 2, 3, 4, 5, 0, 6, 7] rfl)
  · have hF := zif_t hc hF
    refine lv_aload_n hx hb dL_areSquares_184 rfl (lv_at hl 3 rfl) ?_
    refine lv_iload hx hb dL_areSquares_185 (lv_at hl 8 rfl) ?_
    refine lv_dup2_11 hx hb dL_areSquares_187 rfl rfl ?_
    obtain ⟨hi2, hF⟩ := zck_in hF
    refine va_iald hx hb hK.1 hw.1 12 2 rfl rfl hi2 dL_areSquares_188 ?_
    refine lv_iconst (v := (1 : Int32)) hx hb dL_areSquares_189 (by decide) ?_
    refine lv_iadd hx hb dL_areSquares_190 ?_
    obtain ⟨hi3, hF⟩ := zck_in hF
    refine va_iast hx hb hK.1 hw.1 hw.2.1 hw.2.2 12 2 rfl rfl hi3 dL_areSquares_191 (fun H locs hP hD hS => ?_)
    have hw : zWd G A s (zSq ad b1 b2 b3 k sv kE kR fb ft fs rws nx ct ch ln c1 (upd c2 x8.toNatClampNeg ((c2 x8.toNatClampNeg) + (1 : Int32))) c3) H locs := ⟨hP, hD, hS⟩
    refine lv_aload_n hx hb dL_areSquares_192 rfl (lv_at hl 4 rfl) ?_
    refine lv_iload hx hb dL_areSquares_193 (lv_at hl 8 rfl) ?_
    refine lv_dup2_11 hx hb dL_areSquares_195 rfl rfl ?_
    obtain ⟨hi4, hF⟩ := zck_in hF
    refine va_iald hx hb hK.1 hw.1 13 2 rfl rfl hi4 dL_areSquares_196 ?_
    refine lv_aload_n hx hb dL_areSquares_197 rfl (lv_at hl 1 rfl) ?_
    refine lv_iload hx hb dL_areSquares_198 (lv_at hl 6 rfl) ?_
    refine lv_iconst (v := (2 : Int32)) hx hb dL_areSquares_200 (by decide) ?_
    obtain ⟨u5, hq6, hF⟩ := zbd_t hF
    refine zgoXI4 (o0 := u5.1) (w' := (zSq ad b1 b2 b3 k sv kE kR fb ft fs rws nx ct ch ln c1 (upd c2 x8.toNatClampNeg ((c2 x8.toNatClampNeg) + (1 : Int32))) c3)) (wa := []) (wc := (zC ad k sv kE kR fb ft fs rws nx ct ch ln)) (wc' := (zC ad k sv kE kR fb ft fs rws nx ct ch ln)) (wr := [(b1, .inl (k 2, 4, .inl c1)), (b2, .inl (k 2, 2, .inl (upd c2 x8.toNatClampNeg ((c2 x8.toNatClampNeg) + (1 : Int32))))), (b3, .inl (k 2, 2, .inl c3))]) hw rfl rfl hA (zVx4 (wa := []) (wc := (zC ad k sv kE kR fb ft fs rws nx ct ch ln)) (wr := [(b1, .inl (k 2, 4, .inl c1)), (b2, .inl (k 2, 2, .inl (upd c2 x8.toNatClampNeg ((c2 x8.toNatClampNeg) + (1 : Int32))))), (b3, .inl (k 2, 2, .inl c3))]) (As := [.int x6, .int (2 : Int32)]) (rest := [.int (c3 x8.toNatClampNeg), .int x8, .ref b3]) ⟨hx, hb, hml, hown, hts⟩ (mX4_square l hl9 G k ad H.size sv kE kR fb ft fs rws nx ct ch ln x6 (2 : Int32) u5 hq6) (cwV 2 hts gL_areSquares_X4_square rfl rfl rfl kdX4_square ⟨Nat.le_of_ble_eq_true rfl, Nat.le_of_ble_eq_true rfl⟩) hK hA hw rfl 0 rfl rfl rfl rfl hl.1 rfl (Nat.le_of_ble_eq_true rfl) dL_areSquares_201 ⟨(by show _ ≤ 673; omega), (by show _ ≤ 4028; omega)⟩) rfl (fun h07 H locs q9 E9 ce9 hw g1 g2 g3 g4 => ?_) (fun h07 H locs hw => ?_)
    · exact nomatch (zif_f h07 hF)
    have hF := zif_t h07 hF
    refine lv_iconst (v := (3 : Int32)) hx hb dL_areSquares_204 (by decide) ?_
    refine lv_icmp_ne (tgt := 212) hx hb dL_areSquares_205 (by decide) (fun hc => ?_) (fun hc => ?_)
    · have hF := zif_f hc hF
      refine lv_iconst (v := (0 : Int32)) hx hb dL_areSquares_212 (by decide) ?_
      exact wL_areSquares_213 C0 hl9 hK hA hret k21 hk21   _ _ _ _ _ _ _ _ _ _ hF _ _ (by omega) (by omega) _ _ _ hw (lv_sub hl [1, 2, 3, 4, 5, 0, 6, 7] rfl)
    · have hF := zif_t hc hF
      refine lv_iconst (v := (1 : Int32)) hx hb dL_areSquares_208 (by decide) ?_
      refine lv_goto (tgt := 213) hx hb dL_areSquares_209 (by decide) ?_
      exact wL_areSquares_213 C0 hl9 hK hA hret k21 hk21   _ _ _ _ _ _ _ _ _ _ hF _ _ (by omega) (by omega) _ _ _ hw (lv_sub hl [1, 2, 3, 4, 5, 0, 6, 7] rfl)
set_option maxHeartbeats 1000000 in
set_option maxRecDepth 100000 in
theorem wL_areSquares_174 {p : Program} {l : Launch} {e : Env} {s : State} {m : MethodId} {args : Array Value} {below : List Frame} {meth : Method} {c : Code} {A : Nat → Prop} {Q : State → Prop} {G : va_G} {k : Nat → ClassId} {ad : Nat → Nat} {b1 : Nat} {b2 : Nat} {b3 : Nat} {sv : Int32} {kE : Int32} {kR : Int32} {fb : Nat → Int64} {ft : Nat → Int64} {fs : Nat → Int64} {rws : Nat → Int64} {nx : Int32} {ct : Int32} {ch : Nat → Int32} {ln : Int32} {o : Int32 × (Nat → Int32) × (Nat → Int32) × (Nat → Int32)} (C0 : zCx p s m args meth c wsL_areSquares cL_areSquares RL (some .boolean) 9) (hl9 : l.stackTraces = false) (hK : zKK G k A s s.heap) (hA : ∀ q : Nat, s.heap.size ≤ q → A q) (hret : zRI p l e rmL_areSquares s m args below meth c cL_areSquares G A 673 4028 Q .boolean (zSq ad b1 b2 b3 k sv kE kR fb ft fs rws nx ct ch ln o.2.1 o.2.2.1 o.2.2.2) o.1)  {d1_21 d2_21 : Nat} (k21 : (Nat → Int32) → (Nat → Int32) → (Nat → Int32) → Int32 → Int32 → Int32 → Option (Int32 × (Nat → Int32) × (Nat → Int32) × (Nat → Int32))) (hk21 : ∀ (c1 : Nat → Int32) (c2 : Nat → Int32) (c3 : Nat → Int32) (x4 : Int32) (x5 : Int32) (x6 : Int32), k21 c1 c2 c3 x4 x5 x6 = some o → ∀ (ca cb : Nat), ca + d1_21 ≤ 673 → cb + d2_21 ≤ 4028 → ∀ (H : Heap) (locs : List Loc) (ls : Array Slot), zWd G A s (zSq ad b1 b2 b3 k sv kE kR fb ft fs rws nx ct ch ln c1 c2 c3) H locs → lv_has ls 9 [(0, .ref (ad 0)), (1, .ref b1), (2, .ref b2), (3, .ref b3), (4, .int x4), (5, .int x5), (6, .int x6)] → W p l e rmL_areSquares s m args below meth c H locs ca cb Q (F0 m 21 ls [])) : ∀ (c1 : Nat → Int32) (c2 : Nat → Int32) (c3 : Nat → Int32) (x4 : Int32) (x6 : Int32) (x7 : Int32) (x8 : Int32) (s0 : Int32), fL_areSquares_174 k21 fb ct ln c1 c2 c3 x4 x6 x7 x8 s0 = some o → ∀ (ca cb : Nat), ca + (4 + d1_21) ≤ 673 → cb + (24 + d2_21) ≤ 4028 → ∀ (H : Heap) (locs : List Loc) (ls : Array Slot), zWd G A s (zSq ad b1 b2 b3 k sv kE kR fb ft fs rws nx ct ch ln c1 c2 c3) H locs → lv_has ls 9 [(0, .ref (ad 0)), (1, .ref b1), (2, .ref b2), (3, .ref b3), (4, .int x4), (6, .int x6), (7, .int x7), (8, .int x8)] → W p l e rmL_areSquares s m args below meth c H locs ca cb Q (F0 m 174 ls [.int s0]) := by
  obtain ⟨hx, hb, hr, hml, hown, hts, hlocks⟩ := id C0
  intro c1 c2 c3 x4 x6 x7 x8 s0 hF ca cb hca hcb H locs ls hw hl
  unfold fL_areSquares_174 at hF
  refine lv_iconst (v := (0 : Int32)) hx hb dL_areSquares_174 (by decide) ?_
  exact wL_areSquares_175 C0 hl9 hK hA hret k21 hk21   _ _ _ _ _ _ _ _ _ hF _ _ (by omega) (by omega) _ _ _ hw (lv_sub hl [0, 1, 2, 3, 4, 5, 6, 7] rfl)
set_option maxHeartbeats 1000000 in
set_option maxRecDepth 100000 in
theorem wL_areSquares_170 {p : Program} {l : Launch} {e : Env} {s : State} {m : MethodId} {args : Array Value} {below : List Frame} {meth : Method} {c : Code} {A : Nat → Prop} {Q : State → Prop} {G : va_G} {k : Nat → ClassId} {ad : Nat → Nat} {b1 : Nat} {b2 : Nat} {b3 : Nat} {sv : Int32} {kE : Int32} {kR : Int32} {fb : Nat → Int64} {ft : Nat → Int64} {fs : Nat → Int64} {rws : Nat → Int64} {nx : Int32} {ct : Int32} {ch : Nat → Int32} {ln : Int32} {o : Int32 × (Nat → Int32) × (Nat → Int32) × (Nat → Int32)} (C0 : zCx p s m args meth c wsL_areSquares cL_areSquares RL (some .boolean) 9) (hl9 : l.stackTraces = false) (hK : zKK G k A s s.heap) (hA : ∀ q : Nat, s.heap.size ≤ q → A q) (hret : zRI p l e rmL_areSquares s m args below meth c cL_areSquares G A 673 4028 Q .boolean (zSq ad b1 b2 b3 k sv kE kR fb ft fs rws nx ct ch ln o.2.1 o.2.2.1 o.2.2.2) o.1)  {d1_21 d2_21 : Nat} (k21 : (Nat → Int32) → (Nat → Int32) → (Nat → Int32) → Int32 → Int32 → Int32 → Option (Int32 × (Nat → Int32) × (Nat → Int32) × (Nat → Int32))) (hk21 : ∀ (c1 : Nat → Int32) (c2 : Nat → Int32) (c3 : Nat → Int32) (x4 : Int32) (x5 : Int32) (x6 : Int32), k21 c1 c2 c3 x4 x5 x6 = some o → ∀ (ca cb : Nat), ca + d1_21 ≤ 673 → cb + d2_21 ≤ 4028 → ∀ (H : Heap) (locs : List Loc) (ls : Array Slot), zWd G A s (zSq ad b1 b2 b3 k sv kE kR fb ft fs rws nx ct ch ln c1 c2 c3) H locs → lv_has ls 9 [(0, .ref (ad 0)), (1, .ref b1), (2, .ref b2), (3, .ref b3), (4, .int x4), (5, .int x5), (6, .int x6)] → W p l e rmL_areSquares s m args below meth c H locs ca cb Q (F0 m 21 ls [])) : ∀ (c1 : Nat → Int32) (c2 : Nat → Int32) (c3 : Nat → Int32) (x4 : Int32) (x6 : Int32) (x7 : Int32) (x8 : Int32) (s0 : Int32), fL_areSquares_170 k21 fb ct ln c1 c2 c3 x4 x6 x7 x8 s0 = some o → ∀ (ca cb : Nat), ca + (4 + d1_21) ≤ 673 → cb + (24 + d2_21) ≤ 4028 → ∀ (H : Heap) (locs : List Loc) (ls : Array Slot), zWd G A s (zSq ad b1 b2 b3 k sv kE kR fb ft fs rws nx ct ch ln c1 c2 c3) H locs → lv_has ls 9 [(0, .ref (ad 0)), (1, .ref b1), (2, .ref b2), (3, .ref b3), (4, .int x4), (6, .int x6), (7, .int x7), (8, .int x8)] → W p l e rmL_areSquares s m args below meth c H locs ca cb Q (F0 m 170 ls [.int s0]) := by
  obtain ⟨hx, hb, hr, hml, hown, hts, hlocks⟩ := id C0
  intro c1 c2 c3 x4 x6 x7 x8 s0 hF ca cb hca hcb H locs ls hw hl
  unfold fL_areSquares_170 at hF
  refine lv_iconst (v := (1 : Int32)) hx hb dL_areSquares_170 (by decide) ?_
  refine lv_goto (tgt := 175) hx hb dL_areSquares_171 (by decide) ?_
  exact wL_areSquares_175 C0 hl9 hK hA hret k21 hk21   _ _ _ _ _ _ _ _ _ hF _ _ (by omega) (by omega) _ _ _ hw (lv_sub hl [0, 1, 2, 3, 4, 5, 6, 7] rfl)
set_option maxHeartbeats 1000000 in
set_option maxRecDepth 100000 in
theorem wL_areSquares_167 {p : Program} {l : Launch} {e : Env} {s : State} {m : MethodId} {args : Array Value} {below : List Frame} {meth : Method} {c : Code} {A : Nat → Prop} {Q : State → Prop} {G : va_G} {k : Nat → ClassId} {ad : Nat → Nat} {b1 : Nat} {b2 : Nat} {b3 : Nat} {sv : Int32} {kE : Int32} {kR : Int32} {fb : Nat → Int64} {ft : Nat → Int64} {fs : Nat → Int64} {rws : Nat → Int64} {nx : Int32} {ct : Int32} {ch : Nat → Int32} {ln : Int32} {o : Int32 × (Nat → Int32) × (Nat → Int32) × (Nat → Int32)} (C0 : zCx p s m args meth c wsL_areSquares cL_areSquares RL (some .boolean) 9) (hl9 : l.stackTraces = false) (hK : zKK G k A s s.heap) (hA : ∀ q : Nat, s.heap.size ≤ q → A q) (hret : zRI p l e rmL_areSquares s m args below meth c cL_areSquares G A 673 4028 Q .boolean (zSq ad b1 b2 b3 k sv kE kR fb ft fs rws nx ct ch ln o.2.1 o.2.2.1 o.2.2.2) o.1)  {d1_21 d2_21 : Nat} (k21 : (Nat → Int32) → (Nat → Int32) → (Nat → Int32) → Int32 → Int32 → Int32 → Option (Int32 × (Nat → Int32) × (Nat → Int32) × (Nat → Int32))) (hk21 : ∀ (c1 : Nat → Int32) (c2 : Nat → Int32) (c3 : Nat → Int32) (x4 : Int32) (x5 : Int32) (x6 : Int32), k21 c1 c2 c3 x4 x5 x6 = some o → ∀ (ca cb : Nat), ca + d1_21 ≤ 673 → cb + d2_21 ≤ 4028 → ∀ (H : Heap) (locs : List Loc) (ls : Array Slot), zWd G A s (zSq ad b1 b2 b3 k sv kE kR fb ft fs rws nx ct ch ln c1 c2 c3) H locs → lv_has ls 9 [(0, .ref (ad 0)), (1, .ref b1), (2, .ref b2), (3, .ref b3), (4, .int x4), (5, .int x5), (6, .int x6)] → W p l e rmL_areSquares s m args below meth c H locs ca cb Q (F0 m 21 ls [])) : ∀ (c1 : Nat → Int32) (c2 : Nat → Int32) (c3 : Nat → Int32) (x4 : Int32) (x6 : Int32) (x7 : Int32) (x8 : Int32) (s0 : Int32) (s1 : Int32) (s2 : Int32), fL_areSquares_167 k21 fb ct ln c1 c2 c3 x4 x6 x7 x8 s0 s1 s2 = some o → ∀ (ca cb : Nat), ca + (4 + d1_21) ≤ 673 → cb + (24 + d2_21) ≤ 4028 → ∀ (H : Heap) (locs : List Loc) (ls : Array Slot), zWd G A s (zSq ad b1 b2 b3 k sv kE kR fb ft fs rws nx ct ch ln c1 c2 c3) H locs → lv_has ls 9 [(0, .ref (ad 0)), (1, .ref b1), (2, .ref b2), (3, .ref b3), (4, .int x4), (6, .int x6), (7, .int x7), (8, .int x8)] → W p l e rmL_areSquares s m args below meth c H locs ca cb Q (F0 m 167 ls [.int s0, .int s1, .int s2]) := by
  obtain ⟨hx, hb, hr, hml, hown, hts, hlocks⟩ := id C0
  intro c1 c2 c3 x4 x6 x7 x8 s0 s1 s2 hF ca cb hca hcb H locs ls hw hl
  unfold fL_areSquares_167 at hF
  refine lv_icmp_ne (tgt := 174) hx hb dL_areSquares_167 (by decide) (fun hc => ?_) (fun hc => ?_)
  · have hF := zif_f hc hF
    exact wL_areSquares_174 C0 hl9 hK hA hret k21 hk21   _ _ _ _ _ _ _ _ hF _ _ (by omega) (by omega) _ _ _ hw (lv_sub hl [0, 1, 2, 3, 4, 5, 6, 7] rfl)
  · have hF := zif_t hc hF
    exact wL_areSquares_170 C0 hl9 hK hA hret k21 hk21   _ _ _ _ _ _ _ _ hF _ _ (by omega) (by omega) _ _ _ hw (lv_sub hl [0, 1, 2, 3, 4, 5, 6, 7] rfl)
set_option maxHeartbeats 1000000 in
set_option maxRecDepth 100000 in
theorem wL_areSquares_151 {p : Program} {l : Launch} {e : Env} {s : State} {m : MethodId} {args : Array Value} {below : List Frame} {meth : Method} {c : Code} {A : Nat → Prop} {Q : State → Prop} {G : va_G} {k : Nat → ClassId} {ad : Nat → Nat} {b1 : Nat} {b2 : Nat} {b3 : Nat} {sv : Int32} {kE : Int32} {kR : Int32} {fb : Nat → Int64} {ft : Nat → Int64} {fs : Nat → Int64} {rws : Nat → Int64} {nx : Int32} {ct : Int32} {ch : Nat → Int32} {ln : Int32} {o : Int32 × (Nat → Int32) × (Nat → Int32) × (Nat → Int32)} (C0 : zCx p s m args meth c wsL_areSquares cL_areSquares RL (some .boolean) 9) (hl9 : l.stackTraces = false) (hK : zKK G k A s s.heap) (hA : ∀ q : Nat, s.heap.size ≤ q → A q) (hret : zRI p l e rmL_areSquares s m args below meth c cL_areSquares G A 673 4028 Q .boolean (zSq ad b1 b2 b3 k sv kE kR fb ft fs rws nx ct ch ln o.2.1 o.2.2.1 o.2.2.2) o.1)  {d1_21 d2_21 : Nat} (k21 : (Nat → Int32) → (Nat → Int32) → (Nat → Int32) → Int32 → Int32 → Int32 → Option (Int32 × (Nat → Int32) × (Nat → Int32) × (Nat → Int32))) (hk21 : ∀ (c1 : Nat → Int32) (c2 : Nat → Int32) (c3 : Nat → Int32) (x4 : Int32) (x5 : Int32) (x6 : Int32), k21 c1 c2 c3 x4 x5 x6 = some o → ∀ (ca cb : Nat), ca + d1_21 ≤ 673 → cb + d2_21 ≤ 4028 → ∀ (H : Heap) (locs : List Loc) (ls : Array Slot), zWd G A s (zSq ad b1 b2 b3 k sv kE kR fb ft fs rws nx ct ch ln c1 c2 c3) H locs → lv_has ls 9 [(0, .ref (ad 0)), (1, .ref b1), (2, .ref b2), (3, .ref b3), (4, .int x4), (5, .int x5), (6, .int x6)] → W p l e rmL_areSquares s m args below meth c H locs ca cb Q (F0 m 21 ls [])) : ∀ (c1 : Nat → Int32) (c2 : Nat → Int32) (c3 : Nat → Int32) (x4 : Int32) (x6 : Int32) (x7 : Int32) (x8 : Int32) (s0 : Int32) (s1 : Int32), fL_areSquares_151 k21 fb ct ln c1 c2 c3 x4 x6 x7 x8 s0 s1 = some o → ∀ (ca cb : Nat), ca + (6 + d1_21) ≤ 673 → cb + (36 + d2_21) ≤ 4028 → ∀ (H : Heap) (locs : List Loc) (ls : Array Slot), zWd G A s (zSq ad b1 b2 b3 k sv kE kR fb ft fs rws nx ct ch ln c1 c2 c3) H locs → lv_has ls 9 [(0, .ref (ad 0)), (1, .ref b1), (2, .ref b2), (3, .ref b3), (4, .int x4), (6, .int x6), (7, .int x7), (8, .int x8)] → W p l e rmL_areSquares s m args below meth c H locs ca cb Q (F0 m 151 ls [.int s0, .int s1]) := by
  obtain ⟨hx, hb, hr, hml, hown, hts, hlocks⟩ := id C0
  intro c1 c2 c3 x4 x6 x7 x8 s0 s1 hF ca cb hca hcb H locs ls hw hl
  unfold fL_areSquares_151 at hF
  refine lv_aload_n hx hb dL_areSquares_151 rfl (lv_at hl 0 rfl) ?_
  refine lv_iload hx hb dL_areSquares_152 (lv_at hl 5 rfl) ?_
  refine lv_iconst (v := (2 : Int32)) hx hb dL_areSquares_154 (by decide) ?_
  obtain ⟨u1, hq2, hF⟩ := zbd_t hF
  refine zgoXI4 (o0 := u1.1) (w' := (zSq ad b1 b2 b3 k sv kE kR fb ft fs rws nx ct ch ln c1 c2 c3)) (wa := []) (wc := (zC ad k sv kE kR fb ft fs rws nx ct ch ln)) (wc' := (zC ad k sv kE kR fb ft fs rws nx ct ch ln)) (wr := [(b1, .inl (k 2, 4, .inl c1)), (b2, .inl (k 2, 2, .inl c2)), (b3, .inl (k 2, 2, .inl c3))]) hw rfl rfl hA (zVx4 (wa := []) (wc := (zC ad k sv kE kR fb ft fs rws nx ct ch ln)) (wr := [(b1, .inl (k 2, 4, .inl c1)), (b2, .inl (k 2, 2, .inl c2)), (b3, .inl (k 2, 2, .inl c3))]) (As := [.int x6, .int (2 : Int32)]) (rest := [.int s0, .int s1]) ⟨hx, hb, hml, hown, hts⟩ (mX4_square l hl9 G k ad H.size sv kE kR fb ft fs rws nx ct ch ln x6 (2 : Int32) u1 hq2) (cwV 2 hts gL_areSquares_X4_square rfl rfl rfl kdX4_square ⟨Nat.le_of_ble_eq_true rfl, Nat.le_of_ble_eq_true rfl⟩) hK hA hw rfl 0 rfl rfl rfl rfl hl.1 rfl (Nat.le_of_ble_eq_true rfl) dL_areSquares_155 ⟨(by show _ ≤ 673; omega), (by show _ ≤ 4028; omega)⟩) rfl (fun h03 H locs q9 E9 ce9 hw g1 g2 g3 g4 => ?_) (fun h03 H locs hw => ?_)
  · exact nomatch (zif_f h03 hF)
  have hF := zif_t h03 hF
  refine lv_iconst (v := (-1 : Int32)) hx hb dL_areSquares_158 (by decide) ?_
  refine lv_icmp_ne (tgt := 166) hx hb dL_areSquares_159 (by decide) (fun hc => ?_) (fun hc => ?_)
  · have hF := zif_f hc hF
    refine lv_iconst (v := (0 : Int32)) hx hb dL_areSquares_166 (by decide) ?_
    exact wL_areSquares_167 C0 hl9 hK hA hret k21 hk21   _ _ _ _ _ _ _ _ _ _ hF _ _ (by omega) (by omega) _ _ _ hw (lv_sub hl [0, 1, 2, 3, 4, 5, 6, 7] rfl)
  · have hF := zif_t hc hF
    refine lv_iconst (v := (1 : Int32)) hx hb dL_areSquares_162 (by decide) ?_
    refine lv_goto (tgt := 167) hx hb dL_areSquares_163 (by decide) ?_
    exact wL_areSquares_167 C0 hl9 hK hA hret k21 hk21   _ _ _ _ _ _ _ _ _ _ hF _ _ (by omega) (by omega) _ _ _ hw (lv_sub hl [0, 1, 2, 3, 4, 5, 6, 7] rfl)
set_option maxHeartbeats 1000000 in
set_option maxRecDepth 100000 in
theorem wL_areSquares_109 {p : Program} {l : Launch} {e : Env} {s : State} {m : MethodId} {args : Array Value} {below : List Frame} {meth : Method} {c : Code} {A : Nat → Prop} {Q : State → Prop} {G : va_G} {k : Nat → ClassId} {ad : Nat → Nat} {b1 : Nat} {b2 : Nat} {b3 : Nat} {sv : Int32} {kE : Int32} {kR : Int32} {fb : Nat → Int64} {ft : Nat → Int64} {fs : Nat → Int64} {rws : Nat → Int64} {nx : Int32} {ct : Int32} {ch : Nat → Int32} {ln : Int32} {o : Int32 × (Nat → Int32) × (Nat → Int32) × (Nat → Int32)} (C0 : zCx p s m args meth c wsL_areSquares cL_areSquares RL (some .boolean) 9) (hl9 : l.stackTraces = false) (hK : zKK G k A s s.heap) (hA : ∀ q : Nat, s.heap.size ≤ q → A q) (hret : zRI p l e rmL_areSquares s m args below meth c cL_areSquares G A 673 4028 Q .boolean (zSq ad b1 b2 b3 k sv kE kR fb ft fs rws nx ct ch ln o.2.1 o.2.2.1 o.2.2.2) o.1)  {d1_21 d2_21 : Nat} (k21 : (Nat → Int32) → (Nat → Int32) → (Nat → Int32) → Int32 → Int32 → Int32 → Option (Int32 × (Nat → Int32) × (Nat → Int32) × (Nat → Int32))) (hk21 : ∀ (c1 : Nat → Int32) (c2 : Nat → Int32) (c3 : Nat → Int32) (x4 : Int32) (x5 : Int32) (x6 : Int32), k21 c1 c2 c3 x4 x5 x6 = some o → ∀ (ca cb : Nat), ca + d1_21 ≤ 673 → cb + d2_21 ≤ 4028 → ∀ (H : Heap) (locs : List Loc) (ls : Array Slot), zWd G A s (zSq ad b1 b2 b3 k sv kE kR fb ft fs rws nx ct ch ln c1 c2 c3) H locs → lv_has ls 9 [(0, .ref (ad 0)), (1, .ref b1), (2, .ref b2), (3, .ref b3), (4, .int x4), (5, .int x5), (6, .int x6)] → W p l e rmL_areSquares s m args below meth c H locs ca cb Q (F0 m 21 ls [])) : ∀ (c1 : Nat → Int32) (c2 : Nat → Int32) (c3 : Nat → Int32) (x4 : Int32) (x6 : Int32) (x7 : Int32) (x8 : Int32) (s0 : Int32), fL_areSquares_109 k21 fb ct ln c1 c2 c3 x4 x6 x7 x8 s0 = some o → ∀ (ca cb : Nat), ca + (9 + d1_21) ≤ 673 → cb + (54 + d2_21) ≤ 4028 → ∀ (H : Heap) (locs : List Loc) (ls : Array Slot), zWd G A s (zSq ad b1 b2 b3 k sv kE kR fb ft fs rws nx ct ch ln c1 c2 c3) H locs → lv_has ls 9 [(0, .ref (ad 0)), (1, .ref b1), (2, .ref b2), (3, .ref b3), (4, .int x4), (6, .int x6), (7, .int x7), (8, .int x8)] → W p l e rmL_areSquares s m args below meth c H locs ca cb Q (F0 m 109 ls [.int s0]) := by
  obtain ⟨hx, hb, hr, hml, hown, hts, hlocks⟩ := id C0
  intro c1 c2 c3 x4 x6 x7 x8 s0 hF ca cb hca hcb H locs ls hw hl
  unfold fL_areSquares_109 at hF
  refine lv_istore (lv' := [(5, .int s0), (0, .ref (ad 0)), (1, .ref b1), (2, .ref b2), (3, .ref b3), (4, .int x4), (6, .int x6), (7, .int x7), (8, .int x8)]) hx hb dL_areSquares_109 hl (by decide) rfl (fun ls hl => ?_)
  refine lv_iload hx hb dL_areSquares_111 (lv_at hl 0 rfl) ?_
  refine lv_iload hx hb dL_areSquares_113 (lv_at hl 7 rfl) ?_
  refine lv_iconst (v := (2 : Int32)) hx hb dL_areSquares_115 (by decide) ?_
  refine lv_icmp_ne (tgt := 170) hx hb dL_areSquares_116 (by decide) (fun hc => ?_) (fun hc => ?_)
  · have hF := zif_f hc hF
    exact wL_areSquares_170 C0 hl9 hK hA hret k21 hk21   _ _ _ _ _ _ _ _ hF _ _ (by omega) (by omega) _ _ _ hw (lv_sub hl [1, 2, 3, 4, 5, 6, 7, 8] rfl)
  · have hF := zif_t hc hF
    refine lv_aload_n hx hb dL_areSquares_119 rfl (lv_at hl 1 rfl) ?_
    refine lv_iload hx hb dL_areSquares_120 (lv_at hl 6 rfl) ?_
    refine lv_iconst (v := (3 : Int32)) hx hb dL_areSquares_122 (by decide) ?_
    obtain ⟨u1, hq2, hF⟩ := zbd_t hF
    refine zgoXI4 (o0 := u1.1) (w' := (zSq ad b1 b2 b3 k sv kE kR fb ft fs rws nx ct ch ln c1 c2 c3)) (wa := []) (wc := (zC ad k sv kE kR fb ft fs rws nx ct ch ln)) (wc' := (zC ad k sv kE kR fb ft fs rws nx ct ch ln)) (wr := [(b1, .inl (k 2, 4, .inl c1)), (b2, .inl (k 2, 2, .inl c2)), (b3, .inl (k 2, 2, .inl c3))]) hw rfl rfl hA (zVx4 (wa := []) (wc := (zC ad k sv kE kR fb ft fs rws nx ct ch ln)) (wr := [(b1, .inl (k 2, 4, .inl c1)), (b2, .inl (k 2, 2, .inl c2)), (b3, .inl (k 2, 2, .inl c3))]) (As := [.int x6, .int (3 : Int32)]) (rest := [.int s0]) ⟨hx, hb, hml, hown, hts⟩ (mX4_square l hl9 G k ad H.size sv kE kR fb ft fs rws nx ct ch ln x6 (3 : Int32) u1 hq2) (cwV 2 hts gL_areSquares_X4_square rfl rfl rfl kdX4_square ⟨Nat.le_of_ble_eq_true rfl, Nat.le_of_ble_eq_true rfl⟩) hK hA hw rfl 0 rfl rfl rfl rfl hl.1 rfl (Nat.le_of_ble_eq_true rfl) dL_areSquares_123 ⟨(by show _ ≤ 673; omega), (by show _ ≤ 4028; omega)⟩) rfl (fun h03 H locs q9 E9 ce9 hw g1 g2 g3 g4 => ?_) (fun h03 H locs hw => ?_)
    · exact nomatch (zif_f h03 hF)
    have hF := zif_t h03 hF
    refine lv_if_ne (tgt := 174) hx hb dL_areSquares_126 (by decide) (fun hc => ?_) (fun hc => ?_)
    · have hF := zif_f hc hF
      exact wL_areSquares_174 C0 hl9 hK hA hret k21 hk21   _ _ _ _ _ _ _ _ hF _ _ (by omega) (by omega) _ _ _ hw (lv_sub hl [1, 2, 3, 4, 5, 6, 7, 8] rfl)
    · have hF := zif_t hc hF
      refine lv_aload_n hx hb dL_areSquares_129 rfl (lv_at hl 1 rfl) ?_
      refine lv_iload hx hb dL_areSquares_130 (lv_at hl 6 rfl) ?_
      obtain ⟨u4, hq5, hF⟩ := zbd_t hF
      refine zgoXI4 (o0 := u4.1) (w' := (zSq ad b1 b2 b3 k sv kE kR fb ft fs rws nx ct ch ln c1 c2 c3)) (wa := []) (wc := (zC ad k sv kE kR fb ft fs rws nx ct ch ln)) (wc' := (zC ad k sv kE kR fb ft fs rws nx ct ch ln)) (wr := [(b1, .inl (k 2, 4, .inl c1)), (b2, .inl (k 2, 2, .inl c2)), (b3, .inl (k 2, 2, .inl c3))]) hw rfl rfl hA (zVx4 (wa := []) (wc := (zC ad k sv kE kR fb ft fs rws nx ct ch ln)) (wr := [(b1, .inl (k 2, 4, .inl c1)), (b2, .inl (k 2, 2, .inl c2)), (b3, .inl (k 2, 2, .inl c3))]) (As := [.int x6]) (rest := [.int s0]) ⟨hx, hb, hml, hown, hts⟩ (mX4_picture l hl9 G k ad H.size sv kE kR fb ft fs rws nx ct ch ln x6 u4 hq5) (cwV 1 hts gL_areSquares_X4_picture rfl rfl rfl kdX4_picture ⟨Nat.le_of_ble_eq_true rfl, Nat.le_of_ble_eq_true rfl⟩) hK hA hw rfl 0 rfl rfl rfl rfl hl.1 rfl (Nat.le_of_ble_eq_true rfl) dL_areSquares_132 ⟨(by show _ ≤ 673; omega), (by show _ ≤ 4028; omega)⟩) rfl (fun h06 H locs q9 E9 ce9 hw g1 g2 g3 g4 => ?_) (fun h06 H locs hw => ?_)
      · exact nomatch (zif_f h06 hF)
      have hF := zif_t h06 hF
      refine lv_bipush (v := (35 : Int32)) hx hb dL_areSquares_135 (by decide) ?_
      refine lv_icmp_ne (tgt := 174) hx hb dL_areSquares_137 (by decide) (fun hc => ?_) (fun hc => ?_)
      · have hF := zif_f hc hF
        exact wL_areSquares_174 C0 hl9 hK hA hret k21 hk21   _ _ _ _ _ _ _ _ hF _ _ (by omega) (by omega) _ _ _ hw (lv_sub hl [1, 2, 3, 4, 5, 6, 7, 8] rfl)
      · have hF := zif_t hc hF
        refine lv_iload hx hb dL_areSquares_140 (lv_at hl 8 rfl) ?_
        refine lv_iconst (v := (-1 : Int32)) hx hb dL_areSquares_142 (by decide) ?_
        refine lv_icmp_ne (tgt := 150) hx hb dL_areSquares_143 (by decide) (fun hc => ?_) (fun hc => ?_)
        · have hF := zif_f hc hF
          refine lv_iconst (v := (0 : Int32)) hx hb dL_areSquares_150 (by decide) ?_
          exact wL_areSquares_151 C0 hl9 hK hA hret k21 hk21   _ _ _ _ _ _ _ _ _ hF _ _ (by omega) (by omega) _ _ _ hw (lv_sub hl [1, 2, 3, 4, 5, 6, 7, 8] rfl)
        · have hF := zif_t hc hF
          refine lv_iconst (v := (1 : Int32)) hx hb dL_areSquares_146 (by decide) ?_
          refine lv_goto (tgt := 151) hx hb dL_areSquares_147 (by decide) ?_
          exact wL_areSquares_151 C0 hl9 hK hA hret k21 hk21   _ _ _ _ _ _ _ _ _ hF _ _ (by omega) (by omega) _ _ _ hw (lv_sub hl [1, 2, 3, 4, 5, 6, 7, 8] rfl)
set_option maxHeartbeats 1000000 in
set_option maxRecDepth 100000 in
theorem wL_areSquares_108 {p : Program} {l : Launch} {e : Env} {s : State} {m : MethodId} {args : Array Value} {below : List Frame} {meth : Method} {c : Code} {A : Nat → Prop} {Q : State → Prop} {G : va_G} {k : Nat → ClassId} {ad : Nat → Nat} {b1 : Nat} {b2 : Nat} {b3 : Nat} {sv : Int32} {kE : Int32} {kR : Int32} {fb : Nat → Int64} {ft : Nat → Int64} {fs : Nat → Int64} {rws : Nat → Int64} {nx : Int32} {ct : Int32} {ch : Nat → Int32} {ln : Int32} {o : Int32 × (Nat → Int32) × (Nat → Int32) × (Nat → Int32)} (C0 : zCx p s m args meth c wsL_areSquares cL_areSquares RL (some .boolean) 9) (hl9 : l.stackTraces = false) (hK : zKK G k A s s.heap) (hA : ∀ q : Nat, s.heap.size ≤ q → A q) (hret : zRI p l e rmL_areSquares s m args below meth c cL_areSquares G A 673 4028 Q .boolean (zSq ad b1 b2 b3 k sv kE kR fb ft fs rws nx ct ch ln o.2.1 o.2.2.1 o.2.2.2) o.1)  {d1_21 d2_21 : Nat} (k21 : (Nat → Int32) → (Nat → Int32) → (Nat → Int32) → Int32 → Int32 → Int32 → Option (Int32 × (Nat → Int32) × (Nat → Int32) × (Nat → Int32))) (hk21 : ∀ (c1 : Nat → Int32) (c2 : Nat → Int32) (c3 : Nat → Int32) (x4 : Int32) (x5 : Int32) (x6 : Int32), k21 c1 c2 c3 x4 x5 x6 = some o → ∀ (ca cb : Nat), ca + d1_21 ≤ 673 → cb + d2_21 ≤ 4028 → ∀ (H : Heap) (locs : List Loc) (ls : Array Slot), zWd G A s (zSq ad b1 b2 b3 k sv kE kR fb ft fs rws nx ct ch ln c1 c2 c3) H locs → lv_has ls 9 [(0, .ref (ad 0)), (1, .ref b1), (2, .ref b2), (3, .ref b3), (4, .int x4), (5, .int x5), (6, .int x6)] → W p l e rmL_areSquares s m args below meth c H locs ca cb Q (F0 m 21 ls [])) : ∀ (c1 : Nat → Int32) (c2 : Nat → Int32) (c3 : Nat → Int32) (x4 : Int32) (x6 : Int32) (x7 : Int32) (x8 : Int32), fL_areSquares_108 k21 fb ct ln c1 c2 c3 x4 x6 x7 x8 = some o → ∀ (ca cb : Nat), ca + (9 + d1_21) ≤ 673 → cb + (54 + d2_21) ≤ 4028 → ∀ (H : Heap) (locs : List Loc) (ls : Array Slot), zWd G A s (zSq ad b1 b2 b3 k sv kE kR fb ft fs rws nx ct ch ln c1 c2 c3) H locs → lv_has ls 9 [(0, .ref (ad 0)), (1, .ref b1), (2, .ref b2), (3, .ref b3), (4, .int x4), (6, .int x6), (7, .int x7), (8, .int x8)] → W p l e rmL_areSquares s m args below meth c H locs ca cb Q (F0 m 108 ls []) := by
  obtain ⟨hx, hb, hr, hml, hown, hts, hlocks⟩ := id C0
  intro c1 c2 c3 x4 x6 x7 x8 hF ca cb hca hcb H locs ls hw hl
  unfold fL_areSquares_108 at hF
  refine lv_iconst (v := (0 : Int32)) hx hb dL_areSquares_108 (by decide) ?_
  exact wL_areSquares_109 C0 hl9 hK hA hret k21 hk21   _ _ _ _ _ _ _ _ hF _ _ (by omega) (by omega) _ _ _ hw (lv_sub hl [0, 1, 2, 3, 4, 5, 6, 7] rfl)
set_option maxHeartbeats 1000000 in
set_option maxRecDepth 100000 in
theorem wL_areSquares_104 {p : Program} {l : Launch} {e : Env} {s : State} {m : MethodId} {args : Array Value} {below : List Frame} {meth : Method} {c : Code} {A : Nat → Prop} {Q : State → Prop} {G : va_G} {k : Nat → ClassId} {ad : Nat → Nat} {b1 : Nat} {b2 : Nat} {b3 : Nat} {sv : Int32} {kE : Int32} {kR : Int32} {fb : Nat → Int64} {ft : Nat → Int64} {fs : Nat → Int64} {rws : Nat → Int64} {nx : Int32} {ct : Int32} {ch : Nat → Int32} {ln : Int32} {o : Int32 × (Nat → Int32) × (Nat → Int32) × (Nat → Int32)} (C0 : zCx p s m args meth c wsL_areSquares cL_areSquares RL (some .boolean) 9) (hl9 : l.stackTraces = false) (hK : zKK G k A s s.heap) (hA : ∀ q : Nat, s.heap.size ≤ q → A q) (hret : zRI p l e rmL_areSquares s m args below meth c cL_areSquares G A 673 4028 Q .boolean (zSq ad b1 b2 b3 k sv kE kR fb ft fs rws nx ct ch ln o.2.1 o.2.2.1 o.2.2.2) o.1)  {d1_21 d2_21 : Nat} (k21 : (Nat → Int32) → (Nat → Int32) → (Nat → Int32) → Int32 → Int32 → Int32 → Option (Int32 × (Nat → Int32) × (Nat → Int32) × (Nat → Int32))) (hk21 : ∀ (c1 : Nat → Int32) (c2 : Nat → Int32) (c3 : Nat → Int32) (x4 : Int32) (x5 : Int32) (x6 : Int32), k21 c1 c2 c3 x4 x5 x6 = some o → ∀ (ca cb : Nat), ca + d1_21 ≤ 673 → cb + d2_21 ≤ 4028 → ∀ (H : Heap) (locs : List Loc) (ls : Array Slot), zWd G A s (zSq ad b1 b2 b3 k sv kE kR fb ft fs rws nx ct ch ln c1 c2 c3) H locs → lv_has ls 9 [(0, .ref (ad 0)), (1, .ref b1), (2, .ref b2), (3, .ref b3), (4, .int x4), (5, .int x5), (6, .int x6)] → W p l e rmL_areSquares s m args below meth c H locs ca cb Q (F0 m 21 ls [])) : ∀ (c1 : Nat → Int32) (c2 : Nat → Int32) (c3 : Nat → Int32) (x4 : Int32) (x6 : Int32) (x7 : Int32) (x8 : Int32), fL_areSquares_104 k21 fb ct ln c1 c2 c3 x4 x6 x7 x8 = some o → ∀ (ca cb : Nat), ca + (9 + d1_21) ≤ 673 → cb + (54 + d2_21) ≤ 4028 → ∀ (H : Heap) (locs : List Loc) (ls : Array Slot), zWd G A s (zSq ad b1 b2 b3 k sv kE kR fb ft fs rws nx ct ch ln c1 c2 c3) H locs → lv_has ls 9 [(0, .ref (ad 0)), (1, .ref b1), (2, .ref b2), (3, .ref b3), (4, .int x4), (6, .int x6), (7, .int x7), (8, .int x8)] → W p l e rmL_areSquares s m args below meth c H locs ca cb Q (F0 m 104 ls []) := by
  obtain ⟨hx, hb, hr, hml, hown, hts, hlocks⟩ := id C0
  intro c1 c2 c3 x4 x6 x7 x8 hF ca cb hca hcb H locs ls hw hl
  unfold fL_areSquares_104 at hF
  refine lv_iconst (v := (1 : Int32)) hx hb dL_areSquares_104 (by decide) ?_
  refine lv_goto (tgt := 109) hx hb dL_areSquares_105 (by decide) ?_
  exact wL_areSquares_109 C0 hl9 hK hA hret k21 hk21   _ _ _ _ _ _ _ _ hF _ _ (by omega) (by omega) _ _ _ hw (lv_sub hl [0, 1, 2, 3, 4, 5, 6, 7] rfl)
set_option maxHeartbeats 1000000 in
set_option maxRecDepth 100000 in
theorem wL_areSquares_21 {p : Program} {l : Launch} {e : Env} {s : State} {m : MethodId} {args : Array Value} {below : List Frame} {meth : Method} {c : Code} {A : Nat → Prop} {Q : State → Prop} {G : va_G} {k : Nat → ClassId} {ad : Nat → Nat} {b1 : Nat} {b2 : Nat} {b3 : Nat} {sv : Int32} {kE : Int32} {kR : Int32} {fb : Nat → Int64} {ft : Nat → Int64} {fs : Nat → Int64} {rws : Nat → Int64} {nx : Int32} {ct : Int32} {ch : Nat → Int32} {ln : Int32} {o : Int32 × (Nat → Int32) × (Nat → Int32) × (Nat → Int32)} (C0 : zCx p s m args meth c wsL_areSquares cL_areSquares RL (some .boolean) 9) (hl9 : l.stackTraces = false) (hK : zKK G k A s s.heap) (hA : ∀ q : Nat, s.heap.size ≤ q → A q) (hret : zRI p l e rmL_areSquares s m args below meth c cL_areSquares G A 673 4028 Q .boolean (zSq ad b1 b2 b3 k sv kE kR fb ft fs rws nx ct ch ln o.2.1 o.2.2.1 o.2.2.2) o.1)   : ∀ (n : Nat) (c1 : Nat → Int32) (c2 : Nat → Int32) (c3 : Nat → Int32) (x4 : Int32) (x5 : Int32) (x6 : Int32), fL_areSquares_21  fb ct ln n c1 c2 c3 x4 x5 x6 = some o → ∀ (ca cb : Nat), ca + (n * 18 + 4) ≤ 673 → cb + (n * 108 + 24) ≤ 4028 → ∀ (H : Heap) (locs : List Loc) (ls : Array Slot), zWd G A s (zSq ad b1 b2 b3 k sv kE kR fb ft fs rws nx ct ch ln c1 c2 c3) H locs → lv_has ls 9 [(0, .ref (ad 0)), (1, .ref b1), (2, .ref b2), (3, .ref b3), (4, .int x4), (5, .int x5), (6, .int x6)] → W p l e rmL_areSquares s m args below meth c H locs ca cb Q (F0 m 21 ls []) := by
  obtain ⟨hx, hb, hr, hml, hown, hts, hlocks⟩ := id C0
  intro n
  induction n with
  | zero => intro c1 c2 c3 x4 x5 x6 hF; exact nomatch hF
  | succ n ih =>
    intro c1 c2 c3 x4 x5 x6 hF ca cb hca hcb H locs ls hw hl
    rw [fL_areSquares_21] at hF
    refine lv_iload hx hb dL_areSquares_21 (lv_at hl 5 rfl) ?_
    refine lv_if_eq (tgt := 262) hx hb dL_areSquares_23 (by decide) (fun hc => ?_) (fun hc => ?_)
    · have hF := zif_t hc hF
      exact wL_areSquares_262 C0 hl9 hK hA hret    _ _ _ _ _ hF _ _ (by omega) (by omega) _ _ _ hw (lv_sub hl [0, 1, 2, 3, 4, 5] rfl)
    · have hF := zif_f hc hF
      refine lv_iload hx hb dL_areSquares_26 (lv_at hl 6 rfl) ?_
      refine lv_bipush (v := (36 : Int32)) hx hb dL_areSquares_28 (by decide) ?_
      refine lv_icmp_ge (tgt := 262) hx hb dL_areSquares_30 (by decide) (fun hc => ?_) (fun hc => ?_)
      · have hF := zif_t hc hF
        exact wL_areSquares_262 C0 hl9 hK hA hret    _ _ _ _ _ hF _ _ (by omega) (by omega) _ _ _ hw (lv_sub hl [0, 1, 2, 3, 4, 5] rfl)
      · have hF := zif_f hc hF
        refine lv_aload_n hx hb dL_areSquares_33 rfl (lv_at hl 0 rfl) ?_
        refine lv_iload hx hb dL_areSquares_34 (lv_at hl 6 rfl) ?_
        refine lv_iconst (v := (0 : Int32)) hx hb dL_areSquares_36 (by decide) ?_
        obtain ⟨u1, hq2, hF⟩ := zbd_t hF
        refine zgoXI4 (o0 := u1.1) (w' := (zSq ad b1 b2 b3 k sv kE kR fb ft fs rws nx ct ch ln c1 c2 c3)) (wa := []) (wc := (zC ad k sv kE kR fb ft fs rws nx ct ch ln)) (wc' := (zC ad k sv kE kR fb ft fs rws nx ct ch ln)) (wr := [(b1, .inl (k 2, 4, .inl c1)), (b2, .inl (k 2, 2, .inl c2)), (b3, .inl (k 2, 2, .inl c3))]) hw rfl rfl hA (zVx4 (wa := []) (wc := (zC ad k sv kE kR fb ft fs rws nx ct ch ln)) (wr := [(b1, .inl (k 2, 4, .inl c1)), (b2, .inl (k 2, 2, .inl c2)), (b3, .inl (k 2, 2, .inl c3))]) (As := [.int x6, .int (0 : Int32)]) (rest := []) ⟨hx, hb, hml, hown, hts⟩ (mX4_square l hl9 G k ad H.size sv kE kR fb ft fs rws nx ct ch ln x6 (0 : Int32) u1 hq2) (cwV 2 hts gL_areSquares_X4_square rfl rfl rfl kdX4_square ⟨Nat.le_of_ble_eq_true rfl, Nat.le_of_ble_eq_true rfl⟩) hK hA hw rfl 0 rfl rfl rfl rfl hl.1 rfl (Nat.le_of_ble_eq_true rfl) dL_areSquares_37 ⟨(by show _ ≤ 673; omega), (by show _ ≤ 4028; omega)⟩) rfl (fun h03 H locs q9 E9 ce9 hw g1 g2 g3 g4 => ?_) (fun h03 H locs hw => ?_)
        · exact nomatch (zif_f h03 hF)
        have hF := zif_t h03 hF
        refine lv_istore (lv' := [(7, .int u1.2), (0, .ref (ad 0)), (1, .ref b1), (2, .ref b2), (3, .ref b3), (4, .int x4), (5, .int x5), (6, .int x6)]) hx hb dL_areSquares_40 hl (by decide) rfl (fun ls hl => ?_)
        refine lv_aload_n hx hb dL_areSquares_42 rfl (lv_at hl 1 rfl) ?_
        refine lv_iload hx hb dL_areSquares_43 (lv_at hl 7 rfl) ?_
        refine lv_iconst (v := (1 : Int32)) hx hb dL_areSquares_45 (by decide) ?_
        obtain ⟨u4, hq5, hF⟩ := zbd_t hF
        refine zgoXI4 (o0 := u4.1) (w' := (zSq ad b1 b2 b3 k sv kE kR fb ft fs rws nx ct ch ln c1 c2 c3)) (wa := []) (wc := (zC ad k sv kE kR fb ft fs rws nx ct ch ln)) (wc' := (zC ad k sv kE kR fb ft fs rws nx ct ch ln)) (wr := [(b1, .inl (k 2, 4, .inl c1)), (b2, .inl (k 2, 2, .inl c2)), (b3, .inl (k 2, 2, .inl c3))]) hw rfl rfl hA (zVx4 (wa := []) (wc := (zC ad k sv kE kR fb ft fs rws nx ct ch ln)) (wr := [(b1, .inl (k 2, 4, .inl c1)), (b2, .inl (k 2, 2, .inl c2)), (b3, .inl (k 2, 2, .inl c3))]) (As := [.int x6, .int (1 : Int32)]) (rest := []) ⟨hx, hb, hml, hown, hts⟩ (mX4_square l hl9 G k ad H.size sv kE kR fb ft fs rws nx ct ch ln x6 (1 : Int32) u4 hq5) (cwV 2 hts gL_areSquares_X4_square rfl rfl rfl kdX4_square ⟨Nat.le_of_ble_eq_true rfl, Nat.le_of_ble_eq_true rfl⟩) hK hA hw rfl 0 rfl rfl rfl rfl hl.1 rfl (Nat.le_of_ble_eq_true rfl) dL_areSquares_46 ⟨(by show _ ≤ 673; omega), (by show _ ≤ 4028; omega)⟩) rfl (fun h06 H locs q9 E9 ce9 hw g1 g2 g3 g4 => ?_) (fun h06 H locs hw => ?_)
        · exact nomatch (zif_f h06 hF)
        have hF := zif_t h06 hF
        refine lv_istore (lv' := [(8, .int u4.2), (7, .int u1.2), (0, .ref (ad 0)), (1, .ref b1), (2, .ref b2), (3, .ref b3), (4, .int x4), (5, .int x5), (6, .int x6)]) hx hb dL_areSquares_49 hl (by decide) rfl (fun ls hl => ?_)
        refine lv_aload_n hx hb dL_areSquares_51 rfl (lv_at hl 3 rfl) ?_
        refine lv_iload hx hb dL_areSquares_52 (lv_at hl 1 rfl) ?_
        refine lv_dup2_11 hx hb dL_areSquares_54 rfl rfl ?_
        obtain ⟨hi7, hF⟩ := zck_in hF
        refine va_iald hx hb hK.1 hw.1 11 2 rfl rfl hi7 dL_areSquares_55 ?_
        refine lv_iconst (v := (1 : Int32)) hx hb dL_areSquares_56 (by decide) ?_
        refine lv_iadd hx hb dL_areSquares_57 ?_
        obtain ⟨hi8, hF⟩ := zck_in hF
        refine va_iast hx hb hK.1 hw.1 hw.2.1 hw.2.2 11 2 rfl rfl hi8 dL_areSquares_58 (fun H locs hP hD hS => ?_)
        have hw : zWd G A s (zSq ad b1 b2 b3 k sv kE kR fb ft fs rws nx ct ch ln (upd c1 u1.2.toNatClampNeg ((c1 u1.2.toNatClampNeg) + (1 : Int32))) c2 c3) H locs := ⟨hP, hD, hS⟩
        refine lv_iload hx hb dL_areSquares_59 (lv_at hl 6 rfl) ?_
        refine lv_aload_n hx hb dL_areSquares_61 rfl (lv_at hl 2 rfl) ?_
        refine lv_iload hx hb dL_areSquares_62 (lv_at hl 8 rfl) ?_
        refine lv_iconst (v := (3 : Int32)) hx hb dL_areSquares_64 (by decide) ?_
        obtain ⟨u9, hq10, hF⟩ := zbd_t hF
        refine zgoXI4 (o0 := u9.1) (w' := (zSq ad b1 b2 b3 k sv kE kR fb ft fs rws nx ct ch ln (upd c1 u1.2.toNatClampNeg ((c1 u1.2.toNatClampNeg) + (1 : Int32))) c2 c3)) (wa := []) (wc := (zC ad k sv kE kR fb ft fs rws nx ct ch ln)) (wc' := (zC ad k sv kE kR fb ft fs rws nx ct ch ln)) (wr := [(b1, .inl (k 2, 4, .inl (upd c1 u1.2.toNatClampNeg ((c1 u1.2.toNatClampNeg) + (1 : Int32))))), (b2, .inl (k 2, 2, .inl c2)), (b3, .inl (k 2, 2, .inl c3))]) hw rfl rfl hA (zVx4 (wa := []) (wc := (zC ad k sv kE kR fb ft fs rws nx ct ch ln)) (wr := [(b1, .inl (k 2, 4, .inl (upd c1 u1.2.toNatClampNeg ((c1 u1.2.toNatClampNeg) + (1 : Int32))))), (b2, .inl (k 2, 2, .inl c2)), (b3, .inl (k 2, 2, .inl c3))]) (As := [.int x6, .int (3 : Int32)]) (rest := [.int x4]) ⟨hx, hb, hml, hown, hts⟩ (mX4_square l hl9 G k ad H.size sv kE kR fb ft fs rws nx ct ch ln x6 (3 : Int32) u9 hq10) (cwV 2 hts gL_areSquares_X4_square rfl rfl rfl kdX4_square ⟨Nat.le_of_ble_eq_true rfl, Nat.le_of_ble_eq_true rfl⟩) hK hA hw rfl 0 rfl rfl rfl rfl hl.1 rfl (Nat.le_of_ble_eq_true rfl) dL_areSquares_65 ⟨(by show _ ≤ 673; omega), (by show _ ≤ 4028; omega)⟩) rfl (fun h011 H locs q9 E9 ce9 hw g1 g2 g3 g4 => ?_) (fun h011 H locs hw => ?_)
        · exact nomatch (zif_f h011 hF)
        have hF := zif_t h011 hF
        refine lv_iadd hx hb dL_areSquares_68 ?_
        refine lv_topi (fun a12 ea12 => ?_)
        have hF := zbn_t ea12 hF
        refine lv_istore (lv' := [(4, .int a12), (8, .int u4.2), (7, .int u1.2), (0, .ref (ad 0)), (1, .ref b1), (2, .ref b2), (3, .ref b3), (5, .int x5), (6, .int x6)]) hx hb dL_areSquares_69 hl (by decide) rfl (fun ls hl => ?_)
        refine lv_iload hx hb dL_areSquares_71 (lv_at hl 2 rfl) ?_
        refine lv_if_ne (tgt := 104) hx hb dL_areSquares_73 (by decide) (fun hc => ?_) (fun hc => ?_)
        · have hF := zif_f hc hF
          exact wL_areSquares_104 C0 hl9 hK hA hret (fun z0 z1 z2 z3 z4 z5 => fL_areSquares_21  fb ct ln n z0 z1 z2 z3 z4 z5) ih   _ _ _ _ _ _ _ hF _ _ (by omega) (by omega) _ _ _ hw (lv_sub hl [3, 4, 5, 6, 0, 8, 2, 1] rfl)
        · have hF := zif_t hc hF
          refine lv_iload hx hb dL_areSquares_76 (lv_at hl 1 rfl) ?_
          refine lv_iconst (v := (-1 : Int32)) hx hb dL_areSquares_78 (by decide) ?_
          refine lv_icmp_ne (tgt := 108) hx hb dL_areSquares_79 (by decide) (fun hc => ?_) (fun hc => ?_)
          · have hF := zif_f hc hF
            exact wL_areSquares_108 C0 hl9 hK hA hret (fun z0 z1 z2 z3 z4 z5 => fL_areSquares_21  fb ct ln n z0 z1 z2 z3 z4 z5) ih   _ _ _ _ _ _ _ hF _ _ (by omega) (by omega) _ _ _ hw (lv_sub hl [3, 4, 5, 6, 0, 8, 2, 1] rfl)
          · have hF := zif_t hc hF
            refine lv_aload_n hx hb dL_areSquares_82 rfl (lv_at hl 3 rfl) ?_
            refine lv_iload hx hb dL_areSquares_83 (lv_at hl 8 rfl) ?_
            refine lv_iconst (v := (2 : Int32)) hx hb dL_areSquares_85 (by decide) ?_
            obtain ⟨u13, hq14, hF⟩ := zbd_t hF
            refine zgoXI4 (o0 := u13.1) (w' := (zSq ad b1 b2 b3 k sv kE kR fb ft fs rws nx ct ch ln (upd c1 u1.2.toNatClampNeg ((c1 u1.2.toNatClampNeg) + (1 : Int32))) c2 c3)) (wa := []) (wc := (zC ad k sv kE kR fb ft fs rws nx ct ch ln)) (wc' := (zC ad k sv kE kR fb ft fs rws nx ct ch ln)) (wr := [(b1, .inl (k 2, 4, .inl (upd c1 u1.2.toNatClampNeg ((c1 u1.2.toNatClampNeg) + (1 : Int32))))), (b2, .inl (k 2, 2, .inl c2)), (b3, .inl (k 2, 2, .inl c3))]) hw rfl rfl hA (zVx4 (wa := []) (wc := (zC ad k sv kE kR fb ft fs rws nx ct ch ln)) (wr := [(b1, .inl (k 2, 4, .inl (upd c1 u1.2.toNatClampNeg ((c1 u1.2.toNatClampNeg) + (1 : Int32))))), (b2, .inl (k 2, 2, .inl c2)), (b3, .inl (k 2, 2, .inl c3))]) (As := [.int x6, .int (2 : Int32)]) (rest := []) ⟨hx, hb, hml, hown, hts⟩ (mX4_square l hl9 G k ad H.size sv kE kR fb ft fs rws nx ct ch ln x6 (2 : Int32) u13 hq14) (cwV 2 hts gL_areSquares_X4_square rfl rfl rfl kdX4_square ⟨Nat.le_of_ble_eq_true rfl, Nat.le_of_ble_eq_true rfl⟩) hK hA hw rfl 0 rfl rfl rfl rfl hl.1 rfl (Nat.le_of_ble_eq_true rfl) dL_areSquares_86 ⟨(by show _ ≤ 673; omega), (by show _ ≤ 4028; omega)⟩) rfl (fun h015 H locs q9 E9 ce9 hw g1 g2 g3 g4 => ?_) (fun h015 H locs hw => ?_)
            · exact nomatch (zif_f h015 hF)
            have hF := zif_t h015 hF
            refine lv_iconst (v := (-1 : Int32)) hx hb dL_areSquares_89 (by decide) ?_
            refine lv_icmp_ne (tgt := 108) hx hb dL_areSquares_90 (by decide) (fun hc => ?_) (fun hc => ?_)
            · have hF := zif_f hc hF
              exact wL_areSquares_108 C0 hl9 hK hA hret (fun z0 z1 z2 z3 z4 z5 => fL_areSquares_21  fb ct ln n z0 z1 z2 z3 z4 z5) ih   _ _ _ _ _ _ _ hF _ _ (by omega) (by omega) _ _ _ hw (lv_sub hl [3, 4, 5, 6, 0, 8, 2, 1] rfl)
            · have hF := zif_t hc hF
              refine lv_aload_n hx hb dL_areSquares_93 rfl (lv_at hl 3 rfl) ?_
              refine lv_iload hx hb dL_areSquares_94 (lv_at hl 8 rfl) ?_
              obtain ⟨u16, hq17, hF⟩ := zbd_t hF
              refine zgoXI4 (o0 := u16.1) (w' := (zSq ad b1 b2 b3 k sv kE kR fb ft fs rws nx ct ch ln (upd c1 u1.2.toNatClampNeg ((c1 u1.2.toNatClampNeg) + (1 : Int32))) c2 c3)) (wa := []) (wc := (zC ad k sv kE kR fb ft fs rws nx ct ch ln)) (wc' := (zC ad k sv kE kR fb ft fs rws nx ct ch ln)) (wr := [(b1, .inl (k 2, 4, .inl (upd c1 u1.2.toNatClampNeg ((c1 u1.2.toNatClampNeg) + (1 : Int32))))), (b2, .inl (k 2, 2, .inl c2)), (b3, .inl (k 2, 2, .inl c3))]) hw rfl rfl hA (zVx4 (wa := []) (wc := (zC ad k sv kE kR fb ft fs rws nx ct ch ln)) (wr := [(b1, .inl (k 2, 4, .inl (upd c1 u1.2.toNatClampNeg ((c1 u1.2.toNatClampNeg) + (1 : Int32))))), (b2, .inl (k 2, 2, .inl c2)), (b3, .inl (k 2, 2, .inl c3))]) (As := [.int x6]) (rest := []) ⟨hx, hb, hml, hown, hts⟩ (mX4_picture l hl9 G k ad H.size sv kE kR fb ft fs rws nx ct ch ln x6 u16 hq17) (cwV 1 hts gL_areSquares_X4_picture rfl rfl rfl kdX4_picture ⟨Nat.le_of_ble_eq_true rfl, Nat.le_of_ble_eq_true rfl⟩) hK hA hw rfl 0 rfl rfl rfl rfl hl.1 rfl (Nat.le_of_ble_eq_true rfl) dL_areSquares_96 ⟨(by show _ ≤ 673; omega), (by show _ ≤ 4028; omega)⟩) rfl (fun h018 H locs q9 E9 ce9 hw g1 g2 g3 g4 => ?_) (fun h018 H locs hw => ?_)
              · exact nomatch (zif_f h018 hF)
              have hF := zif_t h018 hF
              refine lv_bipush (v := (46 : Int32)) hx hb dL_areSquares_99 (by decide) ?_
              refine lv_icmp_ne (tgt := 108) hx hb dL_areSquares_101 (by decide) (fun hc => ?_) (fun hc => ?_)
              · have hF := zif_f hc hF
                exact wL_areSquares_108 C0 hl9 hK hA hret (fun z0 z1 z2 z3 z4 z5 => fL_areSquares_21  fb ct ln n z0 z1 z2 z3 z4 z5) ih   _ _ _ _ _ _ _ hF _ _ (by omega) (by omega) _ _ _ hw (lv_sub hl [3, 4, 5, 6, 0, 8, 2, 1] rfl)
              · have hF := zif_t hc hF
                exact wL_areSquares_104 C0 hl9 hK hA hret (fun z0 z1 z2 z3 z4 z5 => fL_areSquares_21  fb ct ln n z0 z1 z2 z3 z4 z5) ih   _ _ _ _ _ _ _ hF _ _ (by omega) (by omega) _ _ _ hw (lv_sub hl [3, 4, 5, 6, 0, 8, 2, 1] rfl)
set_option maxHeartbeats 1000000 in
set_option maxRecDepth 100000 in
theorem mL_areSquares (l : Launch) (hl9 : l.stackTraces = false) (G : va_G) (k : Nat → ClassId) (ad : Nat → Nat) (sz : Nat) (sv : Int32) (kE : Int32) (kR : Int32) (fb : Nat → Int64) (ft : Nat → Int64) (fs : Nat → Int64) (rws : Nat → Int64) (nx : Int32) (ct : Int32) (ch : Nat → Int32) (ln : Int32)  (o : Int32 × (Nat → Int32) × (Nat → Int32) × (Nat → Int32)) (hF : fL_areSquares fb ct ln = some o) : zMIc l yL_areSquares wsL_areSquares rmL_areSquares G k (zC ad k sv kE kR fb ft fs rws nx ct ch ln) sz [.ref (ad 0)] 673 4028 o.1 (zC ad k sv kE kR fb ft fs rws nx ct ch ln) := by
  refine zof_Ic (cc := cL_areSquares) (nL := 9) (own := RL) (rt := .boolean) (by decide) rfl rfl (Nat.le_of_ble_eq_true rfl) ?_
  intro p e s m args below meth c A Q C0 hK hA hret ls hl hw
  have hl : lv_has ls 9 [(0, .ref (ad 0))] := hl
  obtain ⟨hx, hb, hr, hml, hown, hts, hlocks⟩ := id C0
  obtain ⟨H, hH⟩ : ∃ z, z = s.heap := ⟨_, rfl⟩
  rw [← hH] at hw ⊢
  obtain ⟨ca, hca⟩ : ∃ z : Nat, z = 0 := ⟨_, rfl⟩
  obtain ⟨cb, hcb⟩ : ∃ z : Nat, z = 0 := ⟨_, rfl⟩
  refine W.widen (k := ca) (n := cb) (Nat.zero_le _) (Nat.zero_le _) ?_
  unfold fL_areSquares at hF
  refine lv_iconst (v := (4 : Int32)) hx hb dL_areSquares_0 (by decide) ?_
  refine znewa (atype := .int) (ty := .int) (N' := 4) (a0 := (4, .inl (fun _ => 0))) hx hb (hts (.arrayClass .int) (by decide +kernel)) rfl (fun _ z => nomatch z) 2 rfl hK hw hA (fun _ => rfl) (by decide) rfl (Nat.le_of_ble_eq_true rfl) (by show _ ≤ 673; omega) (by show _ ≤ 4028; omega) dL_areSquares_1 (fun b1 H hw => ?_)
  refine lv_astore_n (lv' := [(1, .ref b1), (0, .ref (ad 0))]) hx hb dL_areSquares_3 rfl hl (by decide) rfl (fun ls hl => ?_)
  refine lv_iconst (v := (2 : Int32)) hx hb dL_areSquares_4 (by decide) ?_
  refine znewa (atype := .int) (ty := .int) (N' := 2) (a0 := (2, .inl (fun _ => 0))) hx hb (hts (.arrayClass .int) (by decide +kernel)) rfl (fun _ z => nomatch z) 2 rfl hK hw hA (fun _ => rfl) (by decide) rfl (Nat.le_of_ble_eq_true rfl) (by show _ ≤ 673; omega) (by show _ ≤ 4028; omega) dL_areSquares_5 (fun b2 H hw => ?_)
  refine lv_astore_n (lv' := [(2, .ref b2), (1, .ref b1), (0, .ref (ad 0))]) hx hb dL_areSquares_7 rfl hl (by decide) rfl (fun ls hl => ?_)
  refine lv_iconst (v := (2 : Int32)) hx hb dL_areSquares_8 (by decide) ?_
  refine znewa (atype := .int) (ty := .int) (N' := 2) (a0 := (2, .inl (fun _ => 0))) hx hb (hts (.arrayClass .int) (by decide +kernel)) rfl (fun _ z => nomatch z) 2 rfl hK hw hA (fun _ => rfl) (by decide) rfl (Nat.le_of_ble_eq_true rfl) (by show _ ≤ 673; omega) (by show _ ≤ 4028; omega) dL_areSquares_9 (fun b3 H hw => ?_)
  have hret : zRI p l e rmL_areSquares s m args below meth c cL_areSquares G A 673 4028 Q .boolean (zSq ad b1 b2 b3 k sv kE kR fb ft fs rws nx ct ch ln o.2.1 o.2.2.1 o.2.2.2) o.1 := fun H locs pc ls hn hw hd => hret H locs pc ls hn (zWd.left (wa := (zC ad k sv kE kR fb ft fs rws nx ct ch ln)) (wb := [(b1, .inl (k 2, 4, .inl o.2.1)), (b2, .inl (k 2, 2, .inl o.2.2.1)), (b3, .inl (k 2, 2, .inl o.2.2.2))]) hw) hd
  have hw : zWd G A s (zSq ad b1 b2 b3 k sv kE kR fb ft fs rws nx ct ch ln (fun _ => 0) (fun _ => 0) (fun _ => 0)) H _ := hw
  refine lv_astore_n (lv' := [(3, .ref b3), (2, .ref b2), (1, .ref b1), (0, .ref (ad 0))]) hx hb dL_areSquares_11 rfl hl (by decide) rfl (fun ls hl => ?_)
  refine lv_iconst (v := (0 : Int32)) hx hb dL_areSquares_12 (by decide) ?_
  refine lv_istore (lv' := [(4, .int (0 : Int32)), (3, .ref b3), (2, .ref b2), (1, .ref b1), (0, .ref (ad 0))]) hx hb dL_areSquares_13 hl (by decide) rfl (fun ls hl => ?_)
  refine lv_iconst (v := (1 : Int32)) hx hb dL_areSquares_15 (by decide) ?_
  refine lv_istore (lv' := [(5, .int (1 : Int32)), (4, .int (0 : Int32)), (3, .ref b3), (2, .ref b2), (1, .ref b1), (0, .ref (ad 0))]) hx hb dL_areSquares_16 hl (by decide) rfl (fun ls hl => ?_)
  refine lv_iconst (v := (0 : Int32)) hx hb dL_areSquares_18 (by decide) ?_
  refine lv_istore (lv' := [(6, .int (0 : Int32)), (5, .int (1 : Int32)), (4, .int (0 : Int32)), (3, .ref b3), (2, .ref b2), (1, .ref b1), (0, .ref (ad 0))]) hx hb dL_areSquares_19 hl (by decide) rfl (fun ls hl => ?_)
  exact wL_areSquares_21 C0 hl9 hK hA hret   37 _ _ _ _ _ _ hF _ _ (by omega) (by omega) _ _ _ hw (lv_sub hl [6, 5, 4, 3, 2, 1, 0] rfl)

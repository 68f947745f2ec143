/-! the worlds: which cells a method runs in, and what is in them -/
def zFu : Nat := 4000
def zFRi (j : Nat) : Int32 := ([0, 1, 3, 2, 1, 0] : List Int32).getD j 0
def zE0  (k : Nat → ClassId)  : va_W := []
def zP (h : Nat) (r : Nat) (k : Nat → ClassId) (f : Nat → Int64) : va_W := [(h, .inr (2, [.ref r])), (r, .inl (k 0, 15, .inr (.inl f)))]
def zPP (h : Nat) (r : Nat) (h2 : Nat) (r2 : Nat) (k : Nat → ClassId) (f : Nat → Int64) (g : Nat → Int64) : va_W := [(h, .inr (2, [.ref r])), (r, .inl (k 0, 15, .inr (.inl f))), (h2, .inr (2, [.ref r2])), (r2, .inl (k 0, 15, .inr (.inl g)))]
def zPQ (h : Nat) (r : Nat) (q : Nat) (k : Nat → ClassId) (f : Nat → Int64) (g : Nat → Int64) : va_W := [(h, .inr (2, [.ref r])), (r, .inl (k 0, 15, .inr (.inl f))), (q, .inl (k 0, 90, .inr (.inl g)))]
def zH (h : Nat) (r : Nat) (k : Nat → ClassId) (rws : Nat → Int64) (nx : Int32) (ct : Int32) : va_W := [(h, .inr (0, [.ref r, .int nx, .int ct])), (r, .inl (k 0, 90, .inr (.inl rws)))]
def zHP (h : Nat) (r : Nat) (h2 : Nat) (r2 : Nat) (k : Nat → ClassId) (rws : Nat → Int64) (nx : Int32) (ct : Int32) (f : Nat → Int64) : va_W := [(h, .inr (0, [.ref r, .int nx, .int ct])), (r, .inl (k 0, 90, .inr (.inl rws))), (h2, .inr (2, [.ref r2])), (r2, .inl (k 0, 15, .inr (.inl f)))]
def zI (h : Nat) (r : Nat) (k : Nat → ClassId) (ch : Nat → Int32) (ln : Int32) : va_W := [(h, .inr (1, [.ref r, .int ln])), (r, .inl (k 1, 60, .inl ch))]
def zC (ad : Nat → Nat) (k : Nat → ClassId) (sv : Int32) (kE : Int32) (kR : Int32) (fb : Nat → Int64) (ft : Nat → Int64) (fs : Nat → Int64) (rws : Nat → Int64) (nx : Int32) (ct : Int32) (ch : Nat → Int32) (ln : Int32) : va_W := [((ad 0), .inr (3, [.ref (ad 1), .ref (ad 3), .ref (ad 5), .ref (ad 7), .ref (ad 9), .int sv, .int kE, .int kR])), ((ad 1), .inr (2, [.ref (ad 2)])), ((ad 2), .inl (k 0, 15, .inr (.inl fb))), ((ad 3), .inr (2, [.ref (ad 4)])), ((ad 4), .inl (k 0, 15, .inr (.inl ft))), ((ad 5), .inr (2, [.ref (ad 6)])), ((ad 6), .inl (k 0, 15, .inr (.inl fs))), ((ad 7), .inr (0, [.ref (ad 8), .int nx, .int ct])), ((ad 8), .inl (k 0, 90, .inr (.inl rws))), ((ad 9), .inr (1, [.ref (ad 10), .int ln])), ((ad 10), .inl (k 1, 60, .inl ch))]

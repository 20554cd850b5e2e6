theorem Jn.rcv {s : St} {i e b q : Nat} (h : Jn s) (hp : ∀ p, p < s.np → s.st p = 112 → s.fe p + s.lc p ≤ s.ne) : Jn (s.rcv i e b q) :=
  Jn.put (s := s.lot i e) h hp

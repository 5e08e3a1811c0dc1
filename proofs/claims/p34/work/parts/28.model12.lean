/-! THE REFERENCE's steps -/
/-- k ticks -/
def tks (p a : Nat → Int32) (V G W Q N : Nat) : Nat → Nat → Int32
  | 0 => a
  | k + 1 => tk p (tks p a V G W Q N k) V G W Q N
/-- how many items k ticks decide -/
def tkm (p a : Nat → Int32) (V G W Q N : Nat) : Nat → Nat
  | 0 => 0
  | k + 1 => tkm p a V G W Q N k + tkn p (tks p a V G W Q N k) V W N
theorem wa.tks {p a : Nat → Int32} {V G W Q N : Nat} (h : wa a N G) (hG : G ≤ 3) : ∀ k, wa (tks p a V G W Q N k) N G
  | 0 => h
  | k + 1 => (wa.tks h hG k).tk hG

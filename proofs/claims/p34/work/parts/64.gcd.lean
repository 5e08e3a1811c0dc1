/-- n steps of Euclid's way -/
def es : Nat → Nat → Nat → Nat
  | 0, x, _ => x
  | n + 1, x, y => if y = 0 then x else es n y (x % y)

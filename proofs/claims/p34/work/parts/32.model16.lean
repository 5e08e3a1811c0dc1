/-! THE REFERENCE's put; ticks on the table; spacing -/
theorem ti_sub {x y : Int32} (h1 : -2147483648 ≤ x.toInt - y.toInt) (h2 : x.toInt - y.toInt < 2147483648) : (x - y).toInt = x.toInt - y.toInt := by
  rw [Int32.toInt_sub]
  exact Int.bmod_eq_of_le (by omega) (by omega)
theorem ti_add {x y : Int32} (h1 : -2147483648 ≤ x.toInt + y.toInt) (h2 : x.toInt + y.toInt < 2147483648) : (x + y).toInt = x.toInt + y.toInt := by
  rw [Int32.toInt_add]
  exact Int.bmod_eq_of_le (by omega) (by omega)
/-- k numbers of item i are 0 -/
def zf (a : Nat → Int32) (i k : Nat) : Nat → Int32 := fun j => if 81 + 76 * i ≤ j ∧ j < 81 + 76 * i + k then 0 else a j
/-- the row behind put -/
def ptf (a : Nat → Int32) (i : Nat) (x y : Int32) : Nat → Int32 := upd (upd (upd (upd (upd (upd (zf (upd a 2 (nI (i + 1))) i 76) (81 + 76 * i + 0) x) (81 + 76 * i + 1) y) (81 + 76 * i + 6) (-1)) (81 + 76 * i + 7) (-1)) (81 + 76 * i + 8) (-1)) (81 + 76 * i + 9) (-1)
/-- may an item be put, behind N others? -/
def fre (a : Nat → Int32) (N : Nat) : Prop := N = 0 ∨ ¬ onB a (N - 1) ∨ 0 ≤ a (81 + 76 * (N - 1) + 2) - a (81 + 76 * (N - 1) + 1)
abbrev ptr (x y : Int32) : Prop := (1 ≤ x ∧ x ≤ 9999) ∧ (1 ≤ y ∧ y ≤ 2000)

/-- an item that was decided with samples -/
abbrev mea (a : Nat → Int32) (i : Nat) : Prop := a (81 + 76 * i + 6) ≠ -1 ∧ 0 < a (81 + 76 * i + 4)

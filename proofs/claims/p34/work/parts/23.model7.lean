/-! THE REFERENCE's tick, phase by phase -/
def mv1 (p : Nat → Int32) (i : Nat) (a : Nat → Int32) : Nat → Int32 := if onB a i then upd a (81 + 76 * i + 2) (a (81 + 76 * i + 2) + p 0) else a
theorem wa.mv1 {p a : Nat → Int32} {N G i : Nat} (h : wa a N G) : wa (mv1 p i a) N G := by
  unfold _root_.Jvm.Pilot.CCheckWeigherLaw_law_r2128_7c0bd7.mv1
  split
  · exact h.u (by decide) (fun h => absurd h (by decide)) (fun h => absurd h (by decide)) (by decide)
  · exact h
/-- the samples moved down from n on -/
def sh1 (a : Nat → Int32) (n : Nat) : Nat → Int32 := fun j => if 21 + n < j ∧ j ≤ 80 then a (j - 1) else a j

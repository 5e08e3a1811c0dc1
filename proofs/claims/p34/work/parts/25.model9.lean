/-! THE REFERENCE's tick: decisions, gates, the belt's end, confirmations; the whole tick -/
/-- does the tick decide the item? -/
abbrev dcq (p a : Nat → Int32) (i : Nat) : Prop := a (81 + 76 * i + 3) = 0 ∧ p 2 < a (81 + 76 * i + 2)
def dc4 (p : Nat → Int32) (w i : Nat) (a : Nat → Int32) : Nat → Int32 := if dcq p a i then dcd p a i w else a
/-- how many the tick decides of the first n -/
def dcn (p a : Nat → Int32) (w : Nat) : Nat → Nat
  | 0 => 0
  | n + 1 => dcn p a w n + if dcq p (itf (dc4 p w) n a) n then 1 else 0
theorem wa.dc4 {p a : Nat → Int32} {w N G i : Nat} (h : wa a N G) : wa (dc4 p w i a) N G := by
  unfold _root_.Jvm.Pilot.CCheckWeigherLaw_law_r2128_7c0bd7.dc4
  split
  · exact h.dcd
  · exact h
def mg2 (p : Nat → Int32) (N G i : Nat) (a : Nat → Int32) : Nat → Int32 := if onB a i then mgf p N G i a else a
theorem wa.mg2 {p a : Nat → Int32} {N N' G i : Nat} (h : wa a N G) (hG : G ≤ 3) : wa (mg2 p N' G i a) N G := by
  unfold _root_.Jvm.Pilot.CCheckWeigherLaw_law_r2128_7c0bd7.mg2
  split
  · exact h.mgf hG
  · exact h
def lv1 (p : Nat → Int32) (i : Nat) (a : Nat → Int32) : Nat → Int32 := if onB a i ∧ p 3 ≤ a (81 + 76 * i + 2) then upd (upd a (81 + 76 * i + 3) (if a (81 + 76 * i + 7) = -1 then 2 else 5)) (81 + 76 * i + 9) (a 0) else a
theorem wa.lv1 {p a : Nat → Int32} {N G i : Nat} (h : wa a N G) : wa (lv1 p i a) N G := by
  unfold _root_.Jvm.Pilot.CCheckWeigherLaw_law_r2128_7c0bd7.lv1
  split
  · exact (h.u (i := i) (w := 3) (by decide) (fun h => absurd h (by decide)) (fun h => absurd h (by decide)) (by decide)).u (i := i) (w := 9) (by decide) (fun h => absurd h (by decide)) (fun h => absurd h (by decide)) (by decide)
  · exact h

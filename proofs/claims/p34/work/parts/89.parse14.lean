/-! READING a text: the reference's plain, takes, load -/
def fl1 (t : Nat → Int32) (k : Nat) : Nat → Int32 := fun j => if j < k then 0 else t j
/-- the row of a run that begins -/
def a0F (a t : Nat → Int32) : Nat → Int32 := upd (upd (fl1 a 4641) 4 (t 6)) 5 (t 7)

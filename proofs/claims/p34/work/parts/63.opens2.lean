theorem of_nat {x : Int32} (h : 0 ≤ x.toInt) : ∃ n : Nat, x = nI n ∧ (n : Int) = x.toInt := by
  have h2 : x.toInt < 2147483648 := Int32.toInt_lt x
  refine ⟨x.toInt.toNat, ?_, by omega⟩
  apply Int32.toInt_inj.mp
  rw [tn (by omega)]
  omega

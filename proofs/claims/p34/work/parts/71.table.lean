def tM (M : xm_M) (S : Nat) : Prop := M.2.2 275 0 = .ref (S + 1) ∧ M.2.2 275 2 = .ref 276 ∧ M.2.2 275 3 = .ref 277
/-- other cells than the table's are as they were -/
def frT (I I' : xI) : Prop := ∀ b, b ≠ 275 → b ≠ 276 → b ≠ 277 → I' b = I b
theorem frT.t {I J K : xI} (h : frT I J) (h2 : frT J K) : frT I K := fun b h1 h3 h4 => (h2 b h1 h3 h4).trans (h b h1 h3 h4)
theorem k276 : ly_k 276 = 10 ∧ ly_n 276 = 1740 ∧ ly_k 277 = 10 ∧ ly_n 277 = 61 ∧ ly_k 275 = 3 := ⟨rfl, rfl, rfl, rfl, rfl⟩

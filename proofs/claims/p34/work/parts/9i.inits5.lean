theorem wp_rs {t : Nat → Int32} : wp (rsF t) 0 0 20 0 := by
  refine ⟨rfl, by decide, rfl, by decide, rfl, by decide, by decide, rfl, by decide, ?_, ?_, ?_, ?_, Or.inl rfl, ?_, ?_, ?_, ?_, ?_, ?_, fun k hk => absurd hk (Nat.not_lt_zero k), fun g hg => absurd hg (Nat.not_lt_zero g), fun g hg => absurd hg (Nat.not_lt_zero _), fun g hg => absurd hg (Nat.not_lt_zero g), fun k hk => Or.inl ⟨?_, fun g hg => absurd hg (Nat.not_lt_zero g)⟩⟩
  · rw [show rsF t 0 = 10 from rfl]; decide
  · rw [show rsF t 1 = 100 from rfl, show rsF t 2 = 200 from rfl]; decide
  · rw [show rsF t 2 = 200 from rfl, show rsF t 3 = 300 from rfl]; decide
  · rw [show rsF t 3 = 300 from rfl]; decide
  · rw [show rsF t 10 = 9999 from rfl]; decide
  · rw [show rsF t 11 = 1 from rfl]; decide
  · rw [show rsF t 12 = 0 from rfl]; decide
  · rw [show rsF t 13 = 1 from rfl]; decide
  · rw [show rsF t 15 = 5 from rfl]; decide
  · rw [show rsF t 6 = 0 from rfl, show rsF t 7 = 9999 from rfl]; decide
  · rcases (by omega : k = 0 ∨ k = 1 ∨ k = 2 ∨ k = 3) with rfl | rfl | rfl | rfl <;> rfl

/-! THE REFERENCE's questions about items -/
abbrev onB (a : Nat → Int32) (i : Nat) : Prop := a (81 + 76 * i + 3) < 2
abbrev inP (p a : Nat → Int32) (i : Nat) : Prop := a (81 + 76 * i + 3) < 2 ∧ p 1 < a (81 + 76 * i + 2) ∧ a (81 + 76 * i + 2) - a (81 + 76 * i + 1) < p 2
abbrev isW (p a : Nat → Int32) (i : Nat) : Prop := a (81 + 76 * i + 3) < 2 ∧ p 1 ≤ a (81 + 76 * i + 2) - a (81 + 76 * i + 1) ∧ a (81 + 76 * i + 2) ≤ p 2
abbrev cmd (a : Nat → Int32) (g t : Int32) (i : Nat) : Prop := a (81 + 76 * i + 7) = g ∧ a (81 + 76 * i + 10) ≤ t ∧ t < a (81 + 76 * i + 11)
def exb (f : Nat → Bool) : Nat → Bool
  | 0 => false
  | n + 1 => exb f n || f n
theorem exb_iff {f : Nat → Bool} : ∀ {n : Nat}, exb f n = true ↔ ∃ i, i < n ∧ f i = true
  | 0 => by simp [exb]
  | n + 1 => by
    rw [exb, Bool.or_eq_true, exb_iff]
    constructor
    · rintro (⟨i, h1, h2⟩ | h)
      · exact ⟨i, by omega, h2⟩
      · exact ⟨n, by omega, h⟩
    · rintro ⟨i, h1, h2⟩
      by_cases h : i = n
      · subst h; exact Or.inr h2
      · exact Or.inl ⟨i, by omega, h2⟩
/-- is the gate commanded at the tick, by one of n items -/
def isC (a : Nat → Int32) (n : Nat) (g t : Int32) : Bool := exb (fun i => decide (cmd a g t i)) n
/-- how many of 0 .. n - 1 -/
def cnt (f : Nat → Bool) : Nat → Nat
  | 0 => 0
  | n + 1 => cnt f n + if f n then 1 else 0
theorem cnt_le (f : Nat → Bool) : ∀ n, cnt f n ≤ n
  | 0 => Nat.le_refl _
  | n + 1 => by have := cnt_le f n; unfold cnt; split <;> omega
/-- the vibrations' values at a tick, of n vibrations -/
def shk (p : Nat → Int32) (t : Int32) : Nat → Int32
  | 0 => 0
  | n + 1 => shk p t n + if (t + p (16 + 3 * n + 2)) % p (16 + 3 * n + 1) < p (16 + 3 * n + 1) / 2 then p (16 + 3 * n) else -p (16 + 3 * n)

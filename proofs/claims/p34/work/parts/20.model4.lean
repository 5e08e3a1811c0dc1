def canc (p : Nat → Int32) (x : Int32) : Nat → Bool
  | 0 => true
  | k + 1 => canc p x k && decide (x % p (16 + 3 * k + 1) = 0)
/-- the widest window of at most n ticks in which all cancel -/
def wfl (p : Nat → Int32) (V w : Nat) : Nat → Nat
  | 0 => w
  | n + 1 => if canc p (nI (n + 1)) V = true then n + 1 else wfl p V w n
def wnw (p : Nat → Int32) (V W : Nat) : Nat := if p 9 = 0 then W else wfl p V W W
theorem wfl_b {p : Nat → Int32} {V w : Nat} (hw : 1 ≤ w) : ∀ {n : Nat}, n ≤ w → 1 ≤ wfl p V w n ∧ wfl p V w n ≤ w
  | 0, _ => ⟨hw, Nat.le_refl _⟩
  | n + 1, h => by
    unfold wfl
    split
    · exact ⟨by omega, h⟩
    · exact wfl_b hw (by omega)
theorem wnw_b {p : Nat → Int32} {V W : Nat} (hw : 1 ≤ W) : 1 ≤ wnw p V W ∧ wnw p V W ≤ W := by
  unfold wnw
  split
  · exact ⟨hw, Nat.le_refl _⟩
  · exact wfl_b hw (Nat.le_refl _)
theorem nI_pos0 {n : Nat} (h : n < 2 ^ 31) : (nI n ≤ 0) ↔ n = 0 := by
  rw [te, tn h]
  show (n : Int) ≤ 0 ↔ _
  omega

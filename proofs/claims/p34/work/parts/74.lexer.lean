/-! TOKENS of a text x of n bytes: for both sides; the reference's -/
def lx_b (c : Int32) : Bool := decide (c = 10 ∨ c = 32)
def lx_l (c : Int32) : Bool := decide (97 ≤ c ∧ c ≤ 122)
def lx_d (c : Int32) : Bool := decide (48 ≤ c ∧ c ≤ 57)
def rnf (P : Int32 → Bool) (x : Nat → Int32) : Nat → Nat → Nat
  | 0, k => k
  | d + 1, k => if P (x k) = true then rnf P x d (k + 1) else k
/-- from k on behind all that P holds of -/
def rn (P : Int32 → Bool) (x : Nat → Int32) (n k : Nat) : Nat := rnf P x (n - k) k
theorem rnf_all {P : Int32 → Bool} {x : Nat → Int32} : ∀ d k, k ≤ rnf P x d k ∧ rnf P x d k ≤ k + d ∧ (∀ j, k ≤ j → j < rnf P x d k → P (x j) = true) ∧ (rnf P x d k < k + d → ¬ P (x (rnf P x d k)) = true)
  | 0, k => ⟨Nat.le_refl _, Nat.le_refl _, fun j h1 h2 => absurd h2 (by rw [rnf]; omega), fun h => absurd h (by rw [rnf]; omega)⟩
  | d + 1, k => by
    rw [rnf]
    by_cases h : P (x k) = true
    · rw [if_pos h]
      obtain ⟨a1, a2, a3, a4⟩ := rnf_all (P := P) (x := x) d (k + 1)
      refine ⟨by omega, by omega, fun j h1 h2 => ?_, fun h2 => a4 (by omega)⟩
      by_cases e : j = k
      · rw [e]; exact h
      · exact a3 j (by omega) h2
    · rw [if_neg h]
      exact ⟨Nat.le_refl _, by omega, fun j h1 h2 => absurd h2 (by omega), fun _ => h⟩
theorem rn_all {P : Int32 → Bool} {x : Nat → Int32} {n k : Nat} (hk : k ≤ n) : k ≤ rn P x n k ∧ rn P x n k ≤ n ∧ (∀ j, k ≤ j → j < rn P x n k → j < n ∧ P (x j) = true) ∧ ¬ (rn P x n k < n ∧ P (x (rn P x n k)) = true) := by
  obtain ⟨a1, a2, a3, a4⟩ := rnf_all (P := P) (x := x) (n - k) k
  unfold rn
  exact ⟨a1, by omega, fun j h1 h2 => ⟨by omega, a3 j h1 h2⟩, fun h => a4 (by omega) h.2⟩
/-- where the token that begins at b ends; its sort -/
def tE (x : Nat → Int32) (n b : Nat) : Nat := if b < n then (if lx_l (x b) = true then rn lx_l x n b else if lx_d (x b) = true then rn lx_d x n b else b + 1) else b
def tS (x : Nat → Int32) (n b : Nat) : Nat := if b < n then (if lx_l (x b) = true then 1 else if lx_d (x b) = true then (if tE x n b - b ≤ 4 then 2 else 4) else if x b = 59 then 3 else 4) else 0
def dgv (x : Nat → Int32) (b : Nat) : Nat → Int32
  | 0 => 0
  | m + 1 => 10 * dgv x b m + x (b + m) - 48
def tN (x : Nat → Int32) (n b : Nat) : Int32 := dgv x b (min 4 (tE x n b - b))
/-- the next token's begin -/
def nxt (x : Nat → Int32) (n b : Nat) : Nat := rn lx_b x n (tE x n b)
theorem tE_b {x : Nat → Int32} {n b : Nat} (h : b ≤ n) : b ≤ tE x n b ∧ tE x n b ≤ n ∧ (b < n → b < tE x n b) := by
  unfold tE
  by_cases hb : b < n
  · rw [if_pos hb]
    by_cases hl : lx_l (x b) = true
    · rw [if_pos hl]
      obtain ⟨a1, a2, a3, a4⟩ := rn_all (P := lx_l) (x := x) h
      refine ⟨a1, a2, fun _ => ?_⟩
      rcases Nat.lt_or_ge b (rn lx_l x n b) with q | q
      · exact q
      · have e : rn lx_l x n b = b := by omega
        rw [e] at a4
        exact absurd ⟨hb, hl⟩ a4
    · rw [if_neg hl]
      by_cases hd : lx_d (x b) = true
      · rw [if_pos hd]
        obtain ⟨a1, a2, a3, a4⟩ := rn_all (P := lx_d) (x := x) h
        refine ⟨a1, a2, fun _ => ?_⟩
        rcases Nat.lt_or_ge b (rn lx_d x n b) with q | q
        · exact q
        · have e : rn lx_d x n b = b := by omega
          rw [e] at a4
          exact absurd ⟨hb, hd⟩ a4
      · rw [if_neg hd]
        omega
  · rw [if_neg hb]
    omega
theorem nxt_b {x : Nat → Int32} {n b : Nat} (h : b ≤ n) : b ≤ nxt x n b ∧ nxt x n b ≤ n ∧ (b < n → b < nxt x n b) := by
  obtain ⟨a1, a2, a3⟩ := tE_b (x := x) h
  obtain ⟨c1, c2, -⟩ := rn_all (P := lx_b) (x := x) a2
  unfold nxt
  exact ⟨by omega, c2, fun q => by have := a3 q; omega⟩
theorem tS_b {x : Nat → Int32} {n b : Nat} : tS x n b ≤ 4 ∧ (tS x n b ≠ 0 → b < n) ∧ (tS x n b = 2 → tE x n b - b ≤ 4) := by
  unfold tS
  by_cases hb : b < n
  · rw [if_pos hb]
    by_cases hl : lx_l (x b) = true
    · rw [if_pos hl]; omega
    · rw [if_neg hl]
      by_cases hd : lx_d (x b) = true
      · rw [if_pos hd]
        split <;> omega
      · rw [if_neg hd]
        split <;> omega
  · rw [if_neg hb]; omega
/-- the reference's fields at the token from b on -/
def rdr (x : Nat → Int32) (n : Nat) (f : Nat → Int32) (b : Nat) : Prop := f 8 = nI (tE x n b) ∧ f 9 = nI b ∧ f 10 = nI (tS x n b) ∧ (tS x n b = 2 → f 11 = tN x n b)

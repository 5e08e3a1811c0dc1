/-! BASE: truth as an int, reads of a written memory, a counting loop, sums -/
def xb (c : Prop) [Decidable c] : Int32 := if c then 1 else 0
theorem xb_01 (c : Prop) [Decidable c] : xb c = 0 ∨ xb c = 1 := by unfold xb; split <;> simp
theorem xb_0 (c : Prop) [Decidable c] : xb c = 0 ↔ ¬ c := by unfold xb; split <;> simp_all
theorem xb_1 (c : Prop) [Decidable c] : xb c = 1 ↔ c := by unfold xb; split <;> simp_all
theorem xb_t {c : Prop} [Decidable c] (h : c) : xb c = 1 := if_pos h
theorem xb_f {c : Prop} [Decidable c] (h : ¬ c) : xb c = 0 := if_neg h
theorem xb_iff {c d : Prop} [Decidable c] [Decidable d] (h : c ↔ d) : xb c = xb d := by unfold xb; by_cases hc : c
                                                                                        · rw [if_pos hc, if_pos (h.mp hc)]
                                                                                        · rw [if_neg hc, if_neg (fun q => hc (h.mpr q))]
theorem xb0 {c : Prop} [Decidable c] : (some (Value.int 0) = some (Value.int (xb c))) ↔ ¬ c := by unfold xb; split <;> simp_all
theorem xb1 {c : Prop} [Decidable c] : (some (Value.int 1) = some (Value.int (xb c))) ↔ c := by unfold xb; split <;> simp_all
theorem tl (x y : Int32) : x < y ↔ x.toInt < y.toInt := Int32.lt_iff_toInt_lt
theorem te (x y : Int32) : x ≤ y ↔ x.toInt ≤ y.toInt := Int32.le_iff_toInt_le
theorem tq (x y : Int32) : x = y ↔ x.toInt = y.toInt := Int32.toInt_inj.symm
theorem tn {n : Nat} (h : n < 2 ^ 31) : (nI n).toInt = (n : Int) := nI_toInt h
theorem vpl {k n : Nat} (h1 : k < 2147483648) (h2 : k < n) : vp_in (no_index (OfNat.ofNat k : Int32)) n := fun q => by
  have e : (OfNat.ofNat k : Int32) = nI k := rfl
  rw [e] at q
  rcases q with q | q
  · exact nI_pos h1 q
  · rw [nI_clamp h1] at q; omega
theorem cll {k : Nat} (h1 : k < 2147483648) : Int32.toNatClampNeg (no_index (OfNat.ofNat k : Int32)) = k := nI_clamp h1
theorem rI_I (M : xm_M) (a j : Nat) (x : Int32) (b i : Nat) : (xm_setI M a j x).2.1 b i = if b = a ∧ i = j then x else M.2.1 b i := by
  unfold xm_setI
  by_cases hb : b = a
  · subst hb
    by_cases hi : i = j
    · subst hi; simp [upd]
    · simp [upd, hi]
  · simp [hb]
theorem rI_R (M : xm_M) (a j : Nat) (x : Int32) : (xm_setI M a j x).2.2 = M.2.2 := rfl
theorem rI_1 (M : xm_M) (a j : Nat) (x : Int32) : (xm_setI M a j x).1 = M.1 := rfl
theorem rR_I (M : xm_M) (a j : Nat) (x : Value) : (xm_setR M a j x).2.1 = M.2.1 := rfl
theorem rR_1 (M : xm_M) (a j : Nat) (x : Value) : (xm_setR M a j x).1 = M.1 := rfl
theorem rR_R (M : xm_M) (a j : Nat) (x : Value) (b i : Nat) : (xm_setR M a j x).2.2 b i = if b = a ∧ i = j then x else M.2.2 b i := by
  unfold xm_setR
  by_cases hb : b = a
  · subst hb
    by_cases hi : i = j
    · subst hi; simp [updV]
    · simp [updV, hi]
  · simp [hb]
/-- a counting loop: from the end backwards -/
theorem lp_up {P : Nat → Prop} (n : Nat) (hend : P n) (hstep : ∀ k, k < n → P (k + 1) → P k) : ∀ k, k ≤ n → P k := by
  intro k hk
  obtain ⟨d, hd⟩ : ∃ d, n = k + d := ⟨n - k, by omega⟩
  induction d generalizing k with
  | zero => have : n = k := by omega
            subst this; exact hend
  | succ d ih => exact hstep k (by omega) (ih (k + 1) (by omega) (by omega))
/-- a sum of n terms from a on -/
def sm (f : Nat → Int32) (a : Nat) : Nat → Int32
  | 0 => 0
  | n + 1 => sm f a n + f (a + n)
theorem sm_cong {f g : Nat → Int32} {a b : Nat} : ∀ {n : Nat}, (∀ k, k < n → f (a + k) = g (b + k)) → sm f a n = sm g b n
  | 0, _ => rfl
  | n + 1, h => by
    unfold sm
    rw [sm_cong (fun k hk => h k (by omega)), h n (by omega)]
/-- a fold over 0 .. n - 1 -/
def itf {α : Type} (f : Nat → α → α) : Nat → α → α
  | 0, a => a
  | n + 1, a => f n (itf f n a)
theorem cl_n {n : Nat} (h : n < 2 ^ 31) : (nI n).toNatClampNeg = n := nI_clamp h
theorem in_n {n N : Nat} (h : n < N) (hN : N < 2 ^ 31) : vp_in (nI n) N := vp_in_nI h hN
def iabs (x : Int32) : Int32 := if 0 ≤ x then x else 0 - x
def imax (x y : Int32) : Int32 := if x < y then y else x
def imin (x y : Int32) : Int32 := if y < x then y else x
section XMM
variable {E : xm_E} {Z : xm_Z} {own nL rt D mc ms ce sl pc : Nat} {ini : Bool} {cc : ByteArray} {r : Option Value → xm_M → Prop} {L S : List Value} {M : xm_M}
theorem xm_max (hY : xm_Y E own nL cc rt ini D mc ms Z) {cp : Nat} {x y : Int32} (hd : decode cc pc = .ok (.invokestatic cp, 3)) (hl : Cond.methodLink (xm_C own) cp yJ9_max_7cf53 ∈ lw_tb) (hD : 1 ≤ D) (hf : ce ≤ mc ∧ sl ≤ ms) (hS : (S.map fun v => v.category).sum ≤ 8) (k : xm_Go E Z nL mc ms r ce sl (pc + 3) L (.int (imax x y) :: S) M) : xm_Go E Z nL mc ms r ce sl pc L (.int y :: .int x :: S) M := by
  intro H locs ls hW hF hl0
  obtain ⟨X, -, -, hR1, hR2, hR3, hR4⟩ := hY
  obtain ⟨hx, hbc, hml, hown, hts, hK, hlocks, hO, hxt, hsz⟩ := id X
  exact va_mmax hx hbc (by rw [hml]; exact hl0.1.symm) hown (hts _ hl) (hts _ (wq_at mw_9_0 3 rfl)) (hts _ (wq_at mw_9_0 6 rfl)) (hts _ (wq_at mw_9_0 2 rfl)) (by omega) (by rw [xm_cats]; omega) (by omega) (by omega) hd (k H locs ls hW hF hl0)
theorem xm_min (hY : xm_Y E own nL cc rt ini D mc ms Z) {cp : Nat} {x y : Int32} (hd : decode cc pc = .ok (.invokestatic cp, 3)) (hl : Cond.methodLink (xm_C own) cp yJ9_min_7cf53 ∈ lw_tb) (hD : 1 ≤ D) (hf : ce ≤ mc ∧ sl ≤ ms) (hS : (S.map fun v => v.category).sum ≤ 8) (k : xm_Go E Z nL mc ms r ce sl (pc + 3) L (.int (imin x y) :: S) M) : xm_Go E Z nL mc ms r ce sl pc L (.int y :: .int x :: S) M := by
  intro H locs ls hW hF hl0
  obtain ⟨X, -, -, hR1, hR2, hR3, hR4⟩ := hY
  obtain ⟨hx, hbc, hml, hown, hts, hK, hlocks, hO, hxt, hsz⟩ := id X
  exact va_mmin hx hbc (by rw [hml]; exact hl0.1.symm) hown (hts _ hl) (hts _ (wq_at mw_9_0 5 rfl)) (hts _ (wq_at mw_9_0 6 rfl)) (hts _ (wq_at mw_9_0 4 rfl)) (by omega) (by rw [xm_cats]; omega) (by omega) (by omega) hd (k H locs ls hW hF hl0)
theorem xm_abs (hY : xm_Y E own nL cc rt ini D mc ms Z) {cp : Nat} {x : Int32} (hd : decode cc pc = .ok (.invokestatic cp, 3)) (hl : Cond.methodLink (xm_C own) cp yJ9_abs_0f7a4 ∈ lw_tb) (hD : 1 ≤ D) (hf : ce ≤ mc ∧ sl ≤ ms) (hS : (S.map fun v => v.category).sum ≤ 8) (k : xm_Go E Z nL mc ms r ce sl (pc + 3) L (.int (iabs x) :: S) M) : xm_Go E Z nL mc ms r ce sl pc L (.int x :: S) M := by
  intro H locs ls hW hF hl0
  obtain ⟨X, -, -, hR1, hR2, hR3, hR4⟩ := hY
  obtain ⟨hx, hbc, hml, hown, hts, hK, hlocks, hO, hxt, hsz⟩ := id X
  exact va_mabs hx hbc (by rw [hml]; exact hl0.1.symm) hown (hts _ hl) (hts _ (wq_at mw_9_0 1 rfl)) (hts _ (wq_at mw_9_0 6 rfl)) (hts _ (wq_at mw_9_0 0 rfl)) (by omega) (by rw [xm_cats]; omega) (by omega) (by omega) hd (k H locs ls hW hF hl0)
end XMM

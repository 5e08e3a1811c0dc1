/-! READING a text: states, pure steps; the reference's leaves -/
abbrev xS : Type := Except (Int32 × Nat) Nat
abbrev wd (x : Nat → Int32) (n b i : Nat) : Prop := tS x n b = 1 ∧ tE x n b - b = sx_n i ∧ ∀ j, j < sx_n i → x (b + j) = sx_c i j
/-- the word i stands next -/
def swd (x : Nat → Int32) (n i : Nat) : xS → Bool
  | .ok b => decide (wd x n b i)
  | .error _ => false
def sadv (x : Nat → Int32) (n : Nat) : xS → xS
  | .ok b => .ok (nxt x n b)
  | .error e => .error e
def sfail (c : Int32) : xS → xS
  | .ok b => .error (c, b)
  | .error e => .error e
/-- a number from u to w -/
def sfig (x : Nat → Int32) (n : Nat) (u w : Int32) : xS → Except (Int32 × Nat) (Int32 × Nat)
  | .ok b => if tS x n b = 2 then (if u ≤ tN x n b ∧ tN x n b ≤ w then .ok (tN x n b, nxt x n b) else .error (2, b)) else .error (1, b)
  | .error e => .error e
def spos : Except (Int32 × Nat) (Int32 × Nat) → xS
  | .ok q => .ok q.2
  | .error e => .error e
def sval : Except (Int32 × Nat) (Int32 × Nat) → Int32
  | .ok q => q.1
  | .error _ => 0
def send (x : Nat → Int32) (n : Nat) : xS → xS
  | .ok b => if tS x n b = 3 then .ok (nxt x n b) else .error (1, b)
  | .error e => .error e
def isOk : xS → Bool
  | .ok _ => true
  | .error _ => false
theorem ok_adv {x : Nat → Int32} {n : Nat} {s : xS} : isOk (sadv x n s) = isOk s := by cases s <;> rfl
theorem ok_fail {c : Int32} {s : xS} : isOk (sfail c s) = false := by cases s <;> rfl
theorem ok_fig {x : Nat → Int32} {n : Nat} {u w : Int32} {s : xS} (h : isOk (spos (sfig x n u w s)) = true) : isOk s = true ∧ u ≤ sval (sfig x n u w s) ∧ sval (sfig x n u w s) ≤ w := by
  cases s with
  | error e => exact Bool.noConfusion h
  | ok b =>
    unfold sfig at h ⊢
    by_cases h2 : tS x n b = 2
    · by_cases h3 : u ≤ tN x n b ∧ tN x n b ≤ w
      · simp only [if_pos h2, if_pos h3] at h ⊢
        exact ⟨rfl, h3.1, h3.2⟩
      · simp only [if_pos h2, if_neg h3] at h
        exact Bool.noConfusion h
    · simp only [if_neg h2] at h
      exact Bool.noConfusion h
theorem ok_end {x : Nat → Int32} {n : Nat} {s : xS} (h : isOk (send x n s) = true) : isOk s = true := by
  cases s with
  | error e => exact Bool.noConfusion h
  | ok b => rfl
/-- the reference's rows 278 and 280 laid -/
def RM (M : xm_M) (f t : Nat → Int32) : xm_M := rw1 (rw1 M 280 t) 278 f
theorem RM_st {M : xm_M} {f t : Nat → Int32} {j : Nat} {v : Int32} : xm_setI (RM M f t) 280 j v = RM M f (upd t j v) := by
  unfold RM xm_setI rw1
  congr 2
  funext b
  by_cases h : b = 280
  · subst h; rfl
  · by_cases h2 : b = 278
    · subst h2; rfl
    · simp only [h, h2, if_false]
/-- what the fields say of a state -/
def sq (x : Nat → Int32) (n : Nat) (f : Nat → Int32) : xS → Prop
  | .ok b => b ≤ n ∧ rdr x n f b ∧ f 12 = 0 ∧ f 13 = -1
  | .error e => f 12 = e.1 ∧ f 13 = nI e.2 ∧ e.1 ≠ 0
abbrev frS (f0 f : Nat → Int32) : Prop := ∀ j, (j < 8 ∨ 13 < j) → f j = f0 j
def SR (M : xm_M) (x : Nat → Int32) (n : Nat) (f0 t : Nat → Int32) (s : xS) (M1 : xm_M) : Prop := ∃ f, M1 = RM M f t ∧ frS f0 f ∧ sq x n f s
theorem xm_imp {E : xm_E} {l : Launch} {mt : xm_T4} {d mc ms : Nat} {As : List Value} {M : xm_M} {r1 r2 : Option Value → xm_M → Prop} (h : xm_Met E l mt d mc ms As M r1) (hi : ∀ v M1, r1 v M1 → r2 v M1) : xm_Met E l mt d mc ms As M r2 := by
  intro p e h1 h2 h3 s m args below h4 h5 h6 h7
  obtain ⟨n, o, k1, k2, k3, ⟨⟨v, M1, e1, e2, e3⟩, k5⟩, k6⟩ := h p e h1 h2 h3 s m args below h4 h5 h6 h7
  exact ⟨n, o, k1, k2, k3, ⟨⟨v, M1, e1, hi v M1 e2, e3⟩, k5⟩, k6⟩
section SJW
variable {E : xm_E} {Z : xm_Z} {own nL rt D mc ms ce sl pc : Nat} {ini : Bool} {cc : ByteArray} {r : Option Value → xm_M → Prop} {L S : List Value} {M : xm_M}
theorem xm_ldc (hY : xm_Y E own nL cc rt ini D mc ms Z) (hst : ∀ U, E.2.2.2.1 U → xst E U) {i k : Nat} (hi : i < 16) (ho : own = sx_own i) (hk : sx_k.getD i 0 = k) (hd : decode cc pc = .ok (.ldc k, 2)) (h : xm_Go E Z nL mc ms r ce sl (pc + 2) L (.ref (1001 + i) :: S) M) : xm_Go E Z nL mc ms r ce sl pc L S M := st_ldc hY.1 hst hi ho hk hd h
theorem xm_slenC (hY : xm_Y E own nL cc rt ini D mc ms Z) (hst : ∀ U, E.2.2.2.1 U → xst E U) {i cp : Nat} (hi : i < 16) (hd : decode cc pc = .ok (.invokevirtual cp, 3)) (hl : Cond.methodLink (xm_C own) cp yJ0_length_8abf5 ∈ lw_tb) (hD : 2 ≤ D) (hf : ce ≤ mc ∧ sl ≤ ms) (hS : (S.map fun v => v.category).sum ≤ 8) (h : xm_Go E Z nL mc ms r ce sl (pc + 3) L (.int (nI (sx_n i)) :: S) M) : xm_Go E Z nL mc ms r ce sl pc L (.ref (1001 + i) :: S) M :=
  xm_callVJ (As := []) hY.j hst hi hd hl mo_J0_length (sp_J0_length hst hi) rfl hD hf hS (fun v M1 q => by
    obtain ⟨rfl, rfl⟩ := q
    exact h)
theorem xm_scharC (hY : xm_Y E own nL cc rt ini D mc ms Z) (hst : ∀ U, E.2.2.2.1 U → xst E U) {i j cp : Nat} (hi : i < 16) (hj : j < sx_n i) (hd : decode cc pc = .ok (.invokevirtual cp, 3)) (hl : Cond.methodLink (xm_C own) cp yJ0_charAt_5068e ∈ lw_tb) (hD : 4 ≤ D) (hf : ce ≤ mc ∧ sl ≤ ms) (hS : (S.map fun v => v.category).sum ≤ 8) (h : xm_Go E Z nL mc ms r ce sl (pc + 3) L (.int (sx_c i j) :: S) M) : xm_Go E Z nL mc ms r ce sl pc L (.int (nI j) :: .ref (1001 + i) :: S) M :=
  xm_callVJ (As := [.int (nI j)]) hY.j hst hi hd hl mo_J0_charAt (sp_J0_charAt hst hi hj) rfl hD hf hS (fun v M1 q => by
    obtain ⟨rfl, rfl⟩ := q
    exact h)
end SJW
section RDR
variable {E : xm_E} {l : Launch} {M M1 : xm_M} {x f0 t : Nat → Int32} {n : Nat} {s : xS}
end RDR

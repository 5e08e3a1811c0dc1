/-! DOUBLES: a quotient of two ints is a number -/
def fe_ok (n : Nat) : Prop := n < 18446744073709551616 ∧ n % 9223372036854775808 ≤ 9218868437227405312
theorem fe_t : Jvm.FP.Core.Fmt.tails Jvm.FP.Core.b64 = 4503599627370496 := by decide +kernel
theorem fe_e : Jvm.FP.Core.Fmt.exps Jvm.FP.Core.b64 = 2048 := by decide +kernel
theorem fe_q : Jvm.FP.Core.Fmt.qmin Jvm.FP.Core.b64 = -1074 := by decide +kernel
theorem fe_m : Jvm.FP.Core.Fmt.qmax Jvm.FP.Core.b64 = 971 := by decide +kernel
theorem fe_fin {s : Bool} {c : Nat} {q : Int} (hc : c < 9007199254740992) (h1 : -1074 ≤ q) (h2 : q ≤ 971) : fe_ok (Jvm.FP.Core.encode Jvm.FP.Core.b64 (.fin s c q)) := by
  simp only [Jvm.FP.Core.encode, Jvm.FP.Core.assemble, fe_ok, fe_t, fe_e, fe_q]
  have hs : s.toNat = 0 ∨ s.toNat = 1 := by cases s <;> decide
  split
  · rcases hs with q2 | q2 <;> rw [q2] <;> omega
  · have h3 : (q - -1074).toNat ≤ 2045 := by omega
    generalize (q - -1074).toNat = k at h3 ⊢
    rcases hs with q2 | q2 <;> rw [q2] <;> omega
theorem fe_inf {s : Bool} : fe_ok (Jvm.FP.Core.encode Jvm.FP.Core.b64 (.inf s)) := by
  simp only [Jvm.FP.Core.encode, Jvm.FP.Core.assemble, fe_ok, fe_t, fe_e]
  cases s <;> decide
theorem fe_rr {s : Bool} {num den : Nat} {e : Int} : fe_ok (Jvm.FP.Core.encode Jvm.FP.Core.b64 (Jvm.FP.Core.roundRatio Jvm.FP.Core.b64 s num den e)) := by
  unfold Jvm.FP.Core.roundRatio
  split
  · rw [fe_q]
    exact fe_fin (by decide) (by decide) (by decide)
  · have hq : -1074 ≤ Jvm.FP.Core.quantum Jvm.FP.Core.b64 num den e := by
      unfold Jvm.FP.Core.quantum
      rw [fe_q]
      omega
    unfold Jvm.FP.Core.roundAt Jvm.FP.Core.settle Jvm.FP.Core.bound
    rw [fe_t, fe_m]
    generalize Jvm.FP.Core.quantum Jvm.FP.Core.b64 num den e = q at hq ⊢
    generalize Jvm.FP.Core.nearest _ _ = c
    have hp : (2 : Nat) ^ Jvm.FP.Core.b64.p = 9007199254740992 := by decide +kernel
    rw [hp]
    split
    · split
      · exact fe_fin (by assumption) hq (by assumption)
      · exact fe_inf
    · split
      · exact fe_fin (by decide) (by omega) (by assumption)
      · exact fe_inf
theorem fe_dec {n : Nat} (h : fe_ok n) : Jvm.FP.Core.decode Jvm.FP.Core.b64 n ≠ .nan := by
  obtain ⟨h1, h2⟩ := h
  unfold Jvm.FP.Core.decode Jvm.FP.Core.fieldE Jvm.FP.Core.fieldT
  rw [fe_t, fe_e]
  split
  · rw [if_pos (by omega)]
    exact fun q => by cases q
  · split <;> exact fun q => by cases q
theorem fe_quo {a b : Jvm.FP.Core.Datum} (ha : a ≠ .nan) (hb : ∃ t d r, b = .fin t d r ∧ d ≠ 0) : fe_ok (Jvm.FP.Core.encode Jvm.FP.Core.b64 (Jvm.FP.Core.quotient Jvm.FP.Core.b64 a b)) := by
  obtain ⟨t, d, r, rfl, hd⟩ := hb
  cases a with
  | nan => exact absurd rfl ha
  | inf s => exact fe_inf
  | fin s c q =>
    simp only [Jvm.FP.Core.quotient, if_neg hd]
    exact fe_rr
theorem fe_n64 {n : Nat} (h : fe_ok n) : vf_n64 (UInt64.ofNat n) := by
  obtain ⟨h1, h2⟩ := h
  have e : (UInt64.ofNat n).toNat = n := UInt64.toNat_ofNat_of_lt h1
  unfold vf_n64
  rw [UInt64.le_iff_toNat_le, UInt64.toNat_and, e]
  show n &&& (2 ^ 63 - 1) ≤ 9218868437227405312
  rw [Nat.and_two_pow_sub_one_eq_mod]
  exact h2
theorem fe_i2d (x : Int32) : fe_ok (Jvm.FP.Core.fromInt Jvm.FP.Core.b64 x.toInt) := fe_rr
def fe_good (n : Nat) : Bool := match Jvm.FP.Core.decode Jvm.FP.Core.b64 (Jvm.FP.Core.fromInt Jvm.FP.Core.b64 ((n : Int) + 1)) with
  | .fin _ d _ => decide (d ≠ 0)
  | _ => false
theorem fe_good60 : (List.range 60).all fe_good = true := by decide +kernel
theorem fe_den {n : Nat} (h1 : 1 ≤ n) (h2 : n ≤ 60) : ∃ t d r, Jvm.FP.Core.decode Jvm.FP.Core.b64 (Jvm.FP.Core.fromInt Jvm.FP.Core.b64 (n : Int)) = .fin t d r ∧ d ≠ 0 := by
  have h := List.all_eq_true.mp fe_good60 (n - 1) (List.mem_range.mpr (by omega))
  unfold fe_good at h
  rw [show (((n - 1 : Nat) : Int) + 1) = (n : Int) by omega] at h
  split at h
  · rename_i t d r heq
    exact ⟨t, d, r, heq, of_decide_eq_true h⟩
  · exact absurd h (by decide)
/-- a quotient of two ints, the second from 1 to 60 -/
theorem dq_ok {x : Int32} {n : Nat} (h1 : 1 ≤ n) (h2 : n ≤ 60) : vf_n64 (FP.ddiv (FP.i2d x) (FP.i2d (nI n))) := by
  have e1 : (FP.i2d x).toNat = Jvm.FP.Core.fromInt Jvm.FP.Core.b64 x.toInt := UInt64.toNat_ofNat_of_lt (fe_i2d x).1
  have e2 : (FP.i2d (nI n)).toNat = Jvm.FP.Core.fromInt Jvm.FP.Core.b64 (nI n).toInt := UInt64.toNat_ofNat_of_lt (fe_i2d (nI n)).1
  refine fe_n64 (n := Jvm.FP.Core.div Jvm.FP.Core.b64 (FP.i2d x).toNat (FP.i2d (nI n)).toNat) ?_
  unfold Jvm.FP.Core.div
  rw [e1, e2, tn (by omega)]
  exact fe_quo (fe_dec (fe_i2d x)) (fe_den h1 h2)
section XMD
variable {E : xm_E} {Z : xm_Z} {own nL rt D mc ms ce sl pc : Nat} {ini : Bool} {cc : ByteArray} {r : Option Value → xm_M → Prop} {L S : List Value} {M : xm_M}
theorem xm_ddiv (hY : xm_Y E own nL cc rt ini D mc ms Z) {x y : UInt64} (hd : decode cc pc = .ok (.ddiv, 1)) (hne : vf_n64 (FP.ddiv x y)) (k : xm_Go E Z nL mc ms r ce sl (pc + 1) L (.double (FP.ddiv x y) :: S) M) : xm_Go E Z nL mc ms r ce sl pc L (.double y :: .double x :: S) M := by
  intro H locs ls hW hF hl0
  obtain ⟨hx, hbc, -⟩ := hY.1
  exact lv_ddiv hx hbc hd hne (k H locs ls hW hF hl0)
end XMD

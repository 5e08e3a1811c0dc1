/-! THE REFERENCE's leaves: its rows are p at 279, told at 280, a at 281, aside at 282, text at 283, swings at 284 -/
def mR (M : xm_M) : Prop := 285 ≤ M.1 ∧ M.2.2 278 1 = .ref 279 ∧ M.2.2 278 2 = .ref 280 ∧ M.2.2 278 3 = .ref 281 ∧ M.2.2 278 4 = .ref 282 ∧ M.2.2 278 5 = .ref 283 ∧ M.2.2 278 14 = .ref 284
theorem mR.b {M : xm_M} (h : mR M) : 278 < M.1 ∧ 279 < M.1 ∧ 280 < M.1 ∧ 281 < M.1 ∧ 282 < M.1 ∧ 283 < M.1 ∧ 284 < M.1 := by
  have := h.1
  omega
def ilt (x y : Int32) : Int32 := if x < y then x else y
def igt (x y : Int32) : Int32 := if y < x then x else y
theorem ilt_min (x y : Int32) : ilt x y = imin x y := by
  unfold ilt imin
  by_cases h : x < y
  · rw [if_pos h, if_neg (fun q => by rw [tl] at h q; omega)]
  · rw [if_neg h]
    by_cases h2 : y < x
    · rw [if_pos h2]
    · rw [if_neg h2, tq]; rw [tl] at h h2; omega
theorem igt_max (x y : Int32) : igt x y = imax x y := by
  unfold igt imax
  by_cases h : x < y
  · rw [if_pos h, if_neg (fun q => by rw [tl] at h q; omega)]
  · rw [if_neg h]
    by_cases h2 : y < x
    · rw [if_pos h2]
    · rw [if_neg h2, tq]; rw [tl] at h h2; omega

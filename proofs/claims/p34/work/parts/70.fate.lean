theorem frB.mI {M M1 : xm_M} {B : Nat} {I' : xI} (h : frB M M1 B) (h2 : frL B M1.2.1 I') : frB M (mI M1 I') B := ⟨h.1, h.2.1.t h2, h.2.2⟩
theorem cM.lB {M : xm_M} {A B S U : Nat} (hC : cM M A B S U) (h : M.2.2 B 0 = .ref S) : lM M B S := by
  obtain ⟨hm0, ⟨eA, eB⟩, hSU, hq, hL, ⟨r8, r9, r10, r11, r12, r13, r14, ri⟩, hs1, hs2⟩ := hC
  have e287 : ly_m = 278 := rfl
  exact ⟨Or.inr eB, by omega, h, r8, r9, r10, r11, r12, r13, r14, ri⟩

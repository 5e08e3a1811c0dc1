/-! load: the class's -/
/-- references changed at some places -/
theorem cM.wr {M M1 : xm_M} {A B S U S' U' : Nat} (hC : cM M A B S U) (h1 : M1.1 = M.1) (hSU : (S' = S ∧ U' = U) ∨ (S' = U ∧ U' = S)) (hR : ∀ b j, ¬ (b = 18 ∧ j = 2) → ¬ (b = 0 ∧ (j = 4 ∨ j = 5)) → ¬ (b = A ∧ j = 0) → ¬ (b = 275 ∧ j = 0) → M1.2.2 b j = M.2.2 b j) (h4 : M1.2.2 0 4 = .ref S') (h5 : M1.2.2 0 5 = .ref U') (hA : M1.2.2 A 0 = .ref S') : cM M1 A B S' U' := by
  obtain ⟨hm0, ⟨eA, eB⟩, ⟨iS, iU, iSU⟩, ⟨q0, q4, q5, q6, q7, q8, q9⟩, ⟨r0, r8, r9, r10, r11, r12, r13, r14, ri⟩, ⟨b8, b9, b10, b11, b12, b13, b14, bi⟩, hs1, hs2⟩ := hC
  have hs : ∀ D, isS D → sS M.2.2 D → sS M1.2.2 D := fun D hD h => by
    have hb := hD.b
    obtain ⟨x1, x2, x3, x4, x5, x6, x7⟩ := h
    refine ⟨?_, ?_, ?_, ?_, ?_, ?_, ?_⟩ <;> rw [hR _ _ (by omega) (by omega) (by omega) (by omega)] <;> assumption
  have hsS' : isS S' ∧ isS U' ∧ S' ≠ U' ∧ sS M1.2.2 S' ∧ sS M1.2.2 U' := by
    rcases hSU with ⟨rfl, rfl⟩ | ⟨rfl, rfl⟩
    · exact ⟨iS, iU, iSU, hs _ iS hs1, hs _ iU hs2⟩
    · exact ⟨iU, iS, fun q => iSU q.symm, hs _ iU hs2, hs _ iS hs1⟩
  obtain ⟨z1, z2, z3, z4, z5⟩ := hsS'
  refine ⟨h1.trans hm0, ⟨eA, eB⟩, ⟨z1, z2, z3⟩, ⟨?_, h4, h5, ?_, ?_, ?_, ?_⟩, ⟨hA, ?_, ?_, ?_, ?_, ?_, ?_, ?_, fun i hi => ⟨?_, ?_⟩⟩, ⟨?_, ?_, ?_, ?_, ?_, ?_, ?_, fun i hi => ⟨?_, ?_⟩⟩, z4, z5⟩
  all_goals rw [hR _ _ (by omega) (by omega) (by omega) (by omega)]
  all_goals first | assumption | exact (ri i hi).1 | exact (ri i hi).2 | exact (bi i hi).1 | exact (bi i hi).2
theorem sM.u {M : xm_M} {A B S U : Nat} (h : cM M A B S U) : sM M U := by
  obtain ⟨h1, -, h3, -, -, -, -, h7⟩ := h
  have e : ly_m = 278 := rfl
  have := h3.2.1.b
  exact ⟨h3.2.1, by omega, h7⟩

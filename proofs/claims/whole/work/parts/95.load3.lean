/-! load: the class's -/
/-- references changed at some places -/
theorem cM.wr {M M1 : xm_M} {A B S U S' U' : Nat} (hC : cM M A B S U) (h1 : M1.1 = M.1) (hSU : (S' = S ∧ U' = U) ∨ (S' = U ∧ U' = S)) (hR : ∀ b j, ¬ (b = 18 ∧ j = 2) → ¬ (b = 0 ∧ (j = 4 ∨ j = 5)) → ¬ (b = A ∧ j = 0) → ¬ (b = 275 ∧ j = 0) → M1.2.2 b j = M.2.2 b j) (h4 : M1.2.2 0 4 = .ref S') (h5 : M1.2.2 0 5 = .ref U') (hA : M1.2.2 A 0 = .ref S') : cM M1 A B S' U' := by
  obtain ⟨hm0, ⟨eA, eB⟩, ⟨iS, iU, iSU⟩, ⟨q0, q4, q5, q6, q7, q8, q9⟩, ⟨r0, r8, r9, r10, r11, r12, r13, r14, ri⟩, ⟨b8, b9, b10, b11, b12, b13, b14, bi⟩, hs1, hs2⟩ := hC
  have hs : ∀ D, isS D → sS M.2.2 D → sS M1.2.2 D := fun D hD h => by
    have hb := hD.b
    obtain ⟨x1, x2, x3, x4, x5, x6, x7⟩ := h
    refine ⟨?_, ?_, ?_, ?_, ?_, ?_, ?_⟩ <;> rw [hR _ _ (by omega) (by omega) (by omega) (by omega)] <;> assumption
  have hsS' : isS S' ∧ isS U' ∧ S' ≠ U' ∧ sS M1.2.2 S' ∧ sS M1.2.2 U' := by
    rcases hSU with ⟨rfl, rfl⟩ | ⟨rfl, rfl⟩
    · exact ⟨iS, iU, iSU, hs _ iS hs1, hs _ iU hs2⟩
    · exact ⟨iU, iS, fun q => iSU q.symm, hs _ iU hs2, hs _ iS hs1⟩
  obtain ⟨z1, z2, z3, z4, z5⟩ := hsS'
  refine ⟨h1.trans hm0, ⟨eA, eB⟩, ⟨z1, z2, z3⟩, ⟨?_, h4, h5, ?_, ?_, ?_, ?_⟩, ⟨hA, ?_, ?_, ?_, ?_, ?_, ?_, ?_, fun i hi => ⟨?_, ?_⟩⟩, ⟨?_, ?_, ?_, ?_, ?_, ?_, ?_, fun i hi => ⟨?_, ?_⟩⟩, z4, z5⟩
  all_goals rw [hR _ _ (by omega) (by omega) (by omega) (by omega)]
  all_goals first | assumption | exact (ri i hi).1 | exact (ri i hi).2 | exact (bi i hi).1 | exact (bi i hi).2
/-- what the class's load leaves where the text is wrong -/
def ldW (M : xm_M) (S U : Nat) (e : Int32 × Nat) (M1 : xm_M) : Prop := M1.1 = M.1 ∧ (∀ b j, ¬ (b = 18 ∧ j = 2) → M1.2.2 b j = M.2.2 b j) ∧ (∀ b, b ≠ 0 → b ≠ 18 → ¬ (U ≤ b ∧ b < U + 8) → M1.2.1 b = M.2.1 b) ∧ M1.2.1 0 1 = 0 ∧ M1.2.1 0 2 = e.1 ∧ M1.2.1 0 3 = nI e.2
theorem sM.u {M : xm_M} {A B S U : Nat} (h : cM M A B S U) : sM M U := by
  obtain ⟨h1, -, h3, -, -, -, -, h7⟩ := h
  have e : ly_m = 287 := rfl
  have := h3.2.1.b
  exact ⟨h3.2.1, by omega, h7⟩
theorem cx_load {E : xm_E} {l : Launch} {M : xm_M} {A B S U n : Nat} {x t : Nat → Int32} {e : Int32 × Nat} (hls : l.stackTraces = false) (hxq : ∀ U, E.2.2.2.1 U → xq E.2.2.1 U) (hst : ∀ U, E.2.2.2.1 U → xst E U) (hC : cM M A B S U) (r18 : M.2.2 18 0 = .ref 1) (h1 : M.2.1 0 1 = nI n) (hn : n ≤ 500) (hx : ∀ k, k < n → M.2.1 1 k = x k) (hr : (rdA x n t).1 = .error e) : xm_MetXR E l mt_X6_load 9 1 6 [.ref 0] M "java/lang/IllegalArgumentException" (ldW M S U e) := by
  obtain ⟨hm0, b0, b275, b286, bA, bS, bB⟩ := hC.b
  obtain ⟨kA, kB, kS⟩ := kA1 hC
  obtain ⟨-, -, hSU, ⟨q0, q4, q5, q6, q7, q8, q9⟩, -⟩ := id hC
  have hbU := hSU.2.1.b
  have b18 : 18 < M.1 := by omega
  refine xm_metXR mo_X6_load (by simp [xm_j, Value.category]) (Nat.le_of_ble_eq_true rfl) (fun Z hl hY hex => ?_)
  subst hl
  (refine xm_runQ hY kc_X6_load [] 2 (fun J hJ0 hJ => ?_); simp only [xm_r0, Nat.reduceAdd, lb_X6_load_0, lb_X6_load_15, lb_X6_load_52, lb_X6_load_57, lb_X6_load_86, lb_X6_load_100, lb_X6_load_31, lb_X6_load_71, lb_X6_load_12, lb_X6_load_49, lb_X6_load_53, lb_X6_load_83, lb_X6_load_97, lb_X6_load_108]; simp only [kX6_load_0, kX6_load_15, kX6_load_52, kX6_load_57, kX6_load_86, kX6_load_100, kX6_load_31, kX6_load_71, xm_b, xm_i, xm_g, xm_s, xm_1, xi_bin, xi_div, xi_un, xi_il, xi_al, xi_is, xi_as, xi_inc, xi_cmp, xi_if, xi_nul, xi_rd, xi_get, xi_put, xi_ald, xi_sld, xi_iast, xi_bast, xi_last, xi_dast, xi_len, xi_slen, xi_lcmp, xi_dup, xi_dup2, xi_ret, xi_retv, xm_cnd, Value.category, true_and, and_true, List.cons_append, List.nil_append, List.replicate, List.length_cons, List.length_nil, Nat.reduceSub, Nat.reduceAdd, List.append_eq, BEq.rfl, if_true, if_false, ↓reduceIte, Nat.reduceEqDiff, Nat.reduceBEq, rI_R, rI_1, rR_I, rR_1, not_false_eq_true, not_true_eq_false, Nat.zero_add, reduceCtorEq, forall_const, Option.toList, List.append_nil, or_true, true_or, vpl, cll, Nat.reduceLT, false_implies, true_implies, implies_true, b0, k0, q6, q5, h1]; (try simp only [lb_X6_load_0, lb_X6_load_15, lb_X6_load_52, lb_X6_load_57, lb_X6_load_86, lb_X6_load_100, lb_X6_load_31, lb_X6_load_71, lb_X6_load_12, lb_X6_load_49, lb_X6_load_53, lb_X6_load_83, lb_X6_load_97, lb_X6_load_108, hJ, hJ0, xm_st, List.mem_cons, List.not_mem_nil, or_false, or_self, false_or, or_true, true_or, if_true, if_false, ↓reduceIte, Nat.reduceEqDiff]); (try simp only [kX6_load_0, kX6_load_15, kX6_load_52, kX6_load_57, kX6_load_86, kX6_load_100, kX6_load_31, kX6_load_71, xm_b, xm_i, xm_g, xm_s, xm_1, xi_bin, xi_div, xi_un, xi_il, xi_al, xi_is, xi_as, xi_inc, xi_cmp, xi_if, xi_nul, xi_rd, xi_get, xi_put, xi_ald, xi_sld, xi_iast, xi_bast, xi_last, xi_dast, xi_len, xi_slen, xi_lcmp, xi_dup, xi_dup2, xi_ret, xi_retv, xm_cnd, Value.category, true_and, and_true, List.cons_append, List.nil_append, List.replicate, List.length_cons, List.length_nil, Nat.reduceSub, Nat.reduceAdd, List.append_eq, BEq.rfl, if_true, if_false, ↓reduceIte, Nat.reduceEqDiff, Nat.reduceBEq, rI_R, rI_1, rR_I, rR_1, not_false_eq_true, not_true_eq_false, Nat.zero_add, reduceCtorEq, forall_const, Option.toList, List.append_nil, or_true, true_or, vpl, cll, Nat.reduceLT, false_implies, true_implies, implies_true, b0, k0, q6, q5, h1]); (try clear hJ hJ0 J))
  refine xm_vqr2 hY (d := 8) (by decide +kernel) lk_6_77 mo_X2_read (by decide) (sp_X2_read (t := t) hst hm0 r18 (sM.u hC) hx hn) b18 k18 rfl (by decide) ⟨by decide, by decide⟩ (by simp [Value.category]) (fun v9 M9 h9 => ?_)
  obtain ⟨rfl, g1, ⟨f1, fR, fI⟩, ⟨-, hq⟩, -⟩ := h9
  rw [hr] at hq
  obtain ⟨z7, z8, z0, -, -⟩ := hq
  have wR : ∀ b j, ¬ (b = 18 ∧ j = 2) → M9.2.2 b j = M.2.2 b j := fun b j hj => by
    rw [fR]
    show (if b = 18 then updV (M.2.2 18) 2 (.ref U) else M.2.2 b) j = _
    by_cases hb : b = 18
    · subst hb
      rw [if_pos rfl]
      have : j ≠ 2 := fun q => hj ⟨rfl, q⟩
      simp [updV, this]
    · rw [if_neg hb]
  have f1 : M9.1 = M.1 := f1
  have fI : ∀ b, b ≠ 18 → ¬ (U ≤ b ∧ b < U + 8) → M9.2.1 b = M.2.1 b := fI
  have p0 : 0 < M9.1 := by omega
  have p18 : 18 < M9.1 := by omega
  have p6 : M9.2.2 0 6 = .ref 18 := (wR 0 6 (by omega)).trans q6
  have hne : (e.1 = 0) = False := eq_false z0
  (refine xm_runQ hY kc_X6_load [49] 3 (fun J hJ0 hJ => ?_); simp only [xm_r0, Nat.reduceAdd, lb_X6_load_0, lb_X6_load_15, lb_X6_load_52, lb_X6_load_57, lb_X6_load_86, lb_X6_load_100, lb_X6_load_31, lb_X6_load_71, lb_X6_load_12, lb_X6_load_49, lb_X6_load_53, lb_X6_load_83, lb_X6_load_97, lb_X6_load_108]; simp only [kX6_load_0, kX6_load_15, kX6_load_52, kX6_load_57, kX6_load_86, kX6_load_100, kX6_load_31, kX6_load_71, xm_b, xm_i, xm_g, xm_s, xm_1, xi_bin, xi_div, xi_un, xi_il, xi_al, xi_is, xi_as, xi_inc, xi_cmp, xi_if, xi_nul, xi_rd, xi_get, xi_put, xi_ald, xi_sld, xi_iast, xi_bast, xi_last, xi_dast, xi_len, xi_slen, xi_lcmp, xi_dup, xi_dup2, xi_ret, xi_retv, xm_cnd, Value.category, true_and, and_true, List.cons_append, List.nil_append, List.replicate, List.length_cons, List.length_nil, Nat.reduceSub, Nat.reduceAdd, List.append_eq, BEq.rfl, if_true, if_false, ↓reduceIte, Nat.reduceEqDiff, Nat.reduceBEq, rI_R, rI_1, rR_I, rR_1, not_false_eq_true, not_true_eq_false, Nat.zero_add, reduceCtorEq, forall_const, Option.toList, List.append_nil, or_true, true_or, vpl, cll, Nat.reduceLT, false_implies, true_implies, implies_true, p0, k0, p6, p18, k18, set_mI, mI_mI, mI_I, mI_R, mI_1, mI_set, st_g, z7, false_and, and_false, hne]; (try simp only [lb_X6_load_0, lb_X6_load_15, lb_X6_load_52, lb_X6_load_57, lb_X6_load_86, lb_X6_load_100, lb_X6_load_31, lb_X6_load_71, lb_X6_load_12, lb_X6_load_49, lb_X6_load_53, lb_X6_load_83, lb_X6_load_97, lb_X6_load_108, hJ, hJ0, xm_st, List.mem_cons, List.not_mem_nil, or_false, or_self, false_or, or_true, true_or, if_true, if_false, ↓reduceIte, Nat.reduceEqDiff]); (try simp only [kX6_load_0, kX6_load_15, kX6_load_52, kX6_load_57, kX6_load_86, kX6_load_100, kX6_load_31, kX6_load_71, xm_b, xm_i, xm_g, xm_s, xm_1, xi_bin, xi_div, xi_un, xi_il, xi_al, xi_is, xi_as, xi_inc, xi_cmp, xi_if, xi_nul, xi_rd, xi_get, xi_put, xi_ald, xi_sld, xi_iast, xi_bast, xi_last, xi_dast, xi_len, xi_slen, xi_lcmp, xi_dup, xi_dup2, xi_ret, xi_retv, xm_cnd, Value.category, true_and, and_true, List.cons_append, List.nil_append, List.replicate, List.length_cons, List.length_nil, Nat.reduceSub, Nat.reduceAdd, List.append_eq, BEq.rfl, if_true, if_false, ↓reduceIte, Nat.reduceEqDiff, Nat.reduceBEq, rI_R, rI_1, rR_I, rR_1, not_false_eq_true, not_true_eq_false, Nat.zero_add, reduceCtorEq, forall_const, Option.toList, List.append_nil, or_true, true_or, vpl, cll, Nat.reduceLT, false_implies, true_implies, implies_true, p0, k0, p6, p18, k18, set_mI, mI_mI, mI_I, mI_R, mI_1, mI_set, st_g, z7, false_and, and_false, hne]); (try simp only [lb_X6_load_0, lb_X6_load_15, lb_X6_load_52, lb_X6_load_57, lb_X6_load_86, lb_X6_load_100, lb_X6_load_31, lb_X6_load_71, lb_X6_load_12, lb_X6_load_49, lb_X6_load_53, lb_X6_load_83, lb_X6_load_97, lb_X6_load_108, hJ, hJ0, xm_st, List.mem_cons, List.not_mem_nil, or_false, or_self, false_or, or_true, true_or, if_true, if_false, ↓reduceIte, Nat.reduceEqDiff]); (try simp only [kX6_load_0, kX6_load_15, kX6_load_52, kX6_load_57, kX6_load_86, kX6_load_100, kX6_load_31, kX6_load_71, xm_b, xm_i, xm_g, xm_s, xm_1, xi_bin, xi_div, xi_un, xi_il, xi_al, xi_is, xi_as, xi_inc, xi_cmp, xi_if, xi_nul, xi_rd, xi_get, xi_put, xi_ald, xi_sld, xi_iast, xi_bast, xi_last, xi_dast, xi_len, xi_slen, xi_lcmp, xi_dup, xi_dup2, xi_ret, xi_retv, xm_cnd, Value.category, true_and, and_true, List.cons_append, List.nil_append, List.replicate, List.length_cons, List.length_nil, Nat.reduceSub, Nat.reduceAdd, List.append_eq, BEq.rfl, if_true, if_false, ↓reduceIte, Nat.reduceEqDiff, Nat.reduceBEq, rI_R, rI_1, rR_I, rR_1, not_false_eq_true, not_true_eq_false, Nat.zero_add, reduceCtorEq, forall_const, Option.toList, List.append_nil, or_true, true_or, vpl, cll, Nat.reduceLT, false_implies, true_implies, implies_true, p0, k0, p6, p18, k18, set_mI, mI_mI, mI_I, mI_R, mI_1, mI_set, st_g, z7, false_and, and_false, hne]); (try clear hJ hJ0 J))
  refine xm_QX_R (M1 := mI M9 (st (st (st M9.2.1 0 1 0) 0 2 e.1) 0 3 (M9.2.1 18 8))) ⟨f1, fun b j hj => wR b j hj, fun b c1 c2 c3 => ?_, ?_, ?_, ?_⟩ ?_
  · show st (st (st M9.2.1 0 1 0) 0 2 e.1) 0 3 (M9.2.1 18 8) b = _
    rw [st_o c1, st_o c1, st_o c1]
    exact fI b c2 c3
  · rfl
  · rfl
  · exact z8
  · have hm0 : (mI M9 (st (st (st M9.2.1 0 1 0) 0 2 e.1) 0 3 (M9.2.1 18 8))).1 = ly_m := f1.trans hm0
    exact xm_IAE hY hex hls hxq (by decide +kernel) (by decide +kernel) (by decide +kernel) (by decide +kernel) (by decide) (by decide) (by decide) hm0

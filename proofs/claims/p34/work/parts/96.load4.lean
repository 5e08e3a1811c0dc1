/-! load: the class's, where the text is right -/
/-- what it leaves, told row t, other setup U -/
def ldC (M : xm_M) (A B S U : Nat) (t a : Nat → Int32) (M1 : xm_M) : Prop := M1.1 = M.1 ∧ (∀ b, 276 ≤ b → M1.2.2 b = M.2.2 b) ∧ (∀ b, 278 ≤ b → M1.2.1 b = M.2.1 b) ∧ cM M1 A B U S ∧ M1.2.2 18 0 = .ref 1 ∧ tM M1 U ∧ (M1.2.1 0 1 = 0 ∧ M1.2.1 0 2 = 0 ∧ M1.2.1 0 3 = -1) ∧ DR M1.2.1 U t ∧ (M1.2.1 275 1 = 0 ∧ ∀ k, k < 61 → M1.2.1 277 k = -1) ∧ lR M1.2.1 A (a0F a t) 0 0 0 (fun _ => ((0 + 1 : Nat) : Int)) True 0 0
theorem rs_g {M : xm_M} {a j b k : Nat} {v : Value} : (xm_setR M a j v).2.2 b k = if b = a ∧ k = j then v else M.2.2 b k := by
  show (if b = a then updV (M.2.2 a) j v else M.2.2 b) k = _
  by_cases hb : b = a
  · subst hb
    rw [if_pos rfl]
    unfold updV
    by_cases hk : k = j
    · rw [if_pos hk, if_pos ⟨rfl, hk⟩]
    · rw [if_neg hk, if_neg (fun q => hk q.2)]
  · rw [if_neg hb, if_neg (fun q => hb q.1)]
theorem cq_load {E : xm_E} {l : Launch} {M : xm_M} {A B S U n : Nat} {x t a : Nat → Int32} (hst : ∀ U, E.2.2.2.1 U → xst E U) (hC : cM M A B S U) (r18 : M.2.2 18 0 = .ref 1) (ht : tM M S) (h1 : M.2.1 0 1 = nI n) (hn : n ≤ 500) (hx : ∀ k, k < n → M.2.1 1 k = x k) (hr : isOk (rdA x n t).1 = true) : xm_Met E l mt_X6_load 9 0 0 [.ref 0] M (fun v M1 => v = some (.int ((rdA x n t).2 5)) ∧ ldC M A B S U (rdA x n t).2 a M1) := by
  obtain ⟨hm0, b0, b275, b286, bA, bS, bB⟩ := hC.b
  obtain ⟨kA, kB, kS⟩ := kA1 hC
  obtain ⟨-, hAB, hSU, ⟨q0, q4, q5, q6, q7, q8, q9⟩, hlS, -⟩ := id hC
  obtain ⟨rfl, rfl⟩ := hAB
  have hbU := hSU.2.1.b
  have kU := hSU.2.1.k.1
  have b18 : 18 < M.1 := by omega
  obtain ⟨t0, t2, t3⟩ := ht
  refine xm_met mo_X6_load (by simp [xm_j, Value.category]) (Nat.le_of_ble_eq_true rfl) (fun Z hl hY => ?_); subst hl
  (refine xm_run hY kc_X6_load [] 2 (fun J hJ0 hJ => ?_); simp only [xm_r0, Nat.reduceAdd, lb_X6_load_0, lb_X6_load_15, lb_X6_load_52, lb_X6_load_57, lb_X6_load_86, lb_X6_load_100, lb_X6_load_31, lb_X6_load_71, lb_X6_load_12, lb_X6_load_49, lb_X6_load_53, lb_X6_load_83, lb_X6_load_97, lb_X6_load_108]; simp only [kX6_load_0, kX6_load_15, kX6_load_52, kX6_load_57, kX6_load_86, kX6_load_100, kX6_load_31, kX6_load_71, xm_b, xm_i, xm_g, xm_s, xm_1, xi_bin, xi_div, xi_un, xi_il, xi_al, xi_is, xi_as, xi_inc, xi_cmp, xi_if, xi_nul, xi_rd, xi_get, xi_put, xi_ald, xi_sld, xi_iast, xi_bast, xi_last, xi_dast, xi_len, xi_slen, xi_lcmp, xi_dup, xi_dup2, xi_ret, xi_retv, xm_cnd, Value.category, true_and, and_true, List.cons_append, List.nil_append, List.replicate, List.length_cons, List.length_nil, Nat.reduceSub, Nat.reduceAdd, List.append_eq, BEq.rfl, if_true, if_false, ↓reduceIte, Nat.reduceEqDiff, Nat.reduceBEq, rI_R, rI_1, rR_I, rR_1, not_false_eq_true, not_true_eq_false, Nat.zero_add, reduceCtorEq, forall_const, Option.toList, List.append_nil, or_true, true_or, vpl, cll, Nat.reduceLT, false_implies, true_implies, implies_true, b0, k0, q6, q5, h1]; (try simp only [lb_X6_load_0, lb_X6_load_15, lb_X6_load_52, lb_X6_load_57, lb_X6_load_86, lb_X6_load_100, lb_X6_load_31, lb_X6_load_71, lb_X6_load_12, lb_X6_load_49, lb_X6_load_53, lb_X6_load_83, lb_X6_load_97, lb_X6_load_108, hJ, hJ0, xm_st, List.mem_cons, List.not_mem_nil, or_false, or_self, false_or, or_true, true_or, if_true, if_false, ↓reduceIte, Nat.reduceEqDiff]); (try simp only [kX6_load_0, kX6_load_15, kX6_load_52, kX6_load_57, kX6_load_86, kX6_load_100, kX6_load_31, kX6_load_71, xm_b, xm_i, xm_g, xm_s, xm_1, xi_bin, xi_div, xi_un, xi_il, xi_al, xi_is, xi_as, xi_inc, xi_cmp, xi_if, xi_nul, xi_rd, xi_get, xi_put, xi_ald, xi_sld, xi_iast, xi_bast, xi_last, xi_dast, xi_len, xi_slen, xi_lcmp, xi_dup, xi_dup2, xi_ret, xi_retv, xm_cnd, Value.category, true_and, and_true, List.cons_append, List.nil_append, List.replicate, List.length_cons, List.length_nil, Nat.reduceSub, Nat.reduceAdd, List.append_eq, BEq.rfl, if_true, if_false, ↓reduceIte, Nat.reduceEqDiff, Nat.reduceBEq, rI_R, rI_1, rR_I, rR_1, not_false_eq_true, not_true_eq_false, Nat.zero_add, reduceCtorEq, forall_const, Option.toList, List.append_nil, or_true, true_or, vpl, cll, Nat.reduceLT, false_implies, true_implies, implies_true, b0, k0, q6, q5, h1]); (try clear hJ hJ0 J))
  refine xm_vr2 hY (d := 8) (by decide +kernel) lk_6_77 mo_X2_read (by decide) (sp_X2_read (t := t) hst hm0 r18 (sM.u hC) hx hn) b18 k18 rfl (by decide) ⟨by decide, by decide⟩ (by simp [Value.category]) (fun v9 M9 h9 => ?_)
  obtain ⟨rfl, g1, ⟨f1, fR, fI⟩, ⟨-, hq⟩, td, hdr, htd⟩ := h9
  have htd := htd hr
  subst htd
  generalize (rdA x n t).2 = td at hdr ⊢
  have hq7 : M9.2.1 18 7 = 0 ∧ M9.2.1 18 8 = -1 := by
    cases h : (rdA x n t).1 with
    | error e => rw [h] at hr; exact Bool.noConfusion hr
    | ok b => rw [h] at hq; exact ⟨hq.2.2.1, hq.2.2.2⟩
  obtain ⟨z7, z8⟩ := hq7
  have wR : ∀ b j, ¬ (b = 18 ∧ j = 2) → M9.2.2 b j = M.2.2 b j := fun b j hj => by
    rw [fR]
    show (if b = 18 then updV (M.2.2 18) 2 (.ref U) else M.2.2 b) j = _
    by_cases hb : b = 18
    · subst hb
      rw [if_pos rfl]
      have : j ≠ 2 := fun q => hj ⟨rfl, q⟩
      simp [updV, this]
    · rw [if_neg hb]
  have f1 : M9.1 = M.1 := f1
  have fI : ∀ b, b ≠ 18 → ¬ (U ≤ b ∧ b < U + 8) → M9.2.1 b = M.2.1 b := fI
  have p0 : 0 < M9.1 := by omega
  have p18 : 18 < M9.1 := by omega
  have p6 : M9.2.2 0 6 = .ref 18 := (wR 0 6 (by omega)).trans q6
  (refine xm_run hY kc_X6_load [57] 3 (fun J hJ0 hJ => ?_); simp only [xm_r0, Nat.reduceAdd, lb_X6_load_0, lb_X6_load_15, lb_X6_load_52, lb_X6_load_57, lb_X6_load_86, lb_X6_load_100, lb_X6_load_31, lb_X6_load_71, lb_X6_load_12, lb_X6_load_49, lb_X6_load_53, lb_X6_load_83, lb_X6_load_97, lb_X6_load_108]; simp only [kX6_load_0, kX6_load_15, kX6_load_52, kX6_load_57, kX6_load_86, kX6_load_100, kX6_load_31, kX6_load_71, xm_b, xm_i, xm_g, xm_s, xm_1, xi_bin, xi_div, xi_un, xi_il, xi_al, xi_is, xi_as, xi_inc, xi_cmp, xi_if, xi_nul, xi_rd, xi_get, xi_put, xi_ald, xi_sld, xi_iast, xi_bast, xi_last, xi_dast, xi_len, xi_slen, xi_lcmp, xi_dup, xi_dup2, xi_ret, xi_retv, xm_cnd, Value.category, true_and, and_true, List.cons_append, List.nil_append, List.replicate, List.length_cons, List.length_nil, Nat.reduceSub, Nat.reduceAdd, List.append_eq, BEq.rfl, if_true, if_false, ↓reduceIte, Nat.reduceEqDiff, Nat.reduceBEq, rI_R, rI_1, rR_I, rR_1, not_false_eq_true, not_true_eq_false, Nat.zero_add, reduceCtorEq, forall_const, Option.toList, List.append_nil, or_true, true_or, vpl, cll, Nat.reduceLT, false_implies, true_implies, implies_true, p0, k0, p6, p18, k18, set_mI, mI_mI, mI_I, mI_R, mI_1, mI_set, st_g, z7, false_and, and_false]; (try simp only [lb_X6_load_0, lb_X6_load_15, lb_X6_load_52, lb_X6_load_57, lb_X6_load_86, lb_X6_load_100, lb_X6_load_31, lb_X6_load_71, lb_X6_load_12, lb_X6_load_49, lb_X6_load_53, lb_X6_load_83, lb_X6_load_97, lb_X6_load_108, hJ, hJ0, xm_st, List.mem_cons, List.not_mem_nil, or_false, or_self, false_or, or_true, true_or, if_true, if_false, ↓reduceIte, Nat.reduceEqDiff]); (try simp only [kX6_load_0, kX6_load_15, kX6_load_52, kX6_load_57, kX6_load_86, kX6_load_100, kX6_load_31, kX6_load_71, xm_b, xm_i, xm_g, xm_s, xm_1, xi_bin, xi_div, xi_un, xi_il, xi_al, xi_is, xi_as, xi_inc, xi_cmp, xi_if, xi_nul, xi_rd, xi_get, xi_put, xi_ald, xi_sld, xi_iast, xi_bast, xi_last, xi_dast, xi_len, xi_slen, xi_lcmp, xi_dup, xi_dup2, xi_ret, xi_retv, xm_cnd, Value.category, true_and, and_true, List.cons_append, List.nil_append, List.replicate, List.length_cons, List.length_nil, Nat.reduceSub, Nat.reduceAdd, List.append_eq, BEq.rfl, if_true, if_false, ↓reduceIte, Nat.reduceEqDiff, Nat.reduceBEq, rI_R, rI_1, rR_I, rR_1, not_false_eq_true, not_true_eq_false, Nat.zero_add, reduceCtorEq, forall_const, Option.toList, List.append_nil, or_true, true_or, vpl, cll, Nat.reduceLT, false_implies, true_implies, implies_true, p0, k0, p6, p18, k18, set_mI, mI_mI, mI_I, mI_R, mI_1, mI_set, st_g, z7, false_and, and_false]); (try simp only [lb_X6_load_0, lb_X6_load_15, lb_X6_load_52, lb_X6_load_57, lb_X6_load_86, lb_X6_load_100, lb_X6_load_31, lb_X6_load_71, lb_X6_load_12, lb_X6_load_49, lb_X6_load_53, lb_X6_load_83, lb_X6_load_97, lb_X6_load_108, hJ, hJ0, xm_st, List.mem_cons, List.not_mem_nil, or_false, or_self, false_or, or_true, true_or, if_true, if_false, ↓reduceIte, Nat.reduceEqDiff]); (try simp only [kX6_load_0, kX6_load_15, kX6_load_52, kX6_load_57, kX6_load_86, kX6_load_100, kX6_load_31, kX6_load_71, xm_b, xm_i, xm_g, xm_s, xm_1, xi_bin, xi_div, xi_un, xi_il, xi_al, xi_is, xi_as, xi_inc, xi_cmp, xi_if, xi_nul, xi_rd, xi_get, xi_put, xi_ald, xi_sld, xi_iast, xi_bast, xi_last, xi_dast, xi_len, xi_slen, xi_lcmp, xi_dup, xi_dup2, xi_ret, xi_retv, xm_cnd, Value.category, true_and, and_true, List.cons_append, List.nil_append, List.replicate, List.length_cons, List.length_nil, Nat.reduceSub, Nat.reduceAdd, List.append_eq, BEq.rfl, if_true, if_false, ↓reduceIte, Nat.reduceEqDiff, Nat.reduceBEq, rI_R, rI_1, rR_I, rR_1, not_false_eq_true, not_true_eq_false, Nat.zero_add, reduceCtorEq, forall_const, Option.toList, List.append_nil, or_true, true_or, vpl, cll, Nat.reduceLT, false_implies, true_implies, implies_true, p0, k0, p6, p18, k18, set_mI, mI_mI, mI_I, mI_R, mI_1, mI_set, st_g, z7, false_and, and_false]); (try clear hJ hJ0 J))
  generalize hJ : st (st (st M9.2.1 0 1 0) 0 2 0) 0 3 (M9.2.1 18 8) = J
  have j0 : ∀ b, b ≠ 0 → J b = M9.2.1 b := fun b hb => by rw [← hJ, st_o hb, st_o hb, st_o hb]
  have j1 : J 0 1 = 0 := by rw [← hJ]; rfl
  have j2 : J 0 2 = 0 := by rw [← hJ]; rfl
  have j3 : J 0 3 = -1 := by rw [← hJ]; exact z8
  clear hJ
  have p4 : M9.2.2 0 4 = .ref S := (wR 0 4 (by omega)).trans q4
  have p5 : M9.2.2 0 5 = .ref U := (wR 0 5 (by omega)).trans q5
  have p7 : M9.2.2 0 7 = .ref 19 := (wR 0 7 (by omega)).trans q7
  (refine xm_run hY kc_X6_load [71] 2 (fun J hJ0 hJ => ?_); simp only [xm_r0, Nat.reduceAdd, lb_X6_load_0, lb_X6_load_15, lb_X6_load_52, lb_X6_load_57, lb_X6_load_86, lb_X6_load_100, lb_X6_load_31, lb_X6_load_71, lb_X6_load_12, lb_X6_load_49, lb_X6_load_53, lb_X6_load_83, lb_X6_load_97, lb_X6_load_108]; simp only [kX6_load_0, kX6_load_15, kX6_load_52, kX6_load_57, kX6_load_86, kX6_load_100, kX6_load_31, kX6_load_71, xm_b, xm_i, xm_g, xm_s, xm_1, xi_bin, xi_div, xi_un, xi_il, xi_al, xi_is, xi_as, xi_inc, xi_cmp, xi_if, xi_nul, xi_rd, xi_get, xi_put, xi_ald, xi_sld, xi_iast, xi_bast, xi_last, xi_dast, xi_len, xi_slen, xi_lcmp, xi_dup, xi_dup2, xi_ret, xi_retv, xm_cnd, Value.category, true_and, and_true, List.cons_append, List.nil_append, List.replicate, List.length_cons, List.length_nil, Nat.reduceSub, Nat.reduceAdd, List.append_eq, BEq.rfl, if_true, if_false, ↓reduceIte, Nat.reduceEqDiff, Nat.reduceBEq, rI_R, rI_1, rR_I, rR_1, not_false_eq_true, not_true_eq_false, Nat.zero_add, reduceCtorEq, forall_const, Option.toList, List.append_nil, or_true, true_or, vpl, cll, Nat.reduceLT, false_implies, true_implies, implies_true, p0, k0, mI_I, mI_R, mI_1, mI_set, p4, p5]; (try simp only [lb_X6_load_0, lb_X6_load_15, lb_X6_load_52, lb_X6_load_57, lb_X6_load_86, lb_X6_load_100, lb_X6_load_31, lb_X6_load_71, lb_X6_load_12, lb_X6_load_49, lb_X6_load_53, lb_X6_load_83, lb_X6_load_97, lb_X6_load_108, hJ, hJ0, xm_st, List.mem_cons, List.not_mem_nil, or_false, or_self, false_or, or_true, true_or, if_true, if_false, ↓reduceIte, Nat.reduceEqDiff]); (try simp only [kX6_load_0, kX6_load_15, kX6_load_52, kX6_load_57, kX6_load_86, kX6_load_100, kX6_load_31, kX6_load_71, xm_b, xm_i, xm_g, xm_s, xm_1, xi_bin, xi_div, xi_un, xi_il, xi_al, xi_is, xi_as, xi_inc, xi_cmp, xi_if, xi_nul, xi_rd, xi_get, xi_put, xi_ald, xi_sld, xi_iast, xi_bast, xi_last, xi_dast, xi_len, xi_slen, xi_lcmp, xi_dup, xi_dup2, xi_ret, xi_retv, xm_cnd, Value.category, true_and, and_true, List.cons_append, List.nil_append, List.replicate, List.length_cons, List.length_nil, Nat.reduceSub, Nat.reduceAdd, List.append_eq, BEq.rfl, if_true, if_false, ↓reduceIte, Nat.reduceEqDiff, Nat.reduceBEq, rI_R, rI_1, rR_I, rR_1, not_false_eq_true, not_true_eq_false, Nat.zero_add, reduceCtorEq, forall_const, Option.toList, List.append_nil, or_true, true_or, vpl, cll, Nat.reduceLT, false_implies, true_implies, implies_true, p0, k0, mI_I, mI_R, mI_1, mI_set, p4, p5]); (try clear hJ hJ0 J))
  (refine xm_run hY kc_X6_load [] 2 (fun J hJ0 hJ => ?_); simp only [xm_r0, Nat.reduceAdd, lb_X6_load_0, lb_X6_load_15, lb_X6_load_52, lb_X6_load_57, lb_X6_load_86, lb_X6_load_100, lb_X6_load_31, lb_X6_load_71, lb_X6_load_12, lb_X6_load_49, lb_X6_load_53, lb_X6_load_83, lb_X6_load_97, lb_X6_load_108]; simp only [kX6_load_0, kX6_load_15, kX6_load_52, kX6_load_57, kX6_load_86, kX6_load_100, kX6_load_31, kX6_load_71, xm_b, xm_i, xm_g, xm_s, xm_1, xi_bin, xi_div, xi_un, xi_il, xi_al, xi_is, xi_as, xi_inc, xi_cmp, xi_if, xi_nul, xi_rd, xi_get, xi_put, xi_ald, xi_sld, xi_iast, xi_bast, xi_last, xi_dast, xi_len, xi_slen, xi_lcmp, xi_dup, xi_dup2, xi_ret, xi_retv, xm_cnd, Value.category, true_and, and_true, List.cons_append, List.nil_append, List.replicate, List.length_cons, List.length_nil, Nat.reduceSub, Nat.reduceAdd, List.append_eq, BEq.rfl, if_true, if_false, ↓reduceIte, Nat.reduceEqDiff, Nat.reduceBEq, rI_R, rI_1, rR_I, rR_1, not_false_eq_true, not_true_eq_false, Nat.zero_add, reduceCtorEq, forall_const, Option.toList, List.append_nil, or_true, true_or, vpl, cll, Nat.reduceLT, false_implies, true_implies, implies_true, p0, k0, mI_I, mI_R, mI_1, mI_set, rs_g, p4, p5, p7, false_and, and_false, and_self]; (try simp only [lb_X6_load_0, lb_X6_load_15, lb_X6_load_52, lb_X6_load_57, lb_X6_load_86, lb_X6_load_100, lb_X6_load_31, lb_X6_load_71, lb_X6_load_12, lb_X6_load_49, lb_X6_load_53, lb_X6_load_83, lb_X6_load_97, lb_X6_load_108, hJ, hJ0, xm_st, List.mem_cons, List.not_mem_nil, or_false, or_self, false_or, or_true, true_or, if_true, if_false, ↓reduceIte, Nat.reduceEqDiff]); (try simp only [kX6_load_0, kX6_load_15, kX6_load_52, kX6_load_57, kX6_load_86, kX6_load_100, kX6_load_31, kX6_load_71, xm_b, xm_i, xm_g, xm_s, xm_1, xi_bin, xi_div, xi_un, xi_il, xi_al, xi_is, xi_as, xi_inc, xi_cmp, xi_if, xi_nul, xi_rd, xi_get, xi_put, xi_ald, xi_sld, xi_iast, xi_bast, xi_last, xi_dast, xi_len, xi_slen, xi_lcmp, xi_dup, xi_dup2, xi_ret, xi_retv, xm_cnd, Value.category, true_and, and_true, List.cons_append, List.nil_append, List.replicate, List.length_cons, List.length_nil, Nat.reduceSub, Nat.reduceAdd, List.append_eq, BEq.rfl, if_true, if_false, ↓reduceIte, Nat.reduceEqDiff, Nat.reduceBEq, rI_R, rI_1, rR_I, rR_1, not_false_eq_true, not_true_eq_false, Nat.zero_add, reduceCtorEq, forall_const, Option.toList, List.append_nil, or_true, true_or, vpl, cll, Nat.reduceLT, false_implies, true_implies, implies_true, p0, k0, mI_I, mI_R, mI_1, mI_set, rs_g, p4, p5, p7, false_and, and_false, and_self]); (try clear hJ hJ0 J))
  generalize hW : xm_setR (xm_setR (mI M9 J) 0 4 (.ref U)) 0 5 (.ref S) = W
  have w1 : W.1 = M.1 := by rw [← hW]; exact f1
  have wI : W.2.1 = J := by rw [← hW]; rfl
  have w4 : W.2.2 0 4 = .ref U := by rw [← hW, rs_g, if_neg (by omega), rs_g, if_pos ⟨rfl, rfl⟩]
  have w5 : W.2.2 0 5 = .ref S := by rw [← hW, rs_g, if_pos ⟨rfl, rfl⟩]
  have wo : ∀ b j, ¬ (b = 18 ∧ j = 2) → ¬ (b = 0 ∧ (j = 4 ∨ j = 5)) → W.2.2 b j = M.2.2 b j := fun b j h1 h2 => by
    rw [← hW, rs_g, if_neg (by omega), rs_g, if_neg (by omega)]
    exact wR b j h1
  clear hW
  have bA : 19 < W.1 := by omega
  have hr0 : lS0 W.2.2 19 := by
    obtain ⟨r0, r8, r9, r10, r11, r12, r13, r14, ri⟩ := hlS
    refine ⟨?_, ?_, ?_, ?_, ?_, ?_, ?_, fun i hi => ⟨?_, ?_⟩⟩
    all_goals rw [wo _ _ (by omega) (by omega)]
    all_goals first | assumption | exact (ri i hi).1 | exact (ri i hi).2
  refine xm_vr1 hY (d := 0) (by decide +kernel) lk_6_90 mo_X1_begin (by decide) (sp_X1_begin (M := W) (A := 19) (S := U) (Or.inl rfl) (by rw [w1]; omega) hr0 (by omega) kU (by omega)) bA kA rfl (by decide) ⟨by decide, by decide⟩ (by simp [Value.category]) (fun v9 M9 h9 => ?_)
  obtain ⟨rfl, I1, rfl, i1o, ⟨a1, a2, a3, a4, a5, a6, a7, a15, a16, a17⟩, ag⟩ := h9
  have b0W : 0 < W.1 := by omega
  have bUW : U < W.1 := by omega
  have w9 : W.2.2 0 9 = .ref 275 := (wo 0 9 (by omega) (by omega)).trans q9
  have wU4 : W.2.2 U 4 = .ref (U + 1) := (wo U 4 (by omega) (by omega)).trans (sM.u hC).2.2.1
  have eU : (U = 19) = False := eq_false (by omega)
  (refine xm_run hY kc_X6_load [] 2 (fun J hJ0 hJ => ?_); simp only [xm_r0, Nat.reduceAdd, lb_X6_load_0, lb_X6_load_15, lb_X6_load_52, lb_X6_load_57, lb_X6_load_86, lb_X6_load_100, lb_X6_load_31, lb_X6_load_71, lb_X6_load_12, lb_X6_load_49, lb_X6_load_53, lb_X6_load_83, lb_X6_load_97, lb_X6_load_108]; simp only [kX6_load_0, kX6_load_15, kX6_load_52, kX6_load_57, kX6_load_86, kX6_load_100, kX6_load_31, kX6_load_71, xm_b, xm_i, xm_g, xm_s, xm_1, xi_bin, xi_div, xi_un, xi_il, xi_al, xi_is, xi_as, xi_inc, xi_cmp, xi_if, xi_nul, xi_rd, xi_get, xi_put, xi_ald, xi_sld, xi_iast, xi_bast, xi_last, xi_dast, xi_len, xi_slen, xi_lcmp, xi_dup, xi_dup2, xi_ret, xi_retv, xm_cnd, Value.category, true_and, and_true, List.cons_append, List.nil_append, List.replicate, List.length_cons, List.length_nil, Nat.reduceSub, Nat.reduceAdd, List.append_eq, BEq.rfl, if_true, if_false, ↓reduceIte, Nat.reduceEqDiff, Nat.reduceBEq, rI_R, rI_1, rR_I, rR_1, not_false_eq_true, not_true_eq_false, Nat.zero_add, reduceCtorEq, forall_const, Option.toList, List.append_nil, or_true, true_or, vpl, cll, Nat.reduceLT, false_implies, true_implies, implies_true, b0W, bUW, k0, kU, mI_I, mI_R, mI_1, mI_set, rs_g, w9, w4, wU4, eU, false_and, and_false, and_self]; (try simp only [lb_X6_load_0, lb_X6_load_15, lb_X6_load_52, lb_X6_load_57, lb_X6_load_86, lb_X6_load_100, lb_X6_load_31, lb_X6_load_71, lb_X6_load_12, lb_X6_load_49, lb_X6_load_53, lb_X6_load_83, lb_X6_load_97, lb_X6_load_108, hJ, hJ0, xm_st, List.mem_cons, List.not_mem_nil, or_false, or_self, false_or, or_true, true_or, if_true, if_false, ↓reduceIte, Nat.reduceEqDiff]); (try simp only [kX6_load_0, kX6_load_15, kX6_load_52, kX6_load_57, kX6_load_86, kX6_load_100, kX6_load_31, kX6_load_71, xm_b, xm_i, xm_g, xm_s, xm_1, xi_bin, xi_div, xi_un, xi_il, xi_al, xi_is, xi_as, xi_inc, xi_cmp, xi_if, xi_nul, xi_rd, xi_get, xi_put, xi_ald, xi_sld, xi_iast, xi_bast, xi_last, xi_dast, xi_len, xi_slen, xi_lcmp, xi_dup, xi_dup2, xi_ret, xi_retv, xm_cnd, Value.category, true_and, and_true, List.cons_append, List.nil_append, List.replicate, List.length_cons, List.length_nil, Nat.reduceSub, Nat.reduceAdd, List.append_eq, BEq.rfl, if_true, if_false, ↓reduceIte, Nat.reduceEqDiff, Nat.reduceBEq, rI_R, rI_1, rR_I, rR_1, not_false_eq_true, not_true_eq_false, Nat.zero_add, reduceCtorEq, forall_const, Option.toList, List.append_nil, or_true, true_or, vpl, cll, Nat.reduceLT, false_implies, true_implies, implies_true, b0W, bUW, k0, kU, mI_I, mI_R, mI_1, mI_set, rs_g, w9, w4, wU4, eU, false_and, and_false, and_self]); (try clear hJ hJ0 J))
  have r3 : (mI (xm_setR W 19 0 (.ref U)) I1).2.2 275 3 = .ref 277 := by
    show (xm_setR W 19 0 (.ref U)).2.2 275 3 = _
    rw [rs_g, if_neg (by omega), wo _ _ (by omega) (by omega)]
    exact t3
  have b275W : 275 < W.1 := by omega
  refine xm_vr1 hY (d := 0) (by decide +kernel) lk_6_93 mo_X3_begin (by decide) (sp_X3_begin (M := mI (xm_setR W 19 0 (.ref U)) I1) (D := U + 1) (w1.trans hm0) r3) b275W rfl rfl (by decide) ⟨by decide, by decide⟩ (by simp [Value.category]) (fun v9 M9 h9 => ?_)
  obtain ⟨rfl, I2, rfl, i2o, z1, z2⟩ := h9
  have rr : ∀ b j, ¬ (b = 18 ∧ j = 2) → ¬ (b = 0 ∧ (j = 4 ∨ j = 5)) → ¬ (b = 19 ∧ j = 0) → ¬ (b = 275 ∧ j = 0) → (xm_setR (mI (xm_setR W 19 0 (.ref U)) I1) 275 0 (.ref (U + 1))).2.2 b j = M.2.2 b j := fun b j h1 h2 h3 h4 => by
    rw [rs_g, if_neg h4]
    show (xm_setR W 19 0 (.ref U)).2.2 b j = _
    rw [rs_g, if_neg h3]
    exact wo b j h1 h2
  have y4 : (xm_setR (mI (xm_setR W 19 0 (.ref U)) I1) 275 0 (.ref (U + 1))).2.2 0 4 = .ref U := by
    rw [rs_g, if_neg (by omega)]
    show (xm_setR W 19 0 (.ref U)).2.2 0 4 = _
    rw [rs_g, if_neg (by omega)]
    exact w4
  have y5 : (xm_setR (mI (xm_setR W 19 0 (.ref U)) I1) 275 0 (.ref (U + 1))).2.2 0 5 = .ref S := by
    rw [rs_g, if_neg (by omega)]
    show (xm_setR W 19 0 (.ref U)).2.2 0 5 = _
    rw [rs_g, if_neg (by omega)]
    exact w5
  have y19 : (xm_setR (mI (xm_setR W 19 0 (.ref U)) I1) 275 0 (.ref (U + 1))).2.2 19 0 = .ref U := by
    rw [rs_g, if_neg (by omega)]
    show (xm_setR W 19 0 (.ref U)).2.2 19 0 = _
    rw [rs_g, if_pos ⟨rfl, rfl⟩]
  have y275 : (xm_setR (mI (xm_setR W 19 0 (.ref U)) I1) 275 0 (.ref (U + 1))).2.2 275 0 = .ref (U + 1) := by
    rw [rs_g, if_pos ⟨rfl, rfl⟩]
  have yI : (xm_setR (mI (xm_setR W 19 0 (.ref U)) I1) 275 0 (.ref (U + 1))).1 = M.1 := w1
  generalize xm_setR (mI (xm_setR W 19 0 (.ref U)) I1) 275 0 (.ref (U + 1)) = Y at rr y4 y5 y19 y275 yI ⊢
  have e1 : ∀ b, (b < 19 ∨ 24 < b) → b ≠ 275 → b ≠ 277 → I2 b = J b := fun b h1 h2 h3 => by
    rw [i2o b h2 h3]
    show I1 b = J b
    rw [i1o b h1, wI]
  have e2 : ∀ b, 19 ≤ b → b ≤ 24 → I2 b = I1 b := fun b h1 h2 => i2o b (by omega) (by omega)
  have hdr2 : DR I2 U td := hdr.fr (fun b h1 h2 => (e1 b (by omega) (by omega) (by omega)).trans (j0 b (by omega)))
  have b0Y : 0 < Y.1 := by omega
  have bUY : U < Y.1 := by omega
  have g5 : I2 U 5 = td 5 := by
    obtain ⟨V, G, -, -, d3, -, -, -, d7⟩ := hdr2
    rw [d3]
    exact d7.1
  (refine xm_run hY kc_X6_load [] 2 (fun J hJ0 hJ => ?_); simp only [xm_r0, Nat.reduceAdd, lb_X6_load_0, lb_X6_load_15, lb_X6_load_52, lb_X6_load_57, lb_X6_load_86, lb_X6_load_100, lb_X6_load_31, lb_X6_load_71, lb_X6_load_12, lb_X6_load_49, lb_X6_load_53, lb_X6_load_83, lb_X6_load_97, lb_X6_load_108]; simp only [kX6_load_0, kX6_load_15, kX6_load_52, kX6_load_57, kX6_load_86, kX6_load_100, kX6_load_31, kX6_load_71, xm_b, xm_i, xm_g, xm_s, xm_1, xi_bin, xi_div, xi_un, xi_il, xi_al, xi_is, xi_as, xi_inc, xi_cmp, xi_if, xi_nul, xi_rd, xi_get, xi_put, xi_ald, xi_sld, xi_iast, xi_bast, xi_last, xi_dast, xi_len, xi_slen, xi_lcmp, xi_dup, xi_dup2, xi_ret, xi_retv, xm_cnd, Value.category, true_and, and_true, List.cons_append, List.nil_append, List.replicate, List.length_cons, List.length_nil, Nat.reduceSub, Nat.reduceAdd, List.append_eq, BEq.rfl, if_true, if_false, ↓reduceIte, Nat.reduceEqDiff, Nat.reduceBEq, rI_R, rI_1, rR_I, rR_1, not_false_eq_true, not_true_eq_false, Nat.zero_add, reduceCtorEq, forall_const, Option.toList, List.append_nil, or_true, true_or, vpl, cll, Nat.reduceLT, false_implies, true_implies, implies_true, b0Y, bUY, k0, kU, mI_I, mI_R, mI_1, mI_set, y4, g5]; (try simp only [lb_X6_load_0, lb_X6_load_15, lb_X6_load_52, lb_X6_load_57, lb_X6_load_86, lb_X6_load_100, lb_X6_load_31, lb_X6_load_71, lb_X6_load_12, lb_X6_load_49, lb_X6_load_53, lb_X6_load_83, lb_X6_load_97, lb_X6_load_108, hJ, hJ0, xm_st, List.mem_cons, List.not_mem_nil, or_false, or_self, false_or, or_true, true_or, if_true, if_false, ↓reduceIte, Nat.reduceEqDiff]); (try simp only [kX6_load_0, kX6_load_15, kX6_load_52, kX6_load_57, kX6_load_86, kX6_load_100, kX6_load_31, kX6_load_71, xm_b, xm_i, xm_g, xm_s, xm_1, xi_bin, xi_div, xi_un, xi_il, xi_al, xi_is, xi_as, xi_inc, xi_cmp, xi_if, xi_nul, xi_rd, xi_get, xi_put, xi_ald, xi_sld, xi_iast, xi_bast, xi_last, xi_dast, xi_len, xi_slen, xi_lcmp, xi_dup, xi_dup2, xi_ret, xi_retv, xm_cnd, Value.category, true_and, and_true, List.cons_append, List.nil_append, List.replicate, List.length_cons, List.length_nil, Nat.reduceSub, Nat.reduceAdd, List.append_eq, BEq.rfl, if_true, if_false, ↓reduceIte, Nat.reduceEqDiff, Nat.reduceBEq, rI_R, rI_1, rR_I, rR_1, not_false_eq_true, not_true_eq_false, Nat.zero_add, reduceCtorEq, forall_const, Option.toList, List.append_nil, or_true, true_or, vpl, cll, Nat.reduceLT, false_implies, true_implies, implies_true, b0Y, bUY, k0, kU, mI_I, mI_R, mI_1, mI_set, y4, g5]); (try clear hJ hJ0 J))
  obtain ⟨V, G, d1, d2, d3, d4, d5, d6, d7⟩ := hdr2
  refine ⟨yI, fun b hb => ?_, fun b hb => ?_, hC.wr yI (Or.inr ⟨rfl, rfl⟩) rr y4 y5 y19, ?_, ⟨y275, ?_, ?_⟩, ⟨?_, ?_, ?_⟩, ⟨V, G, d1, d2, d3, d4, d5, d6, d7⟩, ⟨z1, z2⟩, ?_⟩
  · funext j
    exact rr b j (by omega) (by omega) (by omega) (by omega)
  · show I2 b = _
    rw [e1 b (by omega) (by omega) (by omega), j0 b (by omega)]
    exact fI b (by omega) (by omega)
  · exact (rr 18 0 (by omega) (by omega) (by omega) (by omega)).trans r18
  · exact (rr 275 2 (by omega) (by omega) (by omega) (by omega)).trans t2
  · exact (rr 275 3 (by omega) (by omega) (by omega) (by omega)).trans t3
  · show I2 0 1 = 0
    rw [e1 0 (by omega) (by omega) (by omega)]; exact j1
  · show I2 0 2 = 0
    rw [e1 0 (by omega) (by omega) (by omega)]; exact j2
  · show I2 0 3 = -1
    rw [e1 0 (by omega) (by omega) (by omega)]; exact j3
  · show lR I2 19 (a0F a td) 0 0 0 _ True 0 0
    have hA : I2 19 = I1 19 := e2 19 (by omega) (by omega)
    have zt : ∀ j, j < 4641 → j ≠ 4 → j ≠ 5 → a0F a td j = 0 := fun j h1 h2 h3 => by
      unfold a0F
      rw [up_n h3, up_n h2]
      exact if_pos h1
    have hUJ : W.2.1 U = M9.2.1 U := by rw [wI]; exact j0 U (by omega)
    have n9 : M9.2.1 U 9 = td 6 ∧ M9.2.1 U 10 = td 7 := by
      have eU : I2 U = M9.2.1 U := (e1 U (by omega) (by omega) (by omega)).trans (j0 U (by omega))
      rw [← eU]
      exact ⟨d5.2.2.2.2.1, d5.2.2.2.2.2.1⟩
    have c4 : a0F a td 4 = td 6 := by
      unfold a0F
      rw [up_n (by decide), up_s]
    have c5 : a0F a td 5 = td 7 := by
      unfold a0F
      exact up_s
    refine ⟨⟨?_, ?_, ?_, ?_, ?_, ?_, ?_, ?_, ?_, ?_⟩, ⟨Nat.le_refl _, fun i hi => absurd hi (Nat.not_lt_zero i)⟩, fun g hg => ?_, fun _ g hg => ?_, fun k _ hk => absurd hk (Nat.not_lt_zero k), fun i hi => absurd hi (Nat.not_lt_zero i)⟩
    · rw [hA, zt 0 (by decide) (by decide) (by decide)]; exact a1
    · rw [hA, a2, hUJ, c4]; exact n9.1
    · rw [hA, a3, hUJ, c5]; exact n9.2
    · rw [hA, zt 1 (by decide) (by decide) (by decide)]; exact a4
    · rw [hA]; exact a5
    · rw [hA]; exact a7
    · rw [hA]; exact a15
    · rw [hA, zt 3 (by decide) (by decide) (by decide)]; exact a17
    · rw [hA]; exact a6
    · rw [hA]; exact a16
    · rw [e2 (19 + 1) (by omega) (by omega), zt _ (by omega) (by omega) (by omega)]
      exact (ag g hg).1
    · obtain ⟨x1, x2, x3, x4, x5⟩ := ag g hg
      rw [e2 (19 + 2) (by omega) (by omega), e2 (19 + 3) (by omega) (by omega), e2 (19 + 4) (by omega) (by omega), e2 (19 + 5) (by omega) (by omega), zt _ (by omega) (by omega) (by omega), zt _ (by omega) (by omega) (by omega), zt _ (by omega) (by omega) (by omega), zt _ (by omega) (by omega) (by omega)]
      exact ⟨x2, x3, x4, x5⟩

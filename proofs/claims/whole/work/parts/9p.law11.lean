/-! THE LAW's own body: what makes cells on a way with any end; the loop -/
section XMNQ
variable {E : xm_E} {Z : xm_Z} {own nL rt D mc ms ce sl pc : Nat} {ini : Bool} {cc : ByteArray} {Q : State → Prop} {r1 : Option Value → xm_M → Prop} {L S : List Value} {M : xm_M}
theorem xm_newQ (hY : xm_Y E own nL cc rt ini D mc ms Z) {ci cp : Nat} (hd : decode cc pc = .ok (.new cp, 3)) (h8 : ci < 8) (hcl : Cond.classLink (xm_C own) cp (xm_C ci) ∈ lw_tb) (hin : Cond.instantiable (xm_C ci) (xm_N ci) ∈ lw_tb) (hini : Cond.initialized (xm_C ci) ∈ lw_tb) (hk : ly_k M.1 = ci) (hm : M.1 < ly_m) (hI : ∀ j, M.2.1 M.1 j = 0) (hR : ∀ j, M.2.2 M.1 j = .null) (hf : ce + 1 ≤ mc ∧ sl + xm_N ci ≤ ms)
    (k : xm_GQ E Z nL Q (ce + 1) (sl + xm_N ci) (pc + 3) L (.ref M.1 :: S) (xm_up M)) : xm_GQ E Z nL Q ce sl pc L S M := by
  intro H locs ls hW hF hl0
  obtain ⟨X, -, -, hR1, hR2, hR3, hR4⟩ := hY
  obtain ⟨hx, hbc, hml, hown, hts, hK, hlocks, hO, hxt, hsz⟩ := id X
  obtain ⟨hS, hfc, kC0, hkC0, hkind⟩ := hK.1.1 ci _ (xm_cl h8)
  have hbH : E.2.2.1 ≤ H.size := by have := hW.1; omega
  have hz := hW.2.1 hm
  have hlm : ly_m = 287 := rfl
  have had : E.2.1 M.1 = H.size := by rw [hO.1 _ (by omega), hz]
  refine W.newcK hx hbc hown (hts _ hcl) (hts _ hin) (hts _ hini) rfl hd (by omega) (by omega) hfc rfl (fun H' kC hkC e1 e2 e3 => ?_)
  have hborn := u_born (xm_ty ci) hts (xm_in h8) (hK.1.1 ci _ (xm_cl h8)) hkC e1 (xm_tyok h8)
  obtain ⟨cell, q1, q2, q3, q4⟩ := hborn
  have h9 := k H' locs ls (xm_push hO hW hm q1 e2 e3 ⟨q3, by rw [q2, hk], fun j hj => ?_, fun h => by omega⟩) (hF.push hbH e2 e3) hl0
  · show W _ _ _ _ _ _ _ _ _ _ H' locs _ _ _ (F0 _ (pc + 3) ls (.ref H.size :: S.map (xm_gv E.2.1)))
    rw [← had]
    exact h9
  · have hlt : ly_k M.1 < 8 := by omega
    have hj' : j < xm_N ci := by unfold xm_ns at hj; rw [if_pos hlt, hk] at hj; exact hj
    unfold xm_sm
    rw [if_pos hlt, hk, q4 j hj']
    congr 1
    have hv : xm_v M M.1 j = defaultValue (xm_ty ci j) := by
      rw [xi_rd_v hk h8]
      rcases xm_tyc h8 j hj' with ht | ht | ⟨t, ht | ⟨t, ht⟩⟩ <;> rw [ht] <;> simp only [xm_c, xi_rd, hI, hR] <;> rfl
    have hv2 : xm_gv E.2.1 (defaultValue (xm_ty ci j)) = defaultValue (xm_ty ci j) := by
      rcases xm_tyc h8 j hj' with ht | ht | ⟨t, ht | ⟨t, ht⟩⟩ <;> rw [ht] <;> rfl
    rw [hv, hv2]
theorem xm_newaQ (hY : xm_Y E own nL cc rt ini D mc ms Z) {kd : Nat} {at9 : ArrayType} {n : Int32} (hd : decode cc pc = .ok (.newarray at9, 2)) (hkd : kd = 10 ∨ kd = 11 ∨ kd = 13 ∨ kd = 14) (hty : newarray.typeOf at9 = xm_aty kd) (hw : Cond.arrayClass (newarray.typeOf at9) ∈ lw_tb) (hk : ly_k M.1 = kd) (hm : M.1 < ly_m) (hn : ¬ n < 0) (hN : n.toNatClampNeg = ly_n M.1) (hsm : ly_n M.1 ≤ 10000) (hI : ∀ j, M.2.1 M.1 j = 0) (hR : ∀ j, M.2.2 M.1 j = xm_dv kd) (hf : ce + 1 ≤ mc ∧ sl + ly_n M.1 ≤ ms)
    (k : xm_GQ E Z nL Q (ce + 1) (sl + ly_n M.1) (pc + 2) L (.ref M.1 :: S) (xm_up M)) : xm_GQ E Z nL Q ce sl pc L (.int n :: S) M := by
  intro H locs ls hW hF hl0
  obtain ⟨X, -, -, hR1, hR2, hR3, hR4⟩ := hY
  obtain ⟨hx, hbc, hml, hown, hts, hK, hlocks, hO, hxt, hsz⟩ := id X
  have hbH : E.2.2.1 ≤ H.size := by have := hW.1; omega
  have hz := hW.2.1 hm
  have hlm : ly_m = 287 := rfl
  have had : E.2.1 M.1 = H.size := by rw [hO.1 _ (by omega), hz]
  have hcb : componentBytes (newarray.typeOf at9) ≤ 8 := by rw [hty]; rcases hkd with rfl | rfl | rfl | rfl <;> decide
  refine W.newa hx hbc (hts _ hw) rfl hd rfl hn (by rw [hN]; calc _ ≤ 10000 * 8 := Nat.mul_le_mul hsm hcb
    _ ≤ _ := by decide) (by omega) (by rw [hN]; omega) (fun cA kA comp f1 f2 f3 => ?_)
  have hcA : cA = E.1.1 kd := by
    have f0 : Z.2.2.2.2.1.vm.findClass ("[" ++ (xm_aty kd).toString) = some (E.1.1 kd) := by
      rcases hkd with rfl | rfl | rfl | rfl
      · exact (hK.1.2 0 _ rfl).2
      · exact (hK.1.2 1 _ rfl).2
      · exact (hK.1.2 3 _ rfl).2
      · exact (hK.1.2 4 _ rfl).2
    rw [hty] at f1
    exact Option.some.inj (f1.symm.trans f0)
  generalize hH1 : H.push ({ cls := cA, slots := Array.replicate n.toNatClampNeg (defaultValue (newarray.typeOf at9)), vm := .none } : Cell) = H1
  have z1 : H1.size = H.size + 1 := by rw [← hH1, Array.size_push]
  have e1 : H1[H.size]? = some ({ cls := cA, slots := Array.replicate n.toNatClampNeg (defaultValue (newarray.typeOf at9)), vm := .none } : Cell) := by rw [← hH1, Array.getElem?_push_size]
  have o1 : ∀ q : Nat, q < H.size → H1[q]? = H[q]? := fun q hq => by rw [← hH1, Array.getElem?_push, if_neg (Nat.ne_of_lt hq)]
  have h9 := k H1 locs ls (xm_push hO hW hm e1 z1 o1 ⟨rfl, by rw [hk, hcA], fun j hj => ?_, fun _ => by rw [Array.size_replicate, hN]⟩) (hF.push hbH z1 o1) hl0
  · show W _ _ _ _ _ _ _ _ _ _ H1 locs _ _ _ (F0 _ (pc + 2) ls (.ref H.size :: S.map (xm_gv E.2.1)))
    rw [← had, hN]
    exact h9
  · have hlt : ¬ ly_k M.1 < 8 := by omega
    have hj' : j < ly_n M.1 := by unfold xm_ns at hj; rw [if_neg hlt] at hj; exact hj
    unfold xm_sm
    rw [if_neg hlt]
    simp only [Array.getElem?_replicate, hN, hj', if_true]
    congr 1
    rw [hty]
    unfold xm_v
    rw [hk, hI, hR]
    rcases hkd with rfl | rfl | rfl | rfl <;> rfl
theorem xm_callIQ (hY : xm_Y E own nL cc rt ini D mc ms Z) {mt : xm_T4} {ci n rt1 d mc1 ms1 cp b : Nat} {As : List Value} (hd : decode cc pc = .ok (.invokespecial cp, 3)) (hl : Cond.methodLink (xm_C own) cp mt.1 ∈ lw_tb ∨ (own, cp, mt.1) ∈ nw_tab) (hm : xm_mo mt ci n rt1 true false) (hret : mt.2.2.2 = none) (hs : xm_Met E Z.2.1 mt d mc1 ms1 (.ref b :: As) M r1) (hn : As.length = n) (hD : d + 1 ≤ D) (hf : ce + mc1 ≤ mc ∧ sl + ms1 ≤ ms) (hS : (S.map fun v => v.category).sum ≤ 8)
    (k : ∀ v M1, r1 v M1 → xm_GQ E Z nL Q (ce + mc1) (sl + ms1) (pc + 3) L (v.toList ++ S) M1) : xm_GQ E Z nL Q ce sl pc L (As.reverse ++ .ref b :: S) M := by
  intro H locs ls hW hF hl0
  obtain ⟨X, -, -, hR1, hR2, hR3, hR4⟩ := hY
  obtain ⟨y, bb, nl, rr⟩ := mt
  simp only at hret
  subst hret
  obtain ⟨hx, hbc, hml, hown, hts, hK, hlocks, hO, hxt, hsz⟩ := id X
  have hts2 : ∀ w ∈ lw_tb, w.before Z.2.2.2.2.2.2.1 Z.2.2.2.2.1 = true := hts
  have hG : GoodIn lw_tb (xm_ws (y, bb, nl, none)) := xm_good (fun w hw => by
    simp only [xm_ws, List.mem_cons] at hw
    rcases hw with rfl | hw
    · exact hm.2.2.2.2.2.2.1
    · exact hw)
  have hnl : nl ≤ 11 := hm.2.2.2.2.1
  have hroom : (xm_rm d mc1 ms1).frames + 1 ≤ Z.2.2.2.1.frames ∧ 8 + (nl + 11) + (xm_rm d mc1 ms1).locals ≤ Z.2.2.2.1.locals := ⟨by show d + 1 ≤ _; omega, by show 8 + (nl + 11) + 30 * d ≤ _; omega⟩
  refine xm_back (mc1 := mc1) (ms1 := ms1) (r1 := r1) (rest := S.map (xm_gv E.2.1)) (a := (Value.ref (E.2.1 b) :: As.map (xm_gv E.2.1)).toArray) ?_ hF (fun v M1 H1 locs1 h1 hW1 hF1 => ?_)
  · rcases hl with hl | hl
    · exact va_runI (own := xm_C own) (As := As.map (xm_gv E.2.1)) (b := E.2.1 b) ⟨hx, hbc, hml, hown, hts2⟩ hs
        (cwI n hts2 hG rfl rfl rfl (hts _ hm.2.2.2.2.2.2.2.1) (hts _ hl) (hts _ (hm.2.2.2.2.2.2.2.2.2.1 rfl)) (hm.2.2.1 rfl) hm.2.2.2.2.2.1 hroom)
        ⟨xm_blind, fun U hU hv => xm_pre X hW hF U hU hv⟩ rfl (by rw [List.length_map]; exact hn) hl0.1 (by simp [xm_gv, List.map_reverse]) (lv_room (by rw [xm_cats]; exact hS)) hd ⟨by omega, by omega⟩
    · exact va_runIN (host := RX6) (own := xm_C own) (As := As.map (xm_gv E.2.1)) (b := E.2.1 b) ⟨hx, hbc, hml, hown, hts2⟩ hs
        ⟨va_cnB n hts2 hG rfl rfl rfl (hK.2 (own, cp, y) hl : va_Nw (Cond.methodLinkNest (xm_C own) cp y RX6) Z.2.2.2.2.1) (hts _ hm.2.2.2.2.2.2.2.1) hm.2.2.2.2.2.1 hroom, hm.2.2.1 rfl, hts _ (hm.2.2.2.2.2.2.2.2.2.1 rfl)⟩
        ⟨xm_blind, fun U hU hv => xm_pre X hW hF U hU hv⟩ rfl (by rw [List.length_map]; exact hn) hl0.1 (by simp [xm_gv, List.map_reverse]) (lv_room (by rw [xm_cats]; exact hS)) hd ⟨by omega, by omega⟩
  · have h9 := k v M1 h1 H1 locs1 ls hW1 hF1 hl0
    rw [List.map_append] at h9
    cases v <;> exact h9
theorem mk_arrQ (hY : xm_Y E own nL cc rt ini D mc ms Z) {k kd N : Nat} {at9 : ArrayType} {n : Int32} (w : nw k M) (hd : decode cc pc = .ok (.newarray at9, 2)) (hkd : kd = 10 ∨ kd = 11 ∨ kd = 13 ∨ kd = 14) (hty : newarray.typeOf at9 = xm_aty kd) (hw : Cond.arrayClass (newarray.typeOf at9) ∈ lw_tb) (hk : ly_k k = kd) (hm : k < ly_m) (hn : ¬ n < 0) (hN : n.toNatClampNeg = N) (hl : ly_n k = N) (hsm : N ≤ 10000) (hf : ce + 1 ≤ mc ∧ sl + N ≤ ms)
    (kk : xm_GQ E Z nL Q (ce + 1) (sl + N) (pc + 2) L (.ref k :: S) (xm_up M)) : xm_GQ E Z nL Q ce sl pc L (.int n :: S) M := by
  obtain ⟨w1, w2, w3⟩ := w
  subst w1
  subst hl
  exact xm_newaQ hY hd hkd hty hw hk hm hn hN hsm (fun j => w2 _ j (Nat.le_refl _)) (fun j => by rw [w3 _ j (Nat.le_refl _), hk]) hf kk
theorem mk_objQ (hY : xm_Y E own nL cc rt ini D mc ms Z) {k ci cp : Nat} (w : nw k M) (hd : decode cc pc = .ok (.new cp, 3)) (h8 : ci < 8) (hcl : Cond.classLink (xm_C own) cp (xm_C ci) ∈ lw_tb) (hin : Cond.instantiable (xm_C ci) (xm_N ci) ∈ lw_tb) (hini : Cond.initialized (xm_C ci) ∈ lw_tb) (hk : ly_k k = ci) (hm : k < ly_m) (hf : ce + 1 ≤ mc ∧ sl + xm_N ci ≤ ms)
    (kk : xm_GQ E Z nL Q (ce + 1) (sl + xm_N ci) (pc + 3) L (.ref k :: S) (xm_up M)) : xm_GQ E Z nL Q ce sl pc L S M := by
  obtain ⟨w1, w2, w3⟩ := w
  subst w1
  refine xm_newQ hY hd h8 hcl hin hini hk hm (fun j => w2 _ j (Nat.le_refl _)) (fun j => ?_) hf kk
  rw [w3 _ j (Nat.le_refl _), hk]
  rcases (by omega : ci = 0 ∨ ci = 1 ∨ ci = 2 ∨ ci = 3 ∨ ci = 4 ∨ ci = 5 ∨ ci = 6 ∨ ci = 7) with rfl | rfl | rfl | rfl | rfl | rfl | rfl | rfl <;> rfl
end XMNQ
theorem sw_law : decode code 45 = .ok (.tableswitch 1989 0 30 #[139, 243, 299, 343, 356, 369, 425, 493, 561, 617, 708, 799, 847, 903, 971, 1027, 1095, 1151, 1207, 1263, 1328, 1393, 1449, 1517, 1573, 1641, 1697, 1765, 1821, 1877, 1933], 139) := by decide +kernel
theorem and31 (w : Int32) : ∃ j : Nat, j < 32 ∧ w &&& 31 = nI j := by
  have h : (w &&& 31).toBitVec.toNat ≤ 31 := by
    rw [Int32.toBitVec_and, BitVec.toNat_and]
    exact Nat.and_le_right
  have h2 : (w &&& 31).toInt = ((w &&& 31).toBitVec.toNat : Int) := by
    show (w &&& 31).toBitVec.toInt = _
    rw [BitVec.toInt_eq_toNat_of_lt (by omega)]
  obtain ⟨j, j1, j2⟩ := of_nat (x := w &&& 31) (by omega)
  exact ⟨j, by omega, j1⟩
theorem lw_gt {i n : Nat} (hi : i ≤ 4000) (hn : n ≤ 4000) : (nI n - 6 < nI i) ↔ n < i + 6 := by
  have c6 : (6 : Int32).toInt = 6 := rfl
  rw [tl, ti_sub (by rw [tn (by omega), c6]; omega) (by rw [tn (by omega), c6]; omega), tn (by omega), tn (by omega), c6]
  omega
theorem lw_loop {E : xm_E} {Z : xm_Z} {Q : State → Prop} (hY : xm_Y E 8 9 code 1 false 14 601024 7293034 Z) (hls : Z.2.1.stackTraces = false) (hxl : ∀ U, E.2.2.2.1 U → xl E.2.2.1 U) (hst : ∀ U, E.2.2.2.1 U → xst E U) (hL : E.2.2.2.2.1 ≤ 3072) (hend : ∀ ce sl i M, ce ≤ 601024 → sl ≤ 7293034 → KRE M → xm_GQ E Z 9 Q ce sl 2040 (LB i (.retAddr 0) (.retAddr 0) (.retAddr 0)) [] M) : ∀ (n i ce sl : Nat) (M : xm_M), E.2.2.2.2.1 ≤ i + 6 * n → i ≤ 3100 → ce + n ≤ 601024 → sl + 6 * n ≤ 7293034 → KRE M → xm_GQ E Z 9 Q ce sl 28 (LB i (.retAddr 0) (.retAddr 0) (.retAddr 0)) [] M := by
  intro n
  induction n with
  | zero =>
    intro i ce sl M h1 h2 h3 h4 hr
    have hg : nI E.2.2.2.2.1 - 6 < nI i := (lw_gt (by omega) (by omega)).mpr (by omega)
    (refine xm_runQ hY kc_Lh [2040] 4 (fun J hJ0 hJ => ?_); simp only [xm_r0, Nat.reduceAdd, lb_Lh_3, lb_Lh_7, lb_Lh_11, lb_Lh_15, lb_Lh_19, lb_Lh_23, lb_Lh_28, lb_Lh_34, lb_Lh_41, lb_Lh_4, lb_Lh_8, lb_Lh_12, lb_Lh_17, lb_Lh_21, lb_Lh_45, lb_Lh_2040]; simp only [kLh_3, kLh_7, kLh_11, kLh_15, kLh_19, kLh_23, kLh_28, kLh_34, kLh_41, xm_b, xm_i, xm_g, xm_s, xm_1, xi_bin, xi_div, xi_un, xi_il, xi_al, xi_is, xi_as, xi_inc, xi_cmp, xi_if, xi_nul, xi_rd, xi_get, xi_put, xi_ald, xi_sld, xi_iast, xi_bast, xi_last, xi_dast, xi_len, xi_slen, xi_lcmp, xi_dup, xi_dup2, xi_ret, xi_retv, xm_cnd, Value.category, true_and, and_true, List.cons_append, List.nil_append, List.replicate, List.length_cons, List.length_nil, Nat.reduceSub, Nat.reduceAdd, List.append_eq, BEq.rfl, if_true, if_false, ↓reduceIte, Nat.reduceEqDiff, Nat.reduceBEq, rI_R, rI_1, rR_I, rR_1, not_false_eq_true, not_true_eq_false, Nat.zero_add, reduceCtorEq, forall_const, Option.toList, List.append_nil, or_true, true_or, vpl, cll, Nat.reduceLT, false_implies, true_implies, implies_true, LB, hg]; (try simp only [lb_Lh_3, lb_Lh_7, lb_Lh_11, lb_Lh_15, lb_Lh_19, lb_Lh_23, lb_Lh_28, lb_Lh_34, lb_Lh_41, lb_Lh_4, lb_Lh_8, lb_Lh_12, lb_Lh_17, lb_Lh_21, lb_Lh_45, lb_Lh_2040, hJ, hJ0, xm_st, List.mem_cons, List.not_mem_nil, or_false, or_self, false_or, or_true, true_or, if_true, if_false, ↓reduceIte, Nat.reduceEqDiff]); (try simp only [kLh_3, kLh_7, kLh_11, kLh_15, kLh_19, kLh_23, kLh_28, kLh_34, kLh_41, xm_b, xm_i, xm_g, xm_s, xm_1, xi_bin, xi_div, xi_un, xi_il, xi_al, xi_is, xi_as, xi_inc, xi_cmp, xi_if, xi_nul, xi_rd, xi_get, xi_put, xi_ald, xi_sld, xi_iast, xi_bast, xi_last, xi_dast, xi_len, xi_slen, xi_lcmp, xi_dup, xi_dup2, xi_ret, xi_retv, xm_cnd, Value.category, true_and, and_true, List.cons_append, List.nil_append, List.replicate, List.length_cons, List.length_nil, Nat.reduceSub, Nat.reduceAdd, List.append_eq, BEq.rfl, if_true, if_false, ↓reduceIte, Nat.reduceEqDiff, Nat.reduceBEq, rI_R, rI_1, rR_I, rR_1, not_false_eq_true, not_true_eq_false, Nat.zero_add, reduceCtorEq, forall_const, Option.toList, List.append_nil, or_true, true_or, vpl, cll, Nat.reduceLT, false_implies, true_implies, implies_true, LB, hg]); (try simp only [lb_Lh_3, lb_Lh_7, lb_Lh_11, lb_Lh_15, lb_Lh_19, lb_Lh_23, lb_Lh_28, lb_Lh_34, lb_Lh_41, lb_Lh_4, lb_Lh_8, lb_Lh_12, lb_Lh_17, lb_Lh_21, lb_Lh_45, lb_Lh_2040, hJ, hJ0, xm_st, List.mem_cons, List.not_mem_nil, or_false, or_self, false_or, or_true, true_or, if_true, if_false, ↓reduceIte, Nat.reduceEqDiff]); (try simp only [kLh_3, kLh_7, kLh_11, kLh_15, kLh_19, kLh_23, kLh_28, kLh_34, kLh_41, xm_b, xm_i, xm_g, xm_s, xm_1, xi_bin, xi_div, xi_un, xi_il, xi_al, xi_is, xi_as, xi_inc, xi_cmp, xi_if, xi_nul, xi_rd, xi_get, xi_put, xi_ald, xi_sld, xi_iast, xi_bast, xi_last, xi_dast, xi_len, xi_slen, xi_lcmp, xi_dup, xi_dup2, xi_ret, xi_retv, xm_cnd, Value.category, true_and, and_true, List.cons_append, List.nil_append, List.replicate, List.length_cons, List.length_nil, Nat.reduceSub, Nat.reduceAdd, List.append_eq, BEq.rfl, if_true, if_false, ↓reduceIte, Nat.reduceEqDiff, Nat.reduceBEq, rI_R, rI_1, rR_I, rR_1, not_false_eq_true, not_true_eq_false, Nat.zero_add, reduceCtorEq, forall_const, Option.toList, List.append_nil, or_true, true_or, vpl, cll, Nat.reduceLT, false_implies, true_implies, implies_true, LB, hg]); (try simp only [lb_Lh_3, lb_Lh_7, lb_Lh_11, lb_Lh_15, lb_Lh_19, lb_Lh_23, lb_Lh_28, lb_Lh_34, lb_Lh_41, lb_Lh_4, lb_Lh_8, lb_Lh_12, lb_Lh_17, lb_Lh_21, lb_Lh_45, lb_Lh_2040, hJ, hJ0, xm_st, List.mem_cons, List.not_mem_nil, or_false, or_self, false_or, or_true, true_or, if_true, if_false, ↓reduceIte, Nat.reduceEqDiff]); (try simp only [kLh_3, kLh_7, kLh_11, kLh_15, kLh_19, kLh_23, kLh_28, kLh_34, kLh_41, xm_b, xm_i, xm_g, xm_s, xm_1, xi_bin, xi_div, xi_un, xi_il, xi_al, xi_is, xi_as, xi_inc, xi_cmp, xi_if, xi_nul, xi_rd, xi_get, xi_put, xi_ald, xi_sld, xi_iast, xi_bast, xi_last, xi_dast, xi_len, xi_slen, xi_lcmp, xi_dup, xi_dup2, xi_ret, xi_retv, xm_cnd, Value.category, true_and, and_true, List.cons_append, List.nil_append, List.replicate, List.length_cons, List.length_nil, Nat.reduceSub, Nat.reduceAdd, List.append_eq, BEq.rfl, if_true, if_false, ↓reduceIte, Nat.reduceEqDiff, Nat.reduceBEq, rI_R, rI_1, rR_I, rR_1, not_false_eq_true, not_true_eq_false, Nat.zero_add, reduceCtorEq, forall_const, Option.toList, List.append_nil, or_true, true_or, vpl, cll, Nat.reduceLT, false_implies, true_implies, implies_true, LB, hg]); (try clear hJ hJ0 J))
    exact hend _ _ _ _ (by omega) (by omega) hr
  | succ n ih =>
    intro i ce sl M h1 h2 h3 h4 hr
    by_cases hi : i + 6 ≤ E.2.2.2.2.1
    · have hg : ¬ nI E.2.2.2.2.1 - 6 < nI i := fun q => by
        have := (lw_gt (by omega) (by omega)).mp q
        omega
      have v0 : vp_in (nI i) E.2.2.2.2.1 := in_n (by omega) (by omega)
      have c0 : (nI i).toNatClampNeg = i := cl_n (by omega)
      (refine xm_runQ hY kc_Lh [] 7 (fun J hJ0 hJ => ?_); simp only [xm_r0, Nat.reduceAdd, lb_Lh_3, lb_Lh_7, lb_Lh_11, lb_Lh_15, lb_Lh_19, lb_Lh_23, lb_Lh_28, lb_Lh_34, lb_Lh_41, lb_Lh_4, lb_Lh_8, lb_Lh_12, lb_Lh_17, lb_Lh_21, lb_Lh_45, lb_Lh_2040]; simp only [kLh_3, kLh_7, kLh_11, kLh_15, kLh_19, kLh_23, kLh_28, kLh_34, kLh_41, xm_b, xm_i, xm_g, xm_s, xm_1, xi_bin, xi_div, xi_un, xi_il, xi_al, xi_is, xi_as, xi_inc, xi_cmp, xi_if, xi_nul, xi_rd, xi_get, xi_put, xi_ald, xi_sld, xi_iast, xi_bast, xi_last, xi_dast, xi_len, xi_slen, xi_lcmp, xi_dup, xi_dup2, xi_ret, xi_retv, xm_cnd, Value.category, true_and, and_true, List.cons_append, List.nil_append, List.replicate, List.length_cons, List.length_nil, Nat.reduceSub, Nat.reduceAdd, List.append_eq, BEq.rfl, if_true, if_false, ↓reduceIte, Nat.reduceEqDiff, Nat.reduceBEq, rI_R, rI_1, rR_I, rR_1, not_false_eq_true, not_true_eq_false, Nat.zero_add, reduceCtorEq, forall_const, Option.toList, List.append_nil, or_true, true_or, vpl, cll, Nat.reduceLT, false_implies, true_implies, implies_true, LB, hg, v0, c0]; (try simp only [lb_Lh_3, lb_Lh_7, lb_Lh_11, lb_Lh_15, lb_Lh_19, lb_Lh_23, lb_Lh_28, lb_Lh_34, lb_Lh_41, lb_Lh_4, lb_Lh_8, lb_Lh_12, lb_Lh_17, lb_Lh_21, lb_Lh_45, lb_Lh_2040, hJ, hJ0, xm_st, List.mem_cons, List.not_mem_nil, or_false, or_self, false_or, or_true, true_or, if_true, if_false, ↓reduceIte, Nat.reduceEqDiff]); (try simp only [kLh_3, kLh_7, kLh_11, kLh_15, kLh_19, kLh_23, kLh_28, kLh_34, kLh_41, xm_b, xm_i, xm_g, xm_s, xm_1, xi_bin, xi_div, xi_un, xi_il, xi_al, xi_is, xi_as, xi_inc, xi_cmp, xi_if, xi_nul, xi_rd, xi_get, xi_put, xi_ald, xi_sld, xi_iast, xi_bast, xi_last, xi_dast, xi_len, xi_slen, xi_lcmp, xi_dup, xi_dup2, xi_ret, xi_retv, xm_cnd, Value.category, true_and, and_true, List.cons_append, List.nil_append, List.replicate, List.length_cons, List.length_nil, Nat.reduceSub, Nat.reduceAdd, List.append_eq, BEq.rfl, if_true, if_false, ↓reduceIte, Nat.reduceEqDiff, Nat.reduceBEq, rI_R, rI_1, rR_I, rR_1, not_false_eq_true, not_true_eq_false, Nat.zero_add, reduceCtorEq, forall_const, Option.toList, List.append_nil, or_true, true_or, vpl, cll, Nat.reduceLT, false_implies, true_implies, implies_true, LB, hg, v0, c0]); (try simp only [lb_Lh_3, lb_Lh_7, lb_Lh_11, lb_Lh_15, lb_Lh_19, lb_Lh_23, lb_Lh_28, lb_Lh_34, lb_Lh_41, lb_Lh_4, lb_Lh_8, lb_Lh_12, lb_Lh_17, lb_Lh_21, lb_Lh_45, lb_Lh_2040, hJ, hJ0, xm_st, List.mem_cons, List.not_mem_nil, or_false, or_self, false_or, or_true, true_or, if_true, if_false, ↓reduceIte, Nat.reduceEqDiff]); (try simp only [kLh_3, kLh_7, kLh_11, kLh_15, kLh_19, kLh_23, kLh_28, kLh_34, kLh_41, xm_b, xm_i, xm_g, xm_s, xm_1, xi_bin, xi_div, xi_un, xi_il, xi_al, xi_is, xi_as, xi_inc, xi_cmp, xi_if, xi_nul, xi_rd, xi_get, xi_put, xi_ald, xi_sld, xi_iast, xi_bast, xi_last, xi_dast, xi_len, xi_slen, xi_lcmp, xi_dup, xi_dup2, xi_ret, xi_retv, xm_cnd, Value.category, true_and, and_true, List.cons_append, List.nil_append, List.replicate, List.length_cons, List.length_nil, Nat.reduceSub, Nat.reduceAdd, List.append_eq, BEq.rfl, if_true, if_false, ↓reduceIte, Nat.reduceEqDiff, Nat.reduceBEq, rI_R, rI_1, rR_I, rR_1, not_false_eq_true, not_true_eq_false, Nat.zero_add, reduceCtorEq, forall_const, Option.toList, List.append_nil, or_true, true_or, vpl, cll, Nat.reduceLT, false_implies, true_implies, implies_true, LB, hg, v0, c0]); (try simp only [lb_Lh_3, lb_Lh_7, lb_Lh_11, lb_Lh_15, lb_Lh_19, lb_Lh_23, lb_Lh_28, lb_Lh_34, lb_Lh_41, lb_Lh_4, lb_Lh_8, lb_Lh_12, lb_Lh_17, lb_Lh_21, lb_Lh_45, lb_Lh_2040, hJ, hJ0, xm_st, List.mem_cons, List.not_mem_nil, or_false, or_self, false_or, or_true, true_or, if_true, if_false, ↓reduceIte, Nat.reduceEqDiff]); (try simp only [kLh_3, kLh_7, kLh_11, kLh_15, kLh_19, kLh_23, kLh_28, kLh_34, kLh_41, xm_b, xm_i, xm_g, xm_s, xm_1, xi_bin, xi_div, xi_un, xi_il, xi_al, xi_is, xi_as, xi_inc, xi_cmp, xi_if, xi_nul, xi_rd, xi_get, xi_put, xi_ald, xi_sld, xi_iast, xi_bast, xi_last, xi_dast, xi_len, xi_slen, xi_lcmp, xi_dup, xi_dup2, xi_ret, xi_retv, xm_cnd, Value.category, true_and, and_true, List.cons_append, List.nil_append, List.replicate, List.length_cons, List.length_nil, Nat.reduceSub, Nat.reduceAdd, List.append_eq, BEq.rfl, if_true, if_false, ↓reduceIte, Nat.reduceEqDiff, Nat.reduceBEq, rI_R, rI_1, rR_I, rR_1, not_false_eq_true, not_true_eq_false, Nat.zero_add, reduceCtorEq, forall_const, Option.toList, List.append_nil, or_true, true_or, vpl, cll, Nat.reduceLT, false_implies, true_implies, implies_true, LB, hg, v0, c0]); (try simp only [lb_Lh_3, lb_Lh_7, lb_Lh_11, lb_Lh_15, lb_Lh_19, lb_Lh_23, lb_Lh_28, lb_Lh_34, lb_Lh_41, lb_Lh_4, lb_Lh_8, lb_Lh_12, lb_Lh_17, lb_Lh_21, lb_Lh_45, lb_Lh_2040, hJ, hJ0, xm_st, List.mem_cons, List.not_mem_nil, or_false, or_self, false_or, or_true, true_or, if_true, if_false, ↓reduceIte, Nat.reduceEqDiff]); (try simp only [kLh_3, kLh_7, kLh_11, kLh_15, kLh_19, kLh_23, kLh_28, kLh_34, kLh_41, xm_b, xm_i, xm_g, xm_s, xm_1, xi_bin, xi_div, xi_un, xi_il, xi_al, xi_is, xi_as, xi_inc, xi_cmp, xi_if, xi_nul, xi_rd, xi_get, xi_put, xi_ald, xi_sld, xi_iast, xi_bast, xi_last, xi_dast, xi_len, xi_slen, xi_lcmp, xi_dup, xi_dup2, xi_ret, xi_retv, xm_cnd, Value.category, true_and, and_true, List.cons_append, List.nil_append, List.replicate, List.length_cons, List.length_nil, Nat.reduceSub, Nat.reduceAdd, List.append_eq, BEq.rfl, if_true, if_false, ↓reduceIte, Nat.reduceEqDiff, Nat.reduceBEq, rI_R, rI_1, rR_I, rR_1, not_false_eq_true, not_true_eq_false, Nat.zero_add, reduceCtorEq, forall_const, Option.toList, List.append_nil, or_true, true_or, vpl, cll, Nat.reduceLT, false_implies, true_implies, implies_true, LB, hg, v0, c0]); (try simp only [lb_Lh_3, lb_Lh_7, lb_Lh_11, lb_Lh_15, lb_Lh_19, lb_Lh_23, lb_Lh_28, lb_Lh_34, lb_Lh_41, lb_Lh_4, lb_Lh_8, lb_Lh_12, lb_Lh_17, lb_Lh_21, lb_Lh_45, lb_Lh_2040, hJ, hJ0, xm_st, List.mem_cons, List.not_mem_nil, or_false, or_self, false_or, or_true, true_or, if_true, if_false, ↓reduceIte, Nat.reduceEqDiff]); (try simp only [kLh_3, kLh_7, kLh_11, kLh_15, kLh_19, kLh_23, kLh_28, kLh_34, kLh_41, xm_b, xm_i, xm_g, xm_s, xm_1, xi_bin, xi_div, xi_un, xi_il, xi_al, xi_is, xi_as, xi_inc, xi_cmp, xi_if, xi_nul, xi_rd, xi_get, xi_put, xi_ald, xi_sld, xi_iast, xi_bast, xi_last, xi_dast, xi_len, xi_slen, xi_lcmp, xi_dup, xi_dup2, xi_ret, xi_retv, xm_cnd, Value.category, true_and, and_true, List.cons_append, List.nil_append, List.replicate, List.length_cons, List.length_nil, Nat.reduceSub, Nat.reduceAdd, List.append_eq, BEq.rfl, if_true, if_false, ↓reduceIte, Nat.reduceEqDiff, Nat.reduceBEq, rI_R, rI_1, rR_I, rR_1, not_false_eq_true, not_true_eq_false, Nat.zero_add, reduceCtorEq, forall_const, Option.toList, List.append_nil, or_true, true_or, vpl, cll, Nat.reduceLT, false_implies, true_implies, implies_true, LB, hg, v0, c0]); (try simp only [lb_Lh_3, lb_Lh_7, lb_Lh_11, lb_Lh_15, lb_Lh_19, lb_Lh_23, lb_Lh_28, lb_Lh_34, lb_Lh_41, lb_Lh_4, lb_Lh_8, lb_Lh_12, lb_Lh_17, lb_Lh_21, lb_Lh_45, lb_Lh_2040, hJ, hJ0, xm_st, List.mem_cons, List.not_mem_nil, or_false, or_self, false_or, or_true, true_or, if_true, if_false, ↓reduceIte, Nat.reduceEqDiff]); (try simp only [kLh_3, kLh_7, kLh_11, kLh_15, kLh_19, kLh_23, kLh_28, kLh_34, kLh_41, xm_b, xm_i, xm_g, xm_s, xm_1, xi_bin, xi_div, xi_un, xi_il, xi_al, xi_is, xi_as, xi_inc, xi_cmp, xi_if, xi_nul, xi_rd, xi_get, xi_put, xi_ald, xi_sld, xi_iast, xi_bast, xi_last, xi_dast, xi_len, xi_slen, xi_lcmp, xi_dup, xi_dup2, xi_ret, xi_retv, xm_cnd, Value.category, true_and, and_true, List.cons_append, List.nil_append, List.replicate, List.length_cons, List.length_nil, Nat.reduceSub, Nat.reduceAdd, List.append_eq, BEq.rfl, if_true, if_false, ↓reduceIte, Nat.reduceEqDiff, Nat.reduceBEq, rI_R, rI_1, rR_I, rR_1, not_false_eq_true, not_true_eq_false, Nat.zero_add, reduceCtorEq, forall_const, Option.toList, List.append_nil, or_true, true_or, vpl, cll, Nat.reduceLT, false_implies, true_implies, implies_true, LB, hg, v0, c0]); (try clear hJ hJ0 J))
      have kk : ∀ M2, KRE M2 → xm_GQ E Z 9 Q (ce + 1) (sl + 6) 2034 (LB i (.retAddr 0) (.retAddr 0) (.retAddr 0)) [] M2 := fun M2 hr2 => by
        (refine xm_runQ hY kc_Lt [28] 3 (fun J hJ0 hJ => ?_); simp only [xm_r0, Nat.reduceAdd, lb_Lt_2034, lb_Lt_2040, lb_Lt_28, lb_Lt_2042]; simp only [kLt_2034, kLt_2040, xm_b, xm_i, xm_g, xm_s, xm_1, xi_bin, xi_div, xi_un, xi_il, xi_al, xi_is, xi_as, xi_inc, xi_cmp, xi_if, xi_nul, xi_rd, xi_get, xi_put, xi_ald, xi_sld, xi_iast, xi_bast, xi_last, xi_dast, xi_len, xi_slen, xi_lcmp, xi_dup, xi_dup2, xi_ret, xi_retv, xm_cnd, Value.category, true_and, and_true, List.cons_append, List.nil_append, List.replicate, List.length_cons, List.length_nil, Nat.reduceSub, Nat.reduceAdd, List.append_eq, BEq.rfl, if_true, if_false, ↓reduceIte, Nat.reduceEqDiff, Nat.reduceBEq, rI_R, rI_1, rR_I, rR_1, not_false_eq_true, not_true_eq_false, Nat.zero_add, reduceCtorEq, forall_const, Option.toList, List.append_nil, or_true, true_or, vpl, cll, Nat.reduceLT, false_implies, true_implies, implies_true, LB, nI_p6]; (try simp only [lb_Lt_2034, lb_Lt_2040, lb_Lt_28, lb_Lt_2042, hJ, hJ0, xm_st, List.mem_cons, List.not_mem_nil, or_false, or_self, false_or, or_true, true_or, if_true, if_false, ↓reduceIte, Nat.reduceEqDiff]); (try simp only [kLt_2034, kLt_2040, xm_b, xm_i, xm_g, xm_s, xm_1, xi_bin, xi_div, xi_un, xi_il, xi_al, xi_is, xi_as, xi_inc, xi_cmp, xi_if, xi_nul, xi_rd, xi_get, xi_put, xi_ald, xi_sld, xi_iast, xi_bast, xi_last, xi_dast, xi_len, xi_slen, xi_lcmp, xi_dup, xi_dup2, xi_ret, xi_retv, xm_cnd, Value.category, true_and, and_true, List.cons_append, List.nil_append, List.replicate, List.length_cons, List.length_nil, Nat.reduceSub, Nat.reduceAdd, List.append_eq, BEq.rfl, if_true, if_false, ↓reduceIte, Nat.reduceEqDiff, Nat.reduceBEq, rI_R, rI_1, rR_I, rR_1, not_false_eq_true, not_true_eq_false, Nat.zero_add, reduceCtorEq, forall_const, Option.toList, List.append_nil, or_true, true_or, vpl, cll, Nat.reduceLT, false_implies, true_implies, implies_true, LB, nI_p6]); (try simp only [lb_Lt_2034, lb_Lt_2040, lb_Lt_28, lb_Lt_2042, hJ, hJ0, xm_st, List.mem_cons, List.not_mem_nil, or_false, or_self, false_or, or_true, true_or, if_true, if_false, ↓reduceIte, Nat.reduceEqDiff]); (try simp only [kLt_2034, kLt_2040, xm_b, xm_i, xm_g, xm_s, xm_1, xi_bin, xi_div, xi_un, xi_il, xi_al, xi_is, xi_as, xi_inc, xi_cmp, xi_if, xi_nul, xi_rd, xi_get, xi_put, xi_ald, xi_sld, xi_iast, xi_bast, xi_last, xi_dast, xi_len, xi_slen, xi_lcmp, xi_dup, xi_dup2, xi_ret, xi_retv, xm_cnd, Value.category, true_and, and_true, List.cons_append, List.nil_append, List.replicate, List.length_cons, List.length_nil, Nat.reduceSub, Nat.reduceAdd, List.append_eq, BEq.rfl, if_true, if_false, ↓reduceIte, Nat.reduceEqDiff, Nat.reduceBEq, rI_R, rI_1, rR_I, rR_1, not_false_eq_true, not_true_eq_false, Nat.zero_add, reduceCtorEq, forall_const, Option.toList, List.append_nil, or_true, true_or, vpl, cll, Nat.reduceLT, false_implies, true_implies, implies_true, LB, nI_p6]); (try clear hJ hJ0 J))
        exact ih _ _ _ _ (by omega) (by omega) (by omega) (by omega) hr2
      have hc : ce + 1 ≤ 601024 ∧ sl + 6 ≤ 7293034 := ⟨by omega, by omega⟩
      obtain ⟨j, hj, ej⟩ := and31 (E.2.2.2.2.2 i)
      rw [ej]
      clear ej
      rcases (by omega : j = 0 ∨ j = 1 ∨ j = 2 ∨ j = 3 ∨ j = 4 ∨ j = 5 ∨ j = 6 ∨ j = 7 ∨ j = 8 ∨ j = 9 ∨ j = 10 ∨ j = 11 ∨ j = 12 ∨ j = 13 ∨ j = 14 ∨ j = 15 ∨ j = 16 ∨ j = 17 ∨ j = 18 ∨ j = 19 ∨ j = 20 ∨ j = 21 ∨ j = 22 ∨ j = 23 ∨ j = 24 ∨ j = 25 ∨ j = 26 ∨ j = 27 ∨ j = 28 ∨ j = 29 ∨ j = 30 ∨ j = 31) with rfl | rfl | rfl | rfl | rfl | rfl | rfl | rfl | rfl | rfl | rfl | rfl | rfl | rfl | rfl | rfl | rfl | rfl | rfl | rfl | rfl | rfl | rfl | rfl | rfl | rfl | rfl | rfl | rfl | rfl | rfl | rfl
      · exact xm_tabQ hY (off := 139) (t := 184) sw_law (by decide) (by decide) (by decide) (by decide) (ca_append hY hls hxl hst hi hL hr hc kk)
      · exact xm_tabQ hY (off := 243) (t := 288) sw_law (by decide) (by decide) (by decide) (by decide) (ca_truncate hY hls hxl hst hi hL hr hc kk)
      · exact xm_tabQ hY (off := 299) (t := 344) sw_law (by decide) (by decide) (by decide) (by decide) (ca_load hY hls hxl hst hi hL hr hc kk)
      · exact xm_tabQ hY (off := 343) (t := 388) sw_law (by decide) (by decide) (by decide) (by decide) (ca_errorCode hY hls hxl hst hi hL hr hc kk)
      · exact xm_tabQ hY (off := 356) (t := 401) sw_law (by decide) (by decide) (by decide) (by decide) (ca_errorPosition hY hls hxl hst hi hL hr hc kk)
      · exact xm_tabQ hY (off := 369) (t := 414) sw_law (by decide) (by decide) (by decide) (by decide) (ca_report hY hls hxl hst hi hL hr hc kk)
      · exact xm_tabQ hY (off := 425) (t := 470) sw_law (by decide) (by decide) (by decide) (by decide) (ca_gate hY hls hxl hst hi hL hr hc kk)
      · exact xm_tabQ hY (off := 493) (t := 538) sw_law (by decide) (by decide) (by decide) (by decide) (ca_put hY hls hxl hst hi hL hr hc kk)
      · exact xm_tabQ hY (off := 561) (t := 606) sw_law (by decide) (by decide) (by decide) (by decide) (ca_step hY hls hxl hst hi hL hr hc kk)
      · exact xm_tabQ hY (off := 617) (t := 662) sw_law (by decide) (by decide) (by decide) (by decide) (ca_jam hY hls hxl hst hi hL hr hc kk)
      · exact xm_tabQ hY (off := 708) (t := 753) sw_law (by decide) (by decide) (by decide) (by decide) (ca_sensor hY hls hxl hst hi hL hr hc kk)
      · exact xm_tabQ hY (off := 799) (t := 844) sw_law (by decide) (by decide) (by decide) (by decide) (ca_setLimits hY hls hxl hst hi hL hr hc kk)
      · exact xm_tabQ hY (off := 847) (t := 892) sw_law (by decide) (by decide) (by decide) (by decide) (ca_setTare hY hls hxl hst hi hL hr hc kk)
      · exact xm_tabQ hY (off := 903) (t := 948) sw_law (by decide) (by decide) (by decide) (by decide) (ca_item hY hls hxl hst hi hL hr hc kk)
      · exact xm_tabQ hY (off := 971) (t := 1016) sw_law (by decide) (by decide) (by decide) (by decide) (ca_measured hY hls hxl hst hi hL hr hc kk)
      · exact xm_tabQ hY (off := 1027) (t := 1072) sw_law (by decide) (by decide) (by decide) (by decide) (ca_sampleOf hY hls hxl hst hi hL hr hc kk)
      · exact xm_tabQ hY (off := 1095) (t := 1140) sw_law (by decide) (by decide) (by decide) (by decide) (ca_sample hY hls hxl hst hi hL hr hc kk)
      · exact xm_tabQ hY (off := 1151) (t := 1196) sw_law (by decide) (by decide) (by decide) (by decide) (ca_count hY hls hxl hst hi hL hr hc kk)
      · exact xm_tabQ hY (off := 1207) (t := 1252) sw_law (by decide) (by decide) (by decide) (by decide) (ca_decided hY hls hxl hst hi hL hr hc kk)
      · exact xm_tabQ hY (off := 1263) (t := 1308) sw_law (by decide) (by decide) (by decide) (by decide) (ca_meanGood hY hls hxl hst hi hL hr hc kk)
      · exact xm_tabQ hY (off := 1328) (t := 1373) sw_law (by decide) (by decide) (by decide) (by decide) (ca_meanError hY hls hxl hst hi hL hr hc kk)
      · exact xm_tabQ hY (off := 1393) (t := 1438) sw_law (by decide) (by decide) (by decide) (by decide) (ca_vibration hY hls hxl hst hi hL hr hc kk)
      · exact xm_tabQ hY (off := 1449) (t := 1494) sw_law (by decide) (by decide) (by decide) (by decide) (ca_residue hY hls hxl hst hi hL hr hc kk)
      · exact xm_tabQ hY (off := 1517) (t := 1562) sw_law (by decide) (by decide) (by decide) (by decide) (ca_bestWindow hY hls hxl hst hi hL hr hc kk)
      · exact xm_tabQ hY (off := 1573) (t := 1618) sw_law (by decide) (by decide) (by decide) (by decide) (ca_weightWith hY hls hxl hst hi hL hr hc kk)
      · exact xm_tabQ hY (off := 1641) (t := 1686) sw_law (by decide) (by decide) (by decide) (by decide) (ca_samplesFor hY hls hxl hst hi hL hr hc kk)
      · exact xm_tabQ hY (off := 1697) (t := 1742) sw_law (by decide) (by decide) (by decide) (by decide) (ca_arrival hY hls hxl hst hi hL hr hc kk)
      · exact xm_tabQ hY (off := 1765) (t := 1810) sw_law (by decide) (by decide) (by decide) (by decide) (ca_openTicks hY hls hxl hst hi hL hr hc kk)
      · exact xm_tabQ hY (off := 1821) (t := 1866) sw_law (by decide) (by decide) (by decide) (by decide) (ca_opensAt hY hls hxl hst hi hL hr hc kk)
      · exact xm_tabQ hY (off := 1877) (t := 1922) sw_law (by decide) (by decide) (by decide) (by decide) (ca_fate hY hls hxl hst hi hL hr hc kk)
      · exact xm_tabQ hY (off := 1933) (t := 1978) sw_law (by decide) (by decide) (by decide) (by decide) (ca_spacing hY hls hxl hst hi hL hr hc kk)
      · exact xm_tabOQ hY sw_law (td := 2034) (by decide) (by decide) (xm_wideQ (k := ce + 1) (n := sl + 6) (by omega) (by omega) (kk M hr))
    · have hg : nI E.2.2.2.2.1 - 6 < nI i := (lw_gt (by omega) (by omega)).mpr (by omega)
      (refine xm_runQ hY kc_Lh [2040] 4 (fun J hJ0 hJ => ?_); simp only [xm_r0, Nat.reduceAdd, lb_Lh_3, lb_Lh_7, lb_Lh_11, lb_Lh_15, lb_Lh_19, lb_Lh_23, lb_Lh_28, lb_Lh_34, lb_Lh_41, lb_Lh_4, lb_Lh_8, lb_Lh_12, lb_Lh_17, lb_Lh_21, lb_Lh_45, lb_Lh_2040]; simp only [kLh_3, kLh_7, kLh_11, kLh_15, kLh_19, kLh_23, kLh_28, kLh_34, kLh_41, xm_b, xm_i, xm_g, xm_s, xm_1, xi_bin, xi_div, xi_un, xi_il, xi_al, xi_is, xi_as, xi_inc, xi_cmp, xi_if, xi_nul, xi_rd, xi_get, xi_put, xi_ald, xi_sld, xi_iast, xi_bast, xi_last, xi_dast, xi_len, xi_slen, xi_lcmp, xi_dup, xi_dup2, xi_ret, xi_retv, xm_cnd, Value.category, true_and, and_true, List.cons_append, List.nil_append, List.replicate, List.length_cons, List.length_nil, Nat.reduceSub, Nat.reduceAdd, List.append_eq, BEq.rfl, if_true, if_false, ↓reduceIte, Nat.reduceEqDiff, Nat.reduceBEq, rI_R, rI_1, rR_I, rR_1, not_false_eq_true, not_true_eq_false, Nat.zero_add, reduceCtorEq, forall_const, Option.toList, List.append_nil, or_true, true_or, vpl, cll, Nat.reduceLT, false_implies, true_implies, implies_true, LB, hg]; (try simp only [lb_Lh_3, lb_Lh_7, lb_Lh_11, lb_Lh_15, lb_Lh_19, lb_Lh_23, lb_Lh_28, lb_Lh_34, lb_Lh_41, lb_Lh_4, lb_Lh_8, lb_Lh_12, lb_Lh_17, lb_Lh_21, lb_Lh_45, lb_Lh_2040, hJ, hJ0, xm_st, List.mem_cons, List.not_mem_nil, or_false, or_self, false_or, or_true, true_or, if_true, if_false, ↓reduceIte, Nat.reduceEqDiff]); (try simp only [kLh_3, kLh_7, kLh_11, kLh_15, kLh_19, kLh_23, kLh_28, kLh_34, kLh_41, xm_b, xm_i, xm_g, xm_s, xm_1, xi_bin, xi_div, xi_un, xi_il, xi_al, xi_is, xi_as, xi_inc, xi_cmp, xi_if, xi_nul, xi_rd, xi_get, xi_put, xi_ald, xi_sld, xi_iast, xi_bast, xi_last, xi_dast, xi_len, xi_slen, xi_lcmp, xi_dup, xi_dup2, xi_ret, xi_retv, xm_cnd, Value.category, true_and, and_true, List.cons_append, List.nil_append, List.replicate, List.length_cons, List.length_nil, Nat.reduceSub, Nat.reduceAdd, List.append_eq, BEq.rfl, if_true, if_false, ↓reduceIte, Nat.reduceEqDiff, Nat.reduceBEq, rI_R, rI_1, rR_I, rR_1, not_false_eq_true, not_true_eq_false, Nat.zero_add, reduceCtorEq, forall_const, Option.toList, List.append_nil, or_true, true_or, vpl, cll, Nat.reduceLT, false_implies, true_implies, implies_true, LB, hg]); (try simp only [lb_Lh_3, lb_Lh_7, lb_Lh_11, lb_Lh_15, lb_Lh_19, lb_Lh_23, lb_Lh_28, lb_Lh_34, lb_Lh_41, lb_Lh_4, lb_Lh_8, lb_Lh_12, lb_Lh_17, lb_Lh_21, lb_Lh_45, lb_Lh_2040, hJ, hJ0, xm_st, List.mem_cons, List.not_mem_nil, or_false, or_self, false_or, or_true, true_or, if_true, if_false, ↓reduceIte, Nat.reduceEqDiff]); (try simp only [kLh_3, kLh_7, kLh_11, kLh_15, kLh_19, kLh_23, kLh_28, kLh_34, kLh_41, xm_b, xm_i, xm_g, xm_s, xm_1, xi_bin, xi_div, xi_un, xi_il, xi_al, xi_is, xi_as, xi_inc, xi_cmp, xi_if, xi_nul, xi_rd, xi_get, xi_put, xi_ald, xi_sld, xi_iast, xi_bast, xi_last, xi_dast, xi_len, xi_slen, xi_lcmp, xi_dup, xi_dup2, xi_ret, xi_retv, xm_cnd, Value.category, true_and, and_true, List.cons_append, List.nil_append, List.replicate, List.length_cons, List.length_nil, Nat.reduceSub, Nat.reduceAdd, List.append_eq, BEq.rfl, if_true, if_false, ↓reduceIte, Nat.reduceEqDiff, Nat.reduceBEq, rI_R, rI_1, rR_I, rR_1, not_false_eq_true, not_true_eq_false, Nat.zero_add, reduceCtorEq, forall_const, Option.toList, List.append_nil, or_true, true_or, vpl, cll, Nat.reduceLT, false_implies, true_implies, implies_true, LB, hg]); (try simp only [lb_Lh_3, lb_Lh_7, lb_Lh_11, lb_Lh_15, lb_Lh_19, lb_Lh_23, lb_Lh_28, lb_Lh_34, lb_Lh_41, lb_Lh_4, lb_Lh_8, lb_Lh_12, lb_Lh_17, lb_Lh_21, lb_Lh_45, lb_Lh_2040, hJ, hJ0, xm_st, List.mem_cons, List.not_mem_nil, or_false, or_self, false_or, or_true, true_or, if_true, if_false, ↓reduceIte, Nat.reduceEqDiff]); (try simp only [kLh_3, kLh_7, kLh_11, kLh_15, kLh_19, kLh_23, kLh_28, kLh_34, kLh_41, xm_b, xm_i, xm_g, xm_s, xm_1, xi_bin, xi_div, xi_un, xi_il, xi_al, xi_is, xi_as, xi_inc, xi_cmp, xi_if, xi_nul, xi_rd, xi_get, xi_put, xi_ald, xi_sld, xi_iast, xi_bast, xi_last, xi_dast, xi_len, xi_slen, xi_lcmp, xi_dup, xi_dup2, xi_ret, xi_retv, xm_cnd, Value.category, true_and, and_true, List.cons_append, List.nil_append, List.replicate, List.length_cons, List.length_nil, Nat.reduceSub, Nat.reduceAdd, List.append_eq, BEq.rfl, if_true, if_false, ↓reduceIte, Nat.reduceEqDiff, Nat.reduceBEq, rI_R, rI_1, rR_I, rR_1, not_false_eq_true, not_true_eq_false, Nat.zero_add, reduceCtorEq, forall_const, Option.toList, List.append_nil, or_true, true_or, vpl, cll, Nat.reduceLT, false_implies, true_implies, implies_true, LB, hg]); (try clear hJ hJ0 J))
      exact hend _ _ _ _ (by omega) (by omega) hr

/-! ONE CALL OF EACH SIDE: the text, load, the error's code and position -/
theorem byt_nn (x y : Int32) : 0 ≤ (byt x y).toInt := by
  have h : (byt x y).toBitVec.toNat ≤ 255 := by
    unfold byt
    rw [Int32.toBitVec_and, BitVec.toNat_and]
    exact Nat.and_le_right
  show 0 ≤ (byt x y).toBitVec.toInt
  rw [BitVec.toInt_eq_toNat_of_lt (by omega)]
  omega
theorem rI_n {M : xm_M} {a j : Nat} {x : Int32} {b : Nat} (h : b ≠ a) : (xm_setI M a j x).2.1 b = M.2.1 b := if_neg h
theorem KR.text {M M2 : xm_M} {S U V G W Q N F T n n' : Nat} {d e : Int32} (h : KR M S U V G W Q N F T n d e) (h1 : M2.1 = M.1) (hR : ∀ b j, b < 285 → M2.2.2 b j = M.2.2 b j) (hI : ∀ b, b ≠ 0 → b ≠ 1 → b ≠ 278 → b ≠ 283 → M2.2.1 b = M.2.1 b) (h01 : M2.2.1 0 1 = nI n') (h6 : M2.2.1 278 6 = nI n') (hn : n' ≤ 500) (ht : ∀ k, k < n' → M2.2.1 1 k = M2.2.1 283 k) (hb : ∀ k, k < n' → 0 ≤ (M2.2.1 283 k).toInt) (h02 : ∀ j, j ≠ 1 → M2.2.1 0 j = M.2.1 0 j) (h8 : ∀ j, j = 12 ∨ j = 13 → M2.2.1 278 j = M.2.1 278 j) : KR M2 S U V G W Q N F T n' d e := by
  obtain ⟨⟨c1, c2, ⟨c3, c3', c3''⟩, m0, m1, m2, m3, m4, m5, m14⟩, ⟨w1, w2, w3, w4, w5⟩, ⟨s1, s2, s3⟩, -, e1, e2⟩ := h
  have hSU := c1.2.2.1
  have bS := hSU.1.b
  unfold KR
  rw [hI 279 (by decide) (by decide) (by decide) (by decide), hI 281 (by decide) (by decide) (by decide) (by decide), h8 12 (by decide), h8 13 (by decide), h02 2 (by decide), h02 3 (by decide)]
  exact ⟨⟨c1.eqR h1 hR, (hR 18 0 (by decide)).trans c2, ⟨(hR 275 0 (by decide)).trans c3, (hR 275 2 (by decide)).trans c3', (hR 275 3 (by decide)).trans c3''⟩, by omega, (hR 278 1 (by decide)).trans m1, (hR 278 2 (by decide)).trans m2, (hR 278 3 (by decide)).trans m3, (hR 278 4 (by decide)).trans m4, (hR 278 5 (by decide)).trans m5, (hR 278 14 (by decide)).trans m14⟩, ⟨w1, w2, w3, w4, w5⟩, ⟨s1.cong (fun b h1 h2 => hI b (by omega) (by omega) (by omega) (by omega)), s2.cong w2.n2b (fun b h1 h2 => hI b (by omega) (by omega) (by omega) (by omega)), s3.cong (fun b h1 h2 => hI b (by omega) (by omega) (by omega) (by omega))⟩, ⟨h01, h6, hn, ht, hb⟩, e1, e2⟩
theorem txf_nn {f : Nat → Int32} {n : Nat} {x1 x2 x3 x4 x5 : Int32} (h : ∀ k, k < n → 0 ≤ (f k).toInt) {k : Nat} (hk : k < n + 20) : 0 ≤ (txf f n x1 x2 x3 x4 x5 20 k).toInt := by
  unfold txf
  by_cases h1 : n ≤ k ∧ k < n + 20
  · rw [if_pos h1]
    exact byt_nn _ _
  · rw [if_neg h1]
    exact h k (by omega)
theorem op_append {E : xm_E} {l : Launch} {M : xm_M} (hls : l.stackTraces = false) (hxl : ∀ U, E.2.2.2.1 U → xl E.2.2.1 U) (hst : ∀ U, E.2.2.2.1 U → xst E U) (hr : KRE M) (x1 x2 x3 x4 x5 : Int32) : OPI E l mt_L_append [.ref 0, .int x1, .int x2, .int x3, .int x4, .int x5, .ref 285] mt_X7_append [.ref 278, .int x1, .int x2, .int x3, .int x4, .int x5] M GI := by
  obtain ⟨S, U, V, G, W, Q, N, F, T, n, d, e, h⟩ := id hr
  obtain ⟨⟨hC, h18, htM, hm⟩, ⟨hp, ha, hv, hT, hov⟩, ⟨hs, hl, htR⟩, ⟨t1, t2, t3, t4, t5⟩, e12, e13⟩ := id h
  have e287 : ly_m = 287 := rfl
  have hM1 : M.1 = ly_m := hC.1
  have b0 : 0 < M.1 := by omega
  have h9 : 286 < M.1 := by omega
  have hxq : ∀ U, E.2.2.2.1 U → xq E.2.2.1 U := fun U hU => (hxl U hU).1
  have hN := ha.n2b
  have hfr : ∀ i, i < N → (0 ≤ (M.2.1 281 (81 + 76 * i + 2)).toInt ∧ (M.2.1 281 (81 + 76 * i + 2)).toInt ≤ 9200) := fun i hi => (hv.2.2.2.2 i hi).2.1
  have hI : ∀ x, isI M x ↔ (0 ≤ x ∧ x ≤ nI N - 1) := fun x => by
    show (0 ≤ x ∧ x ≤ M.2.1 281 2 - 1) ↔ _
    rw [ha.n2]
  by_cases hx : n + 20 ≤ 500
  · have hm2 : mR (mI M (txI M.2.1 n x1 x2 x3 x4 x5)) := hm
    have hmX := hm2.out (Nat.le_refl _) (.long (nI (n + 20)).toInt64)
    have eX : ∀ b, b ≠ 0 → b ≠ 1 → (xm_setR (mI M (txI M.2.1 n x1 x2 x3 x4 x5)) 285 0 (.long (nI (n + 20)).toInt64)).2.1 b = M.2.1 b := fun b h1 h2 => txI_o h1 h2
    have e6 : (xm_setR (mI M (txI M.2.1 n x1 x2 x3 x4 x5)) 285 0 (.long (nI (n + 20)).toInt64)).2.1 278 6 = nI n := by rw [eX 278 (by decide) (by decide)]; exact t2
    have h2 := sp_append_y (E := E) (l := l) hmX (x1 := x1) (x2 := x2) (x3 := x3) (x4 := x4) (x5 := x5) e6 hx
    rw [eX 283 (by decide) (by decide)] at h2
    refine OPI.w (b := nI (n + 20)) (M1 := mI M (txI M.2.1 n x1 x2 x3 x4 x5)) h9 (lh_append_y (cq_append hC t1 hx) (by decide) b0 h9) h2 (by decide) ?_ rfl ⟨S, U, V, G, W, Q, N, F, T, n + 20, d, e, h.text rfl (fun b j hb => ?_) (fun b h0 h1 h8 h3 => ?_) ?_ ?_ hx (fun k hk => ?_) (fun k hk => ?_) (fun j hj => ?_) (fun j hj => ?_)⟩
    · rw [rI_I, if_neg (by decide), rw1_n _ _ (by decide), thr_0]
    · show (xm_setR (mI M (txI M.2.1 n x1 x2 x3 x4 x5)) 285 0 (.long (nI (n + 20)).toInt64)).2.2 b j = _
      rw [rs_g, if_neg (by omega)]
      rfl
    · rw [rI_n h8, rw1_n _ _ h3, thr_I h8, eX b h0 h1]
    · rw [rI_n (by decide), rw1_n _ _ (by decide), thr_I (by decide)]
      show txI M.2.1 n x1 x2 x3 x4 x5 0 1 = _
      exact txI_len
    · rw [rI_I, if_pos ⟨rfl, rfl⟩]
    · rw [rI_n (by decide), rI_n (by decide), rw1_s, rw1_n _ _ (by decide), thr_I (by decide)]
      show txI M.2.1 n x1 x2 x3 x4 x5 1 k = _
      rw [txI_t]
      unfold txf
      by_cases q : n ≤ k ∧ k < n + 20
      · rw [if_pos q, if_pos q]
      · rw [if_neg q, if_neg q]
        exact t4 k (by omega)
    · rw [rI_n (by decide), rw1_s]
      exact txf_nn t5 hk
    · rw [rI_n (by decide), rw1_n _ _ (by decide), thr_I (by decide)]
      show txI M.2.1 n x1 x2 x3 x4 x5 0 j = M.2.1 0 j
      exact txI_l hj
    · rw [rI_I, if_neg (by omega), rw1_n _ _ (by decide), thr_i (by omega), eX 278 (by decide) (by decide)]
  · exact OPI.x hr h9 (lh_append_1 (cx_append hls hxq hC t1 t3 hx) (by decide) b0 hxl) (sp_append_n hm t2 t3 hx) (by decide) (GI.x (by decide))
theorem op_truncate {E : xm_E} {l : Launch} {M : xm_M} (hls : l.stackTraces = false) (hxl : ∀ U, E.2.2.2.1 U → xl E.2.2.1 U) (hst : ∀ U, E.2.2.2.1 U → xst E U) (hr : KRE M) (x : Int32) : OPI E l mt_L_truncate [.ref 0, .int x, .ref 285] mt_X7_truncate [.ref 278, .int x] M GI := by
  obtain ⟨S, U, V, G, W, Q, N, F, T, n, d, e, h⟩ := id hr
  obtain ⟨⟨hC, h18, htM, hm⟩, ⟨hp, ha, hv, hT, hov⟩, ⟨hs, hl, htR⟩, ⟨t1, t2, t3, t4, t5⟩, e12, e13⟩ := id h
  have e287 : ly_m = 287 := rfl
  have hM1 : M.1 = ly_m := hC.1
  have b0 : 0 < M.1 := by omega
  have h9 : 286 < M.1 := by omega
  have hxq : ∀ U, E.2.2.2.1 U → xq E.2.2.1 U := fun U hU => (hxl U hU).1
  have hN := ha.n2b
  have hfr : ∀ i, i < N → (0 ≤ (M.2.1 281 (81 + 76 * i + 2)).toInt ∧ (M.2.1 281 (81 + 76 * i + 2)).toInt ≤ 9200) := fun i hi => (hv.2.2.2.2 i hi).2.1
  have hI : ∀ x, isI M x ↔ (0 ≤ x ∧ x ≤ nI N - 1) := fun x => by
    show (0 ≤ x ∧ x ≤ M.2.1 281 2 - 1) ↔ _
    rw [ha.n2]
  by_cases hx : 0 ≤ x ∧ x ≤ nI n
  · obtain ⟨k, hk, rfl⟩ := in_nat (n := n) (by omega) hx
    have hm2 : mR (mI M (st M.2.1 0 1 (nI k))) := hm
    have hmX := hm2.out (Nat.le_refl _) (.long (nI k).toInt64)
    have eX : ∀ b, b ≠ 0 → (xm_setR (mI M (st M.2.1 0 1 (nI k))) 285 0 (.long (nI k).toInt64)).2.1 b = M.2.1 b := fun b h1 => st_o h1
    have e6 : (xm_setR (mI M (st M.2.1 0 1 (nI k))) 285 0 (.long (nI k).toInt64)).2.1 278 6 = nI n := by rw [eX 278 (by decide)]; exact t2
    have h2 := sp_truncate_y (E := E) (l := l) hmX e6 hx
    refine OPI.w (b := nI k) (M1 := mI M (st M.2.1 0 1 (nI k))) h9 (lh_truncate_y (cq_truncate hC t1 hx) (by decide) b0 h9) h2 (by decide) ?_ rfl ⟨S, U, V, G, W, Q, N, F, T, k, d, e, h.text rfl (fun b j hb => ?_) (fun b h0 h1 h8 h3 => ?_) ?_ ?_ (by omega) (fun i hi => ?_) (fun i hi => ?_) (fun j hj => ?_) (fun j hj => ?_)⟩
    · rw [rI_I, if_neg (by decide), thr_0]
    · show (xm_setR (mI M (st M.2.1 0 1 (nI k))) 285 0 (.long (nI k).toInt64)).2.2 b j = _
      rw [rs_g, if_neg (by omega)]
      rfl
    · rw [rI_n h8, thr_I h8, eX b h0]
    · rw [rI_n (by decide), thr_I (by decide)]
      show st M.2.1 0 1 (nI k) 0 1 = _
      exact st_e
    · rw [rI_I, if_pos ⟨rfl, rfl⟩]
    · rw [rI_n (by decide), rI_n (by decide), thr_I (by decide), thr_I (by decide), eX 1 (by decide), eX 283 (by decide)]
      exact t4 i (by omega)
    · rw [rI_n (by decide), thr_I (by decide), eX 283 (by decide)]
      exact t5 i (by omega)
    · rw [rI_n (by decide), thr_I (by decide)]
      show st M.2.1 0 1 (nI k) 0 j = M.2.1 0 j
      exact st_i hj
    · rw [rI_I, if_neg (by omega), thr_i (by omega), eX 278 (by decide)]
  · exact OPI.x hr h9 (lh_truncate_1 (cx_truncate hls hxq hC t1 hx) (by decide) b0 hxl) (sp_truncate_n hm t2 hx) (by decide) (GI.x (by decide))

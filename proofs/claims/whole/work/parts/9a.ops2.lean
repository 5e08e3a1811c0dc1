/-! ONE CALL OF EACH SIDE: put, jam, sensor, limits, tare, step -/
theorem op_put {E : xm_E} {l : Launch} {M : xm_M} (hls : l.stackTraces = false) (hxl : ∀ U, E.2.2.2.1 U → xl E.2.2.1 U) (hst : ∀ U, E.2.2.2.1 U → xst E U) (hr : KRE M) (x y : Int32) : OPI E l mt_L_put [.ref 0, .int x, .int y, .ref 285] mt_X7_put [.ref 278, .int x, .int y] M GI := by
  obtain ⟨S, U, V, G, W, Q, N, F, T, n, d, e, h⟩ := id hr
  obtain ⟨⟨hC, h18, htM, hm⟩, ⟨hp, ha, hv, hT, hov⟩, ⟨hs, hl, htR⟩, ⟨t1, t2, t3, t4, t5⟩, e12, e13⟩ := id h
  have e287 : ly_m = 287 := rfl
  have hM1 : M.1 = ly_m := hC.1
  have b0 : 0 < M.1 := by omega
  have h9 : 286 < M.1 := by omega
  have hxq : ∀ U, E.2.2.2.1 U → xq E.2.2.1 U := fun U hU => (hxl U hU).1
  have hN := ha.n2b
  have hfr : ∀ i, i < N → (0 ≤ (M.2.1 281 (81 + 76 * i + 2)).toInt ∧ (M.2.1 281 (81 + 76 * i + 2)).toInt ≤ 9200) := fun i hi => (hv.2.2.2.2 i hi).2.1
  have hI : ∀ x, isI M x ↔ (0 ≤ x ∧ x ≤ nI N - 1) := fun x => by
    show (0 ≤ x ∧ x ≤ M.2.1 281 2 - 1) ↔ _
    rw [ha.n2]
  have hln : ∀ i, i < N → (0 ≤ (M.2.1 281 (81 + 76 * i + 2)).toInt ∧ (M.2.1 281 (81 + 76 * i + 2)).toInt ≤ 9200) ∧ 1 ≤ (M.2.1 281 (81 + 76 * i + 1)).toInt ∧ (M.2.1 281 (81 + 76 * i + 1)).toInt ≤ 2000 := fun i hi => ⟨hfr i hi, ha.ln i hi⟩
  by_cases hx : ptr x y
  · by_cases hf : fre (M.2.1 281) N ∧ N < 60
    · have c1 : (1 : Int32).toInt = 1 := rfl
      have c2 : (2000 : Int32).toInt = 2000 := rfl
      have hy : 1 ≤ y.toInt ∧ y.toInt ≤ 2000 := by
        have := hx.2
        rw [te, te, c1, c2] at this
        exact this
      have hfl : frL 19 M.2.1 (st (bgI M.2.1 (19 + 8 + 2 * N) x y) 19 7 (nI (N + 1))) := fun b hb => by
        rw [st_o (by omega), bgI_o (by omega)]
      exact OPI.l h h9 (lh_put_y (cq_put hC hl hN hln hx hf) (by decide) b0 h9) (hfl) (fun X hX e1 e9 => by
        have h2 := sp_put_y (E := E) (l := l) hX (by rw [e1]; exact ha.n2) hx (by rw [e1]; exact hf.1) hf.2
        rw [e1] at h2
        exact h2) (by decide) GI.y (ha.put hf.2 hx.2) (hv.put hp) hT (hov.put hp ha hv hf.1) (hl.put (by omega))
    · exact OPI.x hr h9 (lh_put_2 (cx_put_2 hls hxq hC hl hN hln hx hf) (by decide) b0 hxl) (sp_put_m hm ha.n2 hN hx hf) (by decide) (GI.x (by decide))
  · exact OPI.x hr h9 (lh_put_1 (cx_put_1 hls hxq hC hx) (by decide) b0 hxl) (sp_put_n hm hx) (by decide) (GI.x (by decide))
theorem op_jam {E : xm_E} {l : Launch} {M : xm_M} (hls : l.stackTraces = false) (hxl : ∀ U, E.2.2.2.1 U → xl E.2.2.1 U) (hst : ∀ U, E.2.2.2.1 U → xst E U) (hr : KRE M) (x y : Int32) (hy : y = 0 ∨ y = 1) : OPI E l mt_L_jam [.ref 0, .int x, .int y, .ref 285] mt_X7_jam [.ref 278, .int x, .int y] M GB := by
  obtain ⟨S, U, V, G, W, Q, N, F, T, n, d, e, h⟩ := id hr
  obtain ⟨⟨hC, h18, htM, hm⟩, ⟨hp, ha, hv, hT, hov⟩, ⟨hs, hl, htR⟩, ⟨t1, t2, t3, t4, t5⟩, e12, e13⟩ := id h
  have e287 : ly_m = 287 := rfl
  have hM1 : M.1 = ly_m := hC.1
  have b0 : 0 < M.1 := by omega
  have h9 : 286 < M.1 := by omega
  have hxq : ∀ U, E.2.2.2.1 U → xq E.2.2.1 U := fun U hU => (hxl U hU).1
  have hN := ha.n2b
  have hfr : ∀ i, i < N → (0 ≤ (M.2.1 281 (81 + 76 * i + 2)).toInt ∧ (M.2.1 281 (81 + 76 * i + 2)).toInt ≤ 9200) := fun i hi => (hv.2.2.2.2 i hi).2.1
  have hI : ∀ x, isI M x ↔ (0 ≤ x ∧ x ≤ nI N - 1) := fun x => by
    show (0 ≤ x ∧ x ≤ M.2.1 281 2 - 1) ↔ _
    rw [ha.n2]
  have hG5 := hp.g5
  have hG3 := hp.g5b
  by_cases hx : 0 ≤ x ∧ x ≤ nI G - 1
  · obtain ⟨g, hg, rfl⟩ := item_n (N := G) (by omega) hx
    have hfl : frL 19 M.2.1 (st M.2.1 (19 + 1) g (xb (y ≠ 0))) := fun b hb => st_o (by omega)
    have hwa : wa (chr (M.2.1 281) g 0 (xb (y ≠ 0))) N G := ha.g (by omega) (by omega)
    have hov2 : ov (M.2.1 279) (chr (M.2.1 281) g 0 (xb (y ≠ 0))) G N T := hov.cong (fun j hj => up_n (by omega))
    exact OPI.l h h9 (lh_jam_y (cq_jam hC hs hp hl hg hy) (by decide) b0 h9) (hfl) (fun X hX e1 e9 => by
      have h2 := sp_jam_y (E := E) (l := l) hX (b := y) (by rw [e9]; exact hG5) hG3 hg
      rw [e1] at h2
      exact h2) (by decide) GB.y hwa (hv.chr (by omega) (by decide) (xb_01 _)) hT hov2 (hl.jam (by omega))
  · exact OPI.x hr h9 (lh_jam_1 (cx_jam hls hxq hC hs hp hx) (by decide) b0 hxl) (sp_jam_n hm (fun q => hx (by rw [hG5] at q; exact q))) (by decide) (GB.x (by decide))
theorem op_sensor {E : xm_E} {l : Launch} {M : xm_M} (hls : l.stackTraces = false) (hxl : ∀ U, E.2.2.2.1 U → xl E.2.2.1 U) (hst : ∀ U, E.2.2.2.1 U → xst E U) (hr : KRE M) (x y : Int32) (hy : y = 0 ∨ y = 1) : OPI E l mt_L_sensor [.ref 0, .int x, .int y, .ref 285] mt_X7_sensor [.ref 278, .int x, .int y] M GB := by
  obtain ⟨S, U, V, G, W, Q, N, F, T, n, d, e, h⟩ := id hr
  obtain ⟨⟨hC, h18, htM, hm⟩, ⟨hp, ha, hv, hT, hov⟩, ⟨hs, hl, htR⟩, ⟨t1, t2, t3, t4, t5⟩, e12, e13⟩ := id h
  have e287 : ly_m = 287 := rfl
  have hM1 : M.1 = ly_m := hC.1
  have b0 : 0 < M.1 := by omega
  have h9 : 286 < M.1 := by omega
  have hxq : ∀ U, E.2.2.2.1 U → xq E.2.2.1 U := fun U hU => (hxl U hU).1
  have hN := ha.n2b
  have hfr : ∀ i, i < N → (0 ≤ (M.2.1 281 (81 + 76 * i + 2)).toInt ∧ (M.2.1 281 (81 + 76 * i + 2)).toInt ≤ 9200) := fun i hi => (hv.2.2.2.2 i hi).2.1
  have hI : ∀ x, isI M x ↔ (0 ≤ x ∧ x ≤ nI N - 1) := fun x => by
    show (0 ≤ x ∧ x ≤ M.2.1 281 2 - 1) ↔ _
    rw [ha.n2]
  have hG5 := hp.g5
  have hG3 := hp.g5b
  by_cases hx : 0 ≤ x ∧ x ≤ nI G - 1
  · obtain ⟨g, hg, rfl⟩ := item_n (N := G) (by omega) hx
    have hfl : frL 19 M.2.1 (st M.2.1 (19 + 2) g (xb (y ≠ 0))) := fun b hb => st_o (by omega)
    have hwa : wa (chr (M.2.1 281) g 1 (xb (y ≠ 0))) N G := ha.g (by omega) (by omega)
    have hov2 : ov (M.2.1 279) (chr (M.2.1 281) g 1 (xb (y ≠ 0))) G N T := hov.cong (fun j hj => up_n (by omega))
    exact OPI.l h h9 (lh_sensor_y (cq_sensor hC hs hp hl hg hy) (by decide) b0 h9) (hfl) (fun X hX e1 e9 => by
      have h2 := sp_sensor_y (E := E) (l := l) hX (b := y) (by rw [e9]; exact hG5) hG3 hg
      rw [e1] at h2
      exact h2) (by decide) GB.y hwa (hv.chr (by omega) (by decide) (xb_01 _)) hT hov2 (hl.deaf (by omega))
  · exact OPI.x hr h9 (lh_sensor_1 (cx_sensor hls hxq hC hs hp hx) (by decide) b0 hxl) (sp_sensor_n hm (fun q => hx (by rw [hG5] at q; exact q))) (by decide) (GB.x (by decide))
theorem op_setTare {E : xm_E} {l : Launch} {M : xm_M} (hls : l.stackTraces = false) (hxl : ∀ U, E.2.2.2.1 U → xl E.2.2.1 U) (hst : ∀ U, E.2.2.2.1 U → xst E U) (hr : KRE M) (x : Int32) : OPI E l mt_L_setTare [.ref 0, .int x, .ref 285] mt_X7_setTare [.ref 278, .int x] M GI := by
  obtain ⟨S, U, V, G, W, Q, N, F, T, n, d, e, h⟩ := id hr
  obtain ⟨⟨hC, h18, htM, hm⟩, ⟨hp, ha, hv, hT, hov⟩, ⟨hs, hl, htR⟩, ⟨t1, t2, t3, t4, t5⟩, e12, e13⟩ := id h
  have e287 : ly_m = 287 := rfl
  have hM1 : M.1 = ly_m := hC.1
  have b0 : 0 < M.1 := by omega
  have h9 : 286 < M.1 := by omega
  have hxq : ∀ U, E.2.2.2.1 U → xq E.2.2.1 U := fun U hU => (hxl U hU).1
  have hN := ha.n2b
  have hfr : ∀ i, i < N → (0 ≤ (M.2.1 281 (81 + 76 * i + 2)).toInt ∧ (M.2.1 281 (81 + 76 * i + 2)).toInt ≤ 9200) := fun i hi => (hv.2.2.2.2 i hi).2.1
  have hI : ∀ x, isI M x ↔ (0 ≤ x ∧ x ≤ nI N - 1) := fun x => by
    show (0 ≤ x ∧ x ≤ M.2.1 281 2 - 1) ↔ _
    rw [ha.n2]
  by_cases hx : -9999 ≤ x ∧ x ≤ 9999
  · have hfl : frL 19 M.2.1 (st M.2.1 19 4 x) := fun b hb => st_o (by omega)
    exact OPI.l h h9 (lh_setTare_y (cq_setTare hC hl hN hx) (by decide) b0 h9) hfl (fun X hX e1 e9 => by
      have h2 := sp_setTare (E := E) (l := l) hX (x := x)
      simp only [if_pos hx] at h2
      rw [rw1_of, thr_a, e1] at h2
      exact h2) (by decide) GI.y (ha.g (by decide) (by decide)) hv.tare hT (hov.cong (fun j hj => up_n (by omega))) hl.tare
  · exact OPI.x hr h9 (lh_setTare_1 (cx_setTare hls hxq hC hx) (by decide) b0 hxl) (by
      have h2 := sp_setTare (E := E) (l := l) hm (x := x)
      simp only [if_neg hx] at h2
      exact h2) (by decide) (GI.x (by decide))
theorem op_setLimits {E : xm_E} {l : Launch} {M : xm_M} (hls : l.stackTraces = false) (hxl : ∀ U, E.2.2.2.1 U → xl E.2.2.1 U) (hst : ∀ U, E.2.2.2.1 U → xst E U) (hr : KRE M) (x y : Int32) : OPI E l mt_L_setLimits [.ref 0, .int x, .int y] mt_X7_setLimits [.ref 278, .int x, .int y] M GV := by
  obtain ⟨S, U, V, G, W, Q, N, F, T, n, d, e, h⟩ := id hr
  obtain ⟨⟨hC, h18, htM, hm⟩, ⟨hp, ha, hv, hT, hov⟩, ⟨hs, hl, htR⟩, ⟨t1, t2, t3, t4, t5⟩, e12, e13⟩ := id h
  have e287 : ly_m = 287 := rfl
  have hM1 : M.1 = ly_m := hC.1
  have b0 : 0 < M.1 := by omega
  have h9 : 286 < M.1 := by omega
  have hxq : ∀ U, E.2.2.2.1 U → xq E.2.2.1 U := fun U hU => (hxl U hU).1
  have hN := ha.n2b
  have hfr : ∀ i, i < N → (0 ≤ (M.2.1 281 (81 + 76 * i + 2)).toInt ∧ (M.2.1 281 (81 + 76 * i + 2)).toInt ≤ 9200) := fun i hi => (hv.2.2.2.2 i hi).2.1
  have hI : ∀ x, isI M x ↔ (0 ≤ x ∧ x ≤ nI N - 1) := fun x => by
    show (0 ≤ x ∧ x ≤ M.2.1 281 2 - 1) ↔ _
    rw [ha.n2]
  by_cases hx : (0 ≤ x ∧ x ≤ 9999) ∧ (x ≤ y ∧ y ≤ 9999)
  · have hfl : frL 19 M.2.1 (st (st M.2.1 19 2 x) 19 3 y) := fun b hb => by rw [st_o (by omega), st_o (by omega)]
    have hm2 : mR (mI M (st (st M.2.1 19 2 x) 19 3 y)) := hm
    refine OPI.y (P := fun M1 => M1 = mI M (st (st M.2.1 19 2 x) 19 3 y)) (lh_setLimits_y (cq_setLimits hC hx) (by decide) b0 h9) (fun M1 h1 => ?_)
    subst h1
    have h2 := sp_setLimits (E := E) (l := l) hm2 (x := x) (y := y)
    simp only [if_pos hx] at h2
    have e1 : (mI M (st (st M.2.1 19 2 x) 19 3 y)).2.1 281 = M.2.1 281 := hfl 281 (by omega)
    rw [rw1_of (thr _ _) 281 4 x, rw1_set, thr_a, e1] at h2
    refine ⟨h9, _, (by decide), xm_imp h2 (fun v M3 h3 => ?_)⟩
    obtain ⟨rfl, rfl⟩ := h3
    refine ⟨?_, rfl, S, U, V, G, W, Q, N, F, T, n, _, _, h.lineI hfl rfl rfl (fun _ _ _ => rfl) ((ha.g (by decide) (by decide)).g (by decide) (by decide)) hv.lims hT (hov.cong (fun j hj => ?_)) hl.lims⟩
    · rw [rw1_n _ _ (by decide), thr_0]
    · rw [up_n (by omega), up_n (by omega)]
  · exact OPI.x hr h9 (lh_setLimits_1 (cx_setLimits hls hxq hC hx) (by decide) b0 hxl) (by
      have h2 := sp_setLimits (E := E) (l := l) hm (x := x) (y := y)
      simp only [if_neg hx] at h2
      exact h2) (by decide) rfl
theorem op_step {E : xm_E} {l : Launch} {M : xm_M} (hls : l.stackTraces = false) (hxl : ∀ U, E.2.2.2.1 U → xl E.2.2.1 U) (hst : ∀ U, E.2.2.2.1 U → xst E U) (hr : KRE M) (x : Int32) : OPI E l mt_L_step [.ref 0, .int x, .ref 285] mt_X7_step [.ref 278, .int x] M GI := by
  obtain ⟨S, U, V, G, W, Q, N, F, T, n, d, e, h⟩ := id hr
  obtain ⟨⟨hC, h18, htM, hm⟩, ⟨hp, ha, hv, hT, hov⟩, ⟨hs, hl, htR⟩, ⟨t1, t2, t3, t4, t5⟩, e12, e13⟩ := id h
  have e287 : ly_m = 287 := rfl
  have hM1 : M.1 = ly_m := hC.1
  have b0 : 0 < M.1 := by omega
  have h9 : 286 < M.1 := by omega
  have hxq : ∀ U, E.2.2.2.1 U → xq E.2.2.1 U := fun U hU => (hxl U hU).1
  have hN := ha.n2b
  have hfr : ∀ i, i < N → (0 ≤ (M.2.1 281 (81 + 76 * i + 2)).toInt ∧ (M.2.1 281 (81 + 76 * i + 2)).toInt ≤ 9200) := fun i hi => (hv.2.2.2.2 i hi).2.1
  have hI : ∀ x, isI M x ↔ (0 ≤ x ∧ x ≤ nI N - 1) := fun x => by
    show (0 ≤ x ∧ x ≤ M.2.1 281 2 - 1) ↔ _
    rw [ha.n2]
  have c1 : (1 : Int32).toInt = 1 := rfl
  by_cases hx : 1 ≤ x ∧ x ≤ 500
  · have hx0 : 0 ≤ x := by rw [te]; have := hx.1; rw [te, c1] at this; show 0 ≤ x.toInt; omega
    obtain ⟨k, hk, rfl⟩ := in_nat (n := 500) (by decide) ⟨hx0, hx.2⟩
    have hk1 : 1 ≤ k := by have := hx.1; rw [te, c1, tn (by omega)] at this; omega
    have e0 : M.2.1 281 0 + nI k = nI (T + k) := by rw [hv.1, nI_add]
    by_cases ht : T + k ≤ 20000
    · have ht2 : M.2.1 281 0 + nI k ≤ 20000 := by rw [e0]; exact nI_le (b := 20000) ht (by decide)
      refine OPI.y (lh_step_r (cq_step hC hs hp ha hv hl hk1 hk ht) (by decide) b0 (fun M1 h1 => by
        obtain ⟨I', F', d', e', rfl, -⟩ := h1
        exact h9)) (fun M1 h1 => ?_)
      obtain ⟨M2, ⟨I', F', d', e', rfl, hf, lL⟩, rfl⟩ := h1
      have hm2 : mR (mI M I') := hm
      have hmX := hm2.out (Nat.le_refl _) (.long (nI (tkm (M.2.1 279) (M.2.1 281) V G W Q N k)).toInt64)
      have e1 : (xm_setR (mI M I') 285 0 (.long (nI (tkm (M.2.1 279) (M.2.1 281) V G W Q N k)).toInt64)).2.1 281 = M.2.1 281 := hf 281 (by omega)
      have e9 : (xm_setR (mI M I') 285 0 (.long (nI (tkm (M.2.1 279) (M.2.1 281) V G W Q N k)).toInt64)).2.1 279 = M.2.1 279 := hf 279 (by omega)
      have h2 := sp_step (E := E) (l := l) hmX (V := V) (G := G) (W := W) (Q := Q) (N := N) (n := k) (by rw [e9]; exact hp) (by rw [e1]; exact ha) hk1 hk (by rw [e1]; exact ht2)
      rw [e1, e9] at h2
      refine ⟨h9, _, (by decide), xm_imp h2 (fun v M3 h3 => ?_)⟩
      obtain ⟨rfl, rfl⟩ := h3
      refine ⟨?_, GI.y _ ?_, S, U, V, G, W, Q, N, F', T + k, n, d', e', h.lineI hf rfl rfl (fun b j hb => ?_) (ha.tks hp.g5b k) (hv.tks hp ha k (by omega)) ht (hov.tks hp ha hv k (by omega)) lL⟩
      · rw [rw1_n _ _ (by decide), thr_0]
      · rw [rw1_R, thr_R, rs_g, if_pos ⟨rfl, rfl⟩]
      · rw [rs_g, if_neg (by omega)]
        rfl
    · have ht2 : ¬ M.2.1 281 0 + nI k ≤ 20000 := by rw [e0]; exact nI_ge (a := 20000) (by omega) (by omega)
      exact OPI.x hr h9 (lh_step_2 (cx_step_2 hls hxq hC hl hx ht2) (by decide) b0 hxl) (sp_step_m hm hx ht2) (by decide) (GI.x (by decide))
  · exact OPI.x hr h9 (lh_step_1 (cx_step_1 hls hxq hC hx) (by decide) b0 hxl) (sp_step_n hm hx) (by decide) (GI.x (by decide))

/-! ONE CALL OF EACH SIDE: the questions -/
theorem sp_item_a {E : xm_E} {l : Launch} {M : xm_M} (hm : mR M) {N : Nat} (hN : M.2.1 281 2 = nI N) (hN2 : N ≤ 60) {x y : Int32} (h : ¬ isI M x) : xm_Met E l mt_X7_item 2 0 0 [.ref 278, .int x, .int y] M (fun v M1 => v = some (.int 0) ∧ M1 = thr M 1) := by
  have h2 := sp_item (E := E) (l := l) hm hN hN2 (x := x) (y := y)
  simp only [if_neg h, if_neg (fun q => h q.1 : ¬ (isI M x ∧ (0 ≤ y ∧ y ≤ 9)))] at h2
  exact h2
theorem sp_item_b {E : xm_E} {l : Launch} {M : xm_M} (hm : mR M) {N : Nat} (hN : M.2.1 281 2 = nI N) (hN2 : N ≤ 60) {x y : Int32} (h : isI M x) (hy : ¬ (0 ≤ y ∧ y ≤ 9)) : xm_Met E l mt_X7_item 2 0 0 [.ref 278, .int x, .int y] M (fun v M1 => v = some (.int 0) ∧ M1 = thr M 2) := by
  have h2 := sp_item (E := E) (l := l) hm hN hN2 (x := x) (y := y)
  simp only [if_pos h, if_neg hy, if_neg (fun q => hy q.2 : ¬ (isI M x ∧ (0 ≤ y ∧ y ≤ 9)))] at h2
  exact h2
theorem sp_item_c {E : xm_E} {l : Launch} {M : xm_M} (hm : mR M) {N i w : Nat} (hN : M.2.1 281 2 = nI N) (hN2 : N ≤ 60) (hi : i < N) (hw : w < 10) : xm_Met E l mt_X7_item 2 0 0 [.ref 278, .int (nI i), .int (nI w)] M (fun v M1 => v = some (.int (M.2.1 281 (81 + 76 * i + w))) ∧ M1 = thr M 0) := by
  have h := isI_of hN hN2 hi
  have hy : 0 ≤ nI w ∧ nI w ≤ 9 := ⟨nI_pos' (by omega), nI_le (b := 9) (by omega) (by decide)⟩
  have c1 : (nI i).toNatClampNeg = i := cl_n (by omega)
  have c2 : (nI w).toNatClampNeg = w := cl_n (by omega)
  have h2 := sp_item (E := E) (l := l) hm hN hN2 (x := nI i) (y := nI w)
  simp only [if_pos h, if_pos hy, if_pos (And.intro h hy), c1, c2] at h2
  exact h2
theorem sp_measured_a {E : xm_E} {l : Launch} {M : xm_M} (hm : mR M) {N : Nat} (hN : M.2.1 281 2 = nI N) (hN2 : N ≤ 60) {x : Int32} (h : ¬ isI M x) : xm_Met E l mt_X7_measured 2 0 0 [.ref 278, .int x] M (fun v M1 => v = some (.int 0) ∧ M1 = thr M 1) := by
  have h2 := sp_measured (E := E) (l := l) hm hN hN2 (x := x)
  simp only [if_neg h, if_neg (fun q => h q.1 : ¬ (isI M x ∧ mea (M.2.1 281) x.toNatClampNeg))] at h2
  exact h2
theorem sp_measured_b {E : xm_E} {l : Launch} {M : xm_M} (hm : mR M) {N i : Nat} (hN : M.2.1 281 2 = nI N) (hN2 : N ≤ 60) (hi : i < N) (hme : ¬ mea (M.2.1 281) i) : xm_Met E l mt_X7_measured 2 0 0 [.ref 278, .int (nI i)] M (fun v M1 => v = some (.int 0) ∧ M1 = thr M 2) := by
  have h := isI_of hN hN2 hi
  have c1 : (nI i).toNatClampNeg = i := cl_n (by omega)
  have h2 := sp_measured (E := E) (l := l) hm hN hN2 (x := nI i)
  rw [c1] at h2
  simp only [if_pos h, if_neg hme, if_neg (fun q => hme q.2 : ¬ (isI M (nI i) ∧ mea (M.2.1 281) i))] at h2
  exact h2
theorem sp_measured_c {E : xm_E} {l : Launch} {M : xm_M} (hm : mR M) {N i : Nat} (hN : M.2.1 281 2 = nI N) (hN2 : N ≤ 60) (hi : i < N) (hme : mea (M.2.1 281) i) : xm_Met E l mt_X7_measured 2 0 0 [.ref 278, .int (nI i)] M (fun v M1 => v = some (.int (M.2.1 281 (81 + 76 * i + 14))) ∧ M1 = thr M 0) := by
  have h := isI_of hN hN2 hi
  have c1 : (nI i).toNatClampNeg = i := cl_n (by omega)
  have h2 := sp_measured (E := E) (l := l) hm hN hN2 (x := nI i)
  rw [c1] at h2
  simp only [if_pos h, if_pos hme, if_pos (And.intro h hme)] at h2
  exact h2
theorem op_count {E : xm_E} {l : Launch} {M : xm_M} (hls : l.stackTraces = false) (hxl : ∀ U, E.2.2.2.1 U → xl E.2.2.1 U) (hst : ∀ U, E.2.2.2.1 U → xst E U) (hr : KRE M) (x : Int32) : OPI E l mt_L_count [.ref 0, .int x, .ref 285] mt_X7_count [.ref 278, .int x] M GI := by
  obtain ⟨S, U, V, G, W, Q, N, F, T, n, d, e, h⟩ := id hr
  obtain ⟨⟨hC, h18, htM, hm⟩, ⟨hp, ha, hv, hT, hov⟩, ⟨hs, hl, htR⟩, ⟨t1, t2, t3, t4, t5⟩, e12, e13⟩ := id h
  have e287 : ly_m = 287 := rfl
  have hM1 : M.1 = ly_m := hC.1
  have b0 : 0 < M.1 := by omega
  have h9 : 286 < M.1 := by omega
  have hxq : ∀ U, E.2.2.2.1 U → xq E.2.2.1 U := fun U hU => (hxl U hU).1
  have hN := ha.n2b
  have hfr : ∀ i, i < N → (0 ≤ (M.2.1 281 (81 + 76 * i + 2)).toInt ∧ (M.2.1 281 (81 + 76 * i + 2)).toInt ≤ 9200) := fun i hi => (hv.2.2.2.2 i hi).2.1
  have hI : ∀ x, isI M x ↔ (0 ≤ x ∧ x ≤ nI N - 1) := fun x => by
    show (0 ≤ x ∧ x ≤ M.2.1 281 2 - 1) ↔ _
    rw [ha.n2]
  by_cases hx : 0 ≤ x ∧ x ≤ 5
  · exact OPI.q hr h9 (lh_count_y (cq_count hC hl hN hx) (by decide) b0 h9) (sp_count_y (hm.out (Nat.le_refl _) _) ha.n2 hN hx) (by decide)
  · exact OPI.x hr h9 (lh_count_1 (cx_count hls hxq hC hx) (by decide) b0 hxl) (sp_count_n hm hx) (by decide) (GI.x (by decide))
theorem op_decided {E : xm_E} {l : Launch} {M : xm_M} (hls : l.stackTraces = false) (hxl : ∀ U, E.2.2.2.1 U → xl E.2.2.1 U) (hst : ∀ U, E.2.2.2.1 U → xst E U) (hr : KRE M) (x : Int32) : OPI E l mt_L_decided [.ref 0, .int x, .ref 285] mt_X7_decided [.ref 278, .int x] M GI := by
  obtain ⟨S, U, V, G, W, Q, N, F, T, n, d, e, h⟩ := id hr
  obtain ⟨⟨hC, h18, htM, hm⟩, ⟨hp, ha, hv, hT, hov⟩, ⟨hs, hl, htR⟩, ⟨t1, t2, t3, t4, t5⟩, e12, e13⟩ := id h
  have e287 : ly_m = 287 := rfl
  have hM1 : M.1 = ly_m := hC.1
  have b0 : 0 < M.1 := by omega
  have h9 : 286 < M.1 := by omega
  have hxq : ∀ U, E.2.2.2.1 U → xq E.2.2.1 U := fun U hU => (hxl U hU).1
  have hN := ha.n2b
  have hfr : ∀ i, i < N → (0 ≤ (M.2.1 281 (81 + 76 * i + 2)).toInt ∧ (M.2.1 281 (81 + 76 * i + 2)).toInt ≤ 9200) := fun i hi => (hv.2.2.2.2 i hi).2.1
  have hI : ∀ x, isI M x ↔ (0 ≤ x ∧ x ≤ nI N - 1) := fun x => by
    show (0 ≤ x ∧ x ≤ M.2.1 281 2 - 1) ↔ _
    rw [ha.n2]
  by_cases hx : 0 ≤ x ∧ x ≤ 3
  · exact OPI.q hr h9 (lh_decided_y (cq_decided hC hl hN hx) (by decide) b0 h9) (sp_decided_y (hm.out (Nat.le_refl _) _) ha.n2 hN hx) (by decide)
  · exact OPI.x hr h9 (lh_decided_1 (cx_decided hls hxq hC hx) (by decide) b0 hxl) (sp_decided_n hm hx) (by decide) (GI.x (by decide))
theorem op_vibration {E : xm_E} {l : Launch} {M : xm_M} (hls : l.stackTraces = false) (hxl : ∀ U, E.2.2.2.1 U → xl E.2.2.1 U) (hst : ∀ U, E.2.2.2.1 U → xst E U) (hr : KRE M) (x : Int32) : OPI E l mt_L_vibration [.ref 0, .int x, .ref 285] mt_X7_vibration [.ref 278, .int x] M GI := by
  obtain ⟨S, U, V, G, W, Q, N, F, T, n, d, e, h⟩ := id hr
  obtain ⟨⟨hC, h18, htM, hm⟩, ⟨hp, ha, hv, hT, hov⟩, ⟨hs, hl, htR⟩, ⟨t1, t2, t3, t4, t5⟩, e12, e13⟩ := id h
  have e287 : ly_m = 287 := rfl
  have hM1 : M.1 = ly_m := hC.1
  have b0 : 0 < M.1 := by omega
  have h9 : 286 < M.1 := by omega
  have hxq : ∀ U, E.2.2.2.1 U → xq E.2.2.1 U := fun U hU => (hxl U hU).1
  have hN := ha.n2b
  have hfr : ∀ i, i < N → (0 ≤ (M.2.1 281 (81 + 76 * i + 2)).toInt ∧ (M.2.1 281 (81 + 76 * i + 2)).toInt ≤ 9200) := fun i hi => (hv.2.2.2.2 i hi).2.1
  have hI : ∀ x, isI M x ↔ (0 ≤ x ∧ x ≤ nI N - 1) := fun x => by
    show (0 ≤ x ∧ x ≤ M.2.1 281 2 - 1) ↔ _
    rw [ha.n2]
  by_cases hx : 0 ≤ x ∧ x ≤ 20000
  · exact OPI.q hr h9 (lh_vibration_y (cq_vibration hC hs hp hx) (by decide) b0 h9) (sp_vibration_y (hm.out (Nat.le_refl _) _) hp hx) (by decide)
  · exact OPI.x hr h9 (lh_vibration_1 (cx_vibration hls hxq hC hx) (by decide) b0 hxl) (sp_vibration_n hm hx) (by decide) (GI.x (by decide))
theorem op_item {E : xm_E} {l : Launch} {M : xm_M} (hls : l.stackTraces = false) (hxl : ∀ U, E.2.2.2.1 U → xl E.2.2.1 U) (hst : ∀ U, E.2.2.2.1 U → xst E U) (hr : KRE M) (x y : Int32) : OPI E l mt_L_item [.ref 0, .int x, .int y, .ref 285] mt_X7_item [.ref 278, .int x, .int y] M GI := by
  obtain ⟨S, U, V, G, W, Q, N, F, T, n, d, e, h⟩ := id hr
  obtain ⟨⟨hC, h18, htM, hm⟩, ⟨hp, ha, hv, hT, hov⟩, ⟨hs, hl, htR⟩, ⟨t1, t2, t3, t4, t5⟩, e12, e13⟩ := id h
  have e287 : ly_m = 287 := rfl
  have hM1 : M.1 = ly_m := hC.1
  have b0 : 0 < M.1 := by omega
  have h9 : 286 < M.1 := by omega
  have hxq : ∀ U, E.2.2.2.1 U → xq E.2.2.1 U := fun U hU => (hxl U hU).1
  have hN := ha.n2b
  have hfr : ∀ i, i < N → (0 ≤ (M.2.1 281 (81 + 76 * i + 2)).toInt ∧ (M.2.1 281 (81 + 76 * i + 2)).toInt ≤ 9200) := fun i hi => (hv.2.2.2.2 i hi).2.1
  have hI : ∀ x, isI M x ↔ (0 ≤ x ∧ x ≤ nI N - 1) := fun x => by
    show (0 ≤ x ∧ x ≤ M.2.1 281 2 - 1) ↔ _
    rw [ha.n2]
  by_cases hx : 0 ≤ x ∧ x ≤ nI N - 1
  · obtain ⟨i, hi, rfl⟩ := item_n hN hx
    by_cases hy : 0 ≤ y ∧ y ≤ 9
    · obtain ⟨w, hw, rfl⟩ := in_nat (n := 9) (by decide) hy
      exact OPI.q hr h9 (lh_item_y (cq_item hC hl hN hi (by omega)) (by decide) b0 h9) (sp_item_c (hm.out (Nat.le_refl _) _) ha.n2 hN hi (by omega)) (by decide)
    · exact OPI.x hr h9 (lh_item_2 (cx_item_2 hls hxq hC hl hN hi hy) (by decide) b0 hxl) (sp_item_b hm ha.n2 hN ((hI _).mpr hx) hy) (by decide) (GI.x (by decide))
  · exact OPI.x hr h9 (lh_item_1 (cx_item_1 hls hxq hC hl hN hx) (by decide) b0 hxl) (sp_item_a hm ha.n2 hN (fun q => hx ((hI _).mp q))) (by decide) (GI.x (by decide))
theorem op_measured {E : xm_E} {l : Launch} {M : xm_M} (hls : l.stackTraces = false) (hxl : ∀ U, E.2.2.2.1 U → xl E.2.2.1 U) (hst : ∀ U, E.2.2.2.1 U → xst E U) (hr : KRE M) (x : Int32) : OPI E l mt_L_measured [.ref 0, .int x, .ref 285] mt_X7_measured [.ref 278, .int x] M GI := by
  obtain ⟨S, U, V, G, W, Q, N, F, T, n, d, e, h⟩ := id hr
  obtain ⟨⟨hC, h18, htM, hm⟩, ⟨hp, ha, hv, hT, hov⟩, ⟨hs, hl, htR⟩, ⟨t1, t2, t3, t4, t5⟩, e12, e13⟩ := id h
  have e287 : ly_m = 287 := rfl
  have hM1 : M.1 = ly_m := hC.1
  have b0 : 0 < M.1 := by omega
  have h9 : 286 < M.1 := by omega
  have hxq : ∀ U, E.2.2.2.1 U → xq E.2.2.1 U := fun U hU => (hxl U hU).1
  have hN := ha.n2b
  have hfr : ∀ i, i < N → (0 ≤ (M.2.1 281 (81 + 76 * i + 2)).toInt ∧ (M.2.1 281 (81 + 76 * i + 2)).toInt ≤ 9200) := fun i hi => (hv.2.2.2.2 i hi).2.1
  have hI : ∀ x, isI M x ↔ (0 ≤ x ∧ x ≤ nI N - 1) := fun x => by
    show (0 ≤ x ∧ x ≤ M.2.1 281 2 - 1) ↔ _
    rw [ha.n2]
  by_cases hx : 0 ≤ x ∧ x ≤ nI N - 1
  · obtain ⟨i, hi, rfl⟩ := item_n hN hx
    by_cases hy : mea (M.2.1 281) i
    · exact OPI.q hr h9 (lh_measured_y (cq_measured hC hl hN hi hy) (by decide) b0 h9) (sp_measured_c (hm.out (Nat.le_refl _) _) ha.n2 hN hi hy) (by decide)
    · exact OPI.x hr h9 (lh_measured_2 (cx_measured_2 hls hxq hC hl hN hi hy) (by decide) b0 hxl) (sp_measured_b hm ha.n2 hN hi hy) (by decide) (GI.x (by decide))
  · exact OPI.x hr h9 (lh_measured_1 (cx_measured_1 hls hxq hC hl hN hx) (by decide) b0 hxl) (sp_measured_a hm ha.n2 hN (fun q => hx ((hI _).mp q))) (by decide) (GI.x (by decide))
theorem op_sampleOf {E : xm_E} {l : Launch} {M : xm_M} (hls : l.stackTraces = false) (hxl : ∀ U, E.2.2.2.1 U → xl E.2.2.1 U) (hst : ∀ U, E.2.2.2.1 U → xst E U) (hr : KRE M) (x y : Int32) : OPI E l mt_L_sampleOf [.ref 0, .int x, .int y, .ref 285] mt_X7_sampleOf [.ref 278, .int x, .int y] M GI := by
  obtain ⟨S, U, V, G, W, Q, N, F, T, n, d, e, h⟩ := id hr
  obtain ⟨⟨hC, h18, htM, hm⟩, ⟨hp, ha, hv, hT, hov⟩, ⟨hs, hl, htR⟩, ⟨t1, t2, t3, t4, t5⟩, e12, e13⟩ := id h
  have e287 : ly_m = 287 := rfl
  have hM1 : M.1 = ly_m := hC.1
  have b0 : 0 < M.1 := by omega
  have h9 : 286 < M.1 := by omega
  have hxq : ∀ U, E.2.2.2.1 U → xq E.2.2.1 U := fun U hU => (hxl U hU).1
  have hN := ha.n2b
  have hfr : ∀ i, i < N → (0 ≤ (M.2.1 281 (81 + 76 * i + 2)).toInt ∧ (M.2.1 281 (81 + 76 * i + 2)).toInt ≤ 9200) := fun i hi => (hv.2.2.2.2 i hi).2.1
  have hI : ∀ x, isI M x ↔ (0 ≤ x ∧ x ≤ nI N - 1) := fun x => by
    show (0 ≤ x ∧ x ≤ M.2.1 281 2 - 1) ↔ _
    rw [ha.n2]
  by_cases hx : 0 ≤ x ∧ x ≤ nI N - 1
  · obtain ⟨i, hi, rfl⟩ := item_n hN hx
    have c1 : (nI i).toNatClampNeg = i := cl_n (by omega)
    obtain ⟨m, hm6, hmm⟩ := ha.mn i hi
    by_cases hy : 0 ≤ y ∧ y ≤ M.2.1 281 (81 + 76 * i + 4) - 1
    · obtain ⟨j, hj, rfl⟩ := item_n (N := m) hm6 (by rw [← hmm]; exact hy)
      have hj2 : (j : Int) < (M.2.1 281 (81 + 76 * i + 4)).toInt := by rw [hmm, tn (by omega)]; omega
      exact OPI.q hr h9 (lh_sampleOf_y (cq_sampleOf hC hl hN hi hj2) (by decide) b0 h9) (sp_sampleOf_y (hm.out (Nat.le_refl _) _) ha.n2 hN hi hmm hm6 hj) (by decide)
    · exact OPI.x hr h9 (lh_sampleOf_1 (cx_sampleOf_1 hls hxq hC hl hN hi hy) (by decide) b0 hxl) (sp_sampleOf_n hm ha.n2 hN (fun q => hy (by have q2 := q.2; rw [c1] at q2; exact q2))) (by decide) (GI.x (by decide))
  · exact OPI.x hr h9 (lh_sampleOf_1 (cx_sampleOf_0 hls hxq hC hl hN hx) (by decide) b0 hxl) (sp_sampleOf_n hm ha.n2 hN (fun q => hx ((hI _).mp q.1))) (by decide) (GI.x (by decide))
theorem op_sample {E : xm_E} {l : Launch} {M : xm_M} (hls : l.stackTraces = false) (hxl : ∀ U, E.2.2.2.1 U → xl E.2.2.1 U) (hst : ∀ U, E.2.2.2.1 U → xst E U) (hr : KRE M) (x : Int32) : OPI E l mt_L_sample [.ref 0, .int x, .ref 285] mt_X7_sample [.ref 278, .int x] M GI := by
  obtain ⟨S, U, V, G, W, Q, N, F, T, n, d, e, h⟩ := id hr
  obtain ⟨⟨hC, h18, htM, hm⟩, ⟨hp, ha, hv, hT, hov⟩, ⟨hs, hl, htR⟩, ⟨t1, t2, t3, t4, t5⟩, e12, e13⟩ := id h
  have e287 : ly_m = 287 := rfl
  have hM1 : M.1 = ly_m := hC.1
  have b0 : 0 < M.1 := by omega
  have h9 : 286 < M.1 := by omega
  have hxq : ∀ U, E.2.2.2.1 U → xq E.2.2.1 U := fun U hU => (hxl U hU).1
  have hN := ha.n2b
  have hfr : ∀ i, i < N → (0 ≤ (M.2.1 281 (81 + 76 * i + 2)).toInt ∧ (M.2.1 281 (81 + 76 * i + 2)).toInt ≤ 9200) := fun i hi => (hv.2.2.2.2 i hi).2.1
  have hI : ∀ x, isI M x ↔ (0 ≤ x ∧ x ≤ nI N - 1) := fun x => by
    show (0 ≤ x ∧ x ≤ M.2.1 281 2 - 1) ↔ _
    rw [ha.n2]
  by_cases hx : 0 ≤ x ∧ x ≤ 59
  · obtain ⟨k, hk, rfl⟩ := in_nat (n := 59) (by decide) hx
    by_cases hy : k < T
    · have h2 : ¬ M.2.1 281 0 ≤ nI k := by rw [hv.1]; exact nI_ge hy (by omega)
      exact OPI.q hr h9 (lh_sample_y (cq_sample hC hl hN (by omega) hv.1 (by omega) hy) (by decide) b0 h9) (sp_sample_y (hm.out (Nat.le_refl _) _) (by omega) h2) (by decide)
    · have h2 : M.2.1 281 0 ≤ nI k := by rw [hv.1]; exact nI_le (by omega) (by omega)
      exact OPI.x hr h9 (lh_sample_2 (cx_sample_2 hls hxq hC hl hN hx h2) (by decide) b0 hxl) (sp_sample_m hm hx h2) (by decide) (GI.x (by decide))
  · exact OPI.x hr h9 (lh_sample_1 (cx_sample_1 hls hxq hC hx) (by decide) b0 hxl) (sp_sample_n hm hx) (by decide) (GI.x (by decide))
theorem op_weightWith {E : xm_E} {l : Launch} {M : xm_M} (hls : l.stackTraces = false) (hxl : ∀ U, E.2.2.2.1 U → xl E.2.2.1 U) (hst : ∀ U, E.2.2.2.1 U → xst E U) (hr : KRE M) (x y : Int32) : OPI E l mt_L_weightWith [.ref 0, .int x, .int y, .ref 285] mt_X7_weightWith [.ref 278, .int x, .int y] M GI := by
  obtain ⟨S, U, V, G, W, Q, N, F, T, n, d, e, h⟩ := id hr
  obtain ⟨⟨hC, h18, htM, hm⟩, ⟨hp, ha, hv, hT, hov⟩, ⟨hs, hl, htR⟩, ⟨t1, t2, t3, t4, t5⟩, e12, e13⟩ := id h
  have e287 : ly_m = 287 := rfl
  have hM1 : M.1 = ly_m := hC.1
  have b0 : 0 < M.1 := by omega
  have h9 : 286 < M.1 := by omega
  have hxq : ∀ U, E.2.2.2.1 U → xq E.2.2.1 U := fun U hU => (hxl U hU).1
  have hN := ha.n2b
  have hfr : ∀ i, i < N → (0 ≤ (M.2.1 281 (81 + 76 * i + 2)).toInt ∧ (M.2.1 281 (81 + 76 * i + 2)).toInt ≤ 9200) := fun i hi => (hv.2.2.2.2 i hi).2.1
  have hI : ∀ x, isI M x ↔ (0 ≤ x ∧ x ≤ nI N - 1) := fun x => by
    show (0 ≤ x ∧ x ≤ M.2.1 281 2 - 1) ↔ _
    rw [ha.n2]
  by_cases hx : 0 ≤ x ∧ x ≤ nI N - 1
  · obtain ⟨i, hi, rfl⟩ := item_n hN hx
    obtain ⟨m, hm6, hmm⟩ := ha.mn i hi
    by_cases hy : 1 ≤ y ∧ y ≤ 60
    · have c1 : (1 : Int32).toInt = 1 := rfl
      have hy0 : 0 ≤ y := by rw [te]; have := hy.1; rw [te, c1] at this; show 0 ≤ y.toInt; omega
      obtain ⟨w, hw, rfl⟩ := in_nat (n := 60) (by decide) ⟨hy0, hy.2⟩
      have hw1 : 1 ≤ w := by have := hy.1; rw [te, c1, tn (by omega)] at this; omega
      by_cases hm1 : 1 ≤ m
      · exact OPI.q hr h9 (lh_weightWith_y (cq_weightWith hC hl hN hi hw1 hw hmm hm1 hm6) (by decide) b0 h9) (sp_weightWith_y (hm.out (Nat.le_refl _) _) ha.n2 hN hi hw1 hw hmm hm1 hm6) (by decide)
      · have h3 : M.2.1 281 (81 + 76 * i + 4) ≤ 0 := by rw [hmm, nI_pos0 (by omega)]; omega
        exact OPI.x hr h9 (lh_weightWith_3 (cx_weightWith_3 hls hxq hC hl hN hi hy h3) (by decide) b0 hxl) (sp_weightWith_o hm ha.n2 hN hi hy h3) (by decide) (GI.x (by decide))
    · exact OPI.x hr h9 (lh_weightWith_2 (cx_weightWith_2 hls hxq hC hl hN hi hy) (by decide) b0 hxl) (sp_weightWith_m hm ((hI _).mpr hx) hy) (by decide) (GI.x (by decide))
  · exact OPI.x hr h9 (lh_weightWith_1 (cx_weightWith_1 hls hxq hC hl hN hx) (by decide) b0 hxl) (sp_weightWith_n hm (fun q => hx ((hI _).mp q))) (by decide) (GI.x (by decide))
theorem op_arrival {E : xm_E} {l : Launch} {M : xm_M} (hls : l.stackTraces = false) (hxl : ∀ U, E.2.2.2.1 U → xl E.2.2.1 U) (hst : ∀ U, E.2.2.2.1 U → xst E U) (hr : KRE M) (x y : Int32) : OPI E l mt_L_arrival [.ref 0, .int x, .int y, .ref 285] mt_X7_arrival [.ref 278, .int x, .int y] M GI := by
  obtain ⟨S, U, V, G, W, Q, N, F, T, n, d, e, h⟩ := id hr
  obtain ⟨⟨hC, h18, htM, hm⟩, ⟨hp, ha, hv, hT, hov⟩, ⟨hs, hl, htR⟩, ⟨t1, t2, t3, t4, t5⟩, e12, e13⟩ := id h
  have e287 : ly_m = 287 := rfl
  have hM1 : M.1 = ly_m := hC.1
  have b0 : 0 < M.1 := by omega
  have h9 : 286 < M.1 := by omega
  have hxq : ∀ U, E.2.2.2.1 U → xq E.2.2.1 U := fun U hU => (hxl U hU).1
  have hN := ha.n2b
  have hfr : ∀ i, i < N → (0 ≤ (M.2.1 281 (81 + 76 * i + 2)).toInt ∧ (M.2.1 281 (81 + 76 * i + 2)).toInt ≤ 9200) := fun i hi => (hv.2.2.2.2 i hi).2.1
  have hI : ∀ x, isI M x ↔ (0 ≤ x ∧ x ≤ nI N - 1) := fun x => by
    show (0 ≤ x ∧ x ≤ M.2.1 281 2 - 1) ↔ _
    rw [ha.n2]
  have hG5 := hp.g5
  have hG3 := hp.g5b
  by_cases hx : 0 ≤ x ∧ x ≤ nI N - 1
  · obtain ⟨i, hi, rfl⟩ := item_n hN hx
    by_cases hy : 0 ≤ y ∧ y ≤ nI G - 1
    · obtain ⟨g, hg, rfl⟩ := item_n (N := G) (by omega) hy
      by_cases ho : onB (M.2.1 281) i ∧ M.2.1 281 (81 + 76 * i + 2) < M.2.1 279 (28 + 3 * g + 1)
      · exact OPI.q hr h9 (lh_arrival_y (cq_arrival hC hs hp hl hN hi hg ho (hfr i hi).1) (by decide) b0 h9) (sp_arrival_y (hm.out (Nat.le_refl _) _) ha.n2 hN hi hG5 hG3 hg hp.s0n ho) (by decide)
      · exact OPI.x hr h9 (lh_arrival_2 (cx_arrival_2 hls hxq hC hs hp hl hN hi hg ho) (by decide) b0 hxl) (sp_arrival_m hm ha.n2 hN hi hG5 hG3 hg ho) (by decide) (GI.x (by decide))
    · exact OPI.x hr h9 (lh_arrival_1 (cx_arrival_1 hls hxq hC hs hp hl hN hi hy) (by decide) b0 hxl) (sp_arrival_n hm (fun q => hy (by have q2 := q.2; rw [hG5] at q2; exact q2))) (by decide) (GI.x (by decide))
  · exact OPI.x hr h9 (lh_arrival_1 (cx_arrival_0 hls hxq hC hl hN hx) (by decide) b0 hxl) (sp_arrival_n hm (fun q => hx ((hI _).mp q.1))) (by decide) (GI.x (by decide))
theorem op_gate {E : xm_E} {l : Launch} {M : xm_M} (hls : l.stackTraces = false) (hxl : ∀ U, E.2.2.2.1 U → xl E.2.2.1 U) (hst : ∀ U, E.2.2.2.1 U → xst E U) (hr : KRE M) (x y : Int32) : OPI E l mt_L_gate [.ref 0, .int x, .int y, .ref 285] mt_X7_gate [.ref 278, .int x, .int y] M GI := by
  obtain ⟨S, U, V, G, W, Q, N, F, T, n, d, e, h⟩ := id hr
  obtain ⟨⟨hC, h18, htM, hm⟩, ⟨hp, ha, hv, hT, hov⟩, ⟨hs, hl, htR⟩, ⟨t1, t2, t3, t4, t5⟩, e12, e13⟩ := id h
  have e287 : ly_m = 287 := rfl
  have hM1 : M.1 = ly_m := hC.1
  have b0 : 0 < M.1 := by omega
  have h9 : 286 < M.1 := by omega
  have hxq : ∀ U, E.2.2.2.1 U → xq E.2.2.1 U := fun U hU => (hxl U hU).1
  have hN := ha.n2b
  have hfr : ∀ i, i < N → (0 ≤ (M.2.1 281 (81 + 76 * i + 2)).toInt ∧ (M.2.1 281 (81 + 76 * i + 2)).toInt ≤ 9200) := fun i hi => (hv.2.2.2.2 i hi).2.1
  have hI : ∀ x, isI M x ↔ (0 ≤ x ∧ x ≤ nI N - 1) := fun x => by
    show (0 ≤ x ∧ x ≤ M.2.1 281 2 - 1) ↔ _
    rw [ha.n2]
  have hG5 := hp.g5
  have hG3 := hp.g5b
  have hgt : ∀ x, (0 ≤ x ∧ x ≤ M.2.1 279 5 - 1) ↔ (0 ≤ x ∧ x ≤ nI G - 1) := fun x => by rw [hG5]
  by_cases hx : 0 ≤ x ∧ x ≤ nI G - 1
  · obtain ⟨g, hg, rfl⟩ := item_n (N := G) (by omega) hx
    by_cases hy : 0 ≤ y ∧ y ≤ 8
    · obtain ⟨w, hw, rfl⟩ := in_nat (n := 8) (by decide) hy
      exact OPI.q hr h9 (lh_gate_y (cq_gate hC hs hp hl hN hg (by omega) (hv.2.2.1 g (by omega))) (by decide) b0 h9) (sp_gate_y (hm.out (Nat.le_refl _) _) hp ha hg (by omega)) (by decide)
    · exact OPI.x hr h9 (lh_gate_2 (cx_gate_2 (a := M.2.1 281) hls hxq hC hs hp hg hy) (by decide) b0 hxl) (sp_gate_w hm ((hgt _).mpr hx) hy) (by decide) (GI.x (by decide))
  · exact OPI.x hr h9 (lh_gate_1 (cx_gate_1 (a := M.2.1 281) hls hxq hC hs hp hx) (by decide) b0 hxl) (sp_gate_n hm (fun q => hx ((hgt _).mp q))) (by decide) (GI.x (by decide))
theorem op_report {E : xm_E} {l : Launch} {M : xm_M} (hls : l.stackTraces = false) (hxl : ∀ U, E.2.2.2.1 U → xl E.2.2.1 U) (hst : ∀ U, E.2.2.2.1 U → xst E U) (hr : KRE M) (x : Int32) : OPI E l mt_L_report [.ref 0, .int x, .ref 285] mt_X7_report [.ref 278, .int x] M GI := by
  obtain ⟨S, U, V, G, W, Q, N, F, T, n, d, e, h⟩ := id hr
  obtain ⟨⟨hC, h18, htM, hm⟩, ⟨hp, ha, hv, hT, hov⟩, ⟨hs, hl, htR⟩, ⟨t1, t2, t3, t4, t5⟩, e12, e13⟩ := id h
  have e287 : ly_m = 287 := rfl
  have hM1 : M.1 = ly_m := hC.1
  have b0 : 0 < M.1 := by omega
  have h9 : 286 < M.1 := by omega
  have hxq : ∀ U, E.2.2.2.1 U → xq E.2.2.1 U := fun U hU => (hxl U hU).1
  have hN := ha.n2b
  have hfr : ∀ i, i < N → (0 ≤ (M.2.1 281 (81 + 76 * i + 2)).toInt ∧ (M.2.1 281 (81 + 76 * i + 2)).toInt ≤ 9200) := fun i hi => (hv.2.2.2.2 i hi).2.1
  have hI : ∀ x, isI M x ↔ (0 ≤ x ∧ x ≤ nI N - 1) := fun x => by
    show (0 ≤ x ∧ x ≤ M.2.1 281 2 - 1) ↔ _
    rw [ha.n2]
  by_cases hx : 0 ≤ x ∧ x ≤ 11
  · obtain ⟨w, hw, rfl⟩ := in_nat (n := 11) (by decide) hx
    exact OPI.q hr h9 (lh_report_y (cq_report hC hs hp hl ha.n2 hN hv.1 (by omega) hv.2.2.2.1 hfr (by omega)) (by decide) b0 h9) (sp_report_y (hm.out (Nat.le_refl _) _) hp ha (by omega)) (by decide)
  · exact OPI.x hr h9 (lh_report_1 (cx_report hls hxq hC hx) (by decide) b0 hxl) (sp_report_n hm hx) (by decide) (GI.x (by decide))
theorem op_samplesFor {E : xm_E} {l : Launch} {M : xm_M} (hls : l.stackTraces = false) (hxl : ∀ U, E.2.2.2.1 U → xl E.2.2.1 U) (hst : ∀ U, E.2.2.2.1 U → xst E U) (hr : KRE M) (x : Int32) : OPI E l mt_L_samplesFor [.ref 0, .int x, .ref 285] mt_X7_samplesFor [.ref 278, .int x] M GI := by
  obtain ⟨S, U, V, G, W, Q, N, F, T, n, d, e, h⟩ := id hr
  obtain ⟨⟨hC, h18, htM, hm⟩, ⟨hp, ha, hv, hT, hov⟩, ⟨hs, hl, htR⟩, ⟨t1, t2, t3, t4, t5⟩, e12, e13⟩ := id h
  have e287 : ly_m = 287 := rfl
  have hM1 : M.1 = ly_m := hC.1
  have b0 : 0 < M.1 := by omega
  have h9 : 286 < M.1 := by omega
  have hxq : ∀ U, E.2.2.2.1 U → xq E.2.2.1 U := fun U hU => (hxl U hU).1
  have hN := ha.n2b
  have hfr : ∀ i, i < N → (0 ≤ (M.2.1 281 (81 + 76 * i + 2)).toInt ∧ (M.2.1 281 (81 + 76 * i + 2)).toInt ≤ 9200) := fun i hi => (hv.2.2.2.2 i hi).2.1
  have hI : ∀ x, isI M x ↔ (0 ≤ x ∧ x ≤ nI N - 1) := fun x => by
    show (0 ≤ x ∧ x ≤ M.2.1 281 2 - 1) ↔ _
    rw [ha.n2]
  have c1 : (1 : Int32).toInt = 1 := rfl
  obtain ⟨s, s1, s2⟩ := of_nat (x := M.2.1 279 0) (by have := hp.s0; omega)
  obtain ⟨b, b1, b2⟩ := of_nat (x := M.2.1 279 1) (by have := hp.b1; omega)
  obtain ⟨f, f1, f2⟩ := of_nat (x := M.2.1 279 2) (by have := hp.b1; omega)
  have hs1 := hp.s0
  have hb1 := hp.b1
  have hf2 := hp.e2
  by_cases hx : 1 ≤ x ∧ x ≤ 2000
  · have hx0 : 0 ≤ x := by rw [te]; have := hx.1; rw [te, c1] at this; show 0 ≤ x.toInt; omega
    obtain ⟨k, hk, rfl⟩ := in_nat (n := 2000) (by decide) ⟨hx0, hx.2⟩
    have hk1 : 1 ≤ k := by have := hx.1; rw [te, c1, tn (by omega)] at this; omega
    exact OPI.q hr h9 (lh_samplesFor_y (cq_samplesFor hC (hs.1.1.trans s1) (hs.1.2.1.trans b1) (hs.1.2.2.1.trans f1) (by omega) (by omega) (by omega) (by omega) hk1 hk) (by decide) b0 h9) (sp_samplesFor_y (hm.out (Nat.le_refl _) _) s1 (by omega) (by omega) b1 (by omega) f1 (by omega) hk1 hk) (by decide)
  · exact OPI.x hr h9 (lh_samplesFor_1 (cx_samplesFor hls hxq hC hx) (by decide) b0 hxl) (sp_samplesFor_n hm hx) (by decide) (GI.x (by decide))
theorem op_spacing {E : xm_E} {l : Launch} {M : xm_M} (hls : l.stackTraces = false) (hxl : ∀ U, E.2.2.2.1 U → xl E.2.2.1 U) (hst : ∀ U, E.2.2.2.1 U → xst E U) (hr : KRE M) (x : Int32) : OPI E l mt_L_spacing [.ref 0, .int x, .ref 285] mt_X7_spacing [.ref 278, .int x] M GI := by
  obtain ⟨S, U, V, G, W, Q, N, F, T, n, d, e, h⟩ := id hr
  obtain ⟨⟨hC, h18, htM, hm⟩, ⟨hp, ha, hv, hT, hov⟩, ⟨hs, hl, htR⟩, ⟨t1, t2, t3, t4, t5⟩, e12, e13⟩ := id h
  have e287 : ly_m = 287 := rfl
  have hM1 : M.1 = ly_m := hC.1
  have b0 : 0 < M.1 := by omega
  have h9 : 286 < M.1 := by omega
  have hxq : ∀ U, E.2.2.2.1 U → xq E.2.2.1 U := fun U hU => (hxl U hU).1
  have hN := ha.n2b
  have hfr : ∀ i, i < N → (0 ≤ (M.2.1 281 (81 + 76 * i + 2)).toInt ∧ (M.2.1 281 (81 + 76 * i + 2)).toInt ≤ 9200) := fun i hi => (hv.2.2.2.2 i hi).2.1
  have hI : ∀ x, isI M x ↔ (0 ≤ x ∧ x ≤ nI N - 1) := fun x => by
    show (0 ≤ x ∧ x ≤ M.2.1 281 2 - 1) ↔ _
    rw [ha.n2]
  have c1 : (1 : Int32).toInt = 1 := rfl
  obtain ⟨s, s1, s2⟩ := of_nat (x := M.2.1 279 0) (by have := hp.s0; omega)
  obtain ⟨b, b1, b2⟩ := of_nat (x := M.2.1 279 1) (by have := hp.b1; omega)
  obtain ⟨f, f1, f2⟩ := of_nat (x := M.2.1 279 2) (by have := hp.b1; omega)
  have hs1 := hp.s0
  have hb1 := hp.b1
  have hf2 := hp.e2
  by_cases hx : 1 ≤ x ∧ x ≤ 2000
  · have hx0 : 0 ≤ x := by rw [te]; have := hx.1; rw [te, c1] at this; show 0 ≤ x.toInt; omega
    obtain ⟨k, hk, rfl⟩ := in_nat (n := 2000) (by decide) ⟨hx0, hx.2⟩
    have hk1 : 1 ≤ k := by have := hx.1; rw [te, c1, tn (by omega)] at this; omega
    exact OPI.q hr h9 (lh_spacing_y (cq_spacing hC (hs.1.1.trans s1) (hs.1.2.1.trans b1) (hs.1.2.2.1.trans f1) (by omega) (by omega) (by omega) (by omega) hk1 hk) (by decide) b0 h9) (sp_spacing_y (hm.out (Nat.le_refl _) _) s1 (by omega) (by omega) b1 (by omega) f1 (by omega) hk1 hk) (by decide)
  · exact OPI.x hr h9 (lh_spacing_1 (cx_spacing hls hxq hC hx) (by decide) b0 hxl) (sp_spacing_n hm hx) (by decide) (GI.x (by decide))

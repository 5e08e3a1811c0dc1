/-! ONE CALL OF EACH SIDE: commanded ticks, residues, fate, means -/
/-- far words stay -/
theorem itf_far {f : Nat → (Nat → Int32) → Nat → Int32} {j N G : Nat} : ∀ {n : Nat} {a : Nat → Int32}, wa a N G → (∀ k a, k < n → wa a N G → wa (f k a) N G) → (∀ k a, k < n → wa a N G → f k a j = a j) → itf f n a j = a j
  | 0, _, _, _, _ => rfl
  | n + 1, a, h, hw, hf => by
    have h1 : wa (itf f n a) N G := h.itf (fun k a hk h => hw k a (by omega) h)
    rw [itf_s, hf n _ (Nat.lt_succ_self n) h1]
    exact itf_far h (fun k a hk h => hw k a (by omega) h) (fun k a hk h => hf k a (by omega) h)
theorem tk_hi {p a : Nat → Int32} {V G W Q N j : Nat} (hG : G ≤ 3) (ha : wa a N G) (hj : 4641 ≤ j) : tk p a V G W Q N j = a j := by
  have hN := ha.n2b
  have ha0 : wa (upd a 0 (a 0 + 1)) N G := ha.g (by decide) (by decide)
  have e4 : tk4 p a V N j = sh1 (itf (mv1 p) N (upd a 0 (a 0 + 1))) 0 j := up_n (by omega)
  have e4' : tk4 p a V N j = a j := by
    rw [e4, sh1_0 (Or.inr (by omega)), itf_far ha0 (fun k b hk h => h.mv1) (fun k b hk h => mv1_l k b j (by omega) (by omega)), up_n (by omega)]
  have e5 : tk5 p a V N j = a j := by
    show itf (cl1 p (pts p (tk4 p a V N) N)) N (tk4 p a V N) j = _
    rw [itf_far ha.tk4 (fun k b hk h => h.cl1 hk) (fun k b hk h => cl1_l k b j (by omega) (by omega) (h.my hk).1), e4']
  have w6 : wa (itf (dc4 p (wnw p V W)) N (tk5 p a V N)) N G := ha.tk5.itf (fun k b hk h => h.dc4)
  have e6 : itf (dc4 p (wnw p V W)) N (tk5 p a V N) j = a j := by
    rw [itf_far ha.tk5 (fun k b hk h => h.dc4) (fun k b hk h => dc4_l k b j (by omega) (by omega)), e5]
  have w7 : wa (itf (mg2 p N G) N (itf (dc4 p (wnw p V W)) N (tk5 p a V N))) N G := w6.itf (fun k b hk h => h.mg2 hG)
  have e7 : itf (mg2 p N G) N (itf (dc4 p (wnw p V W)) N (tk5 p a V N)) j = a j := by
    rw [itf_far w6 (fun k b hk h => h.mg2 hG) (fun k b hk h => mg2_l hG k b j (by omega) (by omega)), e6]
  have e8 : tk8 p a V G W N j = a j := by
    show itf (lv1 p) N (itf (mg2 p N G) N (itf (dc4 p (wnw p V W)) N (tk5 p a V N))) j = _
    rw [itf_far w7 (fun k b hk h => h.lv1) (fun k b hk h => lv1_l k b j (by omega) (by omega)), e7]
  have w9 : wa (zrf p (tk8 p a V G W N) Q (xb (pts p (tk4 p a V N) N = 0))) N G := (ha.tk8 hG).zrf
  show itf cf1 N (zrf p (tk8 p a V G W N) Q (xb (pts p (tk4 p a V N) N = 0))) j = _
  rw [itf_far w9 (fun k b hk h => h.cf1 hk) (fun k b hk h => ?_), zrf_n (by omega) (by omega), e8]
  obtain ⟨c, c1, c2⟩ := h.by' k hk
  exact cf1_n (g := c) (by rw [c2, cl_n (by omega)]) ⟨by omega, by omega⟩
theorem tks_hi {p a : Nat → Int32} {V G W Q N j : Nat} (hG : G ≤ 3) (ha : wa a N G) (hj : 4641 ≤ j) : ∀ k, tks p a V G W Q N k j = a j
  | 0 => rfl
  | k + 1 => by
    show tk p (tks p a V G W Q N k) V G W Q N j = _
    rw [tk_hi hG (ha.tks hG k) hj]
    exact tks_hi hG ha hj k
theorem op_openTicks {E : xm_E} {l : Launch} {M : xm_M} (hls : l.stackTraces = false) (hxl : ∀ U, E.2.2.2.1 U → xl E.2.2.1 U) (hst : ∀ U, E.2.2.2.1 U → xst E U) (hr : KRE M) (x : Int32) : OPI E l mt_L_openTicks [.ref 0, .int x, .ref 285] mt_X7_openTicks [.ref 278, .int x] M GI := by
  obtain ⟨S, U, V, G, W, Q, N, F, T, n, d, e, h⟩ := id hr
  obtain ⟨⟨hC, h18, htM, hm⟩, ⟨hp, ha, hv, hT, hov⟩, ⟨hs, hl, htR⟩, ⟨t1, t2, t3, t4, t5⟩, e12, e13⟩ := id h
  have e287 : ly_m = 287 := rfl
  have hM1 : M.1 = ly_m := hC.1
  have b0 : 0 < M.1 := by omega
  have h9 : 286 < M.1 := by omega
  have hxq : ∀ U, E.2.2.2.1 U → xq E.2.2.1 U := fun U hU => (hxl U hU).1
  have hN := ha.n2b
  have hfr : ∀ i, i < N → (0 ≤ (M.2.1 281 (81 + 76 * i + 2)).toInt ∧ (M.2.1 281 (81 + 76 * i + 2)).toInt ≤ 9200) := fun i hi => (hv.2.2.2.2 i hi).2.1
  have hI : ∀ x, isI M x ↔ (0 ≤ x ∧ x ≤ nI N - 1) := fun x => by
    show (0 ≤ x ∧ x ≤ M.2.1 281 2 - 1) ↔ _
    rw [ha.n2]
  have hG5 := hp.g5
  have hG3 := hp.g5b
  have hgt : ∀ x, (0 ≤ x ∧ x ≤ M.2.1 279 5 - 1) ↔ (0 ≤ x ∧ x ≤ nI G - 1) := fun x => by rw [hG5]
  by_cases hx : 0 ≤ x ∧ x ≤ nI G - 1
  · obtain ⟨g, hg, rfl⟩ := item_n (N := G) (by omega) hx
    obtain ⟨dd, d1, d2⟩ := lcd_d hv (by omega)
    have hb : ∀ i, i < N → 0 ≤ (M.2.1 281 (81 + 76 * i + 10)).toInt ∧ (M.2.1 281 (81 + 76 * i + 10)).toInt ≤ 60000 ∧ 0 ≤ (M.2.1 281 (81 + 76 * i + 11)).toInt ∧ (M.2.1 281 (81 + 76 * i + 11)).toInt ≤ 60000 := fun i hi => (hv.2.2.2.2 i hi).2.2.2.2.2.2.2
    obtain ⟨nx, c1, -⟩ := ctI_spec (g := nI g) hl.2.2.2.2.2 d1 (by omega) hb (fun i k h1 h2 => hov.2.1 i k h1 h2 g hg) N (Nat.le_refl N)
    have e1 : M.2.1 19 1 + 1 = nI (T + 1) := by rw [hl.1.1, hv.1, nI_1]
    have hq := cq_openTicks (E := E) (l := l) hC hs hp hl hN hg
    rw [e1, c1] at hq
    exact OPI.q hr h9 (lh_openTicks_y (hq) (by decide) b0 h9) (sp_openTicks_y (hm.out (Nat.le_refl _) _) ha.n2 hN hG5 hG3 hg hv.1 d1 (by omega)) (by decide)
  · exact OPI.x hr h9 (lh_openTicks_1 (cx_openTicks hls hxq hC hs hp hx) (by decide) b0 hxl) (sp_openTicks_n hm (fun q => hx ((hgt _).mp q))) (by decide) (GI.x (by decide))
theorem op_opensAt {E : xm_E} {l : Launch} {M : xm_M} (hls : l.stackTraces = false) (hxl : ∀ U, E.2.2.2.1 U → xl E.2.2.1 U) (hst : ∀ U, E.2.2.2.1 U → xst E U) (hr : KRE M) (x : Int32) : OPI E l mt_L_opensAt [.ref 0, .int x, .ref 285] mt_X7_opensAt [.ref 278, .int x] M GI := by
  obtain ⟨S, U, V, G, W, Q, N, F, T, n, d, e, h⟩ := id hr
  obtain ⟨⟨hC, h18, htM, hm⟩, ⟨hp, ha, hv, hT, hov⟩, ⟨hs, hl, htR⟩, ⟨t1, t2, t3, t4, t5⟩, e12, e13⟩ := id h
  have e287 : ly_m = 287 := rfl
  have hM1 : M.1 = ly_m := hC.1
  have b0 : 0 < M.1 := by omega
  have h9 : 286 < M.1 := by omega
  have hxq : ∀ U, E.2.2.2.1 U → xq E.2.2.1 U := fun U hU => (hxl U hU).1
  have hN := ha.n2b
  have hfr : ∀ i, i < N → (0 ≤ (M.2.1 281 (81 + 76 * i + 2)).toInt ∧ (M.2.1 281 (81 + 76 * i + 2)).toInt ≤ 9200) := fun i hi => (hv.2.2.2.2 i hi).2.1
  have hI : ∀ x, isI M x ↔ (0 ≤ x ∧ x ≤ nI N - 1) := fun x => by
    show (0 ≤ x ∧ x ≤ M.2.1 281 2 - 1) ↔ _
    rw [ha.n2]
  have hG5 := hp.g5
  have hG3 := hp.g5b
  have hgt : ∀ x, (0 ≤ x ∧ x ≤ M.2.1 279 5 - 1) ↔ (0 ≤ x ∧ x ≤ nI G - 1) := fun x => by rw [hG5]
  by_cases hx : 0 ≤ x ∧ x ≤ nI G - 1
  · obtain ⟨g, hg, rfl⟩ := item_n (N := G) (by omega) hx
    obtain ⟨dd, d1, d2⟩ := lcd_d hv (by omega)
    obtain ⟨c, c1, c2, c3, c4⟩ := opens_eq (g := nI g) hl.2.2.2.2.2 d1 (by omega)
    have e1 : M.2.1 19 1 + 1 = nI (T + 1) := by rw [hl.1.1, hv.1, nI_1]
    rcases c4 with ⟨c4, c5⟩ | ⟨c4, c5⟩
    · have h2 := sp_opensAt_y (E := E) (l := l) hm ha.n2 hN hG5 hG3 hg hv.1 d1 (by omega) c1 c2 c3
      simp only [if_neg c4] at h2
      exact OPI.x hr h9 (lh_opensAt_2 (cx_opensAt_2 hls hxq hC hs hp hl hN hg (by rw [e1]; exact c5)) (by decide) b0 hxl) (h2) (by decide) (GI.x (by decide))
    · have hne : nI (T + 1 + c) ≠ -1 := fun q => by
        have h3 := congrArg Int32.toInt q
        rw [tn (by omega)] at h3
        have h4 : (-1 : Int32).toInt = -1 := rfl
        omega
      have hq := cq_opensAt (E := E) (l := l) hC hs hp hl hN hg (by rw [e1, c5]; exact hne)
      rw [e1, c5] at hq
      have h2 := sp_opensAt_y (E := E) (l := l) (M := xm_setR M 285 0 (.long (nI (T + 1 + c)).toInt64)) (hm.out (Nat.le_refl _) _) ha.n2 hN hG5 hG3 hg hv.1 d1 (by omega) c1 c2 c3
      simp only [if_pos c4] at h2
      exact OPI.q hr h9 (lh_opensAt_y (hq) (by decide) b0 h9) (h2) (by decide)
  · exact OPI.x hr h9 (lh_opensAt_1 (cx_opensAt_1 hls hxq hC hs hp hx) (by decide) b0 hxl) (sp_opensAt_n hm (fun q => hx ((hgt _).mp q))) (by decide) (GI.x (by decide))
theorem KR.table {M X : xm_M} {S U V G W Q N F T n : Nat} {d e : Int32} {I' : xI} {f : Nat → Int32} (h : KR M S U V G W Q N F T n d e) (hf : frT M.2.1 I') (hR : tR I' (M.2.1 279) V) (hX1 : X.1 = M.1) (hXI : X.2.1 = I') (hXR : ∀ b j, b < 285 → X.2.2 b j = M.2.2 b j) : KR (rw1 (thr X 0) 284 f) S U V G W Q N F T n d e := by
  have e1 : ∀ b, b ≠ 284 → b ≠ 278 → (rw1 (thr X 0) 284 f).2.1 b = I' b := fun b h1 h2 => by rw [rw1_n _ _ h1, thr_I h2, hXI]
  refine h.cong (h.1.1.eqR hX1 hXR) (fun b j hb => hXR b j (by omega)) (fun b h1 h2 h3 => ?_) ?_ (fun b hb => ?_) (fun j hj => ?_)
  · rw [e1 b (by omega) (by omega)]
    exact hf b (by omega) (by omega) (by omega)
  · exact hR.cong (fun b h1 h2 => by
      rcases (by omega : b = 275 ∨ b = 276 ∨ b = 277) with rfl | rfl | rfl <;> exact e1 _ (by decide) (by decide))
  · rw [e1 b (by omega) (by omega)]
    exact hf b (by omega) (by omega) (by omega)
  · rw [rw1_n _ _ (by decide), thr_i (by omega), hXI]
    exact congrFun (hf 278 (by decide) (by decide) (by decide)) j
theorem op_residue {E : xm_E} {l : Launch} {M : xm_M} (hls : l.stackTraces = false) (hxl : ∀ U, E.2.2.2.1 U → xl E.2.2.1 U) (hst : ∀ U, E.2.2.2.1 U → xst E U) (hr : KRE M) (x y : Int32) : OPI E l mt_L_residue [.ref 0, .int x, .int y, .ref 285] mt_X7_residue [.ref 278, .int x, .int y] M GI := by
  obtain ⟨S, U, V, G, W, Q, N, F, T, n, d, e, h⟩ := id hr
  obtain ⟨⟨hC, h18, htM, hm⟩, ⟨hp, ha, hv, hT, hov⟩, ⟨hs, hl, htR⟩, ⟨t1, t2, t3, t4, t5⟩, e12, e13⟩ := id h
  have e287 : ly_m = 287 := rfl
  have hM1 : M.1 = ly_m := hC.1
  have b0 : 0 < M.1 := by omega
  have h9 : 286 < M.1 := by omega
  have hxq : ∀ U, E.2.2.2.1 U → xq E.2.2.1 U := fun U hU => (hxl U hU).1
  have hN := ha.n2b
  have hfr : ∀ i, i < N → (0 ≤ (M.2.1 281 (81 + 76 * i + 2)).toInt ∧ (M.2.1 281 (81 + 76 * i + 2)).toInt ≤ 9200) := fun i hi => (hv.2.2.2.2 i hi).2.1
  have hI : ∀ x, isI M x ↔ (0 ≤ x ∧ x ≤ nI N - 1) := fun x => by
    show (0 ≤ x ∧ x ≤ M.2.1 281 2 - 1) ↔ _
    rw [ha.n2]
  have c1 : (1 : Int32).toInt = 1 := rfl
  by_cases hx : (1 ≤ x ∧ x ≤ 60) ∧ (0 ≤ y ∧ y ≤ 1)
  · have hx0 : 0 ≤ x := by rw [te]; have := hx.1.1; rw [te, c1] at this; show 0 ≤ x.toInt; omega
    obtain ⟨k, hk, rfl⟩ := in_nat (n := 60) (by decide) ⟨hx0, hx.1.2⟩
    have hk1 : 1 ≤ k := by have := hx.1.1; rw [te, c1, tn (by omega)] at this; omega
    refine OPI.y (lh_residue_r (cq_residue hC htM hs.2.1 hp.v4b hp.vp htR ⟨hk1, hk⟩ hx.2) (by decide) b0 (fun M1 h1 => by
      obtain ⟨I', rfl, -⟩ := h1
      exact h9)) (fun M1 h1 => ?_)
    obtain ⟨M2, ⟨I', rfl, hf, hR⟩, rfl⟩ := h1
    have hm2 : mR (mI M I') := hm
    have hmX := hm2.out (Nat.le_refl _) (.long (rsd (M.2.1 279) V k y).toInt64)
    have e9 : (xm_setR (mI M I') 285 0 (.long (rsd (M.2.1 279) V k y).toInt64)).2.1 279 = M.2.1 279 := hf 279 (by decide) (by decide) (by decide)
    have h2 := sp_residue_y (E := E) (l := l) hmX (V := V) (by rw [e9]; exact hp.v4) hp.v4b (by rw [e9]; exact hp.vp) ⟨hk1, hk⟩ hx.2
    rw [e9] at h2
    refine ⟨h9, _, (by decide), xm_imp h2 (fun v M3 h3 => ?_)⟩
    obtain ⟨rfl, rfl⟩ := h3
    refine ⟨?_, GI.y _ ?_, S, U, V, G, W, Q, N, F, T, n, d, e, h.table hf hR rfl rfl (fun b j hb => ?_)⟩
    · rw [rw1_n _ _ (by decide), thr_0]
    · rw [rw1_R, thr_R, rs_g, if_pos ⟨rfl, rfl⟩]
    · rw [rs_g, if_neg (by omega)]
      rfl
  · exact OPI.x hr h9 (lh_residue_1 (cx_residue hls hxq hC hx) (by decide) b0 hxl) (sp_residue_n hm hx) (by decide) (GI.x (by decide))
theorem op_bestWindow {E : xm_E} {l : Launch} {M : xm_M} (hls : l.stackTraces = false) (hxl : ∀ U, E.2.2.2.1 U → xl E.2.2.1 U) (hst : ∀ U, E.2.2.2.1 U → xst E U) (hr : KRE M) (x : Int32) : OPI E l mt_L_bestWindow [.ref 0, .int x, .ref 285] mt_X7_bestWindow [.ref 278, .int x] M GI := by
  obtain ⟨S, U, V, G, W, Q, N, F, T, n, d, e, h⟩ := id hr
  obtain ⟨⟨hC, h18, htM, hm⟩, ⟨hp, ha, hv, hT, hov⟩, ⟨hs, hl, htR⟩, ⟨t1, t2, t3, t4, t5⟩, e12, e13⟩ := id h
  have e287 : ly_m = 287 := rfl
  have hM1 : M.1 = ly_m := hC.1
  have b0 : 0 < M.1 := by omega
  have h9 : 286 < M.1 := by omega
  have hxq : ∀ U, E.2.2.2.1 U → xq E.2.2.1 U := fun U hU => (hxl U hU).1
  have hN := ha.n2b
  have hfr : ∀ i, i < N → (0 ≤ (M.2.1 281 (81 + 76 * i + 2)).toInt ∧ (M.2.1 281 (81 + 76 * i + 2)).toInt ≤ 9200) := fun i hi => (hv.2.2.2.2 i hi).2.1
  have hI : ∀ x, isI M x ↔ (0 ≤ x ∧ x ≤ nI N - 1) := fun x => by
    show (0 ≤ x ∧ x ≤ M.2.1 281 2 - 1) ↔ _
    rw [ha.n2]
  have c1 : (1 : Int32).toInt = 1 := rfl
  by_cases hx : 1 ≤ x ∧ x ≤ 60
  · have hx0 : 0 ≤ x := by rw [te]; have := hx.1; rw [te, c1] at this; show 0 ≤ x.toInt; omega
    obtain ⟨k, hk, rfl⟩ := in_nat (n := 60) (by decide) ⟨hx0, hx.2⟩
    have hk1 : 1 ≤ k := by have := hx.1; rw [te, c1, tn (by omega)] at this; omega
    refine OPI.y (lh_bestWindow_r (cq_bestWindow hC htM hs.2.1 hp.v4b hp.vp htR ⟨hk1, hk⟩) (by decide) b0 (fun M1 h1 => by
      obtain ⟨I', rfl, -⟩ := h1
      exact h9)) (fun M1 h1 => ?_)
    obtain ⟨M2, ⟨I', rfl, hf, hR⟩, rfl⟩ := h1
    have hm2 : mR (mI M I') := hm
    have hmX := hm2.out (Nat.le_refl _) (.long (nI (bwF (woC (M.2.1 279) V) (k - 1))).toInt64)
    have e9 : (xm_setR (mI M I') 285 0 (.long (nI (bwF (woC (M.2.1 279) V) (k - 1))).toInt64)).2.1 279 = M.2.1 279 := hf 279 (by decide) (by decide) (by decide)
    have h2 := sp_bestWindow_y (E := E) (l := l) hmX (V := V) (by rw [e9]; exact hp.v4) hp.v4b (by rw [e9]; exact hp.vp) ⟨hk1, hk⟩
    rw [e9] at h2
    refine ⟨h9, _, (by decide), xm_imp h2 (fun v M3 h3 => ?_)⟩
    obtain ⟨rfl, rfl⟩ := h3
    refine ⟨?_, GI.y _ ?_, S, U, V, G, W, Q, N, F, T, n, d, e, h.table hf hR rfl rfl (fun b j hb => ?_)⟩
    · rw [rw1_n _ _ (by decide), thr_0]
    · rw [rw1_R, thr_R, rs_g, if_pos ⟨rfl, rfl⟩]
    · rw [rs_g, if_neg (by omega)]
      rfl
  · exact OPI.x hr h9 (lh_bestWindow_1 (cx_bestWindow hls hxq hC hx) (by decide) b0 hxl) (sp_bestWindow_n hm hx) (by decide) (GI.x (by decide))
theorem KR.aside {M X : xm_M} {S U V G W Q N F T n : Nat} {d e : Int32} {f : Nat → Int32} (h : KR M S U V G W Q N F T n d e) (hX1 : X.1 = M.1) (hXI : ∀ b, (b < 147 ∨ 275 ≤ b) → X.2.1 b = M.2.1 b) (hXR : ∀ b j, ¬ (b = 147 ∧ j = 0) → b < 285 → X.2.2 b j = M.2.2 b j) : KR (rw1 (thr X 0) 282 f) S U V G W Q N F T n d e := by
  have e1 : ∀ b, b ≠ 282 → b ≠ 278 → (rw1 (thr X 0) 282 f).2.1 b = X.2.1 b := fun b h1 h2 => by rw [rw1_n _ _ h1, thr_I h2]
  have hC : cM (rw1 (thr X 0) 282 f) 19 147 S U := by
    have hC := h.1.1
    have hSU := hC.2.2.1
    have bS := hSU.1.b
    have bU := hSU.2.1.b
    have e9 : ∀ b j, ¬ (b = 147 ∧ j = 0) → b < 285 → (rw1 (thr X 0) 282 f).2.2 b j = M.2.2 b j := hXR
    obtain ⟨hm0, ⟨eA, eB⟩, iSU, ⟨q0, q4, q5, q6, q7, q8, q9⟩, ⟨r0, r8, r9, r10, r11, r12, r13, r14, ri⟩, ⟨b8, b9, b10, b11, b12, b13, b14, bi⟩, ⟨x1, x2, x3, x4, x5, x6, x7⟩, ⟨y1, y2, y3, y4, y5, y6, y7⟩⟩ := hC
    refine ⟨hX1.trans hm0, ⟨eA, eB⟩, iSU, ⟨?_, ?_, ?_, ?_, ?_, ?_, ?_⟩, ⟨?_, ?_, ?_, ?_, ?_, ?_, ?_, ?_, fun i hi => ⟨?_, ?_⟩⟩, ⟨?_, ?_, ?_, ?_, ?_, ?_, ?_, fun i hi => ⟨?_, ?_⟩⟩, ⟨?_, ?_, ?_, ?_, ?_, ?_, ?_⟩, ⟨?_, ?_, ?_, ?_, ?_, ?_, ?_⟩⟩
    all_goals rw [e9 _ _ (by omega) (by omega)]
    all_goals first | assumption | exact (ri i hi).1 | exact (ri i hi).2 | exact (bi i hi).1 | exact (bi i hi).2
  refine h.cong hC (fun b j hb => hXR b j (by omega) (by omega)) (fun b h1 h2 h3 => ?_) ?_ (fun b hb => ?_) (fun j hj => ?_)
  · rw [e1 b (by omega) (by omega)]
    exact hXI b (by omega)
  · refine h.2.2.1.2.2.cong (fun b h1 h2 => ?_)
    rw [e1 b (by omega) (by omega)]
    exact hXI b (by omega)
  · rw [e1 b (by omega) (by omega)]
    exact hXI b (by omega)
  · rw [rw1_n _ _ (by decide), thr_i (by omega)]
    exact congrFun (hXI 278 (by omega)) j
theorem op_fate {E : xm_E} {l : Launch} {M : xm_M} (hls : l.stackTraces = false) (hxl : ∀ U, E.2.2.2.1 U → xl E.2.2.1 U) (hst : ∀ U, E.2.2.2.1 U → xst E U) (hr : KRE M) (x : Int32) : OPI E l mt_L_fate [.ref 0, .int x, .ref 285] mt_X7_fate [.ref 278, .int x] M GI := by
  obtain ⟨S, U, V, G, W, Q, N, F, T, n, d, e, h⟩ := id hr
  obtain ⟨⟨hC, h18, htM, hm⟩, ⟨hp, ha, hv, hT, hov⟩, ⟨hs, hl, htR⟩, ⟨t1, t2, t3, t4, t5⟩, e12, e13⟩ := id h
  have e287 : ly_m = 287 := rfl
  have hM1 : M.1 = ly_m := hC.1
  have b0 : 0 < M.1 := by omega
  have h9 : 286 < M.1 := by omega
  have hxq : ∀ U, E.2.2.2.1 U → xq E.2.2.1 U := fun U hU => (hxl U hU).1
  have hN := ha.n2b
  have hfr : ∀ i, i < N → (0 ≤ (M.2.1 281 (81 + 76 * i + 2)).toInt ∧ (M.2.1 281 (81 + 76 * i + 2)).toInt ≤ 9200) := fun i hi => (hv.2.2.2.2 i hi).2.1
  have hI : ∀ x, isI M x ↔ (0 ≤ x ∧ x ≤ nI N - 1) := fun x => by
    show (0 ≤ x ∧ x ≤ M.2.1 281 2 - 1) ↔ _
    rw [ha.n2]
  by_cases hx : 0 ≤ x ∧ x ≤ nI N - 1
  · obtain ⟨i, hi, rfl⟩ := item_n hN hx
    by_cases ho : onB (M.2.1 281) i
    · obtain ⟨K, hK, hon, hoff⟩ := tks_K (V := V) (W := W) (Q := Q) hp ha hv hT hi
      refine OPI.y (lh_fate_r (cq_fate_on hC hs hp ha hv hT hl hi ho hK hon hoff) (by decide) b0 (fun M1 h1 => by
        have := h1.1
        omega)) (fun M1 h1 => ?_)
      obtain ⟨M2, hf, rfl⟩ := h1
      have hfM := hf.1
      have hfI := hf.2.1
      have hfR := hf.2.2
      have hm2 : mR M2 := by
        obtain ⟨m0, m1, m2, m3, m4, m5, m14⟩ := hm
        exact ⟨by omega, (hfR _ _ (by omega)).trans m1, (hfR _ _ (by omega)).trans m2, (hfR _ _ (by omega)).trans m3, (hfR _ _ (by omega)).trans m4, (hfR _ _ (by omega)).trans m5, (hfR _ _ (by omega)).trans m14⟩
      generalize hy : tks (M.2.1 279) (M.2.1 281) V G W Q N K (81 + 76 * i + 3) = y
      have hmX := hm2.out (Nat.le_refl _) (.long y.toInt64)
      have e1 : (xm_setR M2 285 0 (.long y.toInt64)).2.1 281 = M.2.1 281 := hfI 281 (by omega)
      have e9 : (xm_setR M2 285 0 (.long y.toInt64)).2.1 279 = M.2.1 279 := hfI 279 (by omega)
      have h2 := sp_fate_y (E := E) (l := l) hmX (V := V) (G := G) (W := W) (Q := Q) (N := N) (i := i) (K := K) (by rw [e9]; exact hp) (by rw [e1]; exact ha) hi (by rw [e1, e9]; exact hon) (by rw [e1, e9]; exact hoff) (by rw [e1, e9]; exact fun j hj => tks_hi hp.g5b ha hj K)
      rw [e1, e9, hy] at h2
      refine ⟨by show 286 < M2.1; omega, _, (by decide), xm_imp h2 (fun v M3 h3 => ?_)⟩
      obtain ⟨rfl, rfl⟩ := h3
      refine ⟨?_, GI.y _ ?_, S, U, V, G, W, Q, N, F, T, n, d, e, h.aside hfM (fun b hb => hfI b (by omega)) (fun b j hb hb2 => ?_)⟩
      · rw [rw1_n _ _ (by decide), thr_0]
      · rw [rw1_R, thr_R, rs_g, if_pos ⟨rfl, rfl⟩]
      · rw [rs_g, if_neg (by omega)]
        exact hfR b j hb
    · have h2 := sp_fate_y (E := E) (l := l) (M := xm_setR M 285 0 (.long (M.2.1 281 (81 + 76 * i + 3)).toInt64)) (hm.out (Nat.le_refl _) _) (V := V) (G := G) (W := W) (Q := Q) (N := N) (i := i) (K := 0) hp ha hi (fun k hk => absurd hk (Nat.not_lt_zero k)) ho (fun j hj => rfl)
      refine OPI.w h9 (lh_fate_y (cq_fate_off hC hl hN hi ho) (by decide) b0 h9) h2 (by decide) ?_ rfl ⟨S, U, V, G, W, Q, N, F, T, n, d, e, h.aside rfl (fun b hb => rfl) (fun b j hb hb2 => ?_)⟩
      · rw [rw1_n _ _ (by decide), thr_0]
      · rw [rs_g, if_neg (by omega)]
  · exact OPI.x hr h9 (lh_fate_1 (cx_fate hls hxq hC hl hN hx) (by decide) b0 hxl) (sp_fate_n hm (fun q => hx ((hI _).mp q))) (by decide) (GI.x (by decide))
theorem op_meanGood {E : xm_E} {l : Launch} {M : xm_M} (hls : l.stackTraces = false) (hxl : ∀ U, E.2.2.2.1 U → xl E.2.2.1 U) (hst : ∀ U, E.2.2.2.1 U → xst E U) (hr : KRE M) : OPI E l mt_L_meanGood [.ref 0, .ref 286] mt_X7_meanGood [.ref 278] M GD := by
  obtain ⟨S, U, V, G, W, Q, N, F, T, n, d, e, h⟩ := id hr
  obtain ⟨⟨hC, h18, htM, hm⟩, ⟨hp, ha, hv, hT, hov⟩, ⟨hs, hl, htR⟩, ⟨t1, t2, t3, t4, t5⟩, e12, e13⟩ := id h
  have e287 : ly_m = 287 := rfl
  have hM1 : M.1 = ly_m := hC.1
  have b0 : 0 < M.1 := by omega
  have h9 : 286 < M.1 := by omega
  have hxq : ∀ U, E.2.2.2.1 U → xq E.2.2.1 U := fun U hU => (hxl U hU).1
  have hN := ha.n2b
  have hfr : ∀ i, i < N → (0 ≤ (M.2.1 281 (81 + 76 * i + 2)).toInt ∧ (M.2.1 281 (81 + 76 * i + 2)).toInt ≤ 9200) := fun i hi => (hv.2.2.2.2 i hi).2.1
  have hI : ∀ x, isI M x ↔ (0 ≤ x ∧ x ≤ nI N - 1) := fun x => by
    show (0 ≤ x ∧ x ≤ M.2.1 281 2 - 1) ↔ _
    rw [ha.n2]
  have hcn : cnt (fun i => decide (M.2.1 281 (81 + 76 * i + 6) = 1)) N ≤ 60 := Nat.le_trans (cnt_le _ _) hN
  by_cases h0 : cnt (fun i => decide (M.2.1 281 (81 + 76 * i + 6) = 1)) N = 0
  · refine OPI.x (u := some (.double FP.dconst0)) hr h9 (lh_meanGood_1 (cx_meanGood hls hxq hC hl hN h0) (by decide) b0 hxl) (xm_imp (sp_meanGood hm ha.n2 hN) (fun v M3 h3 => ?_)) (by decide) ⟨_, rfl, fun q => absurd q (by decide)⟩
    rcases h3 with ⟨-, h3⟩ | ⟨h3, -⟩
    · exact h3
    · omega
  · have h1 : 1 ≤ cnt (fun i => decide (M.2.1 281 (81 + 76 * i + 6) = 1)) N := by omega
    have hq := cq_meanGood (E := E) (l := l) hC hl hN (fun i hi => (hov.2.2 i hi).2) h1
    have hd := dq_ok (x := smf (fun i => decide (M.2.1 281 (81 + 76 * i + 6) = 1)) (fun i => M.2.1 281 (81 + 76 * i + 14)) N) h1 hcn
    generalize hz : FP.ddiv (FP.i2d (smf (fun i => decide (M.2.1 281 (81 + 76 * i + 6) = 1)) (fun i => M.2.1 281 (81 + 76 * i + 14)) N)) (FP.i2d (nI (cnt (fun i => decide (M.2.1 281 (81 + 76 * i + 6) = 1)) N))) = z at hq hd
    refine OPI.y (P := fun M1 => M1 = xm_setR M 286 0 (.double z)) (lh_meanGood_y hq (by decide) b0 h9) (fun M1 h1' => ?_)
    subst h1'
    refine ⟨h9, _, by decide, xm_imp (sp_meanGood (hm.out (r := 286) (by decide) _) ha.n2 hN) (fun v M3 h3 => ?_)⟩
    rcases h3 with ⟨h3, -⟩ | ⟨-, h3, rfl⟩
    · exact absurd h3 h0
    · refine ⟨thr_0 _ _, ⟨z, h3.trans (by rw [← hz]; rfl), fun _ => ⟨hd, ?_⟩⟩, (hr.out (r := 286) (by decide) _).thr 0⟩
      rw [thr_R, rs_g, if_pos ⟨rfl, rfl⟩]
theorem op_meanError {E : xm_E} {l : Launch} {M : xm_M} (hls : l.stackTraces = false) (hxl : ∀ U, E.2.2.2.1 U → xl E.2.2.1 U) (hst : ∀ U, E.2.2.2.1 U → xst E U) (hr : KRE M) : OPI E l mt_L_meanError [.ref 0, .ref 286] mt_X7_meanError [.ref 278] M GD := by
  obtain ⟨S, U, V, G, W, Q, N, F, T, n, d, e, h⟩ := id hr
  obtain ⟨⟨hC, h18, htM, hm⟩, ⟨hp, ha, hv, hT, hov⟩, ⟨hs, hl, htR⟩, ⟨t1, t2, t3, t4, t5⟩, e12, e13⟩ := id h
  have e287 : ly_m = 287 := rfl
  have hM1 : M.1 = ly_m := hC.1
  have b0 : 0 < M.1 := by omega
  have h9 : 286 < M.1 := by omega
  have hxq : ∀ U, E.2.2.2.1 U → xq E.2.2.1 U := fun U hU => (hxl U hU).1
  have hN := ha.n2b
  have hfr : ∀ i, i < N → (0 ≤ (M.2.1 281 (81 + 76 * i + 2)).toInt ∧ (M.2.1 281 (81 + 76 * i + 2)).toInt ≤ 9200) := fun i hi => (hv.2.2.2.2 i hi).2.1
  have hI : ∀ x, isI M x ↔ (0 ≤ x ∧ x ≤ nI N - 1) := fun x => by
    show (0 ≤ x ∧ x ≤ M.2.1 281 2 - 1) ↔ _
    rw [ha.n2]
  have hcn : cnt (fun i => decide (mea (M.2.1 281) i)) N ≤ 60 := Nat.le_trans (cnt_le _ _) hN
  by_cases h0 : cnt (fun i => decide (mea (M.2.1 281) i)) N = 0
  · refine OPI.x (u := some (.double FP.dconst0)) hr h9 (lh_meanError_1 (cx_meanError hls hxq hC hl hN h0) (by decide) b0 hxl) (xm_imp (sp_meanError hm ha.n2 hN) (fun v M3 h3 => ?_)) (by decide) ⟨_, rfl, fun q => absurd q (by decide)⟩
    rcases h3 with ⟨-, h3⟩ | ⟨h3, -⟩
    · exact h3
    · omega
  · have h1 : 1 ≤ cnt (fun i => decide (mea (M.2.1 281) i)) N := by omega
    have hq := cq_meanError (E := E) (l := l) hC hl hN h1
    have hd := dq_ok (x := smf (fun i => decide (mea (M.2.1 281) i)) (fun i => iabs (M.2.1 281 (81 + 76 * i + 14) - M.2.1 281 (81 + 76 * i))) N) h1 hcn
    generalize hz : FP.ddiv (FP.i2d (smf (fun i => decide (mea (M.2.1 281) i)) (fun i => iabs (M.2.1 281 (81 + 76 * i + 14) - M.2.1 281 (81 + 76 * i))) N)) (FP.i2d (nI (cnt (fun i => decide (mea (M.2.1 281) i)) N))) = z at hq hd
    refine OPI.y (P := fun M1 => M1 = xm_setR M 286 0 (.double z)) (lh_meanError_y hq (by decide) b0 h9) (fun M1 h1' => ?_)
    subst h1'
    refine ⟨h9, _, by decide, xm_imp (sp_meanError (hm.out (r := 286) (by decide) _) ha.n2 hN) (fun v M3 h3 => ?_)⟩
    rcases h3 with ⟨h3, -⟩ | ⟨-, h3, rfl⟩
    · exact absurd h3 h0
    · refine ⟨thr_0 _ _, ⟨z, h3.trans (by rw [← hz]; rfl), fun _ => ⟨hd, ?_⟩⟩, (hr.out (r := 286) (by decide) _).thr 0⟩
      rw [thr_R, rs_g, if_pos ⟨rfl, rfl⟩]

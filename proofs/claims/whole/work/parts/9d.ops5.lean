/-! ONE CALL OF EACH SIDE: load -/
theorem wp.row {p p' : Nat → Int32} {V G W Q : Nat} (h : wp p V G W Q) (he : ∀ j, j < 41 → p' j = p j) : wp p' V G W Q := by
  have hV := h.v4b
  have hG := h.g5b
  refine ⟨by rw [he 4 (by decide)]; exact h.v4, h.v4b, by rw [he 5 (by decide)]; exact h.g5, h.g5b, by rw [he 8 (by decide)]; exact h.w8, h.w8a, h.w8b, by rw [he 14 (by decide)]; exact h.z14, h.z14b, by rw [he 0 (by decide)]; exact h.s0, by rw [he 1 (by decide), he 2 (by decide)]; exact h.b1, by rw [he 2 (by decide), he 3 (by decide)]; exact h.e2, by rw [he 3 (by decide)]; exact h.e3, by rw [he 9 (by decide)]; exact h.n9, by rw [he 10 (by decide)]; exact h.st10, by rw [he 11 (by decide)]; exact h.ls11, by rw [he 12 (by decide)]; exact h.dr12, by rw [he 13 (by decide)]; exact h.dt13, by rw [he 15 (by decide)]; exact h.co15, by rw [he 6 (by decide), he 7 (by decide)]; exact h.lw6, fun k hk => ?_, fun g hg => ?_, fun g hg => ?_, fun g hg => ?_, fun k hk => ?_⟩
  · rw [he _ (by omega), he _ (by omega), he _ (by omega)]
    exact h.vib k hk
  · rw [he 2 (by decide), he 3 (by decide), he _ (by omega), he _ (by omega)]
    exact h.gat g hg
  · rw [he _ (by omega), he _ (by omega)]
    exact h.gas g hg
  · obtain ⟨k, k1, k2, k3⟩ := h.gkd g hg
    exact ⟨k, k1, by rw [he _ (by omega)]; exact k2, by rw [he _ (by omega)]; exact k3⟩
  · rcases h.gof k hk with ⟨q1, q2⟩ | ⟨g, q1, q2, q3⟩
    · exact Or.inl ⟨by rw [he _ (by omega)]; exact q1, fun g hg => by rw [he _ (by omega)]; exact q2 g hg⟩
    · exact Or.inr ⟨g, q1, by rw [he _ (by omega)]; exact q2, by rw [he _ (by omega)]; exact q3⟩
theorem sR.row {I : xI} {S V G : Nat} {p p' : Nat → Int32} (h : sR I S p V G) (hV : V ≤ 4) (hG : G ≤ 3) (he : ∀ j, j < 41 → p' j = p j) : sR I S p' V G := by
  obtain ⟨h1, ⟨v1, v2⟩, g1, g2⟩ := h
  refine ⟨?_, ⟨v1, fun k hk => ?_⟩, g1, fun g hg => ?_⟩
  · unfold nR at h1 ⊢
    rw [he 0 (by decide), he 1 (by decide), he 2 (by decide), he 3 (by decide), he 6 (by decide), he 7 (by decide), he 8 (by decide), he 9 (by decide), he 10 (by decide), he 11 (by decide), he 12 (by decide), he 13 (by decide), he 14 (by decide), he 15 (by decide)]
    exact h1
  · rw [he _ (by omega), he _ (by omega), he _ (by omega)]
    exact v2 k hk
  · rw [he _ (by omega), he _ (by omega), he _ (by omega)]
    exact g2 g hg
theorem KR.wrong {M M2 : xm_M} {S U V G W Q N F T n : Nat} {d e : Int32} (h : KR M S U V G W Q N F T n d e) (h1 : M2.1 = M.1) (hR : ∀ b j, ¬ (b = 18 ∧ j = 2) → b < 285 → M2.2.2 b j = M.2.2 b j) (hI : ∀ b, b ≠ 0 → b ≠ 18 → ¬ (U ≤ b ∧ b < U + 8) → b ≠ 278 → b ≠ 280 → M2.2.1 b = M.2.1 b) (h01 : M2.2.1 0 1 = 0) (h6 : M2.2.1 278 6 = 0) (h2 : M2.2.1 0 2 = M2.2.1 278 12) (h3 : M2.2.1 0 3 = M2.2.1 278 13) : KR M2 S U V G W Q N F T 0 d e := by
  obtain ⟨⟨c1, c2, ⟨c3, c3', c3''⟩, m0, m1, m2, m3, m4, m5, m14⟩, ⟨w1, w2, w3, w4, w5⟩, ⟨s1, s2, s3⟩, -, e1, e2⟩ := h
  have hSU := c1.2.2.1
  have bS := hSU.1.b
  have bU := hSU.2.1.b
  have hne : ∀ b, S ≤ b → b < S + 8 → ¬ (U ≤ b ∧ b < U + 8) := fun b h1 h2 h3 => by
    rcases hSU.1 with rfl | rfl <;> rcases hSU.2.1 with rfl | rfl
    · exact hSU.2.2 rfl
    · omega
    · omega
    · exact hSU.2.2 rfl
  unfold KR
  rw [hI 279 (by decide) (by decide) (by omega) (by decide) (by decide), hI 281 (by decide) (by decide) (by omega) (by decide) (by decide), hI 283 (by decide) (by decide) (by omega) (by decide) (by decide)]
  exact ⟨⟨c1.eq18 h1 (fun b j hb hb2 => hR b j (by omega) hb), (hR 18 0 (by decide) (by decide)).trans c2, ⟨(hR 275 0 (by decide) (by decide)).trans c3, (hR 275 2 (by decide) (by decide)).trans c3', (hR 275 3 (by decide) (by decide)).trans c3''⟩, by omega, (hR 278 1 (by decide) (by decide)).trans m1, (hR 278 2 (by decide) (by decide)).trans m2, (hR 278 3 (by decide) (by decide)).trans m3, (hR 278 4 (by decide) (by decide)).trans m4, (hR 278 5 (by decide) (by decide)).trans m5, (hR 278 14 (by decide) (by decide)).trans m14⟩, ⟨w1, w2, w3, w4, w5⟩, ⟨s1.cong (fun b h1 h2 => hI b (by omega) (by omega) (hne b h1 h2) (by omega) (by omega)), s2.cong w2.n2b (fun b h1 h2 => hI b (by omega) (by omega) (by omega) (by omega) (by omega)), s3.cong (fun b h1 h2 => hI b (by omega) (by omega) (by omega) (by omega) (by omega))⟩, ⟨h01, h6, Nat.zero_le _, fun k hk => absurd hk (Nat.not_lt_zero k), fun k hk => absurd hk (Nat.not_lt_zero k)⟩, h2, h3⟩
theorem a0F_z {a t : Nat → Int32} {j : Nat} (h1 : j < 4641) (h2 : j ≠ 4) (h3 : j ≠ 5) : a0F a t j = 0 := by
  unfold a0F
  rw [up_n h3, up_n h2]
  exact if_pos h1
theorem nI_inj2 {a b : Nat} (h : nI a = nI b) (ha : a < 2 ^ 31) (hb : b < 2 ^ 31) : a = b := by
  have := congrArg Int32.toInt h
  rw [tn ha, tn hb] at this
  omega
/-- right behind a text that is right -/
theorem KR.right {M : xm_M} {S U V G W Q : Nat} {a t : Nat → Int32} (hC : cM M 19 147 S U) (h18 : M.2.2 18 0 = .ref 1) (ht : tM M S) (hm : mR M) (hw : wp t V G W Q) (h9 : ∀ j, j < 41 → M.2.1 279 j = t j) (hA : M.2.1 281 = a0F a t) (hD : DR M.2.1 S t) (h5 : M.2.1 275 1 = 0) (h7 : ∀ k, k < 61 → M.2.1 277 k = -1) (hL : lR M.2.1 19 (a0F a t) 0 0 0 (fun _ => ((0 + 1 : Nat) : Int)) True 0 0) (h01 : M.2.1 0 1 = 0) (h6 : M.2.1 278 6 = 0) (h2 : M.2.1 0 2 = M.2.1 278 12) (h3 : M.2.1 0 3 = M.2.1 278 13) : KR M S U V G W Q 0 0 0 0 0 0 := by
  obtain ⟨V1, G1, d1, d2, d3, d4, d5, d6, d7⟩ := hD
  have hV : V1 = V := nI_inj2 (d1.symm.trans hw.v4) (by omega) (by have := hw.v4b; omega)
  have hG : G1 = G := nI_inj2 (d3.symm.trans hw.g5) (by omega) (by have := hw.g5b; omega)
  subst hV
  subst hG
  have c0 : (0 : Int32).toInt = 0 := rfl
  refine ⟨⟨hC, h18, ht, hm⟩, ⟨hw.row h9, ?_, ?_, Nat.zero_le _, ?_⟩, ⟨sR.row ⟨d5, d6, d7⟩ d2 d4 h9, ?_, ?_⟩, ⟨h01, h6, Nat.zero_le _, fun k hk => absurd hk (Nat.not_lt_zero k), fun k hk => absurd hk (Nat.not_lt_zero k)⟩, h2, h3⟩
  · rw [hA]
    exact ⟨a0F_z (by decide) (by decide) (by decide), Nat.zero_le _, fun i hi => absurd hi (Nat.not_lt_zero i), fun i hi => absurd hi (Nat.not_lt_zero i), fun i hi => absurd hi (Nat.not_lt_zero i)⟩
  · rw [hA]
    refine ⟨a0F_z (by decide) (by decide) (by decide), ?_, fun g hg => ⟨Or.inl (a0F_z (by omega) (by omega) (by omega)), Or.inl (a0F_z (by omega) (by omega) (by omega))⟩, fun g _ hg => a0F_z (by omega) (by omega) (by omega), fun i hi => absurd hi (Nat.not_lt_zero i)⟩
    rw [a0F_z (by decide) (by decide) (by decide), c0]
    exact ⟨Int.le_refl _, Int.le_refl _⟩
  · exact ov.zero
  · rw [hA]
    exact hL
  · exact ⟨Or.inl h5, fun w _ hw => Or.inl (h7 w (by omega))⟩
theorem op_load {E : xm_E} {l : Launch} {M : xm_M} (hls : l.stackTraces = false) (hxl : ∀ U, E.2.2.2.1 U → xl E.2.2.1 U) (hst : ∀ U, E.2.2.2.1 U → xst E U) (hr : KRE M) : OPI E l mt_L_load [.ref 0, .ref 285] mt_X7_load [.ref 278] M GI := by
  obtain ⟨S, U, V, G, W, Q, N, F, T, n, d, e, h⟩ := id hr
  obtain ⟨⟨hC, h18, htM, hm⟩, ⟨hp, ha, hv, hT, hov⟩, ⟨hs, hl, htR⟩, ⟨t1, t2, t3, t4, t5⟩, e12, e13⟩ := id h
  have e287 : ly_m = 287 := rfl
  have hM1 : M.1 = ly_m := hC.1
  have b0 : 0 < M.1 := by omega
  have h9 : 286 < M.1 := by omega
  have hxq : ∀ U, E.2.2.2.1 U → xq E.2.2.1 U := fun U hU => (hxl U hU).1
  have hN := ha.n2b
  have hfr : ∀ i, i < N → (0 ≤ (M.2.1 281 (81 + 76 * i + 2)).toInt ∧ (M.2.1 281 (81 + 76 * i + 2)).toInt ≤ 9200) := fun i hi => (hv.2.2.2.2 i hi).2.1
  have hI : ∀ x, isI M x ↔ (0 ≤ x ∧ x ≤ nI N - 1) := fun x => by
    show (0 ≤ x ∧ x ≤ M.2.1 281 2 - 1) ↔ _
    rw [ha.n2]
  have hbU := hC.2.2.1.2.1.b
  cases hrd : (rdA (M.2.1 283) n (M.2.1 280)).1 with
  | error e1 =>
    refine ⟨fun k M1 => k = 1 ∧ ldW M S U e1 M1, xm_impH (lh_load_1r (cx_load hls hxq hst hC h18 t1 t3 t4 hrd) (by decide) b0 hxl) (fun v M1 h1 => ⟨1, h1.1, rfl, h1.2⟩), fun k M1 h1 => ?_⟩
    obtain ⟨rfl, w1, wR, wI, w01, w02, w03⟩ := h1
    have hm1 : mR M1 := by
      obtain ⟨m0, m1, m2, m3, m4, m5, m14⟩ := hm
      exact ⟨by omega, (wR _ _ (by omega)).trans m1, (wR _ _ (by omega)).trans m2, (wR _ _ (by omega)).trans m3, (wR _ _ (by omega)).trans m4, (wR _ _ (by omega)).trans m5, (wR _ _ (by omega)).trans m14⟩
    have h2 := sr_load (E := E) (l := l) (M := M1) (f := M1.2.1 278) (x := M.2.1 283) (n := n) hst hm1 (by rw [wI 278 (by decide) (by decide) (by omega)]; exact t2) t3 (fun k hk => by rw [wI 283 (by decide) (by decide) (by omega)]) t5
    rw [rw1_id, wI 280 (by decide) (by decide) (by omega)] at h2
    refine ⟨by omega, _, by decide, xm_imp h2 (fun v M3 h3 => ?_)⟩
    rcases h3 with ⟨e2, f', t2', q1, q2, q3, g0, g6, g12, g13⟩ | ⟨q, -⟩
    · have q4 : e1 = e2 := by
        rw [hrd] at q1
        injection q1
      rw [← q4] at g12 g13
      have r1 : ∀ b, b ≠ 278 → b ≠ 280 → M3.2.1 b = M1.2.1 b := fun b h1 h2 => by rw [q3, RM_o h1 h2]
      have r8 : M3.2.1 278 = f' := by rw [q3, RM_f]
      refine ⟨by rw [r8]; exact g0, ⟨0, q2, fun q => absurd q (by decide)⟩, S, U, V, G, W, Q, N, F, T, 0, d, e, h.wrong (by rw [q3, RM_1]; exact w1) (fun b j hb hb2 => by rw [q3, RM_R]; exact wR b j hb) (fun b h0 h1 h2 h8 h80 => (r1 b h8 h80).trans (wI b h0 h1 h2)) ?_ ?_ ?_ ?_⟩
      · rw [r1 0 (by decide) (by decide)]; exact w01
      · rw [r8]; exact g6
      · rw [r1 0 (by decide) (by decide), r8, w02, g12]
      · rw [r1 0 (by decide) (by decide), r8, w03, g13]
    · rw [hrd] at q
      exact Bool.noConfusion q
  | ok b1 =>
    have hok : isOk (rdA (M.2.1 283) n (M.2.1 280)).1 = true := by rw [hrd]; rfl
    refine OPI.y (lh_load_r (cq_load (a := M.2.1 281) hst hC h18 htM t1 t3 t4 hok) (by decide) b0 (fun M1 h1 => by
      have := h1.1
      omega)) (fun M1 h1 => ?_)
    obtain ⟨M2, ⟨c1, cR, cI, cC, c18, cT, ⟨c01, c02, c03⟩, cD, ⟨c5, c7⟩, cL⟩, rfl⟩ := h1
    obtain ⟨V', G', W', Q', hw⟩ := wp_told hok
    generalize hrr : rdA (M.2.1 283) n (M.2.1 280) = rr at hrd hok hw cD cL
    obtain ⟨r1, t'⟩ := rr
    have hm2 : mR M2 := by
      obtain ⟨m0, m1, m2, m3, m4, m5, m14⟩ := hm
      exact ⟨by omega, by rw [cR 278 (by decide)]; exact m1, by rw [cR 278 (by decide)]; exact m2, by rw [cR 278 (by decide)]; exact m3, by rw [cR 278 (by decide)]; exact m4, by rw [cR 278 (by decide)]; exact m5, by rw [cR 278 (by decide)]; exact m14⟩
    have hmX := hm2.out (Nat.le_refl _) (.long (t' 5).toInt64)
    generalize hX : xm_setR M2 285 0 (.long (t' 5).toInt64) = X at hmX ⊢
    have eX : X.2.1 = M2.2.1 := by rw [← hX]; rfl
    have eX1 : X.1 = M2.1 := by rw [← hX]; rfl
    have eXR : ∀ b j, b < 285 → X.2.2 b j = M2.2.2 b j := fun b j hb => by rw [← hX, rs_g, if_neg (by omega)]
    have eX5 : X.2.2 285 0 = .long (t' 5).toInt64 := by rw [← hX, rs_g, if_pos ⟨rfl, rfl⟩]
    have h2 := sr_load (E := E) (l := l) (M := X) (f := X.2.1 278) (x := M.2.1 283) (n := n) hst hmX (by rw [eX, cI 278 (by decide)]; exact t2) t3 (fun k hk => by rw [eX, cI 283 (by decide)]) t5
    have e80 : X.2.1 280 = M.2.1 280 := by rw [eX, cI 280 (by decide)]
    rw [rw1_id, e80, hrr] at h2
    refine ⟨by omega, _, by decide, xm_imp h2 (fun v M3 h3 => ?_)⟩
    rcases h3 with ⟨e2, f', t2', q1, -⟩ | ⟨-, f', q2, q3, g0, g6, g12, g13⟩
    · rw [hrd] at q1
      cases q1
    · have r0 : ∀ b, b ≠ 278 → b ≠ 279 → b ≠ 280 → b ≠ 281 → M3.2.1 b = M2.2.1 b := fun b h8 h9 h0 h1 => by rw [q3, rw1_n _ _ h1, rw1_n _ _ h9, RM_o h8 h0, eX]
      have r8 : M3.2.1 278 = f' := by rw [q3, rw1_n _ _ (by decide), rw1_n _ _ (by decide), RM_f]
      have rR : M3.2.2 = X.2.2 := by rw [q3]; rfl
      have rl : M3.1 = M2.1 := by rw [q3]; exact eX1
      have rRR : ∀ b j, b < 285 → M3.2.2 b j = M2.2.2 b j := fun b j hb => by rw [rR]; exact eXR b j hb
      obtain ⟨m0, m1, m2, m3, m4, m5, m14⟩ := hm2
      obtain ⟨u1, u2, u3⟩ := cT
      refine ⟨by rw [r8]; exact g0, ⟨t' 5, q2, fun _ => by rw [rR]; exact eX5⟩, U, S, V', G', W', Q', 0, 0, 0, 0, 0, 0, ?_⟩
      refine KR.right (a := M.2.1 281) (t := t') (cC.eqR rl rRR) ((rRR 18 0 (by decide)).trans c18) ⟨(rRR 275 0 (by decide)).trans u1, (rRR 275 2 (by decide)).trans u2, (rRR 275 3 (by decide)).trans u3⟩ ⟨by omega, (rRR 278 1 (by decide)).trans m1, (rRR 278 2 (by decide)).trans m2, (rRR 278 3 (by decide)).trans m3, (rRR 278 4 (by decide)).trans m4, (rRR 278 5 (by decide)).trans m5, (rRR 278 14 (by decide)).trans m14⟩ hw (fun j hj => ?_) ?_ (cD.fr (fun b h1 h2 => r0 b (by omega) (by omega) (by omega) (by omega))) ?_ (fun k hk => ?_) (cL.cong (by decide) (fun b h1 h2 => r0 b (by omega) (by omega) (by omega) (by omega))) ?_ ?_ ?_ ?_
      · rw [q3, rw1_n _ _ (by decide), rw1_s]
        exact if_pos hj
      · rw [q3, rw1_s, eX, cI 281 (by decide)]
      · rw [r0 275 (by decide) (by decide) (by decide) (by decide)]; exact c5
      · rw [r0 277 (by decide) (by decide) (by decide) (by decide)]; exact c7 k hk
      · rw [r0 0 (by decide) (by decide) (by decide) (by decide)]; exact c01
      · rw [r8]; exact g6
      · rw [r0 0 (by decide) (by decide) (by decide) (by decide), r8, c02, g12]
      · rw [r0 0 (by decide) (by decide) (by decide) (by decide), r8, c03, g13]

/-! ONE CALL OF EACH SIDE: where the line changes -/
theorem KR.line {M M2 : xm_M} {S U V G W Q N F T n N' F' T' : Nat} {d e d' e' : Int32} {a' : Nat → Int32} (h : KR M S U V G W Q N F T n d e) (h1 : M2.1 = M.1) (hR : ∀ b j, b < 285 → M2.2.2 b j = M.2.2 b j) (hI : ∀ b, (b < 19 ∨ 147 ≤ b) → b ≠ 278 → b ≠ 281 → M2.2.1 b = M.2.1 b) (h8 : ∀ j, j ≠ 0 → M2.2.1 278 j = M.2.1 278 j) (hA : M2.2.1 281 = a') (wA : wa a' N' G) (rV : rv (M.2.1 279) a' G N' T') (hT : T' ≤ 20000) (oV : ov (M.2.1 279) a' G N' T') (lL : lR M2.2.1 19 a' N' F' T' (fun _ => ((T' + 1 : Nat) : Int)) True d' e') : KR M2 S U V G W Q N' F' T' n d' e' := by
  obtain ⟨⟨c1, c2, ⟨c3, c3', c3''⟩, m0, m1, m2, m3, m4, m5, m14⟩, ⟨w1, w2, w3, w4, w5⟩, ⟨s1, s2, s3⟩, ⟨x1, x2, x3, x4, x5⟩, e1, e2⟩ := h
  have hSU := c1.2.2.1
  have bS := hSU.1.b
  unfold KR
  rw [hI 279 (by omega) (by decide) (by decide), hA, hI 283 (by omega) (by decide) (by decide), h8 6 (by decide), h8 12 (by decide), h8 13 (by decide), hI 0 (by omega) (by decide) (by decide), hI 1 (by omega) (by decide) (by decide)]
  exact ⟨⟨c1.eqR h1 hR, (hR 18 0 (by decide)).trans c2, ⟨(hR 275 0 (by decide)).trans c3, (hR 275 2 (by decide)).trans c3', (hR 275 3 (by decide)).trans c3''⟩, by omega, (hR 278 1 (by decide)).trans m1, (hR 278 2 (by decide)).trans m2, (hR 278 3 (by decide)).trans m3, (hR 278 4 (by decide)).trans m4, (hR 278 5 (by decide)).trans m5, (hR 278 14 (by decide)).trans m14⟩, ⟨w1, wA, rV, hT, oV⟩, ⟨s1.cong (fun b h1 h2 => hI b (by omega) (by omega) (by omega)), lL, s3.cong (fun b h1 h2 => hI b (by omega) (by omega) (by omega))⟩, ⟨x1, x2, x3, x4, x5⟩, e1, e2⟩
theorem KR.lineI {M : xm_M} {S U V G W Q N F T n N' F' T' : Nat} {d e d' e' : Int32} {a' : Nat → Int32} {I' : xI} {X : xm_M} (h : KR M S U V G W Q N F T n d e) (hf : frL 19 M.2.1 I') (hX1 : X.1 = M.1) (hXI : X.2.1 = I') (hXR : ∀ b j, b < 285 → X.2.2 b j = M.2.2 b j) (wA : wa a' N' G) (rV : rv (M.2.1 279) a' G N' T') (hT : T' ≤ 20000) (oV : ov (M.2.1 279) a' G N' T') (lL : lR I' 19 a' N' F' T' (fun _ => ((T' + 1 : Nat) : Int)) True d' e') : KR (rw1 (thr X 0) 281 a') S U V G W Q N' F' T' n d' e' := by
  refine h.line hX1 hXR (fun b h1 h2 h3 => ?_) (fun j hj => ?_) (rw1_s _ _ _) wA rV hT oV ?_
  · rw [rw1_n _ _ h3, thr_I h2, hXI]
    exact hf b (by omega)
  · rw [rw1_n _ _ (by decide), thr_i hj, hXI, hf 278 (by omega)]
  · refine lL.cong wA.n2b (fun b h1 h2 => ?_)
    rw [rw1_n _ _ (by omega), thr_I (by omega), hXI]
/-- a call that changes both lines -/
theorem OPI.l {E : xm_E} {l : Launch} {mh : xm_hT} {As Bs : List Value} {mm : xm_T4} {M : xm_M} {dp : Nat} {b : Int32} {u : Int64} {Gr : Int32 → Option Value → xm_M → Prop} {S U V G W Q N F T n N' F' T' : Nat} {d e d' e' : Int32} {a' : Nat → Int32} {I' : xI} (h : KR M S U V G W Q N F T n d e) (h9 : 286 < M.1) (hH : xm_MetH E l mh 12 1 6 As M (fun v M1 => v = some (.int 0) ∧ M1 = xm_setR (mI M I') 285 0 (.long u))) (hf : frL 19 M.2.1 I') (hM : ∀ X, mR X → X.2.1 281 = M.2.1 281 → X.2.1 279 = M.2.1 279 → xm_Met E l mm dp 0 0 Bs X (fun v M3 => v = some (.int b) ∧ M3 = rw1 (thr X 0) 281 a')) (hd : dp ≤ 12) (hG : ∀ M3 : xm_M, M3.2.2 285 0 = .long u → Gr 0 (some (.int b)) M3) (wA : wa a' N' G) (rV : rv (M.2.1 279) a' G N' T') (hT : T' ≤ 20000) (oV : ov (M.2.1 279) a' G N' T') (lL : lR I' 19 a' N' F' T' (fun _ => ((T' + 1 : Nat) : Int)) True d' e') : OPI E l mh As mm Bs M Gr := by
  refine OPI.y (P := fun M1 => M1 = xm_setR (mI M I') 285 0 (.long u)) hH (fun M1 h1 => ?_)
  subst h1
  have hm : mR (mI M I') := h.1.2.2.2
  refine ⟨h9, dp, hd, xm_imp (hM _ (hm.out (Nat.le_refl _) _) (hf 281 (by omega)) (hf 279 (by omega))) (fun v M3 h3 => ?_)⟩
  obtain ⟨rfl, rfl⟩ := h3
  refine ⟨?_, hG _ ?_, S, U, V, G, W, Q, N', F', T', n, d', e', ?_⟩
  · rw [rw1_n _ _ (by decide), thr_0]
  · rw [rw1_R, thr_R, rs_g, if_pos ⟨rfl, rfl⟩]
  · refine h.lineI hf rfl rfl (fun b j hb => ?_) wA rV hT oV lL
    rw [rs_g, if_neg (by omega)]
    rfl
theorem GI.y {b : Int32} : ∀ M3 : xm_M, M3.2.2 285 0 = .long b.toInt64 → GI 0 (some (.int b)) M3 := fun _ h => ⟨b, rfl, fun _ => h⟩
theorem GB.y {b : Int32} : ∀ M3 : xm_M, M3.2.2 285 0 = .long (if b = 0 then Int64.ofNat 0 else Int64.ofNat 1) → GB 0 (some (.int b)) M3 := fun _ h => ⟨b, rfl, fun _ => h⟩
theorem GB.x {k b : Int32} {M2 : xm_M} (hk : k ≠ 0) : GB k (some (.int b)) M2 := ⟨b, rfl, fun q => absurd q hk⟩

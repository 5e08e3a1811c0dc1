/-! THE TWO SIDES: the whole relation at rest -/
/-- the class's objects and the reference's rows; S setup, U spare, V vibrations, G gates, W window, Q quiet ticks, N items, F off the belt, T ticks, n bytes -/
def KR (M : xm_M) (S U V G W Q N F T n : Nat) (d e : Int32) : Prop := (cM M 19 147 S U ∧ M.2.2 18 0 = .ref 1 ∧ tM M S ∧ mR M) ∧ (wp (M.2.1 279) V G W Q ∧ wa (M.2.1 281) N G ∧ rv (M.2.1 279) (M.2.1 281) G N T ∧ T ≤ 20000 ∧ ov (M.2.1 279) (M.2.1 281) G N T) ∧ (sR M.2.1 S (M.2.1 279) V G ∧ lR M.2.1 19 (M.2.1 281) N F T (fun _ => ((T + 1 : Nat) : Int)) True d e ∧ tR M.2.1 (M.2.1 279) V) ∧ (M.2.1 0 1 = nI n ∧ M.2.1 278 6 = nI n ∧ n ≤ 500 ∧ (∀ k, k < n → M.2.1 1 k = M.2.1 283 k) ∧ ∀ k, k < n → 0 ≤ (M.2.1 283 k).toInt) ∧ M.2.1 0 2 = M.2.1 278 12 ∧ M.2.1 0 3 = M.2.1 278 13
def KRE (M : xm_M) : Prop := ∃ (S U V G W Q N F T n : Nat) (d e : Int32), KR M S U V G W Q N F T n d e
theorem lR.cong {I I' : xI} {A : Nat} {a : Nat → Int32} {N F T : Nat} {u : Nat → Int} {cf : Prop} {d e : Int32} (h : lR I A a N F T u cf d e) (hN : N ≤ 60) (hI : ∀ b, A ≤ b → b < A + 128 → I' b = I b) : lR I' A a N F T u cf d e := by
  obtain ⟨n1, f1, j1, c1, s1, i1⟩ := h
  refine ⟨?_, f1, fun g hg => ?_, fun q => ?_, fun k hk hk2 => ?_, fun i hi => ?_⟩
  · unfold lnN at n1 ⊢
    rw [hI A (by omega) (by omega)]
    exact n1
  · rw [hI _ (by omega) (by omega)]
    exact j1 g hg
  · have c2 := c1 q
    unfold lC at c2 ⊢
    rw [hI (A + 2) (by omega) (by omega), hI (A + 3) (by omega) (by omega), hI (A + 4) (by omega) (by omega), hI (A + 5) (by omega) (by omega)]
    exact c2
  · rw [hI _ (by omega) (by omega)]
    exact s1 k hk hk2
  · exact (i1 i hi).cong (hI _ (by omega) (by omega)) (hI _ (by omega) (by omega)) (fun _ _ _ => rfl)
theorem sR.cong {I I' : xI} {S V G : Nat} {p : Nat → Int32} (h : sR I S p V G) (hI : ∀ b, S ≤ b → b < S + 8 → I' b = I b) : sR I' S p V G := by
  unfold sR nR vR gR at *
  rw [hI S (by omega) (by omega), hI (S + 1) (by omega) (by omega), hI (S + 1 + 1) (by omega) (by omega), hI (S + 1 + 2) (by omega) (by omega), hI (S + 1 + 3) (by omega) (by omega), hI (S + 5) (by omega) (by omega), hI (S + 6) (by omega) (by omega), hI (S + 7) (by omega) (by omega)]
  exact h
theorem tR.cong {I I' : xI} {V : Nat} {p : Nat → Int32} (h : tR I p V) (hI : ∀ b, 275 ≤ b → b < 278 → I' b = I b) : tR I' p V := by
  unfold tR at *
  rw [hI 275 (by omega) (by omega), hI 276 (by omega) (by omega), hI 277 (by omega) (by omega)]
  exact h
/-- where neither side has moved -/
theorem KR.cong {M M1 : xm_M} {S U V G W Q N F T n : Nat} {d e : Int32} (h : KR M S U V G W Q N F T n d e) (hC : cM M1 19 147 S U) (hR : ∀ b j, (b = 18 ∨ (275 ≤ b ∧ b < 285)) → M1.2.2 b j = M.2.2 b j) (hI : ∀ b, b < 147 → b ≠ 18 → ¬ (U ≤ b ∧ b < U + 8) → M1.2.1 b = M.2.1 b) (hT : tR M1.2.1 (M.2.1 279) V) (hr : ∀ b, (b = 279 ∨ b = 281 ∨ b = 283) → M1.2.1 b = M.2.1 b) (h8 : ∀ j, (j = 6 ∨ j = 12 ∨ j = 13) → M1.2.1 278 j = M.2.1 278 j) : KR M1 S U V G W Q N F T n d e := by
  obtain ⟨⟨c1, c2, ⟨c3, c3', c3''⟩, m0, m1, m2, m3, m4, m5, m14⟩, ⟨w1, w2, w3, w4, w5⟩, ⟨s1, s2, s3⟩, ⟨x1, x2, x3, x4, x5⟩, e1, e2⟩ := h
  have hSU := hC.2.2.1
  have bS := hSU.1.b
  have bU := hSU.2.1.b
  have hne : ∀ b, S ≤ b → b < S + 8 → ¬ (U ≤ b ∧ b < U + 8) := fun b h1 h2 h3 => by
    rcases hSU.1 with rfl | rfl <;> rcases hSU.2.1 with rfl | rfl
    · exact hSU.2.2 rfl
    · omega
    · omega
    · exact hSU.2.2 rfl
  have e287 : ly_m = 287 := rfl
  have hM1 := hC.1
  unfold KR
  rw [hr 279 (by omega), hr 281 (by omega), hr 283 (by omega), h8 6 (by omega), h8 12 (by omega), h8 13 (by omega), hI 0 (by omega) (by omega) (by omega), hI 1 (by omega) (by omega) (by omega)]
  refine ⟨⟨hC, (hR 18 0 (by omega)).trans c2, ⟨(hR 275 0 (by omega)).trans c3, (hR 275 2 (by omega)).trans c3', (hR 275 3 (by omega)).trans c3''⟩, by omega, (hR 278 1 (by omega)).trans m1, (hR 278 2 (by omega)).trans m2, (hR 278 3 (by omega)).trans m3, (hR 278 4 (by omega)).trans m4, (hR 278 5 (by omega)).trans m5, (hR 278 14 (by omega)).trans m14⟩, ⟨w1, w2, w3, w4, w5⟩, ⟨s1.cong (fun b h1 h2 => hI b (by omega) (by omega) (hne b h1 h2)), s2.cong w2.n2b (fun b h1 h2 => hI b (by omega) (by omega) (by omega)), hT⟩, ⟨x1, x2, x3, x4, x5⟩, e1, e2⟩
theorem cM.eq18 {M M1 : xm_M} {S U : Nat} (hC : cM M 19 147 S U) (h1 : M1.1 = M.1) (e9 : ∀ b j, b < 285 → b ≠ 18 → M1.2.2 b j = M.2.2 b j) : cM M1 19 147 S U := by
  have hSU := hC.2.2.1
  have bS := hSU.1.b
  have bU := hSU.2.1.b
  obtain ⟨hm0, ⟨eA, eB⟩, iSU, ⟨q0, q4, q5, q6, q7, q8, q9⟩, ⟨r0, r8, r9, r10, r11, r12, r13, r14, ri⟩, ⟨b8, b9, b10, b11, b12, b13, b14, bi⟩, ⟨x1, x2, x3, x4, x5, x6, x7⟩, ⟨y1, y2, y3, y4, y5, y6, y7⟩⟩ := hC
  refine ⟨h1.trans hm0, ⟨eA, eB⟩, iSU, ⟨?_, ?_, ?_, ?_, ?_, ?_, ?_⟩, ⟨?_, ?_, ?_, ?_, ?_, ?_, ?_, ?_, fun i hi => ⟨?_, ?_⟩⟩, ⟨?_, ?_, ?_, ?_, ?_, ?_, ?_, fun i hi => ⟨?_, ?_⟩⟩, ⟨?_, ?_, ?_, ?_, ?_, ?_, ?_⟩, ⟨?_, ?_, ?_, ?_, ?_, ?_, ?_⟩⟩
  all_goals rw [e9 _ _ (by omega) (by omega)]
  all_goals first | assumption | exact (ri i hi).1 | exact (ri i hi).2 | exact (bi i hi).1 | exact (bi i hi).2
theorem cM.eqR {M M1 : xm_M} {S U : Nat} (hC : cM M 19 147 S U) (h1 : M1.1 = M.1) (e9 : ∀ b j, b < 285 → M1.2.2 b j = M.2.2 b j) : cM M1 19 147 S U := hC.eq18 h1 (fun b j hb _ => e9 b j hb)
theorem KR.out {M : xm_M} {S U V G W Q N F T n : Nat} {d e : Int32} (h : KR M S U V G W Q N F T n d e) {r : Nat} (hr : 285 ≤ r) (v : Value) : KR (xm_setR M r 0 v) S U V G W Q N F T n d e := by
  have e9 : ∀ b j, b ≠ r → (xm_setR M r 0 v).2.2 b j = M.2.2 b j := fun b j hb => by rw [rs_g, if_neg (fun q => hb q.1)]
  exact h.cong (h.1.1.eqR rfl (fun b j hb => e9 b j (by omega))) (fun b j hb => e9 b j (by omega)) (fun _ _ _ _ => rfl) h.2.2.1.2.2 (fun _ _ => rfl) (fun _ _ => rfl)
theorem KRE.out {M : xm_M} (h : KRE M) {r : Nat} (hr : 285 ≤ r) (v : Value) : KRE (xm_setR M r 0 v) := by
  obtain ⟨S, U, V, G, W, Q, N, F, T, n, d, e, h⟩ := h
  exact ⟨S, U, V, G, W, Q, N, F, T, n, d, e, h.out hr v⟩
theorem KR.thw {M : xm_M} {S U V G W Q N F T n : Nat} {d e : Int32} (h : KR M S U V G W Q N F T n d e) (y : Int32) : KR (thr M y) S U V G W Q N F T n d e :=
  h.cong h.1.1 (fun _ _ _ => rfl) (fun b h1 _ _ => thr_I (by omega)) (h.2.2.1.2.2.cong (fun b h1 h2 => thr_I (by omega))) (fun b hb => thr_I (by omega)) (fun j hj => thr_i (by omega))
theorem KRE.thr {M : xm_M} (h : KRE M) (y : Int32) : KRE (thr M y) := by
  obtain ⟨S, U, V, G, W, Q, N, F, T, n, d, e, h⟩ := h
  exact ⟨S, U, V, G, W, Q, N, F, T, n, d, e, h.thw y⟩
theorem mR.out {M : xm_M} (h : mR M) {r : Nat} (hr : 285 ≤ r) (v : Value) : mR (xm_setR M r 0 v) := by
  obtain ⟨m0, m1, m2, m3, m4, m5, m14⟩ := h
  have e9 : ∀ j, (xm_setR M r 0 v).2.2 278 j = M.2.2 278 j := fun j => by rw [rs_g, if_neg (fun q => by omega)]
  exact ⟨m0, (e9 _).trans m1, (e9 _).trans m2, (e9 _).trans m3, (e9 _).trans m4, (e9 _).trans m5, (e9 _).trans m14⟩
theorem xm_impH {E : xm_E} {l : Launch} {mt : xm_hT} {d mc ms : Nat} {As : List Value} {M : xm_M} {r1 r2 : Option Value → xm_M → Prop} (h : xm_MetH E l mt d mc ms As M r1) (hi : ∀ v M1, r1 v M1 → r2 v M1) : xm_MetH E l mt d mc ms As M r2 := by
  intro p e h1 h2 h3 s m args below h4 h5 h6 h7
  obtain ⟨n, o, k1, k2, k3, hQ⟩ := h p e h1 h2 h3 s m args below h4 h5 h6 h7
  refine ⟨n, o, k1, k2, k3, ?_⟩
  rcases hQ with ⟨⟨⟨v, M1, e1, e2, e3⟩, k5⟩, k6⟩ | ⟨q, e1, e2⟩
  · exact Or.inl ⟨⟨⟨v, M1, e1, hi v M1 e2, e3⟩, k5⟩, k6⟩
  · exact Or.inr ⟨q, e1, e2⟩
/-- what the two answers owe each other, by the code k: ints, booleans, nothing, doubles -/
def GI (k : Int32) (v : Option Value) (M2 : xm_M) : Prop := ∃ b, v = some (.int b) ∧ (k = 0 → M2.2.2 285 0 = .long b.toInt64)
def GB (k : Int32) (v : Option Value) (M2 : xm_M) : Prop := ∃ b, v = some (.int b) ∧ (k = 0 → M2.2.2 285 0 = .long (if b = 0 then Int64.ofNat 0 else Int64.ofNat 1))
def GV (_ : Int32) (v : Option Value) (_ : xm_M) : Prop := v = none
def GD (k : Int32) (v : Option Value) (M2 : xm_M) : Prop := ∃ b, v = some (.double b) ∧ (k = 0 → vf_n64 b ∧ M2.2.2 286 0 = .double b)
/-- one call of each side: the helper ends with a code; the reference then answers with the same code, and the same answer where it is 0 -/
def OPI (E : xm_E) (l : Launch) (mh : xm_hT) (As : List Value) (mm : xm_T4) (Bs : List Value) (M : xm_M) (G : Int32 → Option Value → xm_M → Prop) : Prop := ∃ P : Int32 → xm_M → Prop, xm_MetH E l mh 12 1 6 As M (fun v M1 => ∃ k, v = some (.int k) ∧ P k M1) ∧ ∀ k M1, P k M1 → 286 < M1.1 ∧ ∃ dp, dp ≤ 12 ∧ xm_Met E l mm dp 0 0 Bs M1 (fun v M2 => M2.2.1 278 0 = k ∧ G k v M2 ∧ KRE M2)
theorem OPI.y {E : xm_E} {l : Launch} {mh : xm_hT} {As Bs : List Value} {mm : xm_T4} {M : xm_M} {G : Int32 → Option Value → xm_M → Prop} {P : xm_M → Prop} (hH : xm_MetH E l mh 12 1 6 As M (fun v M1 => v = some (.int 0) ∧ P M1)) (hM : ∀ M1, P M1 → 286 < M1.1 ∧ ∃ dp, dp ≤ 12 ∧ xm_Met E l mm dp 0 0 Bs M1 (fun v M2 => M2.2.1 278 0 = 0 ∧ G 0 v M2 ∧ KRE M2)) : OPI E l mh As mm Bs M G := by
  refine ⟨fun k M1 => k = 0 ∧ P M1, xm_impH hH (fun v M1 h => ⟨0, h.1, rfl, h.2⟩), fun k M1 h => ?_⟩
  obtain ⟨rfl, h⟩ := h
  exact hM M1 h
/-- a question answered -/
theorem OPI.q {E : xm_E} {l : Launch} {mh : xm_hT} {As Bs : List Value} {mm : xm_T4} {M : xm_M} {dp : Nat} {b : Int32} (hr : KRE M) (h9 : 286 < M.1) (hH : xm_MetH E l mh 12 1 6 As M (fun v M1 => v = some (.int 0) ∧ M1 = xm_setR M 285 0 (.long b.toInt64))) (hM : xm_Met E l mm dp 0 0 Bs (xm_setR M 285 0 (.long b.toInt64)) (fun v M3 => v = some (.int b) ∧ M3 = thr (xm_setR M 285 0 (.long b.toInt64)) 0)) (hd : dp ≤ 12) : OPI E l mh As mm Bs M GI := by
  refine OPI.y (P := fun M1 => M1 = xm_setR M 285 0 (.long b.toInt64)) hH (fun M1 h => ?_)
  subst h
  refine ⟨h9, dp, hd, xm_imp hM (fun v M3 h => ?_)⟩
  obtain ⟨rfl, rfl⟩ := h
  exact ⟨thr_0 _ _, ⟨b, rfl, fun _ => by rw [thr_R, rs_g, if_pos ⟨rfl, rfl⟩]⟩, (hr.out (Nat.le_refl _) _).thr 0⟩
/-- .. where it changes both -/
theorem OPI.w {E : xm_E} {l : Launch} {mh : xm_hT} {As Bs : List Value} {mm : xm_T4} {M M1 M2 : xm_M} {dp : Nat} {b : Int32} (h9 : 286 < M1.1) (hH : xm_MetH E l mh 12 1 6 As M (fun v M3 => v = some (.int 0) ∧ M3 = xm_setR M1 285 0 (.long b.toInt64))) (hM : xm_Met E l mm dp 0 0 Bs (xm_setR M1 285 0 (.long b.toInt64)) (fun v M3 => v = some (.int b) ∧ M3 = M2)) (hd : dp ≤ 12) (h0 : M2.2.1 278 0 = 0) (hR : M2.2.2 = (xm_setR M1 285 0 (.long b.toInt64)).2.2) (hr : KRE M2) : OPI E l mh As mm Bs M GI := by
  refine OPI.y (P := fun M3 => M3 = xm_setR M1 285 0 (.long b.toInt64)) hH (fun M3 h => ?_)
  subst h
  refine ⟨h9, dp, hd, xm_imp hM (fun v M3 h => ?_)⟩
  obtain ⟨rfl, rfl⟩ := h
  exact ⟨h0, ⟨b, rfl, fun _ => by rw [hR, rs_g, if_pos ⟨rfl, rfl⟩]⟩, hr⟩
/-- a call refused -/
theorem OPI.x {E : xm_E} {l : Launch} {mh : xm_hT} {As Bs : List Value} {mm : xm_T4} {M : xm_M} {dp : Nat} {k : Int32} {u : Option Value} {G : Int32 → Option Value → xm_M → Prop} (hr : KRE M) (h9 : 286 < M.1) (hH : xm_MetH E l mh 12 1 6 As M (fun v M1 => v = some (.int k) ∧ M1 = M)) (hM : xm_Met E l mm dp 0 0 Bs M (fun v M3 => v = u ∧ M3 = thr M k)) (hd : dp ≤ 12) (hG : G k u (thr M k)) : OPI E l mh As mm Bs M G := by
  refine ⟨fun c M1 => c = k ∧ M1 = M, xm_impH hH (fun v M1 h => ⟨k, h.1, rfl, h.2⟩), fun c M1 h => ?_⟩
  obtain ⟨rfl, rfl⟩ := h
  refine ⟨h9, dp, hd, xm_imp hM (fun v M3 h => ?_)⟩
  obtain ⟨rfl, rfl⟩ := h
  exact ⟨thr_0 _ _, hG, hr.thr c⟩
theorem GI.x {k b : Int32} {M2 : xm_M} (hk : k ≠ 0) : GI k (some (.int b)) M2 := ⟨b, rfl, fun q => absurd q hk⟩

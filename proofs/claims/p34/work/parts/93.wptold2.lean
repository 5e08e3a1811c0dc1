/-! READING a text: vibrations and gates keep a setup; the whole -/
theorem wp.vibT {x : Nat → Int32} {n b : Nat} {t : Nat → Int32} {V G W Q : Nat} (h : wp t V G W Q) (ho : isOk (vS x n (.ok b) t) = true) : wp (vT x n (.ok b) t) (V + 1) G W Q := by
  have hV : tV t = V := by unfold tV; rw [h.v4, cl_n (by have := h.v4b; omega)]
  have e0 : vS x n (.ok b) t = vibS x n V b := by
    show vibS x n (tV t) b = _
    rw [hV]
  have e1 : vT x n (.ok b) t = _root_.Jvm.Pilot.CCheckWeigherLaw_law_r2128_7c0bd7.vibT x n V b t := by
    show _root_.Jvm.Pilot.CCheckWeigherLaw_law_r2128_7c0bd7.vibT x n (tV t) b t = _
    rw [hV]
  rw [e0] at ho
  rw [e1]
  have h4 : V ≠ 4 := fun q => by
    have e : vibS x n V b = .error (4, b) := if_pos q
    rw [e] at ho
    exact Bool.noConfusion ho
  have hV4 := h.v4b
  have es : vibS x n V b = send x n (spos (v1s x n b)) := if_neg h4
  rw [es] at ho
  have o3 := ok_end ho
  have o2 : isOk (spos (v1p x n b)) = true := (ok_fig (s := spos (v1p x n b)) o3).1
  have o1 : isOk (spos (v1a x n b)) = true := ok_evn (ok_fig (s := sevn x n (spos (v1a x n b))) o2).1
  have r1 := ok_rng (u := 1) (w := 999) (s := .ok (nxt x n b)) o1
  have r2 := ok_rng (u := 2) (w := 40) (s := sevn x n (spos (v1a x n b))) o2
  have r3 := ok_rng (u := 0) (w := sval (v1p x n b) - 1) (s := spos (v1p x n b)) o3
  have c0 : (0 : Int32).toInt = 0 := rfl
  have c1 : (1 : Int32).toInt = 1 := rfl
  have c2 : (2 : Int32).toInt = 2 := rfl
  have c40 : (40 : Int32).toInt = 40 := rfl
  have c999 : (999 : Int32).toInt = 999 := rfl
  rw [c1, c999] at r1
  rw [c2, c40] at r2
  have r1 : 1 ≤ (sval (v1a x n b)).toInt ∧ (sval (v1a x n b)).toInt ≤ 999 := r1
  have r2 : 2 ≤ (sval (v1p x n b)).toInt ∧ (sval (v1p x n b)).toInt ≤ 40 := r2
  rw [ti_sub (by rw [c1]; omega) (by rw [c1]; omega), c0, c1] at r3
  have r3 : 0 ≤ (sval (v1s x n b)).toInt ∧ (sval (v1s x n b)).toInt ≤ (sval (v1p x n b)).toInt - 1 := r3
  unfold _root_.Jvm.Pilot.CCheckWeigherLaw_law_r2128_7c0bd7.vibT
  generalize sval (v1a x n b) = a at r1 ⊢
  generalize sval (v1p x n b) = p at r2 r3 ⊢
  generalize sval (v1s x n b) = s at r3 ⊢
  have e : ∀ j, j ≠ 4 → j ≠ 16 + 3 * V → j ≠ 16 + 3 * V + 1 → j ≠ 16 + 3 * V + 2 → upd (upd (upd (upd t (16 + 3 * V) a) (16 + 3 * V + 1) p) (16 + 3 * V + 2) s) 4 (nI (V + 1)) j = t j := fun j q1 q2 q3 q4 => by rw [up_n q1, up_n q4, up_n q3, up_n q2]
  have ea : upd (upd (upd (upd t (16 + 3 * V) a) (16 + 3 * V + 1) p) (16 + 3 * V + 2) s) 4 (nI (V + 1)) (16 + 3 * V) = a := by rw [up_n (by omega), up_n (by omega), up_n (by omega), up_s]
  have ep : upd (upd (upd (upd t (16 + 3 * V) a) (16 + 3 * V + 1) p) (16 + 3 * V + 2) s) 4 (nI (V + 1)) (16 + 3 * V + 1) = p := by rw [up_n (by omega), up_n (by omega), up_s]
  have es2 : upd (upd (upd (upd t (16 + 3 * V) a) (16 + 3 * V + 1) p) (16 + 3 * V + 2) s) 4 (nI (V + 1)) (16 + 3 * V + 2) = s := by rw [up_n (by omega), up_s]
  have e4 : upd (upd (upd (upd t (16 + 3 * V) a) (16 + 3 * V + 1) p) (16 + 3 * V + 2) s) 4 (nI (V + 1)) 4 = nI (V + 1) := up_s
  generalize upd (upd (upd (upd t (16 + 3 * V) a) (16 + 3 * V + 1) p) (16 + 3 * V + 2) s) 4 (nI (V + 1)) = t' at e ea ep es2 e4 ⊢
  have el : ∀ j, j < 16 → j ≠ 4 → t' j = t j := fun j q1 q2 => e j q2 (by omega) (by omega) (by omega)
  have eh : ∀ j, 28 ≤ j → t' j = t j := fun j q1 => e j (by omega) (by omega) (by omega) (by omega)
  refine ⟨e4, by omega, by rw [el 5 (by decide) (by decide)]; exact h.g5, h.g5b, by rw [el 8 (by decide) (by decide)]; exact h.w8, h.w8a, h.w8b, by rw [el 14 (by decide) (by decide)]; exact h.z14, h.z14b, by rw [el 0 (by decide) (by decide)]; exact h.s0, by rw [el 1 (by decide) (by decide), el 2 (by decide) (by decide)]; exact h.b1, by rw [el 2 (by decide) (by decide), el 3 (by decide) (by decide)]; exact h.e2, by rw [el 3 (by decide) (by decide)]; exact h.e3, by rw [el 9 (by decide) (by decide)]; exact h.n9, by rw [el 10 (by decide) (by decide)]; exact h.st10, by rw [el 11 (by decide) (by decide)]; exact h.ls11, by rw [el 12 (by decide) (by decide)]; exact h.dr12, by rw [el 13 (by decide) (by decide)]; exact h.dt13, by rw [el 15 (by decide) (by decide)]; exact h.co15, by rw [el 6 (by decide) (by decide), el 7 (by decide) (by decide)]; exact h.lw6, fun k hk => ?_, fun g hg => ?_, fun g hg => ?_, fun g hg => ?_, fun k hk => ?_⟩
  · by_cases q : k = V
    · subst q
      rw [ea, ep, es2]
      omega
    · rw [e _ (by omega) (by omega) (by omega) (by omega), e _ (by omega) (by omega) (by omega) (by omega), e _ (by omega) (by omega) (by omega) (by omega)]
      exact h.vib k (by omega)
  · rw [el 2 (by decide) (by decide), el 3 (by decide) (by decide), eh (28 + 3 * g + 1) (by omega), eh (28 + 3 * g + 2) (by omega)]
    exact h.gat g hg
  · rw [eh _ (by omega), eh _ (by omega)]
    exact h.gas g hg
  · obtain ⟨k, k1, k2, k3⟩ := h.gkd g hg
    exact ⟨k, k1, by rw [eh _ (by omega)]; exact k2, by rw [eh _ (by omega)]; exact k3⟩
  · rcases h.gof k hk with ⟨q1, q2⟩ | ⟨g, q1, q2, q3⟩
    · exact Or.inl ⟨by rw [eh _ (by omega)]; exact q1, fun g hg => by rw [eh _ (by omega)]; exact q2 g hg⟩
    · exact Or.inr ⟨g, q1, by rw [eh _ (by omega)]; exact q2, by rw [eh _ (by omega)]; exact q3⟩
theorem wp.gatT {x : Nat → Int32} {n b : Nat} {t : Nat → Int32} {V G W Q : Nat} (h : wp t V G W Q) (hw : WG t) (ho : isOk (gS x n (.ok b) t) = true) : WG (gT x n (.ok b) t) ∧ wp (gT x n (.ok b) t) V (G + 1) W Q := by
  have hGb := h.g5b
  have hG : tG t = G := by unfold tG; rw [h.g5, cl_n (by omega)]
  have hS : gS x n (.ok b) t = send x n (spos (sfig x n 0 50 (spos (sfig x n ((if G = 0 then t 2 else t (28 + 3 * G - 2)) + 1) (t 3 - 1) (kgS x n (.ok (nxt x n b)) t))))) := by
    have : gS x n (.ok b) t = gatS x n (tG t) b t := rfl
    rw [this, hG]
    exact gatS_k
  rw [hS] at ho
  have o2 := ok_end ho
  have o1 := (ok_fig (s := spos (sfig x n ((if G = 0 then t 2 else t (28 + 3 * G - 2)) + 1) (t 3 - 1) (kgS x n (.ok (nxt x n b)) t))) o2).1
  obtain ⟨k, k1, k2, k3, k4⟩ := kgS_ok (ok_fig o1).1
  have hlt := hw.lt k1 k3
  rw [hG] at hlt
  have r2 := ok_rng o2
  have r1 := ok_rng o1
  rw [k4] at r1 r2
  have e : gT x n (.ok b) t = gaU t G (nI k) (sval (g1p x n G b t)) (sval (g1r x n G b t)) := by
    have : gT x n (.ok b) t = gaU t (tG t) (kdh x n (.ok (nxt x n b))) (sval (g1p x n (tG t) b t)) (sval (g1r x n (tG t) b t)) := rfl
    rw [this, hG, k2]
  have hwg : WG (gaU t G (nI k) (sval (g1p x n G b t)) (sval (g1r x n G b t))) := by
    have := hw.gat (p := sval (g1p x n G b t)) (s := sval (g1r x n G b t)) k1 k3
    rw [hG] at this
    exact this
  rw [e]
  refine ⟨hwg, ?_⟩
  have e2 := h.e2
  have e3 := h.e3
  have i1 : (1 : Int32).toInt = 1 := rfl
  have i50 : (50 : Int32).toInt = 50 := rfl
  have r1 : ((if G = 0 then t 2 else t (28 + 3 * G - 2)) + 1).toInt ≤ (sval (g1p x n G b t)).toInt ∧ (sval (g1p x n G b t)).toInt ≤ (t 3 - 1).toInt := r1
  have r2b : (0 : Int32).toInt ≤ (sval (g1r x n G b t)).toInt ∧ (sval (g1r x n G b t)).toInt ≤ (50 : Int32).toInt := r2
  have hb1 := h.b1
  have hlo : (if G = 0 then t 2 else t (28 + 3 * G - 2)).toInt < (sval (g1p x n G b t)).toInt ∧ (t 2).toInt < (sval (g1p x n G b t)).toInt := by
    by_cases q : G = 0
    · rw [if_pos q] at r1 ⊢
      rw [ti_add (by rw [i1]; omega) (by rw [i1]; omega), i1] at r1
      omega
    · rw [if_neg q] at r1 ⊢
      have hg := h.gat (G - 1) (by omega)
      have eg : 28 + 3 * (G - 1) + 1 = 28 + 3 * G - 2 := by omega
      rw [eg] at hg
      rw [ti_add (by rw [i1]; omega) (by rw [i1]; omega), i1] at r1
      omega
  have hhi : (sval (g1p x n G b t)).toInt < (t 3).toInt := by
    rw [ti_sub (by rw [i1]; omega) (by rw [i1]; omega), i1] at r1
    omega
  rw [i0, i50] at r2b
  generalize sval (g1p x n G b t) = y at hlo hhi hwg ⊢
  generalize sval (g1r x n G b t) = z at r2b hwg ⊢
  have kc : (nI k).toNatClampNeg = k := cl_n (by omega)
  have ke : ∀ j, j < 28 → j ≠ 5 → gaU t G (nI k) y z j = t j := fun j q1 q2 => by
    unfold gaU
    rw [kc, up_n q2, up_n (by omega), up_n (by omega), up_n (by omega), up_n (by omega)]
  have kn : ∀ g, g < G → gaU t G (nI k) y z (28 + 3 * g + 1) = t (28 + 3 * g + 1) ∧ gaU t G (nI k) y z (28 + 3 * g + 2) = t (28 + 3 * g + 2) := fun g hg => by
    unfold gaU
    exact ⟨by rw [kc, up_n (by omega), up_n (by omega), up_n (by omega), up_n (by omega), up_n (by omega)], by rw [kc, up_n (by omega), up_n (by omega), up_n (by omega), up_n (by omega), up_n (by omega)]⟩
  have kg1 : gaU t G (nI k) y z (28 + 3 * G + 1) = y := by
    unfold gaU
    rw [kc, up_n (by omega), up_n (by omega), up_n (by omega), up_s]
  have kg2 : gaU t G (nI k) y z (28 + 3 * G + 2) = z := by
    unfold gaU
    rw [kc, up_n (by omega), up_n (by omega), up_s]
  have k5 : gaU t G (nI k) y z 5 = nI (G + 1) := by
    unfold gaU
    exact up_s
  generalize gaU t G (nI k) y z = t' at hwg ke kn kg1 kg2 k5 ⊢
  obtain ⟨G', w1, w2, w3, w4⟩ := hwg
  have hGG : G' = G + 1 := (nI_eq (by omega) (by omega)).mp (w1.symm.trans k5)
  subst hGG
  refine ⟨by rw [ke 4 (by decide) (by decide)]; exact h.v4, h.v4b, k5, by omega, by rw [ke 8 (by decide) (by decide)]; exact h.w8, h.w8a, h.w8b, by rw [ke 14 (by decide) (by decide)]; exact h.z14, h.z14b, by rw [ke 0 (by decide) (by decide)]; exact h.s0, by rw [ke 1 (by decide) (by decide), ke 2 (by decide) (by decide)]; exact h.b1, by rw [ke 2 (by decide) (by decide), ke 3 (by decide) (by decide)]; exact h.e2, by rw [ke 3 (by decide) (by decide)]; exact h.e3, by rw [ke 9 (by decide) (by decide)]; exact h.n9, by rw [ke 10 (by decide) (by decide)]; exact h.st10, by rw [ke 11 (by decide) (by decide)]; exact h.ls11, by rw [ke 12 (by decide) (by decide)]; exact h.dr12, by rw [ke 13 (by decide) (by decide)]; exact h.dt13, by rw [ke 15 (by decide) (by decide)]; exact h.co15, by rw [ke 6 (by decide) (by decide), ke 7 (by decide) (by decide)]; exact h.lw6, fun i hi => ?_, fun g hg => ?_, fun g hg => ?_, fun g hg => ?_, w4⟩
  · have hV4 := h.v4b
    rw [ke _ (by omega) (by omega), ke _ (by omega) (by omega), ke _ (by omega) (by omega)]
    exact h.vib i hi
  · rw [ke 2 (by decide) (by decide), ke 3 (by decide) (by decide)]
    by_cases q : g = G
    · subst q
      rw [kg1, kg2]
      exact ⟨hlo.2, hhi, r2b⟩
    · rw [(kn g (by omega)).1, (kn g (by omega)).2]
      exact h.gat g (by omega)
  · rw [(kn g (by omega)).1]
    by_cases q : g + 1 = G
    · subst q
      have e4 : 28 + 3 * g + 4 = 28 + 3 * (g + 1) + 1 := by omega
      rw [e4, kg1]
      have hlo1 := hlo.1
      rw [if_neg (by omega)] at hlo1
      have e5 : 28 + 3 * (g + 1) - 2 = 28 + 3 * g + 1 := by omega
      rw [e5] at hlo1
      exact hlo1
    · have e4 : 28 + 3 * g + 4 = 28 + 3 * (g + 1) + 1 := by omega
      have := h.gas g (by omega)
      rw [e4] at this ⊢
      rw [(kn (g + 1) (by omega)).1]
      exact this
  · obtain ⟨c, c1, c2, c3⟩ := w3 g hg
    exact ⟨c, by omega, c2, c3⟩

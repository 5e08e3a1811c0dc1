/-! READING a text: the class's draft; its lines -/
theorem nR_iff {I : xI} {S : Nat} {p : Nat → Int32} : nR I S p ↔ (∀ w, w < 4 → I S w = p w) ∧ ∀ w, 9 ≤ w → w ≤ 18 → I S w = p (w - 3) := by
  constructor
  · rintro ⟨h0, h1, h2, h3, h9, h10, h11, h12, h13, h14, h15, h16, h17, h18⟩
    refine ⟨fun w hw => ?_, fun w hw hw2 => ?_⟩
    · rcases (by omega : w = 0 ∨ w = 1 ∨ w = 2 ∨ w = 3) with rfl | rfl | rfl | rfl
      · exact h0
      · exact h1
      · exact h2
      · exact h3
    · rcases (by omega : w = 9 ∨ w = 10 ∨ w = 11 ∨ w = 12 ∨ w = 13 ∨ w = 14 ∨ w = 15 ∨ w = 16 ∨ w = 17 ∨ w = 18) with rfl | rfl | rfl | rfl | rfl | rfl | rfl | rfl | rfl | rfl
      · exact h9
      · exact h10
      · exact h11
      · exact h12
      · exact h13
      · exact h14
      · exact h15
      · exact h16
      · exact h17
      · exact h18
  · rintro ⟨h1, h2⟩
    exact ⟨h1 0 (by decide), h1 1 (by decide), h1 2 (by decide), h1 3 (by decide), h2 9 (by decide) (by decide), h2 10 (by decide) (by decide), h2 11 (by decide) (by decide), h2 12 (by decide) (by decide), h2 13 (by decide) (by decide), h2 14 (by decide) (by decide), h2 15 (by decide) (by decide), h2 16 (by decide) (by decide), h2 17 (by decide) (by decide), h2 18 (by decide) (by decide)⟩
/-- the draft at D as row t tells -/
def DR (I : xI) (D : Nat) (t : Nat → Int32) : Prop := ∃ V G, t 4 = nI V ∧ V ≤ 4 ∧ t 5 = nI G ∧ G ≤ 3 ∧ nR I D t ∧ vR I (D + 1) t V ∧ gR I D t G
theorem DR.fr {I I' : xI} {D : Nat} {t : Nat → Int32} (h : DR I D t) (hf : ∀ b, D ≤ b → b < D + 8 → I' b = I b) : DR I' D t := by
  obtain ⟨V, G, h1, h2, h3, h4, h5, h6, h7⟩ := h
  refine ⟨V, G, h1, h2, h3, h4, ?_, ?_, ?_⟩
  · unfold nR at h5 ⊢
    rw [hf D (by omega) (by omega)]
    exact h5
  · unfold vR at h6 ⊢
    rw [hf (D + 1) (by omega) (by omega), hf (D + 1 + 1) (by omega) (by omega), hf (D + 1 + 2) (by omega) (by omega), hf (D + 1 + 3) (by omega) (by omega)]
    exact h6
  · unfold gR at h7 ⊢
    rw [hf D (by omega) (by omega), hf (D + 5) (by omega) (by omega), hf (D + 6) (by omega) (by omega), hf (D + 7) (by omega) (by omega)]
    exact h7
/-- a number of its own -/
theorem DR.put {I : xI} {D w j : Nat} {t : Nat → Int32} {y : Int32} (h : DR I D t) (hw : (w < 4 ∧ j = w) ∨ (9 ≤ w ∧ w ≤ 18 ∧ j = w - 3)) : DR (st I D w y) D (upd t j y) := by
  obtain ⟨V, G, h1, h2, h3, h4, h5, h6, h7⟩ := h
  refine ⟨V, G, by rw [up_n (by omega)]; exact h1, h2, by rw [up_n (by omega)]; exact h3, h4, ?_, ?_, ?_⟩
  · rw [nR_iff] at h5 ⊢
    obtain ⟨a1, a2⟩ := h5
    refine ⟨fun w' hw' => ?_, fun w' hw1 hw2 => ?_⟩
    · by_cases e : w' = w
      · subst e
        rw [st_e, show j = w' by omega, up_s]
      · rw [st_i e, up_n (by omega)]
        exact a1 w' hw'
    · by_cases e : w' = w
      · subst e
        rw [st_e, show j = w' - 3 by omega, up_s]
      · rw [st_i e, up_n (by omega)]
        exact a2 w' hw1 hw2
  · unfold vR at h6 ⊢
    rw [st_o (by omega), st_o (by omega), st_o (by omega), st_o (by omega)]
    refine ⟨h6.1, fun k hk => ?_⟩
    rw [up_n (by omega), up_n (by omega), up_n (by omega)]
    exact h6.2 k hk
  · unfold gR at h7 ⊢
    rw [st_i (by omega), st_o (by omega), st_o (by omega), st_o (by omega)]
    refine ⟨h7.1, fun k hk => ?_⟩
    rw [up_n (by omega), up_n (by omega), up_n (by omega)]
    exact h7.2 k hk
/-- the class in the midst of a text: M0 before it, D its draft -/
def CS (M0 : xm_M) (x : Nat → Int32) (n : Nat) (g0 : Nat → Int32) (D : Nat) (t : Nat → Int32) (s : xS) (M1 : xm_M) : Prop := (M1.1 = M0.1 ∧ M1.2.2 = M0.2.2 ∧ ∀ b, b ≠ 18 → ¬ (D ≤ b ∧ b < D + 8) → M1.2.1 b = M0.2.1 b) ∧ SC x n g0 s M1 ∧ ∃ t2, DR M1.2.1 D t2 ∧ (isOk s = true → t2 = t)
theorem isS.b {D : Nat} (h : isS D) : 2 ≤ D ∧ D + 8 ≤ 18 := by
  rcases h with rfl | rfl <;> decide
theorem CS.tx {M0 M1 : xm_M} {x g0 t : Nat → Int32} {n D : Nat} {s : xS} (hT : txC M0 x n g0 D) (hD : sM M0 D) (h : CS M0 x n g0 D t s M1) : txC M1 x n g0 D := by
  obtain ⟨⟨h1, h2, h3⟩, -⟩ := h
  have hb := hD.1.b
  exact ⟨h1.trans hT.1, by rw [h2]; exact hT.2.1, by rw [h2]; exact hT.2.2.1, fun k hk => by rw [h3 1 (by decide) (by omega)]; exact hT.2.2.2.1 k hk, hT.2.2.2.2⟩
theorem CS.sm {M0 M1 : xm_M} {x g0 t : Nat → Int32} {n D : Nat} {s : xS} (hD : sM M0 D) (h : CS M0 x n g0 D t s M1) : sM M1 D := by
  obtain ⟨⟨h1, h2, h3⟩, -⟩ := h
  exact ⟨hD.1, by rw [h1]; exact hD.2.1, by rw [h2]; exact hD.2.2⟩
theorem CS.sc {M0 M1 : xm_M} {x g0 t f' : Nat → Int32} {n D : Nat} {s s' : xS} (hD : sM M0 D) (h : CS M0 x n g0 D t s M1) (hs : SC x n g0 s' (rw1 M1 18 f')) (hi : isOk s' = true → isOk s = true) : CS M0 x n g0 D t s' (rw1 M1 18 f') := by
  obtain ⟨⟨h1, h2, h3⟩, -, t2, h4, h5⟩ := h
  have hb := hD.1.b
  refine ⟨⟨h1, h2, fun b hb1 hb2 => by rw [rw1_n _ _ hb1]; exact h3 b hb1 hb2⟩, hs, t2, h4.fr (fun b q1 q2 => rw1_n _ _ (by omega)), fun q => h5 (hi q)⟩
theorem CS.put {M0 M1 : xm_M} {x g0 t : Nat → Int32} {n D w j : Nat} {s : xS} {y z : Int32} (hD : sM M0 D) (h : CS M0 x n g0 D t s M1) (hw : (w < 4 ∧ j = w) ∨ (9 ≤ w ∧ w ≤ 18 ∧ j = w - 3)) (hy : isOk s = true → y = z) : CS M0 x n g0 D (upd t j z) s (xm_setI M1 D w y) := by
  obtain ⟨⟨h1, h2, h3⟩, hs, t2, h4, h5⟩ := h
  have hb := hD.1.b
  refine ⟨⟨h1, h2, fun b hb1 hb2 => ?_⟩, ?_, _, h4.put hw, fun q => by rw [h5 q, hy q]⟩
  · show st M1.2.1 D w y b = _
    rw [st_o (by omega)]
    exact h3 b hb1 hb2
  · have e : (xm_setI M1 D w y).2.1 18 = M1.2.1 18 := by
      show st M1.2.1 D w y 18 = _
      rw [st_o (by omega)]
    unfold SC at hs ⊢
    rw [e]
    exact hs
section CSR
variable {E : xm_E} {l : Launch} {M0 M1 : xm_M} {x g0 t : Nat → Int32} {n D : Nat} {s : xS}
theorem cs_advance (hT : txC M0 x n g0 D) (hD : sM M0 D) (hs : CS M0 x n g0 D t s M1) : xm_Met E l mt_X2_advance 1 0 0 [.ref 18] M1 (fun v M2 => v = none ∧ CS M0 x n g0 D t (sadv x n s) M2) :=
  xm_imp (sc_advance (hs.tx hT hD) hs.2.1) (fun v M2 hp => by
    obtain ⟨rfl, f', rfl, h⟩ := hp
    exact ⟨rfl, hs.sc hD h (fun q => by rw [ok_adv] at q; exact q)⟩)
theorem cs_fail (hT : txC M0 x n g0 D) (hD : sM M0 D) {c : Int32} (hc : c ≠ 0) (hs : CS M0 x n g0 D t s M1) : xm_Met E l mt_X2_fail 0 0 0 [.ref 18, .int c] M1 (fun v M2 => v = none ∧ CS M0 x n g0 D t (sfail c s) M2) :=
  xm_imp (sc_fail (hs.tx hT hD) hc hs.2.1) (fun v M2 hp => by
    obtain ⟨rfl, f', rfl, h⟩ := hp
    exact ⟨rfl, hs.sc hD h (fun q => by rw [ok_fail] at q; exact Bool.noConfusion q)⟩)
theorem cs_isAt (hT : txC M0 x n g0 D) (hD : sM M0 D) (hst : ∀ U, E.2.2.2.1 U → xst E U) {i : Nat} (hi : i < 16) {bb : Bool} (hw : swd x n i s = bb) (hs : CS M0 x n g0 D t s M1) : xm_Met E l mt_X2_isAt 4 0 0 [.ref 18, .ref (1001 + i)] M1 (fun v M2 => v = some (.int (if bb = true then 1 else 0)) ∧ M2 = M1) := sc_isAt (hs.tx hT hD) hst hi hw hs.2.1
theorem cs_readNumber (hT : txC M0 x n g0 D) (hD : sM M0 D) {u w : Int32} (hs : CS M0 x n g0 D t s M1) : xm_Met E l mt_X2_readNumber 2 0 0 [.ref 18, .int u, .int w] M1 (fun v M2 => ∃ y, v = some (.int y) ∧ CS M0 x n g0 D t (spos (sfig x n u w s)) M2 ∧ (isOk (spos (sfig x n u w s)) = true → y = sval (sfig x n u w s))) :=
  xm_imp (sc_readNumber (hs.tx hT hD) hs.2.1) (fun v M2 hp => by
    obtain ⟨y, rfl, ⟨f', rfl, h⟩, hy⟩ := hp
    exact ⟨y, rfl, hs.sc hD h (fun q => (ok_fig q).1), hy⟩)
theorem cs_readPeriod (hT : txC M0 x n g0 D) (hD : sM M0 D) (hs : CS M0 x n g0 D t s M1) : xm_Met E l mt_X2_readPeriod 3 0 0 [.ref 18] M1 (fun v M2 => ∃ y, v = some (.int y) ∧ CS M0 x n g0 D t (spos (sfig x n 2 40 (sevn x n s))) M2 ∧ (isOk (spos (sfig x n 2 40 (sevn x n s))) = true → y = sval (sfig x n 2 40 (sevn x n s)))) :=
  xm_imp (sc_readPeriod (hs.tx hT hD) hs.2.1) (fun v M2 hp => by
    obtain ⟨y, rfl, ⟨f', rfl, h⟩, hy⟩ := hp
    exact ⟨y, rfl, hs.sc hD h (fun q => ok_evn (ok_fig q).1), hy⟩)
theorem cs_readSemicolon (hT : txC M0 x n g0 D) (hD : sM M0 D) (hs : CS M0 x n g0 D t s M1) : xm_Met E l mt_X2_readSemicolon 2 0 0 [.ref 18] M1 (fun v M2 => v = none ∧ CS M0 x n g0 D t (send x n s) M2) :=
  xm_imp (sc_readSemicolon (hs.tx hT hD) hs.2.1) (fun v M2 hp => by
    obtain ⟨rfl, f', rfl, h⟩ := hp
    exact ⟨rfl, hs.sc hD h (fun q => ok_end q)⟩)
theorem cs_readWord (hT : txC M0 x n g0 D) (hD : sM M0 D) (hst : ∀ U, E.2.2.2.1 U → xst E U) {i : Nat} (hi : i < 16) (hs : CS M0 x n g0 D t s M1) : xm_Met E l mt_X2_readWord 5 0 0 [.ref 18, .ref (1001 + i)] M1 (fun v M2 => v = none ∧ CS M0 x n g0 D t (if swd x n i s = true then sadv x n s else sfail 1 s) M2) :=
  xm_imp (sc_readWord (hs.tx hT hD) hst hi hs.2.1) (fun v M2 hp => by
    obtain ⟨rfl, f', rfl, h⟩ := hp
    refine ⟨rfl, hs.sc hD h (fun q => ?_)⟩
    split at q
    · rw [ok_adv] at q
      exact q
    · rw [ok_fail] at q
      exact Bool.noConfusion q)
end CSR

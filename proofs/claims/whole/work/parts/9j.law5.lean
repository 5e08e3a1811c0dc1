/-! THE LAW's own body: rules -/
theorem lg_self (x : Int64) : lg_cmp x x = 0 := by
  unfold lg_cmp
  rw [if_neg (fun h => absurd (Int64.lt_iff_toInt_lt.mp h) (Int.lt_irrefl _)), if_pos rfl]
theorem nI_p2 (a : Nat) : nI a + 2 = nI (a + 2) := nI_add a 2
theorem nI_p3 (a : Nat) : nI a + 3 = nI (a + 3) := nI_add a 3
theorem nI_p4 (a : Nat) : nI a + 4 = nI (a + 4) := nI_add a 4
theorem nI_p5 (a : Nat) : nI a + 5 = nI (a + 5) := nI_add a 5
theorem nI_p6 (a : Nat) : nI a + 6 = nI (a + 6) := nI_add a 6
/-- the law's locals: script, class, reference, rows; where the script is read; three more -/
abbrev LB (i : Nat) (u v w : Value) : List Value := [.ref 1000, .ref 0, .ref 278, .ref 285, .ref 286, .int (nI i), u, v, w]
theorem LB_forget {i : Nat} {u v w : Value} : ∀ (j : Nat) (x : Value), (LB i (.retAddr 0) (.retAddr 0) (.retAddr 0))[j]? = some x → xm_j x = false → (LB i u v w)[j]? = some x := by
  intro j x h1 h2
  have h3 := (List.getElem?_eq_some_iff.mp h1).1
  have e : (LB i (.retAddr 0) (.retAddr 0) (.retAddr 0)).length = 9 := rfl
  rw [e] at h3
  rcases (by omega : j = 0 ∨ j = 1 ∨ j = 2 ∨ j = 3 ∨ j = 4 ∨ j = 5 ∨ j = 6 ∨ j = 7 ∨ j = 8) with rfl | rfl | rfl | rfl | rfl | rfl | rfl | rfl | rfl
  · exact h1
  · exact h1
  · exact h1
  · exact h1
  · exact h1
  · exact h1
  · cases h1
    cases h2
  · cases h1
    cases h2
  · cases h1
    cases h2
theorem xm_L.fewer {ad : Nat → Nat} {ls : Array Slot} {nL : Nat} {L L' : List Value} (hl : xm_L ad ls nL L) (h : ∀ (j : Nat) (v : Value), L'[j]? = some v → xm_j v = false → L[j]? = some v) : xm_L ad ls nL L' := ⟨hl.1, hl.2.1, fun q hq => by
  obtain ⟨i, w⟩ := q
  obtain ⟨j, u, e1, e2, e3, e4⟩ := (xm_e_mem L' 0 i w).mp hq
  exact hl.2.2 (i, w) ((xm_e_mem L 0 i w).mpr ⟨j, u, e1, h j u e2 e3, e3, e4⟩)⟩
theorem xm_s_ln (v : Value) : ∀ (L : List Value) (i : Nat), (xm_s L i v).length = L.length
  | [], _ => rfl
  | _ :: _, 0 => rfl
  | _ :: L, i + 1 => by
    have ih := xm_s_ln v L i
    simp only [xm_s, List.length_cons, ih]
theorem xm_L.set2 {ad : Nat → Nat} {ls' : Array Slot} {nL : Nat} {L : List Value} {i : Nat} {v : Value} (h1 : xm_1 L i = true)
    (h : lv_has ls' nL ((i, xm_gv ad v) :: (xm_e ad 0 L).filter (fun q => !(q.1 == i) && (!(q.1 == i + 1) && !(q.1 + 1 == i && q.2.category == 2))))) : xm_L ad ls' nL (xm_s (xm_s L (i + 1) (.retAddr 0)) i v) := by
  refine ⟨h.1, h.2.1, fun q hq => ?_⟩
  obtain ⟨i0, w⟩ := q
  obtain ⟨j, u, e1, e2, e3, e4⟩ := (xm_e_mem _ 0 i0 w).mp hq
  rw [xm_s_get] at e2
  have ej : i0 = j := by omega
  subst ej
  by_cases hc : i0 = i ∧ i < (xm_s L (i + 1) (.retAddr 0)).length
  · rw [if_pos hc] at e2
    cases e2
    rw [hc.1, e4]
    exact h.2.2 (i, xm_gv ad v) List.mem_cons_self
  · rw [if_neg hc, xm_s_get] at e2
    by_cases h8 : i0 = i + 1 ∧ i + 1 < L.length
    · rw [if_pos h8] at e2
      cases e2
      cases e3
    · rw [if_neg h8] at e2
      have hlt : i0 < L.length := (List.getElem?_eq_some_iff.mp e2).1
      have hne : i0 ≠ i := fun q => hc ⟨q, by rw [xm_s_ln]; omega⟩
      have hne8 : i0 ≠ i + 1 := fun q => h8 ⟨q, by omega⟩
      refine h.2.2 (i0, w) (List.mem_cons_of_mem _ (List.mem_filter.mpr ⟨(xm_e_mem L 0 i0 w).mpr ⟨i0, u, by omega, e2, e3, e4⟩, ?_⟩))
      have hb : (i0 + 1 == i && w.category == 2) = false := by
        cases hi : (i0 + 1 == i) with
        | false => rfl
        | true =>
          have hi' : i = i0 + 1 := by have := beq_iff_eq.mp hi; omega
          subst hi'
          have hg : xm_g L i0 = u := by
            clear h1 h hq e1 e4 hc hne hne8 h8
            induction L generalizing i0 with
            | nil => simp at e2
            | cons a L ih => cases i0 with
              | zero => simp at e2; simp [xm_g, e2]
              | succ i0 => simp at e2 hlt; exact ih (i0 := i0) e2 hlt (by simp)
          have h2 : u.category = 1 := by
            have := h1
            simp only [xm_1, hg] at this
            exact beq_iff_eq.mp this
          rw [e4, xm_gv_cat, h2]
          rfl
      rw [hb]
      simp [hne, hne8]
section XML
variable {E : xm_E} {Z : xm_Z} {own nL rt D mc ms ce sl pc : Nat} {ini : Bool} {cc : ByteArray} {Q : State → Prop} {L S : List Value} {M : xm_M} {r1 : Option Value → xm_M → Prop}
theorem xm_forget {L' : List Value} (h : ∀ (j : Nat) (v : Value), L'[j]? = some v → xm_j v = false → L[j]? = some v) (k : xm_GQ E Z nL Q ce sl pc L' S M) : xm_GQ E Z nL Q ce sl pc L S M := fun H locs ls hW hF hl => k H locs ls hW hF (hl.fewer h)
theorem xm_tabQ (hY : xm_Y E own nL cc rt ini D mc ms Z) {x : Int32} {dflt lo hi off : Int} {offs : Array Int} {len t : Nat} (hd : decode cc pc = .ok (.tableswitch dflt lo hi offs, len)) (h1 : ¬ x.toInt < lo) (h2 : ¬ hi < x.toInt) (ho : offs[(x.toInt - lo).toNat]? = some off) (hto : (pc : Int) + off = (t : Int))
    (k : xm_GQ E Z nL Q ce sl t L S M) : xm_GQ E Z nL Q ce sl pc L (.int x :: S) M := by
  intro H locs ls hW hF hl0
  obtain ⟨hx, hbc, -⟩ := hY.1
  exact lv_tableIn hx hbc hd h1 h2 ho hto (k H locs ls hW hF hl0)
theorem xm_dst (hY : xm_Y E own nL cc rt ini D mc ms Z) {i : Nat} {x : UInt64} (hd : decode cc pc = .ok (.dstore i, 2)) (h1 : xm_1 L i = true) (hn : i + 1 < nL) (k : xm_GQ E Z nL Q ce sl (pc + 2) (xm_s (xm_s L (i + 1) (.retAddr 0)) i (.double x)) S M) : xm_GQ E Z nL Q ce sl pc L (.double x :: S) M := by
  intro H locs ls hW hF hl0
  obtain ⟨hx, hbc, -⟩ := hY.1
  exact lv_dstore hx hbc hd hl0 hn rfl (fun ls' hl' => k H locs ls' hW hF (xm_L.set2 (v := .double x) h1 hl'))
theorem xm_dld (hY : xm_Y E own nL cc rt ini D mc ms Z) {i : Nat} {x : UInt64} (hd : decode cc pc = .ok (.dload i, 2)) (h1 : xm_g L i = .double x) (k : xm_GQ E Z nL Q ce sl (pc + 2) L (.double x :: S) M) : xm_GQ E Z nL Q ce sl pc L S M := by
  intro H locs ls hW hF hl0
  obtain ⟨hx, hbc, -⟩ := hY.1
  exact lv_dload hx hbc hd (xm_L.at hl0 h1 rfl) (k H locs ls hW hF hl0)
theorem xm_dcm (hY : xm_Y E own nL cc rt ini D mc ms Z) {x y : UInt64} {op : CmpOp} (hd : decode cc pc = .ok (.dcmp op, 1)) (k : xm_GQ E Z nL Q ce sl (pc + 1) L (.int (Op.cmpValue (FP.dcmp x y) op) :: S) M) : xm_GQ E Z nL Q ce sl pc L (.double y :: .double x :: S) M := by
  intro H locs ls hW hF hl0
  obtain ⟨hx, hbc, -⟩ := hY.1
  exact lv_dcmp hx hbc hd (k H locs ls hW hF hl0)
/-- a call of a helper of the law -/
theorem xm_callH (hY : xm_Y E 8 nL cc rt ini D mc ms Z) {mt : xm_hT} {n d mc1 ms1 cp : Nat} {As : List Value} (hd : decode cc pc = .ok (.invokestatic cp, 3)) (hl : Cond.methodLink (xm_C 8) cp mt.1 ∈ lw_tb) (hm : xm_ho mt n) (hs : xm_MetH E Z.2.1 mt d mc1 ms1 As M r1) (hn : As.length = n) (hD : d + 1 ≤ D) (hf : ce + mc1 ≤ mc ∧ sl + ms1 ≤ ms) (hS : (S.map fun v => v.category).sum ≤ 8)
    (k : ∀ v M1, r1 v M1 → xm_GQ E Z nL Q (ce + mc1) (sl + ms1) (pc + 3) L (v.toList ++ S) M1) : xm_GQ E Z nL Q ce sl pc L (As.reverse ++ S) M := by
  intro H locs ls hW hF hl0
  obtain ⟨X, -, -, hR1, hR2, hR3, hR4⟩ := hY
  obtain ⟨hx, hbc, hml, hown, hts, hK, hlocks, hO, hxt, hsz⟩ := id X
  have hG : GoodIn lw_tb (va_wsS (xm_C 8) cp mt.1 (xm_hws mt)) := xm_good (fun w hw => by
    simp only [va_wsS, xm_hws, List.cons_append, List.nil_append, List.mem_cons] at hw
    rcases hw with rfl | rfl | rfl | rfl | hw
    · exact hl
    · exact hm.2.2.2.2.2.2
    · exact hm.2.2.2.2.2.1
    · exact hm.2.2.2.2.1
    · exact hw)
  have hnl := hm.2.2.1
  have hrun := vx_runSX (hh := mt.2.2.2) (As := As.map (xm_gv E.2.1)) (rest := S.map (xm_gv E.2.1)) (g := F0 Z.2.2.2.2.2.1 pc ls ((As.reverse ++ S).map (xm_gv E.2.1))) (cells := ce) (slots := sl) (H := H) (locs := locs) (l := Z.2.1) (e := Z.2.2.1) (R := Z.2.2.2.1) (below := Z.2.2.2.2.2.2.2.1) (meth := Z.2.2.2.2.2.2.2.2.1) ⟨hx, hbc, hml, hown, hts⟩ hs
    (vx_cwSW n hts hG rfl rfl rfl hm.2.2.2.1 ⟨by show d + 1 ≤ _; omega, by show 8 + (mt.2.2.1 + 11) + 30 * d ≤ _; omega⟩)
    ⟨xm_blind, fun U hU hv => xm_pre X hW hF U hU hv⟩ rfl (by rw [List.length_map]; exact hn) hl0.1 (by simp [List.map_reverse]) (lv_room (by rw [xm_cats]; exact hS)) hd ⟨by omega, by omega⟩
  intro T hT9 X9
  rcases hrun T hT9 X9 with ⟨v, st₀, t, T', Ls, h1, X', hL, e1, e2, ⟨⟨v1, M1, hv, hp, hw⟩, hz, hk⟩, st⟩ | ⟨q, st₀, t, T', Ls, E1, ce1, h1, X', hL, e1, e2, hf, -⟩
  · cases hv
    rw [h1] at hz hk
    have h9 := k v1 M1 hp T'.heap (locs ++ Ls) ls (by rw [e1]; exact hw) ⟨Nat.le_trans hF.1 (by rw [e1]; exact hz), fun q hq => by rw [e1, hk q hq]; exact hF.2.1 q hq, fun q hq => by
      rcases List.mem_append.mp hq with h | h
      · exact hF.2.2 q h
      · exact hL q h⟩ hl0
    rw [List.map_append] at h9
    have h9' : W Z.1 Z.2.1 Z.2.2.1 Z.2.2.2.1 Z.2.2.2.2.1 Z.2.2.2.2.2.1 Z.2.2.2.2.2.2.1 Z.2.2.2.2.2.2.2.1 Z.2.2.2.2.2.2.2.2.1 Z.2.2.2.2.2.2.2.2.2 T'.heap (locs ++ Ls) (ce + mc1) (sl + ms1) Q (F0 Z.2.2.2.2.2.1 (pc + 3) ls ((v1.map (xm_gv E.2.1)).toList ++ S.map (xm_gv E.2.1))) := by
      cases v1 <;> exact h9
    obtain ⟨t2, a1, b1⟩ := h9' T' rfl X'
    exact ⟨t2, st t2 a1, b1⟩
  · exact hf.elim
end XML
theorem KRE.b {M : xm_M} (h : KRE M) : 0 < M.1 ∧ 278 < M.1 ∧ 285 < M.1 ∧ 286 < M.1 ∧ M.1 = ly_m := by
  obtain ⟨S, U, V, G, W, Q, N, F, T, n, d, e, h⟩ := h
  have e287 : ly_m = 287 := rfl
  have h1 : M.1 = ly_m := h.1.1.1
  exact ⟨by omega, by omega, by omega, by omega, h1⟩
theorem KRE.code {M : xm_M} (h : KRE M) : M.2.1 0 2 = M.2.1 278 12 := by
  obtain ⟨S, U, V, G, W, Q, N, F, T, n, d, e, h⟩ := h
  exact h.2.2.2.2.1
theorem KRE.at {M : xm_M} (h : KRE M) : M.2.1 0 3 = M.2.1 278 13 := by
  obtain ⟨S, U, V, G, W, Q, N, F, T, n, d, e, h⟩ := h
  exact h.2.2.2.2.2
theorem KRE.cM {M : xm_M} (h : KRE M) : ∃ S U, _root_.Jvm.Pilot.CCheckWeigherLaw_law_r5039_46c173.cM M 19 147 S U := by
  obtain ⟨S, U, V, G, W, Q, N, F, T, n, d, e, h⟩ := h
  exact ⟨S, U, h.1.1⟩
theorem KRE.mR {M : xm_M} (h : KRE M) : _root_.Jvm.Pilot.CCheckWeigherLaw_law_r5039_46c173.mR M := by
  obtain ⟨S, U, V, G, W, Q, N, F, T, n, d, e, h⟩ := h
  exact h.1.2.2.2

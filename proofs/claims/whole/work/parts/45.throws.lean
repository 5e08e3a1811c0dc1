/-! THROWS: what is known below; goals that end with a throw; calls on the way; 'throw new E()' -/
def xq_st : List String := ["java/lang/IllegalStateException", "java/lang/IndexOutOfBoundsException", "java/lang/IllegalArgumentException", "java/util/NoSuchElementException"]
abbrev xq_nm : List String := ["java/lang/RuntimeException", "java/lang/Exception"]
def xq_bad (C : String) : List Cond := [.castable C C, .declares ⟨C, "<init>", "()V"⟩, .declares ⟨"java/lang/RuntimeException", "<init>", "()V"⟩, .declares ⟨"java/lang/Exception", "<init>", "()V"⟩, .declares ⟨"java/lang/Throwable", "<init>", "()V"⟩]
/-- what throwing needs of the cells and the tables below b -/
def xq (b : Nat) (U : State) : Prop := (∀ C ∈ xq_st, ∀ w ∈ xq_bad C, va_Nw w U) ∧ vx_Zq Bundle.tN "UNASSIGNED_STACK" Bundle.steD (fun q => b ≤ q) U U.heap ∧ vx_Zq Bundle.tN "SUPPRESSED_SENTINEL" Bundle.listD (fun q => b ≤ q) U U.heap
theorem xq.keep {b : Nat} {u U : State} (hW : u.WarmedH U.vm) (hq : ∀ q, q < b → U.heap[q]? = u.heap[q]?) (h : xq b u) : xq b U := by
  obtain ⟨h1, h2, h3⟩ := h
  refine ⟨fun C hC w hw => ?_, vx_Zq.moved hW.alike (h2.kept (fun q _ hb => hq q (by omega))), vx_Zq.moved hW.alike (h3.kept (fun q _ hb => hq q (by omega)))⟩
  have h9 := h1 C hC w hw
  simp only [xq_bad, List.mem_cons, List.not_mem_nil, or_false] at hw
  rcases hw with rfl | rfl | rfl | rfl | rfl
  · exact va_Nw.warmC hW h9
  · exact va_Nw.warmD hW h9
  · exact va_Nw.warmD hW h9
  · exact va_Nw.warmD hW h9
  · exact va_Nw.warmD hW h9
/-- where a method has thrown: the class' name, the memory -/
def xm_XC (E : xm_E) (C : String) (M1 : xm_M) : String → State → State → Prop := fun D st t => D = C ∧ xm_W E M1 t.heap ∧ st.heap.size ≤ t.heap.size ∧ ∀ q, q < E.2.2.1 → t.heap[q]? = st.heap[q]?
def xm_MetX (E : xm_E) (l : Launch) (mt : xm_T4) (d mc ms : Nat) (As : List Value) (M : xm_M) (C : String) (M1 : xm_M) : Prop :=
  vx_Met l mt.1 (xm_ws mt) (xm_rm d mc ms) (xm_P E As M) (fun _ _ _ _ => False) (xm_XC E C M1) mc ms (xm_fr E)
/-- the goal of a walk with any end -/
def xm_GQ (E : xm_E) (Z : xm_Z) (nL : Nat) (Q : State → Prop) (ce sl pc : Nat) (L S : List Value) (M : xm_M) : Prop :=
  xm_Rn E Z.1 Z.2.1 Z.2.2.1 Z.2.2.2.1 Z.2.2.2.2.1 Z.2.2.2.2.2.1 Z.2.2.2.2.2.2.1 Z.2.2.2.2.2.2.2.1 Z.2.2.2.2.2.2.2.2.1 Z.2.2.2.2.2.2.2.2.2 nL ce sl Q pc L S M
def xm_QX (E : xm_E) (Z : xm_Z) (C : String) (M1 : xm_M) (mc ms : Nat) : State → Prop := vx_MQ Z.2.2.2.2.2.2.2.1 (fun _ _ _ _ => False) (xm_XC E C M1) Z.2.2.2.2.2.2.1 Z.2.2.2.2.1 mc ms (xm_fr E)
/-- the head of a method that throws -/
theorem xm_metX {E : xm_E} {l : Launch} {mt : xm_T4} {own n rt d mc ms : Nat} {ini st : Bool} {As : List Value} {M : xm_M} {C : String} {M1 : xm_M} (hm : xm_mo mt own n rt ini st) (hA : ∀ v ∈ As, v.category = 1 ∧ xm_j v = false) (hn : As.length ≤ mt.2.2.1)
    (body : ∀ Z : xm_Z, Z.2.1 = l → xm_Y E own mt.2.2.1 mt.2.1 rt ini d mc ms Z → (∀ x ∈ Z.2.2.2.2.2.2.2.2.2.exceptionTable.toList, False) → xm_GQ E Z mt.2.2.1 (xm_QX E Z C M1 mc ms) 0 0 0 (As ++ List.replicate (mt.2.2.1 - As.length) (.retAddr 0)) [] M) : xm_MetX E l mt d mc ms As M C M1 := by
  refine vx_ofW (cc := mt.2.1) (maxL := mt.2.2.1) (ret := mt.2.2.2) hm.1 rfl ?_
  intro p e s m args below meth c s₁ B hml hex hv
  obtain ⟨rfl, hW, hK, hO, hxt, hsz⟩ := hv
  have hts := atoms_spec (ws := xm_ws mt) B.pre
  have hl := lv_entry (As.map (xm_gv E.2.1)) (n := mt.2.2.1) (by rw [xm_sl_len As hA]; exact hn)
  rw [lg_entry_eq]
  generalize (lg_sl (As.map (xm_gv E.2.1)) ++ List.replicate (mt.2.2.1 - (lg_sl (As.map (xm_gv E.2.1))).length) Slot.unset).toArray = ls at hl ⊢
  refine body (p, l, e, xm_rm d mc ms, s, m, _, below, meth, c) rfl ⟨⟨B.exec, B.bytes, hml, ?_, fun w hw => hts w (List.mem_cons_of_mem _ hw), hK, B.notSynchronized, hO, hxt, hsz⟩, ?_, ?_, Nat.le_refl _, Nat.le_refl _, Nat.le_refl _, Nat.le_refl _⟩ hex s.heap [] ls hW ⟨Nat.le_refl _, fun _ _ => rfl, fun z hz => by cases hz⟩ ?_
  · rw [← hm.2.1]; exact findClass_of_methodNamed B.named
  · intro hi
    rw [(name_of_methodNamed B.named B.method).1]; exact hm.2.2.1 hi
  · show xm_rt rt meth.sig.returnType
    rw [B.returns]; exact hm.2.2.2.1
  · show lv_has ls mt.2.2.1 (xm_e E.2.1 0 _)
    rw [xm_e_args _ As 0 hA]
    exact hl
section XMQ
variable {E : xm_E} {Z : xm_Z} {own nL rt D mc ms ce sl pc : Nat} {ini : Bool} {cc : ByteArray} {Q : State → Prop} {L S : List Value} {M M2 : xm_M} {bs : List (Nat × Nat × List xm_I)}
theorem xm_rQ_ok (hY : xm_Y E own nL cc rt ini D mc ms Z) (hk : xm_oks cc own nL rt ini bs) (st : List Nat) : ∀ (n pc : Nat) (L S : List Value) (M : xm_M), xm_r E.2.2.2.2 bs st (xm_GQ E Z nL Q ce sl) (fun _ _ => False) n pc L S M → xm_GQ E Z nL Q ce sl pc L S M
  | 0, _, _, _, _, h => h
  | n + 1, pc, L, S, M, h => by
    unfold xm_r at h
    split at h
    · exact h
    · split at h
      · rename_i en as hl
        exact xm_b_ok hY.1 hY.2.1 hY.2.2.1 (fun H locs g hw T hT X => by
          obtain ⟨t, a1, o, b1, b2, ⟨⟨v, M1, -, h1, -⟩, -⟩, -⟩ := hw T hT X
          exact h1.elim) (fun t L S M h => xm_rQ_ok hY hk st n t L S M h) as pc L S M (hk _ (xm_lk_mem hl)) h
      · exact h
theorem xm_runQ (hY : xm_Y E own nL cc rt ini D mc ms Z) (hk : xm_oks cc own nL rt ini bs) (st : List Nat) (n : Nat) (h : ∀ J : Nat → Nat → List Value → List Value → xm_M → Prop, (∀ pc L S M, J 0 pc L S M = xm_GQ E Z nL Q ce sl pc L S M) → (∀ n pc L S M, J (n + 1) pc L S M = xm_st E.2.2.2.2 bs st (xm_GQ E Z nL Q ce sl) (fun _ _ => False) (J n) pc L S M) → xm_r0 E.2.2.2.2 bs (fun _ _ => False) (J n) pc L S M) : xm_GQ E Z nL Q ce sl pc L S M := by
  have h := h (xm_r E.2.2.2.2 bs st (xm_GQ E Z nL Q ce sl) (fun _ _ => False)) (fun _ _ _ _ => rfl) (fun _ _ _ _ _ => rfl)
  unfold xm_r0 at h
  split at h
  · rename_i en as hl
    exact xm_b_ok hY.1 hY.2.1 hY.2.2.1 (fun H locs g hw T hT X => by
      obtain ⟨t, a1, o, b1, b2, ⟨⟨v, M1, -, h1, -⟩, -⟩, -⟩ := hw T hT X
      exact h1.elim) (fun t L S M h => xm_rQ_ok hY hk st n t L S M h) as pc L S M (hk _ (xm_lk_mem hl)) h
  · exact h.elim
variable {r1 : Option Value → xm_M → Prop}
/-- a call of an object of ours, with any end -/
theorem xm_callVQ (hY : xm_Y E own nL cc rt ini D mc ms Z) {mt : xm_T4} {ci n rt1 d mc1 ms1 cp b : Nat} {As : List Value} (hd : decode cc pc = .ok (.invokevirtual cp, 3)) (hl : Cond.methodLink (xm_C own) cp mt.1 ∈ lw_tb) (hm : xm_mo mt ci n rt1 false false) (h8 : ci < 8) (hs : xm_Met E Z.2.1 mt d mc1 ms1 (.ref b :: As) M r1) (hb : b < M.1) (hk : ly_k b = ci) (hn : As.length = n) (hD : d + 1 ≤ D) (hf : ce + mc1 ≤ mc ∧ sl + ms1 ≤ ms) (hS : (S.map fun v => v.category).sum ≤ 8)
    (k : ∀ v M1, r1 v M1 → xm_GQ E Z nL Q (ce + mc1) (sl + ms1) (pc + 3) L (v.toList ++ S) M1) : xm_GQ E Z nL Q ce sl pc L (As.reverse ++ .ref b :: S) M := by
  intro H locs ls hW hF hl0
  obtain ⟨X, -, -, hR1, hR2, hR3, hR4⟩ := hY
  obtain ⟨cell, hc, hat⟩ := hW.2.2.2 b hb
  obtain ⟨hx, hbc, hml, hown, hts, hK, hlocks, hO, hxt, hsz⟩ := id X
  have hcl : Z.2.2.2.2.1.vm.findClass mt.1.cls = some cell.cls := by
    rw [hm.2.1, hat.2.1, hk]
    exact (hK.1.1 ci _ (xm_cl h8)).2.1
  have hG : GoodIn lw_tb (wsV (xm_C own) cp mt.1.cls mt.1 (xm_ws mt)) := xm_good (fun w hw => by
    simp only [wsV, xm_ws, List.cons_append, List.nil_append, List.mem_cons] at hw
    rcases hw with rfl | rfl | rfl | rfl | rfl | hw
    · exact hl
    · exact hm.2.2.2.2.2.2.2.2.2.1 rfl
    · exact hm.2.2.2.2.2.2.2.2.2.2 ⟨rfl, rfl⟩
    · exact hm.2.2.2.2.2.2.2.1
    · exact hm.2.2.2.2.2.2.1
    · exact hw)
  have hnl := hm.2.2.2.2.1
  have hrun := va_runV (As := As.map (xm_gv E.2.1)) (rest := S.map (xm_gv E.2.1)) (g := F0 Z.2.2.2.2.2.1 pc ls ((As.reverse ++ .ref b :: S).map (xm_gv E.2.1))) (cells := ce) (slots := sl) (H := H) (locs := locs) (l := Z.2.1) (e := Z.2.2.1) (R := Z.2.2.2.1) (below := Z.2.2.2.2.2.2.2.1) (meth := Z.2.2.2.2.2.2.2.2.1) ⟨hx, hbc, hml, hown, hts⟩ hs
    (cwV n hts hG rfl rfl rfl ⟨rfl, hm.2.2.2.2.2.1⟩ ⟨by show d + 1 ≤ _; omega, by show 8 + (mt.2.2.1 + 11) + 30 * d ≤ _; omega⟩)
    ⟨xm_blind, ⟨cell, hc, by rw [hat.1]; rfl, hcl⟩, fun U hU hv => xm_pre X hW hF U hU hv⟩ rfl (by rw [List.length_map]; exact hn) hl0.1 (by simp [xm_gv, List.map_reverse]) (lv_room (by rw [xm_cats]; exact hS)) hd ⟨by omega, by omega⟩
  refine xm_back hrun hF (fun v M1 H1 locs1 h1 hW1 hF1 => ?_)
  have h9 := k v M1 h1 H1 locs1 ls hW1 hF1 hl0
  rw [List.map_append] at h9
  cases v <;> exact h9
theorem xm_callSQ (hY : xm_Y E own nL cc rt ini D mc ms Z) {mt : xm_T4} {ci n rt1 d mc1 ms1 cp : Nat} {As : List Value} (hd : decode cc pc = .ok (.invokestatic cp, 3)) (hl : Cond.methodLink (xm_C own) cp mt.1 ∈ lw_tb) (hm : xm_mo mt ci n rt1 false true) (hs : xm_Met E Z.2.1 mt d mc1 ms1 As M r1) (hn : As.length = n) (hD : d + 1 ≤ D) (hf : ce + mc1 ≤ mc ∧ sl + ms1 ≤ ms) (hS : (S.map fun v => v.category).sum ≤ 8)
    (k : ∀ v M1, r1 v M1 → xm_GQ E Z nL Q (ce + mc1) (sl + ms1) (pc + 3) L (v.toList ++ S) M1) : xm_GQ E Z nL Q ce sl pc L (As.reverse ++ S) M := by
  intro H locs ls hW hF hl0
  obtain ⟨X, -, -, hR1, hR2, hR3, hR4⟩ := hY
  obtain ⟨hx, hbc, hml, hown, hts, hK, hlocks, hO, hxt, hsz⟩ := id X
  have hG : GoodIn lw_tb (va_wsS (xm_C own) cp mt.1 (xm_ws mt)) := xm_good (fun w hw => by
    simp only [va_wsS, xm_ws, List.cons_append, List.nil_append, List.mem_cons] at hw
    rcases hw with rfl | rfl | rfl | rfl | hw
    · exact hl
    · exact hm.2.2.2.2.2.2.2.2.1 rfl
    · exact hm.2.2.2.2.2.2.2.1
    · exact hm.2.2.2.2.2.2.1
    · exact hw)
  have hnl := hm.2.2.2.2.1
  have hrun := va_runS (As := As.map (xm_gv E.2.1)) (rest := S.map (xm_gv E.2.1)) (g := F0 Z.2.2.2.2.2.1 pc ls ((As.reverse ++ S).map (xm_gv E.2.1))) (cells := ce) (slots := sl) (H := H) (locs := locs) (l := Z.2.1) (e := Z.2.2.1) (R := Z.2.2.2.1) (below := Z.2.2.2.2.2.2.2.1) (meth := Z.2.2.2.2.2.2.2.2.1) ⟨hx, hbc, hml, hown, hts⟩ hs
    (va_cwS n hts hG rfl rfl rfl hm.2.2.2.2.2.1 ⟨by show d + 1 ≤ _; omega, by show 8 + (mt.2.2.1 + 11) + 30 * d ≤ _; omega⟩)
    ⟨xm_blind, fun U hU hv => xm_pre X hW hF U hU hv⟩ rfl (by rw [List.length_map]; exact hn) hl0.1 (by simp [List.map_reverse]) (lv_room (by rw [xm_cats]; exact hS)) hd ⟨by omega, by omega⟩
  refine xm_back hrun hF (fun v M1 H1 locs1 h1 hW1 hF1 => ?_)
  have h9 := k v M1 h1 H1 locs1 ls hW1 hF1 hl0
  rw [List.map_append] at h9
  cases v <;> exact h9
/-- 'throw new C()' -/
theorem xm_throw (hY : xm_Y E own nL cc rt ini D mc ms Z) (hex : ∀ x ∈ Z.2.2.2.2.2.2.2.2.2.exceptionTable.toList, False) (hl : Z.2.1.stackTraces = false) (hxq : ∀ U, E.2.2.2.1 U → xq E.2.2.1 U) {C : String} (hC : C ∈ xq_st) {ik ic : Nat} (hfit : Bundle.fit C = true) (hk : Cond.classLink (xm_C own) ik C ∈ lw_tb) (hini : Cond.initialized C ∈ lw_tb) (hat : ∀ w ∈ (vx_at0 (xm_C own) ic C xq_nm).filter goodWord, w ∈ lw_tb) (hbad : ∀ w ∈ (vx_at0 (xm_C own) ic C xq_nm).filter (fun w => !goodWord w), w ∈ xq_bad C) (hgood : ∀ w ∈ Cond.classLink (xm_C own) ik C :: Cond.initialized C :: vx_at0 (xm_C own) ic C xq_nm, vx_ot w = true)
    (d0 : decode cc pc = .ok (.new ik, 3)) (d3 : decode cc (pc + 3) = .ok (.dup, 1)) (d4 : decode cc (pc + 4) = .ok (.invokespecial ic, 3)) (d7 : decode cc (pc + 7) = .ok (.athrow, 1)) (hD : 6 ≤ D) (hc : ce + 1 ≤ mc) (hs : sl + 6 ≤ ms) (hm : M.1 = ly_m) : xm_GQ E Z nL (xm_QX E Z C M mc ms) ce sl pc L [] M := by
  intro H locs ls hW hF hl0
  obtain ⟨X, -, -, hR1, hR2, hR3, hR4⟩ := hY
  obtain ⟨hx, hbc, hml, hown, hts, hK, hlocks, hO, hxt, hsz⟩ := id X
  obtain ⟨q1, q2, q3⟩ := hxq _ hxt
  have hlm : ly_m = 287 := rfl
  refine vx_throw0 (A := fun q => E.2.2.1 ≤ q) (names := xq_nm) hx hbc hl hown hfit (by decide +kernel) (hts _ hk) (hts _ hini) (vx_hat (B := xq_bad C) (fun w hw => hts w (hat w hw)) hbad (fun w hw => va_Nw.use (by
      simp only [xq_bad, List.mem_cons, List.not_mem_nil, or_false] at hw
      rcases hw with rfl | rfl | rfl | rfl | rfl <;> rfl) (q1 C hC w hw))) hgood q2 q3 ⟨hF.1, fun q _ hb => hF.2.1 q (by omega), hF.2.2⟩ (by rw [hl0.1, hml]) d0 d3 d4 d7 (fun x hx => (hex x hx).elim) (by show 2 + 3 < _; omega) (by show (0 : Nat) + (13 * (2 + 1) + 42) ≤ _; omega) (by omega) (by omega) hlocks (fun t ha hz hk => ?_) hF.2.2 hc hs
  refine ⟨rfl, ⟨Nat.le_trans hW.1 hz, fun h => absurd h (by omega), hW.2.2.1, fun a ha => ?_⟩, Nat.le_trans hF.1 hz, fun q hq => ?_⟩
  · obtain ⟨cell, h1, h2⟩ := hW.2.2.2 a ha
    exact ⟨cell, by rw [hk _ (Array.getElem?_eq_some_iff.mp h1).1]; exact h1, h2⟩
  · have h1 : q < H.size := by have := hW.1; omega
    rw [hk q h1]
    exact hF.2.1 q hq
end XMQ

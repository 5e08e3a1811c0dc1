/-! THE LAW's helpers: a method with a table of its own; a call that throws, and its catch -/
def xl (b : Nat) (U : State) : Prop := xq b U ∧ ∀ C ∈ xq_st, ∀ T ∈ xq_st, C ≠ T → va_Nc C T U
theorem xl.keep {b : Nat} {u U : State} (hW : u.WarmedH U.vm) (hq : ∀ q, q < b → U.heap[q]? = u.heap[q]?) (h : xl b u) : xl b U := ⟨h.1.keep hW hq, fun C hC T hT hne => va_Nc.moved hW.alike (h.2 C hC T hT hne)⟩
abbrev xm_hT : Type := MethodName × ByteArray × Nat × List (Nat × Nat × Nat × Nat)
abbrev xm_hws (mt : xm_hT) : List Cond := Cond.codeWith mt.1 mt.2.1 mt.2.2.1 (some .int) mt.2.2.2 :: lw_tb
/-- a helper of the law, from such arguments and such a memory, ends with r -/
def xm_MetH (E : xm_E) (l : Launch) (mt : xm_hT) (d mc ms : Nat) (As : List Value) (M : xm_M) (r : Option Value → xm_M → Prop) : Prop :=
  vx_Met l mt.1 (xm_hws mt) (xm_rm d mc ms) (xm_P E As M) (xm_Q E r) (fun _ _ _ => False) mc ms (xm_fr E)
def xm_ho (mt : xm_hT) (n : Nat) : Prop :=
  plainName mt.1.cls = true ∧ mt.1.cls = xm_C 8 ∧ mt.2.2.1 ≤ 11 ∧ (mt.1.cls ≠ "java/lang/invoke/MethodHandle" ∧ mt.1.cls ≠ "java/lang/invoke/VarHandle" ∧ (parseMethodDescriptor mt.1.desc).map (fun d => d.parameters.length) = some n) ∧
  Cond.codeWith mt.1 mt.2.1 mt.2.2.1 (some .int) mt.2.2.2 ∈ lw_tb ∧ Cond.initialized mt.1.cls ∈ lw_tb ∧ Cond.static mt.1 ∈ lw_tb
def xm_QH (E : xm_E) (Z : xm_Z) (r : Option Value → xm_M → Prop) (mc ms : Nat) : State → Prop := vx_MQ Z.2.2.2.2.2.2.2.1 (xm_Q E r) (fun _ _ _ => False) Z.2.2.2.2.2.2.1 Z.2.2.2.2.1 mc ms (xm_fr E)
theorem xm_metH {E : xm_E} {l : Launch} {mt : xm_hT} {n d mc ms : Nat} {As : List Value} {M : xm_M} {r : Option Value → xm_M → Prop} (hm : xm_ho mt n) (hA : ∀ v ∈ As, v.category = 1 ∧ xm_j v = false) (hn : As.length ≤ mt.2.2.1)
    (body : ∀ Z : xm_Z, Z.2.1 = l → xm_Y E 8 mt.2.2.1 mt.2.1 0 false d mc ms Z → Z.2.2.2.2.2.2.2.2.2.exceptionTable.toList = tableOf mt.2.2.2 → xm_GQ E Z mt.2.2.1 (xm_QH E Z r mc ms) 0 0 0 (As ++ List.replicate (mt.2.2.1 - As.length) (.retAddr 0)) [] M) : xm_MetH E l mt d mc ms As M r := by
  refine vx_ofWH (cc := mt.2.1) (maxL := mt.2.2.1) (ret := some .int) (hh := mt.2.2.2) hm.1 rfl ?_
  intro p e s m args below meth c s₁ B hml hv
  obtain ⟨rfl, hW, hK, hO, hxt, hsz⟩ := hv
  have hts := atoms_spec (ws := xm_hws mt) B.pre
  have htab := vx_table (x := mt.1) B (hts _ List.mem_cons_self)
  have hl := lv_entry (As.map (xm_gv E.2.1)) (n := mt.2.2.1) (by rw [xm_sl_len As hA]; exact hn)
  rw [lg_entry_eq]
  generalize (lg_sl (As.map (xm_gv E.2.1)) ++ List.replicate (mt.2.2.1 - (lg_sl (As.map (xm_gv E.2.1))).length) Slot.unset).toArray = ls at hl ⊢
  refine body (p, l, e, xm_rm d mc ms, s, m, _, below, meth, c) rfl ⟨⟨B.exec, B.bytes, hml, ?_, fun w hw => hts w (List.mem_cons_of_mem _ hw), hK, B.notSynchronized, hO, hxt, hsz⟩, (fun h => by cases h), ?_, Nat.le_refl _, Nat.le_refl _, Nat.le_refl _, Nat.le_refl _⟩ htab s.heap [] ls hW ⟨Nat.le_refl _, fun _ _ => rfl, fun z hz => by cases hz⟩ ?_
  · rw [← hm.2.1]; exact findClass_of_methodNamed B.named
  · show xm_rt 0 meth.sig.returnType
    rw [B.returns]; exact rfl
  · show lv_has ls mt.2.2.1 (xm_e E.2.1 0 _)
    rw [xm_e_args _ As 0 hA]
    exact hl
section XMH
variable {E : xm_E} {Z : xm_Z} {own nL rt D mc ms ce sl pc : Nat} {ini : Bool} {cc : ByteArray} {Q : State → Prop} {L S : List Value} {M M2 : xm_M} {bs : List (Nat × Nat × List xm_I)} {r r1 : Option Value → xm_M → Prop}
theorem xm_rH_ok (hY : xm_Y E own nL cc rt ini D mc ms Z) (hk : xm_oks cc own nL rt ini bs) (st : List Nat) : ∀ (n pc : Nat) (L S : List Value) (M : xm_M), xm_r E.2.2.2.2 bs st (xm_GQ E Z nL (xm_QH E Z r mc ms) mc ms) r n pc L S M → xm_GQ E Z nL (xm_QH E Z r mc ms) mc ms pc L S M
  | 0, _, _, _, _, h => h
  | n + 1, pc, L, S, M, h => by
    unfold xm_r at h
    split at h
    · exact h
    · split at h
      · rename_i en as hl
        exact xm_b_ok hY.1 hY.2.1 hY.2.2.1 (fun _ _ _ h => vx_ret h) (fun t L S M h => xm_rH_ok hY hk st n t L S M h) as pc L S M (hk _ (xm_lk_mem hl)) h
      · exact h
theorem xm_runH (hY : xm_Y E own nL cc rt ini D mc ms Z) (hk : xm_oks cc own nL rt ini bs) (st : List Nat) (n : Nat) (h : ∀ J : Nat → Nat → List Value → List Value → xm_M → Prop, (∀ pc L S M, J 0 pc L S M = xm_GQ E Z nL (xm_QH E Z r mc ms) mc ms pc L S M) → (∀ n pc L S M, J (n + 1) pc L S M = xm_st E.2.2.2.2 bs st (xm_GQ E Z nL (xm_QH E Z r mc ms) mc ms) r (J n) pc L S M) → xm_r0 E.2.2.2.2 bs r (J n) pc L S M) : xm_GQ E Z nL (xm_QH E Z r mc ms) mc ms pc L S M := by
  have h := h (xm_r E.2.2.2.2 bs st (xm_GQ E Z nL (xm_QH E Z r mc ms) mc ms) r) (fun _ _ _ _ => rfl) (fun _ _ _ _ _ => rfl)
  unfold xm_r0 at h
  split at h
  · rename_i en as hl
    exact xm_b_ok hY.1 hY.2.1 hY.2.2.1 (fun _ _ _ h => vx_ret h) (fun t L S M h => xm_rH_ok hY hk st n t L S M h) as pc L S M (hk _ (xm_lk_mem hl)) h
  · exact h.elim
theorem xm_wideQ {k n : Nat} (h1 : ce ≤ k) (h2 : sl ≤ n) (h : xm_GQ E Z nL Q k n pc L S M) : xm_GQ E Z nL Q ce sl pc L S M := fun H locs ls hW hF hl => W.widen h1 h2 (h H locs ls hW hF hl)
/-- a call that throws C, caught at a row of the table whose handler returns k -/
theorem xm_callX (hY : xm_Y E 8 nL cc 0 false D mc ms Z) {hh : List (Nat × Nat × Nat × Nat)} (hT : Z.2.2.2.2.2.2.2.2.2.exceptionTable.toList = tableOf hh) {mt : xm_T4} {ci n rt1 d cp b : Nat} {As : List Value} {C : String} {M1 : xm_M} (hd : decode cc pc = .ok (.invokevirtual cp, 3)) (hl : Cond.methodLink (xm_C 8) cp mt.1 ∈ lw_tb) (hm : xm_mo mt ci n rt1 false false) (h8 : ci < 8) (hs : xm_MetX E Z.2.1 mt d mc ms (.ref b :: As) M C M1) (hb : b < M.1) (hk : ly_k b = ci) (hn : As.length = n) (hD : d + 1 ≤ D) (hS : (S.map fun v => v.category).sum ≤ 8)
    (hxl : ∀ U, E.2.2.2.1 U → xl E.2.2.1 U) (pre : List ExceptionTableEntry) (x : ExceptionTableEntry) (suf : List ExceptionTableEntry) (hsplit : tableOf hh = pre ++ x :: suf) (hpass : ∀ z ∈ pre, z.catchType ≠ 0 ∧ ∃ nm, nm ∈ xq_st ∧ C ≠ nm ∧ Cond.classLink (xm_C 8) z.catchType nm ∈ lw_tb) (hC : C ∈ xq_st) (hx : covers x pc = true) (h0 : x.catchType ≠ 0) (hlink : Cond.classLink (xm_C 8) x.catchType C ∈ lw_tb)
    {len k : Nat} (hA : (∃ n9, n9 < nL ∧ decode cc x.handlerPc = .ok (.astore n9, 2) ∧ len = 2) ∨ (∃ n9 : Fin 4, n9.val < nL ∧ decode cc x.handlerPc = .ok (.astore_n n9, 1) ∧ len = 1)) {e9 : Nat} (hok : xm_okb cc 8 nL 0 false e9 (x.handlerPc + len) [(.sipush 0, 0, 0, 0, Int32.ofNat k), (.ireturn, 0, 0, 0, 0)] = true) (hr : r (some (.int (Int32.ofNat k))) M1) : xm_GQ E Z nL (xm_QH E Z r mc ms) 0 0 pc L (As.reverse ++ .ref b :: S) M := by
  intro H locs ls hW hF hl0
  have hY0 := hY
  obtain ⟨X, -, -, hR1, hR2, hR3, hR4⟩ := hY
  obtain ⟨cell, hc, hat⟩ := hW.2.2.2 b hb
  obtain ⟨hx0, hbc, hml, hown, hts, hK, hlocks, hO, hxt, hsz⟩ := id X
  have hcl : Z.2.2.2.2.1.vm.findClass mt.1.cls = some cell.cls := by
    rw [hm.2.1, hat.2.1, hk]
    exact (hK.1.1 ci _ (xm_cl h8)).2.1
  have hG : GoodIn lw_tb (wsV (xm_C 8) cp mt.1.cls mt.1 (xm_ws mt)) := xm_good (fun w hw => by
    simp only [wsV, xm_ws, List.cons_append, List.nil_append, List.mem_cons] at hw
    rcases hw with rfl | rfl | rfl | rfl | rfl | hw
    · exact hl
    · exact hm.2.2.2.2.2.2.2.2.2.1 rfl
    · exact hm.2.2.2.2.2.2.2.2.2.2 ⟨rfl, rfl⟩
    · exact hm.2.2.2.2.2.2.2.1
    · exact hm.2.2.2.2.2.2.1
    · exact hw)
  have hnl := hm.2.2.2.2.1
  have hrun := vx_runV (As := As.map (xm_gv E.2.1)) (rest := S.map (xm_gv E.2.1)) (g := F0 Z.2.2.2.2.2.1 pc ls ((As.reverse ++ .ref b :: S).map (xm_gv E.2.1))) (cells := 0) (slots := 0) (H := H) (locs := locs) (l := Z.2.1) (e := Z.2.2.1) (R := Z.2.2.2.1) (below := Z.2.2.2.2.2.2.2.1) (meth := Z.2.2.2.2.2.2.2.2.1) ⟨hx0, hbc, hml, hown, hts⟩ hs
    (cwV n hts hG rfl rfl rfl ⟨rfl, hm.2.2.2.2.2.1⟩ ⟨by show d + 1 ≤ _; omega, by show 8 + (mt.2.2.1 + 11) + 30 * d ≤ _; omega⟩)
    ⟨xm_blind, ⟨cell, hc, by rw [hat.1]; rfl, hcl⟩, fun U hU hv => xm_pre X hW hF U hU hv⟩ rfl (by rw [List.length_map]; exact hn) hl0.1 (by simp [xm_gv, List.map_reverse]) (lv_room (by rw [xm_cats]; exact hS)) hd ⟨by omega, by omega⟩
  intro T hT9 X9
  rcases hrun T hT9 X9 with ⟨v, st₀, t, T', Ls, h1, X', hL, e1, e2, hf, -⟩ | ⟨q, st₀, t, T', Ls, E1, ce1, h1, X', hL, e1, e2, ⟨rfl, hW1, hz1, hk1⟩, hce, hcv, hcl1, st⟩
  · exact hf.elim
  rw [h1] at hz1 hk1
  have hF1 : xm_F E Z.2.2.2.2.1 T'.heap (locs ++ Ls) := ⟨Nat.le_trans hF.1 (by rw [e1]; exact hz1), fun q hq => by rw [e1, hk1 q hq]; exact hF.2.1 q hq, fun q hq => by
    rcases List.mem_append.mp hq with h | h
    · exact hF.2.2 q h
    · exact hL q h⟩
  obtain ⟨xq1, xn1⟩ := hxl _ hxt
  have hcast : (Cond.castable E1 E1).before Z.2.2.2.2.2.2.1 Z.2.2.2.2.1 = true := va_Nw.use rfl (xq1.1 E1 hC (.castable E1 E1) (by simp [xq_bad]))
  have hkk : W Z.1 Z.2.1 Z.2.2.1 Z.2.2.2.1 Z.2.2.2.2.1 Z.2.2.2.2.2.1 Z.2.2.2.2.2.2.1 Z.2.2.2.2.2.2.2.1 Z.2.2.2.2.2.2.2.2.1 Z.2.2.2.2.2.2.2.2.2 T'.heap (locs ++ Ls) (0 + mc) (0 + ms) (xm_QH E Z r mc ms) (F0 Z.2.2.2.2.2.1 x.handlerPc ls [.ref q]) := by
    have fin : ∀ ls2, lv_has ls2 nL [] → W Z.1 Z.2.1 Z.2.2.1 Z.2.2.2.1 Z.2.2.2.2.1 Z.2.2.2.2.2.1 Z.2.2.2.2.2.2.1 Z.2.2.2.2.2.2.2.1 Z.2.2.2.2.2.2.2.2.1 Z.2.2.2.2.2.2.2.2.2 T'.heap (locs ++ Ls) (0 + mc) (0 + ms) (xm_QH E Z r mc ms) (F0 Z.2.2.2.2.2.1 (x.handlerPc + len) ls2 []) := by
      intro ls2 hl2
      have hb9 : xm_GQ E Z nL (xm_QH E Z r mc ms) mc ms (x.handlerPc + len) [] [] M1 := xm_b_ok (j := fun _ _ _ _ => False) (r := r) (en := e9) hY0.1 hY0.2.1 hY0.2.2.1 (fun _ _ _ h => vx_ret h) (fun _ _ _ _ h => h.elim) [(.sipush 0, 0, 0, 0, Int32.ofNat k), (.ireturn, 0, 0, 0, 0)] (x.handlerPc + len) [] [] M1 hok (by
        simp only [xm_b, xm_i, xi_ret]
        exact hr)
      rw [Nat.zero_add, Nat.zero_add]
      exact hb9 T'.heap (locs ++ Ls) ls2 (by rw [e1]; exact hW1) hF1 hl2
    have drop : ∀ (ls2 : Array Slot) (ws : List (Nat × Value)), lv_has ls2 nL ws → lv_has ls2 nL [] := fun ls2 ws h => ⟨h.1, h.2.1, fun q hq => by cases hq⟩
    rcases hA with ⟨n9, a1, a2, rfl⟩ | ⟨n9, a1, a2, rfl⟩
    · exact lv_astore hx0 hbc a2 hl0 a1 rfl (fun ls2 hl2 => fin ls2 (drop _ _ hl2))
    · exact lv_astore_n hx0 hbc a2 rfl hl0 a1 rfl (fun ls2 hl2 => fin ls2 (drop _ _ hl2))
  have hca := vx_catch (rest := S.map (xm_gv E.2.1)) (pc := pc) (ls := ls) (name := E1) hown pre x suf (hT.trans hsplit) (fun z hz => by
    obtain ⟨z0, nm, z1, z2, z3⟩ := hpass z hz
    exact Or.inr ⟨z0, nm, hts _ z3, xn1 E1 hC nm z1 z2⟩) hx h0 (hts _ hlink) hcast (by rw [e1]; exact hce) hcv hcl1 hkk
  obtain ⟨t2, a1, b1⟩ := hca T' rfl X'
  exact ⟨t2, st.trans a1, b1⟩
end XMH

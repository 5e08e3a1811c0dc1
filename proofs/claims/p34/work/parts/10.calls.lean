/-! CONTRACTS over the abstract machine, and calls -/
abbrev xm_T4 : Type := MethodName × ByteArray × Nat × Option FieldType
def xm_rm (d mc ms : Nat) : Room := { frames := d, cells := mc, slots := ms, locals := 30 * d }
def xm_P (E : xm_E) (As : List Value) (M : xm_M) : Array Value → State → Prop := fun v U => v = (As.map (xm_gv E.2.1)).toArray ∧ xm_W E M U.heap ∧ xm_K E U ∧ xm_O E ∧ E.2.2.2.1 U ∧ E.2.2.1 ≤ U.heap.size
abbrev xm_ws (mt : xm_T4) : List Cond := Cond.code mt.1 mt.2.1 mt.2.2.1 mt.2.2.2 :: lw_tb
/-- a method, from such arguments and such a memory, ends with r -/
def xm_Met (E : xm_E) (l : Launch) (mt : xm_T4) (d mc ms : Nat) (As : List Value) (M : xm_M) (r : Option Value → xm_M → Prop) : Prop :=
  Met l mt.1 (xm_ws mt) (xm_rm d mc ms) (xm_P E As M) (xm_Q E r) mc ms (xm_fr E)
/-- what is fixed of a method: its class, how many parameters, its return's kind, whether a constructor, whether static -/
def xm_mo (mt : xm_T4) (own n rt : Nat) (ini st : Bool) : Prop :=
  plainName mt.1.cls = true ∧ mt.1.cls = xm_C own ∧ (ini = true → mt.1.name = "<init>") ∧ xm_rt rt mt.2.2.2 ∧ mt.2.2.1 ≤ 11 ∧
  (mt.1.cls ≠ "java/lang/invoke/MethodHandle" ∧ mt.1.cls ≠ "java/lang/invoke/VarHandle" ∧ (parseMethodDescriptor mt.1.desc).map (fun d => d.parameters.length) = some n) ∧
  Cond.code mt.1 mt.2.1 mt.2.2.1 mt.2.2.2 ∈ lw_tb ∧ Cond.initialized mt.1.cls ∈ lw_tb ∧ (st = true → Cond.static mt.1 ∈ lw_tb) ∧ (st = false → Cond.instanceMethod mt.1 ∈ lw_tb) ∧ (st = false ∧ ini = false → Cond.selects mt.1.cls mt.1 mt.1 ∈ lw_tb)
/-- the walk's fixed things -/
abbrev xm_Z : Type := Program × Launch × Env × Room × State × MethodId × Array Value × List Frame × Method × Code
def xm_Y (E : xm_E) (own nL : Nat) (cc : ByteArray) (rt : Nat) (ini : Bool) (D mc ms : Nat) (Z : xm_Z) : Prop :=
  xm_X E own nL cc Z.1 Z.2.2.2.2.1 Z.2.2.2.2.2.1 Z.2.2.2.2.2.2.1 Z.2.2.2.2.2.2.2.2.1 Z.2.2.2.2.2.2.2.2.2 ∧ (ini = true → Z.2.2.2.2.2.2.2.2.1.name = "<init>") ∧ xm_rt rt Z.2.2.2.2.2.2.2.2.1.sig.returnType ∧ D ≤ Z.2.2.2.1.frames ∧ 30 * D ≤ Z.2.2.2.1.locals ∧ mc ≤ Z.2.2.2.1.cells ∧ ms ≤ Z.2.2.2.1.slots
/-- the goal of a walk: at pc, with ce cells and sl slots made, the method ends with r -/
def xm_Go (E : xm_E) (Z : xm_Z) (nL mc ms : Nat) (r : Option Value → xm_M → Prop) (ce sl pc : Nat) (L S : List Value) (M : xm_M) : Prop :=
  xm_Rn E Z.1 Z.2.1 Z.2.2.1 Z.2.2.2.1 Z.2.2.2.2.1 Z.2.2.2.2.2.1 Z.2.2.2.2.2.2.1 Z.2.2.2.2.2.2.2.1 Z.2.2.2.2.2.2.2.2.1 Z.2.2.2.2.2.2.2.2.2 nL ce sl (MQ Z.2.2.2.2.2.2.2.1 (xm_Q E r) Z.2.2.2.2.2.2.1 Z.2.2.2.2.1 mc ms (xm_fr E)) pc L S M
theorem xm_good {ws : List Cond} (h : ∀ w ∈ ws, w ∈ lw_tb) : GoodIn lw_tb ws := fun w hw => ⟨h w hw, good_of_word (lw_tb_good w (h w hw))⟩
theorem xm_blind {E : xm_E} {As : List Value} {M : xm_M} : FrameBlind (xm_P E As M) := by
  intro a U g mk ⟨h1, h2, h3, h4, h5, h6⟩
  exact ⟨h1, h2, xm_K.moved (u := U) (U := U.calling g mk a) (State.WarmedH.refl U) h3, h4, h4.2.1 U (U.calling g mk a) (State.WarmedH.refl U) (fun _ _ => rfl) h5, h6⟩
theorem xm_sl_len {ad : Nat → Nat} : ∀ (As : List Value), (∀ v ∈ As, v.category = 1 ∧ xm_j v = false) → (lg_sl (As.map (xm_gv ad))).length = As.length
  | [], _ => rfl
  | v :: As, h => by
    have ih := xm_sl_len (ad := ad) As (fun w hw => h w (List.mem_cons_of_mem _ hw))
    have h1 := (h v List.mem_cons_self).1
    unfold lg_sl at ih ⊢
    simp only [List.map_cons, List.flatMap_cons, List.length_append, xm_gv_cat, h1, ih, List.length_cons]
    simp
    omega
/-- THE HEAD of a method -/
theorem xm_met {E : xm_E} {l : Launch} {mt : xm_T4} {own n rt d mc ms : Nat} {ini st : Bool} {As : List Value} {M : xm_M} {r : Option Value → xm_M → Prop} (hm : xm_mo mt own n rt ini st) (hA : ∀ v ∈ As, v.category = 1 ∧ xm_j v = false) (hn : As.length ≤ mt.2.2.1)
    (body : ∀ Z : xm_Z, Z.2.1 = l → xm_Y E own mt.2.2.1 mt.2.1 rt ini d mc ms Z → xm_Go E Z mt.2.2.1 mc ms r 0 0 0 (As ++ List.replicate (mt.2.2.1 - As.length) (.retAddr 0)) [] M) : xm_Met E l mt d mc ms As M r := by
  refine Met.ofW (cc := mt.2.1) (maxL := mt.2.2.1) (ret := mt.2.2.2) hm.1 rfl ?_
  intro p e s m args below meth c s₁ B hml hv
  obtain ⟨rfl, hW, hK, hO, hxt, hsz⟩ := hv
  have hts := atoms_spec (ws := xm_ws mt) B.pre
  have hl := lv_entry (As.map (xm_gv E.2.1)) (n := mt.2.2.1) (by rw [xm_sl_len As hA]; exact hn)
  rw [lg_entry_eq]
  generalize (lg_sl (As.map (xm_gv E.2.1)) ++ List.replicate (mt.2.2.1 - (lg_sl (As.map (xm_gv E.2.1))).length) Slot.unset).toArray = ls at hl ⊢
  refine body (p, l, e, xm_rm d mc ms, s, m, _, below, meth, c) rfl ⟨⟨B.exec, B.bytes, hml, ?_, fun w hw => hts w (List.mem_cons_of_mem _ hw), hK, B.notSynchronized, hO, hxt, hsz⟩, ?_, ?_, Nat.le_refl _, Nat.le_refl _, Nat.le_refl _, Nat.le_refl _⟩ s.heap [] ls hW ⟨Nat.le_refl _, fun _ _ => rfl, fun z hz => by cases hz⟩ ?_
  · rw [← hm.2.1]; exact findClass_of_methodNamed B.named
  · intro hi
    rw [(name_of_methodNamed B.named B.method).1]; exact hm.2.2.1 hi
  · show xm_rt rt meth.sig.returnType
    rw [B.returns]; exact hm.2.2.2.1
  · show lv_has ls mt.2.2.1 (xm_e E.2.1 0 _)
    rw [xm_e_args _ As 0 hA]
    exact hl
section XMC
variable {E : xm_E} {Z : xm_Z} {own nL rt D mc ms ce sl pc : Nat} {ini : Bool} {cc : ByteArray} {r r1 : Option Value → xm_M → Prop} {L S : List Value} {M : xm_M}
/-- A BLOCK -/
theorem xm_blk (hY : xm_Y E own nL cc rt ini D mc ms Z) {as : List xm_I} {en : Nat} (hok : xm_okb cc own nL rt ini en pc as = true) (h : xm_b E.2.2.2.2 en (xm_Go E Z nL mc ms r mc ms) r as L S M) : xm_Go E Z nL mc ms r mc ms pc L S M :=
  xm_b_ok hY.1 hY.2.1 hY.2.2.1 (fun _ _ _ h => h) (fun _ _ _ _ h => h) as pc L S M hok h
/-- .. where nothing returns: with any number of cells made -/
theorem xm_blkA (hY : xm_Y E own nL cc rt ini D mc ms Z) {as : List xm_I} {en : Nat} (hok : xm_okb cc own nL rt ini en pc as = true) (h : xm_b E.2.2.2.2 en (xm_Go E Z nL mc ms r ce sl) (fun _ _ => False) as L S M) : xm_Go E Z nL mc ms r ce sl pc L S M :=
  xm_b_ok hY.1 hY.2.1 hY.2.2.1 (fun H locs g hw T hT X => by
    obtain ⟨t, a1, o, b1, b2, ⟨⟨v, M1, -, h1, -⟩, -⟩, -⟩ := hw T hT X
    exact h1.elim) (fun _ _ _ _ h => h) as pc L S M hok h
theorem xm_widen {k n : Nat} (h1 : ce ≤ k) (h2 : sl ≤ n) (h : xm_Go E Z nL mc ms r k n pc L S M) : xm_Go E Z nL mc ms r ce sl pc L S M := fun H locs ls hW hF hl => W.widen h1 h2 (h H locs ls hW hF hl)
/-- behind a call -/
theorem xm_back {p : Program} {l : Launch} {e : Env} {R : Room} {s : State} {m : MethodId} {args : Array Value} {below : List Frame} {meth : Method} {c : Code} {H : Heap} {locs : List Loc} {Q : State → Prop} {mc1 ms1 : Nat} {ls : Array Slot} {st0 rest : List Value} {a : Array Value}
    (hr : va_Run p l e R s m args below meth c H locs ce sl mc1 ms1 (F0 m pc ls st0) rest (xm_Q E r1 a) (xm_fr E)) (hF : xm_F E s H locs)
    (k : ∀ (v : Option Value) (M1 : xm_M) (H1 : Heap) (locs1 : List Loc), r1 v M1 → xm_W E M1 H1 → xm_F E s H1 locs1 → W p l e R s m args below meth c H1 locs1 (ce + mc1) (sl + ms1) Q (F0 m (pc + 3) ls ((v.map (xm_gv E.2.1)).toList ++ rest))) : W p l e R s m args below meth c H locs ce sl Q (F0 m pc ls st0) := by
  intro T hT X
  obtain ⟨v, st₀, t, T', L, h0, X', hL, e1, e2, ⟨⟨v1, M1, hv, hp, hw⟩, hz, hk⟩, st⟩ := hr T hT X
  cases hv
  rw [h0] at hz hk
  obtain ⟨t2, a1, b1⟩ := k v1 M1 T'.heap (locs ++ L) hp (by rw [e1]; exact hw) ⟨Nat.le_trans hF.1 (by rw [e1]; exact hz), fun q hq => by rw [e1, hk q hq]; exact hF.2.1 q hq, fun q hq => by
      rcases List.mem_append.mp hq with h | h
      · exact hF.2.2 q h
      · exact hL q h⟩ T' rfl X'
  exact ⟨t2, st t2 a1, b1⟩
theorem xm_pre {As : List Value} {s : State} {H : Heap} {locs : List Loc} {p : Program} {m : MethodId} {args : Array Value} {meth : Method} {c : Code} (X : xm_X E own nL cc p s m args meth c) (hW : xm_W E M H) (hF : xm_F E s H locs) : ∀ U : State, U.heap = H → s.WarmedH U.vm → xm_P E As M (As.map (xm_gv E.2.1)).toArray U := by
  intro U hU hv
  refine ⟨rfl, by rw [hU]; exact hW, xm_K.moved hv X.2.2.2.2.2.1, X.2.2.2.2.2.2.2.1, X.2.2.2.2.2.2.2.1.2.1 s U hv (fun q hq => by rw [hU]; exact hF.2.1 q (Or.inl hq)) X.2.2.2.2.2.2.2.2.1, ?_⟩
  rw [hU]
  exact Nat.le_trans X.2.2.2.2.2.2.2.2.2 hF.1
theorem xm_cats {ad : Nat → Nat} (S : List Value) : ((S.map (xm_gv ad)).map fun v => v.category).sum = (S.map fun v => v.category).sum := by
  congr 1
  rw [List.map_map]
  exact List.map_congr_left (fun v _ => xm_gv_cat ad v)
/-- a call of an object of ours -/
theorem xm_callV (hY : xm_Y E own nL cc rt ini D mc ms Z) {mt : xm_T4} {ci n rt1 d mc1 ms1 cp b : Nat} {As : List Value} (hd : decode cc pc = .ok (.invokevirtual cp, 3)) (hl : Cond.methodLink (xm_C own) cp mt.1 ∈ lw_tb) (hm : xm_mo mt ci n rt1 false false) (h8 : ci < 8) (hs : xm_Met E Z.2.1 mt d mc1 ms1 (.ref b :: As) M r1) (hb : b < M.1) (hk : ly_k b = ci) (hn : As.length = n) (hD : d + 1 ≤ D) (hf : ce + mc1 ≤ mc ∧ sl + ms1 ≤ ms) (hS : (S.map fun v => v.category).sum ≤ 8)
    (k : ∀ v M1, r1 v M1 → xm_Go E Z nL mc ms r (ce + mc1) (sl + ms1) (pc + 3) L (v.toList ++ S) M1) : xm_Go E Z nL mc ms r ce sl pc L (As.reverse ++ .ref b :: S) M := by
  intro H locs ls hW hF hl0
  obtain ⟨X, -, -, hR1, hR2, hR3, hR4⟩ := hY
  obtain ⟨cell, hc, hat⟩ := hW.2.2.2 b hb
  obtain ⟨hx, hbc, hml, hown, hts, hK, hlocks, hO, hxt, hsz⟩ := id X
  have hcl : Z.2.2.2.2.1.vm.findClass mt.1.cls = some cell.cls := by
    rw [hm.2.1, hat.2.1, hk]
    exact (hK.1.1 ci _ (xm_cl h8)).2.1
  have hG : GoodIn lw_tb (wsV (xm_C own) cp mt.1.cls mt.1 (xm_ws mt)) := xm_good (fun w hw => by
    simp only [wsV, xm_ws, List.cons_append, List.nil_append, List.mem_cons] at hw
    rcases hw with rfl | rfl | rfl | rfl | rfl | hw
    · exact hl
    · exact hm.2.2.2.2.2.2.2.2.2.1 rfl
    · exact hm.2.2.2.2.2.2.2.2.2.2 ⟨rfl, rfl⟩
    · exact hm.2.2.2.2.2.2.2.1
    · exact hm.2.2.2.2.2.2.1
    · exact hw)
  have hnl := hm.2.2.2.2.1
  have hrun := va_runV (As := As.map (xm_gv E.2.1)) (rest := S.map (xm_gv E.2.1)) (g := F0 Z.2.2.2.2.2.1 pc ls ((As.reverse ++ .ref b :: S).map (xm_gv E.2.1))) (cells := ce) (slots := sl) (H := H) (locs := locs) (l := Z.2.1) (e := Z.2.2.1) (R := Z.2.2.2.1) (below := Z.2.2.2.2.2.2.2.1) (meth := Z.2.2.2.2.2.2.2.2.1) ⟨hx, hbc, hml, hown, hts⟩ hs
    (cwV n hts hG rfl rfl rfl ⟨rfl, hm.2.2.2.2.2.1⟩ ⟨by show d + 1 ≤ _; omega, by show 8 + (mt.2.2.1 + 11) + 30 * d ≤ _; omega⟩)
    ⟨xm_blind, ⟨cell, hc, by rw [hat.1]; rfl, hcl⟩, fun U hU hv => xm_pre X hW hF U hU hv⟩ rfl (by rw [List.length_map]; exact hn) hl0.1 (by simp [xm_gv, List.map_reverse]) (lv_room (by rw [xm_cats]; exact hS)) hd ⟨by omega, by omega⟩
  refine xm_back hrun hF (fun v M1 H1 locs1 h1 hW1 hF1 => ?_)
  have h9 := k v M1 h1 H1 locs1 ls hW1 hF1 hl0
  rw [List.map_append] at h9
  cases v <;> exact h9
/-- a static call -/
theorem xm_callS (hY : xm_Y E own nL cc rt ini D mc ms Z) {mt : xm_T4} {ci n rt1 d mc1 ms1 cp : Nat} {As : List Value} (hd : decode cc pc = .ok (.invokestatic cp, 3)) (hl : Cond.methodLink (xm_C own) cp mt.1 ∈ lw_tb) (hm : xm_mo mt ci n rt1 false true) (hs : xm_Met E Z.2.1 mt d mc1 ms1 As M r1) (hn : As.length = n) (hD : d + 1 ≤ D) (hf : ce + mc1 ≤ mc ∧ sl + ms1 ≤ ms) (hS : (S.map fun v => v.category).sum ≤ 8)
    (k : ∀ v M1, r1 v M1 → xm_Go E Z nL mc ms r (ce + mc1) (sl + ms1) (pc + 3) L (v.toList ++ S) M1) : xm_Go E Z nL mc ms r ce sl pc L (As.reverse ++ S) M := by
  intro H locs ls hW hF hl0
  obtain ⟨X, -, -, hR1, hR2, hR3, hR4⟩ := hY
  obtain ⟨hx, hbc, hml, hown, hts, hK, hlocks, hO, hxt, hsz⟩ := id X
  have hG : GoodIn lw_tb (va_wsS (xm_C own) cp mt.1 (xm_ws mt)) := xm_good (fun w hw => by
    simp only [va_wsS, xm_ws, List.cons_append, List.nil_append, List.mem_cons] at hw
    rcases hw with rfl | rfl | rfl | rfl | hw
    · exact hl
    · exact hm.2.2.2.2.2.2.2.2.1 rfl
    · exact hm.2.2.2.2.2.2.2.1
    · exact hm.2.2.2.2.2.2.1
    · exact hw)
  have hnl := hm.2.2.2.2.1
  have hrun := va_runS (As := As.map (xm_gv E.2.1)) (rest := S.map (xm_gv E.2.1)) (g := F0 Z.2.2.2.2.2.1 pc ls ((As.reverse ++ S).map (xm_gv E.2.1))) (cells := ce) (slots := sl) (H := H) (locs := locs) (l := Z.2.1) (e := Z.2.2.1) (R := Z.2.2.2.1) (below := Z.2.2.2.2.2.2.2.1) (meth := Z.2.2.2.2.2.2.2.2.1) ⟨hx, hbc, hml, hown, hts⟩ hs
    (va_cwS n hts hG rfl rfl rfl hm.2.2.2.2.2.1 ⟨by show d + 1 ≤ _; omega, by show 8 + (mt.2.2.1 + 11) + 30 * d ≤ _; omega⟩)
    ⟨xm_blind, fun U hU hv => xm_pre X hW hF U hU hv⟩ rfl (by rw [List.length_map]; exact hn) hl0.1 (by simp [List.map_reverse]) (lv_room (by rw [xm_cats]; exact hS)) hd ⟨by omega, by omega⟩
  refine xm_back hrun hF (fun v M1 H1 locs1 h1 hW1 hF1 => ?_)
  have h9 := k v M1 h1 H1 locs1 ls hW1 hF1 hl0
  rw [List.map_append] at h9
  cases v <;> exact h9
/-- a static call of a nest mate's private method -/
theorem xm_callSN (hY : xm_Y E own nL cc rt ini D mc ms Z) {mt : xm_T4} {ci n rt1 d mc1 ms1 cp : Nat} {As : List Value} (hd : decode cc pc = .ok (.invokestatic cp, 3)) (hl : (own, cp, mt.1) ∈ nw_tab) (hm : xm_mo mt ci n rt1 false true) (hs : xm_Met E Z.2.1 mt d mc1 ms1 As M r1) (hn : As.length = n) (hD : d + 1 ≤ D) (hf : ce + mc1 ≤ mc ∧ sl + ms1 ≤ ms) (hS : (S.map fun v => v.category).sum ≤ 8)
    (k : ∀ v M1, r1 v M1 → xm_Go E Z nL mc ms r (ce + mc1) (sl + ms1) (pc + 3) L (v.toList ++ S) M1) : xm_Go E Z nL mc ms r ce sl pc L (As.reverse ++ S) M := by
  intro H locs ls hW hF hl0
  obtain ⟨X, -, -, hR1, hR2, hR3, hR4⟩ := hY
  obtain ⟨hx, hbc, hml, hown, hts, hK, hlocks, hO, hxt, hsz⟩ := id X
  have hts2 : ∀ w ∈ lw_tb, w.before Z.2.2.2.2.2.2.1 Z.2.2.2.2.1 = true := hts
  have hnw : va_Nw (Cond.methodLinkNest (xm_C own) cp mt.1 RX6) Z.2.2.2.2.1 := hK.2 (own, cp, mt.1) hl
  have hini : (Cond.initialized mt.1.cls).before Z.2.2.2.2.2.2.1 Z.2.2.2.2.1 = true := hts _ hm.2.2.2.2.2.2.2.1
  have hG : GoodIn lw_tb (xm_ws mt) := xm_good (fun w hw => by
    simp only [xm_ws, List.mem_cons] at hw
    rcases hw with rfl | hw
    · exact hm.2.2.2.2.2.2.1
    · exact hw)
  have hnl := hm.2.2.2.2.1
  have hrun := va_runSN (host := RX6) (own := xm_C own) (As := As.map (xm_gv E.2.1)) (rest := S.map (xm_gv E.2.1)) (g := F0 Z.2.2.2.2.2.1 pc ls ((As.reverse ++ S).map (xm_gv E.2.1))) (cells := ce) (slots := sl) (H := H) (locs := locs) (l := Z.2.1) (e := Z.2.2.1) (R := Z.2.2.2.1) (below := Z.2.2.2.2.2.2.2.1) (meth := Z.2.2.2.2.2.2.2.2.1) ⟨hx, hbc, hml, hown, hts2⟩ hs
    ⟨va_cnB n hts2 hG rfl rfl rfl hnw hini hm.2.2.2.2.2.1 ⟨by show d + 1 ≤ _; omega, by show 8 + (mt.2.2.1 + 11) + 30 * d ≤ _; omega⟩, hts _ (hm.2.2.2.2.2.2.2.2.1 rfl), trivial⟩
    ⟨xm_blind, fun U hU hv => xm_pre X hW hF U hU hv⟩ rfl (by rw [List.length_map]; exact hn) hl0.1 (by simp [List.map_reverse]) (lv_room (by rw [xm_cats]; exact hS)) hd ⟨by omega, by omega⟩
  refine xm_back hrun hF (fun v M1 H1 locs1 h1 hW1 hF1 => ?_)
  have h9 := k v M1 h1 H1 locs1 ls hW1 hF1 hl0
  rw [List.map_append] at h9
  cases v <;> exact h9
/-- a constructor's call -/
theorem xm_callI (hY : xm_Y E own nL cc rt ini D mc ms Z) {mt : xm_T4} {ci n rt1 d mc1 ms1 cp b : Nat} {As : List Value} (hd : decode cc pc = .ok (.invokespecial cp, 3)) (hl : Cond.methodLink (xm_C own) cp mt.1 ∈ lw_tb ∨ (own, cp, mt.1) ∈ nw_tab) (hm : xm_mo mt ci n rt1 true false) (hret : mt.2.2.2 = none) (hs : xm_Met E Z.2.1 mt d mc1 ms1 (.ref b :: As) M r1) (hn : As.length = n) (hD : d + 1 ≤ D) (hf : ce + mc1 ≤ mc ∧ sl + ms1 ≤ ms) (hS : (S.map fun v => v.category).sum ≤ 8)
    (k : ∀ v M1, r1 v M1 → xm_Go E Z nL mc ms r (ce + mc1) (sl + ms1) (pc + 3) L (v.toList ++ S) M1) : xm_Go E Z nL mc ms r ce sl pc L (As.reverse ++ .ref b :: S) M := by
  intro H locs ls hW hF hl0
  obtain ⟨X, -, -, hR1, hR2, hR3, hR4⟩ := hY
  obtain ⟨y, bb, nl, rr⟩ := mt
  simp only at hret
  subst hret
  obtain ⟨hx, hbc, hml, hown, hts, hK, hlocks, hO, hxt, hsz⟩ := id X
  have hts2 : ∀ w ∈ lw_tb, w.before Z.2.2.2.2.2.2.1 Z.2.2.2.2.1 = true := hts
  have hG : GoodIn lw_tb (xm_ws (y, bb, nl, none)) := xm_good (fun w hw => by
    simp only [xm_ws, List.mem_cons] at hw
    rcases hw with rfl | hw
    · exact hm.2.2.2.2.2.2.1
    · exact hw)
  have hnl : nl ≤ 11 := hm.2.2.2.2.1
  have hroom : (xm_rm d mc1 ms1).frames + 1 ≤ Z.2.2.2.1.frames ∧ 8 + (nl + 11) + (xm_rm d mc1 ms1).locals ≤ Z.2.2.2.1.locals := ⟨by show d + 1 ≤ _; omega, by show 8 + (nl + 11) + 30 * d ≤ _; omega⟩
  refine xm_back (mc1 := mc1) (ms1 := ms1) (r1 := r1) (rest := S.map (xm_gv E.2.1)) (a := (Value.ref (E.2.1 b) :: As.map (xm_gv E.2.1)).toArray) ?_ hF (fun v M1 H1 locs1 h1 hW1 hF1 => ?_)
  · rcases hl with hl | hl
    · exact va_runI (own := xm_C own) (As := As.map (xm_gv E.2.1)) (b := E.2.1 b) ⟨hx, hbc, hml, hown, hts2⟩ hs
        (cwI n hts2 hG rfl rfl rfl (hts _ hm.2.2.2.2.2.2.2.1) (hts _ hl) (hts _ (hm.2.2.2.2.2.2.2.2.2.1 rfl)) (hm.2.2.1 rfl) hm.2.2.2.2.2.1 hroom)
        ⟨xm_blind, fun U hU hv => xm_pre X hW hF U hU hv⟩ rfl (by rw [List.length_map]; exact hn) hl0.1 (by simp [xm_gv, List.map_reverse]) (lv_room (by rw [xm_cats]; exact hS)) hd ⟨by omega, by omega⟩
    · exact va_runIN (host := RX6) (own := xm_C own) (As := As.map (xm_gv E.2.1)) (b := E.2.1 b) ⟨hx, hbc, hml, hown, hts2⟩ hs
        ⟨va_cnB n hts2 hG rfl rfl rfl (hK.2 (own, cp, y) hl : va_Nw (Cond.methodLinkNest (xm_C own) cp y RX6) Z.2.2.2.2.1) (hts _ hm.2.2.2.2.2.2.2.1) hm.2.2.2.2.2.1 hroom, hm.2.2.1 rfl, hts _ (hm.2.2.2.2.2.2.2.2.2.1 rfl)⟩
        ⟨xm_blind, fun U hU hv => xm_pre X hW hF U hU hv⟩ rfl (by rw [List.length_map]; exact hn) hl0.1 (by simp [xm_gv, List.map_reverse]) (lv_room (by rw [xm_cats]; exact hS)) hd ⟨by omega, by omega⟩
  · have h9 := k v M1 h1 H1 locs1 ls hW1 hF1 hl0
    rw [List.map_append] at h9
    cases v <;> exact h9
end XMC

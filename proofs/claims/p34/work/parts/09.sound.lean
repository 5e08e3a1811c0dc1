/-! SOUND: a step, a block -/
/-- the end of a method that answers so, with such a memory -/
def xm_Q (E : xm_E) (r : Option Value → xm_M → Prop) : Array Value → State → Outcome → State → Prop := fun _ st o t =>
  (∃ (v : Option Value) (M : xm_M), o = .returned (v.map (xm_gv E.2.1)) ∧ r v M ∧ xm_W E M t.heap) ∧ st.heap.size ≤ t.heap.size ∧ ∀ q, xm_o E q → t.heap[q]? = st.heap[q]?
def xm_fr (E : xm_E) : Addr → Prop := fun q => ¬ xm_o E q
def xm_rt (rt : Nat) (t : Option FieldType) : Prop := match rt with
  | 0 => t = some .int
  | 1 => t = some .boolean
  | 2 => ∃ n, t = some (.object n)
  | 3 => t = none
  | _ => t = some .double
theorem xm_tgt_eq {pc : Nat} {off : Int} {t : Nat} (h : xm_tgt pc off = some t) : (pc : Int) + off = (t : Int) := by
  unfold xm_tgt at h
  split at h
  · cases h
    omega
  · cases h
theorem xi_rd_v {M : xm_M} {b ci f : Nat} (hk : ly_k b = ci) (h8 : ci < 8) : xm_v M b f = xi_rd M b f (xm_c (xm_ty ci f)) := by
  unfold xm_v xm_cd
  rw [hk, if_pos h8]
  unfold xi_rd
  split
  · rename_i h
    rw [h]
    rfl
  · rename_i h
    split
    · rename_i h2; exact absurd h2 h
    · rfl
theorem xi_rd_a {M : xm_M} {b kd f : Nat} (hk : ly_k b = kd) (h8 : kd = 10 ∨ kd = 11) : xm_v M b f = .int (M.2.1 b f) := by
  unfold xm_v
  rw [hk]
  rcases h8 with rfl | rfl <;> rfl
theorem xi_rd_r {M : xm_M} {b kd f : Nat} (hk : ly_k b = kd) (h8 : kd = 12 ∨ kd = 13 ∨ kd = 14) : xm_v M b f = M.2.2 b f := by
  unfold xm_v
  rw [hk]
  rcases h8 with rfl | rfl | rfl <;> rfl
theorem xm_final {own ci f : Nat} {ini : Bool} {meth : Method} (f1 : ci < 8) (f2 : f < xm_N ci) (h : (xm_T ci f).2.2.2 = false ∨ (ini = true ∧ own = ci ∧ ci < 8)) (hi : ini = true → meth.name = "<init>") : (xm_T ci f).2.2.2 = false ∨ ((xm_T ci f).2.2.2 = true ∧ meth.name = "<init>" ∧ (xm_T ci f).1 = xm_C own) := by
  cases hf : (xm_T ci f).2.2.2 with
  | false => exact Or.inl rfl
  | true =>
    rcases h with h | ⟨h1, h2, -⟩
    · rw [hf] at h; cases h
    · refine Or.inr ⟨rfl, hi h1, ?_⟩
      subst h2
      have h3 : (List.range 8).all (fun c => (List.range (xm_N c)).all (fun j => (xm_T c j).1 == xm_C c)) = true := by decide +kernel
      exact beq_iff_eq.mp (List.all_eq_true.mp (List.all_eq_true.mp h3 own (List.mem_range.mpr f1)) f (List.mem_range.mpr f2))
section XMB
variable {E : xm_E} {p : Program} {l : Launch} {e : Env} {R : Room} {s : State} {m : MethodId} {args : Array Value} {below : List Frame} {meth : Method} {c : Code} {own nL ce sl rt : Nat} {ini : Bool} {Q : State → Prop} {cc : ByteArray} {pc n : Nat} {L S : List Value} {M : xm_M} {i : Instr} {a : xm_I} {k : List Value → List Value → xm_M → Prop} {j : Nat → List Value → List Value → xm_M → Prop} {r : Option Value → xm_M → Prop}
theorem xm_qend {v : Option Value} (h : r v M) {t : State} {H : Heap} {locs : List Loc} (ht : t.heap = H) (hW : xm_W E M H) (hF : xm_F E s H locs) : xm_Q E r args s (.returned (v.map (xm_gv E.2.1))) t :=
  ⟨⟨v, M, rfl, h, by rw [ht]; exact hW⟩, by rw [ht]; exact hF.1, fun q hq => by rw [ht]; exact hF.2.1 q hq⟩
theorem xm_i_ok (X : xm_X E own nL cc p s m args meth c) (hini : ini = true → meth.name = "<init>") (hrt : xm_rt rt meth.sig.returnType) (hQ : ∀ (H : Heap) (locs : List Loc) (g : JFrame), W p l e R s m args below meth c H locs ce sl (MQ below (xm_Q E r) args s ce sl (xm_fr E)) g → W p l e R s m args below meth c H locs ce sl Q g) (hd : decode cc pc = .ok (i, n)) (hn : n = xm_len i) (hz : xm_rz own nL rt ini pc i = some a) (h : xm_i E.2.2.2.2 a L S M k j r) (hk : ∀ L S M, k L S M → xm_Rn E p l e R s m args below meth c nL ce sl Q (pc + n) L S M) (hj : ∀ t L S M, j t L S M → xm_Rn E p l e R s m args below meth c nL ce sl Q t L S M) : xm_Rn E p l e R s m args below meth c nL ce sl Q pc L S M := by
  cases i with
  | iload z =>
    simp only [xm_rz, Option.some.injEq] at hz
    subst hz
    simp only [xm_len] at hn
    subst hn
    simp only [xm_i, xi_il] at h
    split at h
    · rename_i x hx; exact st_iload X hd hx (hk _ _ _ h)
    · exact h.elim
  | iload_n z =>
    simp only [xm_rz, Option.some.injEq] at hz
    subst hz
    simp only [xm_len] at hn
    subst hn
    simp only [xm_i, xi_il] at h
    split at h
    · rename_i x hx; exact st_iload_n X hd hx (hk _ _ _ h)
    · exact h.elim
  | aload z =>
    simp only [xm_rz, Option.some.injEq] at hz
    subst hz
    simp only [xm_len] at hn
    subst hn
    simp only [xm_i, xi_al] at h
    split at h
    · rename_i x hx; exact st_aload X hd hx (hk _ _ _ h)
    · rename_i hx; exact st_aloadN X hd hx (hk _ _ _ h)
    · exact h.elim
  | aload_n z =>
    simp only [xm_rz, Option.some.injEq] at hz
    subst hz
    simp only [xm_len] at hn
    subst hn
    simp only [xm_i, xi_al] at h
    split at h
    · rename_i x hx; exact st_aload_n X hd hx (hk _ _ _ h)
    · rename_i hx; exact st_aload_nN X hd hx (hk _ _ _ h)
    · exact h.elim
  | istore z =>
    simp only [xm_rz] at hz
    split at hz
    · rename_i hlt
      simp only [Option.some.injEq] at hz
      subst hz
      simp only [xm_len] at hn
      subst hn
      simp only [xm_i, xi_is] at h
      obtain ⟨h1, h⟩ := h
      split at h
      · exact st_istore X hd h1 hlt (hk _ _ _ h)
      · exact h.elim
    · cases hz
  | istore_n z =>
    simp only [xm_rz] at hz
    split at hz
    · rename_i hlt
      simp only [Option.some.injEq] at hz
      subst hz
      simp only [xm_len] at hn
      subst hn
      simp only [xm_i, xi_is] at h
      obtain ⟨h1, h⟩ := h
      split at h
      · exact st_istore_n X hd h1 hlt (hk _ _ _ h)
      · exact h.elim
    · cases hz
  | astore z =>
    simp only [xm_rz] at hz
    split at hz
    · rename_i hlt
      simp only [Option.some.injEq] at hz
      subst hz
      simp only [xm_len] at hn
      subst hn
      simp only [xm_i, xi_as] at h
      obtain ⟨h1, h⟩ := h
      split at h
      · exact st_astore X hd h1 hlt (hk _ _ _ h)
      · exact st_astoreN X hd h1 hlt (hk _ _ _ h)
      · exact h.elim
    · cases hz
  | astore_n z =>
    simp only [xm_rz] at hz
    split at hz
    · rename_i hlt
      simp only [Option.some.injEq] at hz
      subst hz
      simp only [xm_len] at hn
      subst hn
      simp only [xm_i, xi_as] at h
      obtain ⟨h1, h⟩ := h
      split at h
      · exact st_astore_n X hd h1 hlt (hk _ _ _ h)
      · exact st_astore_nN X hd h1 hlt (hk _ _ _ h)
      · exact h.elim
    · cases hz
  | iinc z q =>
    simp only [xm_rz] at hz
    split at hz
    · rename_i hlt
      simp only [Option.some.injEq] at hz
      subst hz
      simp only [xm_len] at hn
      subst hn
      simp only [xm_i, xi_inc] at h
      obtain ⟨h1, h⟩ := h
      split at h
      · rename_i x hx; exact st_iinc X hd hx h1 hlt (hk _ _ _ h)
      · exact h.elim
    · cases hz
  | iconst z =>
    simp only [xm_rz, Option.some.injEq] at hz
    subst hz
    simp only [xm_len] at hn
    subst hn
    simp only [xm_i] at h
    exact st_iconst X hd (hk _ _ _ h)
  | bipush z =>
    simp only [xm_rz, Option.some.injEq] at hz
    subst hz
    simp only [xm_len] at hn
    subst hn
    simp only [xm_i] at h
    exact st_bipush X hd (hk _ _ _ h)
  | sipush z =>
    simp only [xm_rz, Option.some.injEq] at hz
    subst hz
    simp only [xm_len] at hn
    subst hn
    simp only [xm_i] at h
    exact st_sipush X hd (hk _ _ _ h)
  | lconst z =>
    simp only [xm_rz, Option.some.injEq] at hz
    subst hz
    simp only [xm_len] at hn
    subst hn
    simp only [xm_i] at h
    exact st_lconst X hd (hk _ _ _ h)
  | aconst_null =>
    simp only [xm_rz, Option.some.injEq] at hz
    subst hz
    simp only [xm_len] at hn
    subst hn
    simp only [xm_i] at h
    exact st_null X hd (hk _ _ _ h)
  | iadd =>
    simp only [xm_rz, Option.some.injEq] at hz
    subst hz
    simp only [xm_len] at hn
    subst hn
    simp only [xm_i, xi_bin] at h
    split at h
    · exact st_iadd X hd (hk _ _ _ h)
    · exact h.elim
  | isub =>
    simp only [xm_rz, Option.some.injEq] at hz
    subst hz
    simp only [xm_len] at hn
    subst hn
    simp only [xm_i, xi_bin] at h
    split at h
    · exact st_isub X hd (hk _ _ _ h)
    · exact h.elim
  | imul =>
    simp only [xm_rz, Option.some.injEq] at hz
    subst hz
    simp only [xm_len] at hn
    subst hn
    simp only [xm_i, xi_bin] at h
    split at h
    · exact st_imul X hd (hk _ _ _ h)
    · exact h.elim
  | iand =>
    simp only [xm_rz, Option.some.injEq] at hz
    subst hz
    simp only [xm_len] at hn
    subst hn
    simp only [xm_i, xi_bin] at h
    split at h
    · exact st_iand X hd (hk _ _ _ h)
    · exact h.elim
  | ior =>
    simp only [xm_rz, Option.some.injEq] at hz
    subst hz
    simp only [xm_len] at hn
    subst hn
    simp only [xm_i, xi_bin] at h
    split at h
    · exact st_ior X hd (hk _ _ _ h)
    · exact h.elim
  | ishl =>
    simp only [xm_rz, Option.some.injEq] at hz
    subst hz
    simp only [xm_len] at hn
    subst hn
    simp only [xm_i, xi_bin] at h
    split at h
    · exact st_ishl X hd (hk _ _ _ h)
    · exact h.elim
  | ishr =>
    simp only [xm_rz, Option.some.injEq] at hz
    subst hz
    simp only [xm_len] at hn
    subst hn
    simp only [xm_i, xi_bin] at h
    split at h
    · exact st_ishr X hd (hk _ _ _ h)
    · exact h.elim
  | iushr =>
    simp only [xm_rz, Option.some.injEq] at hz
    subst hz
    simp only [xm_len] at hn
    subst hn
    simp only [xm_i, xi_bin] at h
    split at h
    · exact st_iushr X hd (hk _ _ _ h)
    · exact h.elim
  | idiv =>
    simp only [xm_rz, Option.some.injEq] at hz
    subst hz
    simp only [xm_len] at hn
    subst hn
    simp only [xm_i, xi_div] at h
    split at h
    · exact st_idiv X hd h.1 (hk _ _ _ h.2)
    · exact h.elim
  | irem =>
    simp only [xm_rz, Option.some.injEq] at hz
    subst hz
    simp only [xm_len] at hn
    subst hn
    simp only [xm_i, xi_div] at h
    split at h
    · exact st_irem X hd h.1 (hk _ _ _ h.2)
    · exact h.elim
  | ineg =>
    simp only [xm_rz, Option.some.injEq] at hz
    subst hz
    simp only [xm_len] at hn
    subst hn
    simp only [xm_i, xi_un] at h
    split at h
    · exact st_ineg X hd (hk _ _ _ h)
    · exact h.elim
  | i2l =>
    simp only [xm_rz, Option.some.injEq] at hz
    subst hz
    simp only [xm_len] at hn
    subst hn
    simp only [xm_i, xi_un] at h
    split at h
    · exact st_i2l X hd (hk _ _ _ h)
    · exact h.elim
  | i2d =>
    simp only [xm_rz, Option.some.injEq] at hz
    subst hz
    simp only [xm_len] at hn
    subst hn
    simp only [xm_i, xi_un] at h
    split at h
    · exact st_i2d X hd (hk _ _ _ h)
    · exact h.elim
  | lcmp =>
    simp only [xm_rz, Option.some.injEq] at hz
    subst hz
    simp only [xm_len] at hn
    subst hn
    simp only [xm_i, xi_lcmp] at h
    split at h
    · exact st_lcmp X hd (hk _ _ _ h)
    · exact h.elim
  | dup =>
    simp only [xm_rz, Option.some.injEq] at hz
    subst hz
    simp only [xm_len] at hn
    subst hn
    simp only [xm_i, xi_dup] at h
    split at h
    · exact st_dup X hd h.1 (hk _ _ _ h.2)
    · exact h.elim
  | dup2 =>
    simp only [xm_rz, Option.some.injEq] at hz
    subst hz
    simp only [xm_len] at hn
    subst hn
    simp only [xm_i, xi_dup2] at h
    split at h
    · exact st_dup2 X hd h.1.1 h.1.2 (hk _ _ _ h.2)
    · exact h.elim
  | getfield cp =>
    simp only [xm_rz] at hz
    cases hf : fl_find own cp with
    | none => rw [hf] at hz; cases hz
    | some q =>
      rw [hf] at hz
      simp only [Option.map_some, Option.some.injEq] at hz
      subst hz
      simp only [xm_len] at hn
      subst hn
      obtain ⟨ci, f⟩ := q
      obtain ⟨f1, f2, f3⟩ := fl_ok hf
      simp only [xm_i, xi_get] at h
      split at h
      · refine st_get X f1 f2 f3 hd h.1.1 h.1.2 ?_
        rw [xi_rd_v h.1.2 f1]
        exact hk _ _ _ h.2
      · exact h.elim
  | putfield cp =>
    simp only [xm_rz] at hz
    cases hf : fl_find own cp with
    | none => rw [hf] at hz; cases hz
    | some q =>
      rw [hf] at hz
      simp only [Option.bind_some] at hz
      split at hz
      · rename_i hfin
        simp only [Option.some.injEq] at hz
        subst hz
        simp only [xm_len] at hn
        subst hn
        obtain ⟨ci, f⟩ := q
        obtain ⟨f1, f2, f3⟩ := fl_ok hf
        have hfin2 := xm_final (ini := ini) f1 f2 hfin hini
        simp only [xm_i, xi_put] at h
        split at h
        · rename_i ht; exact st_put X f1 f2 hfin2 f3 hd h.1.1 h.1.2 (by unfold xm_ok; rw [ht]; trivial) (hk _ _ _ h.2)
        · rename_i ht; exact st_put X f1 f2 hfin2 f3 hd h.1.1 h.1.2 (by unfold xm_ok; rw [ht]; exact h.2.1) (hk _ _ _ h.2.2)
        · rename_i ht; exact st_put X f1 f2 hfin2 f3 hd h.1.1 h.1.2 (by unfold xm_ok; rw [ht]; trivial) (hk _ _ _ h.2)
        · rename_i ht; exact st_put X f1 f2 hfin2 f3 hd h.1.1 h.1.2 (by unfold xm_ok; rw [ht]; trivial) (hk _ _ _ h.2)
        · exact h.elim
      · cases hz
  | iaload =>
    simp only [xm_rz, Option.some.injEq] at hz
    subst hz
    simp only [xm_len] at hn
    subst hn
    by_cases ho : own = 8
    · simp only [ho, if_true, xm_i, xi_sld] at h
      split at h
      · exact st_sload X hd h.1 (hk _ _ _ h.2)
      · exact h.elim
    · simp only [ho, if_false, xm_i, xi_ald] at h
      split at h
      · exact st_iaload X hd h.1.1 h.1.2.1 h.1.2.2 (by rw [xi_rd_a (kd := 10) h.1.2.1 (by decide)]; exact hk _ _ _ h.2)
      · exact h.elim
  | baload =>
    simp only [xm_rz, Option.some.injEq] at hz
    subst hz
    simp only [xm_len] at hn
    subst hn
    simp only [xm_i, xi_ald] at h
    split at h
    · exact st_baload X hd h.1.1 h.1.2.1 h.1.2.2 (by rw [xi_rd_a (kd := 11) h.1.2.1 (by decide)]; exact hk _ _ _ h.2)
    · exact h.elim
  | aaload =>
    simp only [xm_rz, Option.some.injEq] at hz
    subst hz
    simp only [xm_len] at hn
    subst hn
    simp only [xm_i, xi_ald] at h
    split at h
    · exact st_aaload X hd h.1.1 h.1.2.1 h.1.2.2 (by rw [xi_rd_r (kd := 12) h.1.2.1 (by decide)]; exact hk _ _ _ h.2)
    · exact h.elim
  | iastore =>
    simp only [xm_rz, Option.some.injEq] at hz
    subst hz
    simp only [xm_len] at hn
    subst hn
    simp only [xm_i, xi_iast] at h
    split at h
    · exact st_iastore X hd h.1.1 h.1.2.1 h.1.2.2 (hk _ _ _ h.2)
    · exact h.elim
  | bastore =>
    simp only [xm_rz, Option.some.injEq] at hz
    subst hz
    simp only [xm_len] at hn
    subst hn
    simp only [xm_i, xi_bast] at h
    split at h
    · exact st_bastore X hd h.1.1 h.1.2.1 h.1.2.2 h.2.1 (hk _ _ _ h.2.2)
    · exact h.elim
  | arraylength =>
    simp only [xm_rz, Option.some.injEq] at hz
    subst hz
    simp only [xm_len] at hn
    subst hn
    by_cases ho : own = 8
    · simp only [ho, if_true, xm_i, xi_slen] at h
      split at h
      · exact st_slen X hd (hk _ _ _ h)
      · exact h.elim
    · simp only [ho, if_false, xm_i, xi_len] at h
      split at h
      · exact st_alen X hd h.1.1 h.1.2 (hk _ _ _ h.2)
      · exact h.elim
  | if_icmp q off =>
    simp only [xm_rz] at hz
    cases ht : xm_tgt pc off with
    | none => rw [ht] at hz; cases hz
    | some t =>
      rw [ht] at hz
      simp only [Option.map_some, Option.some.injEq] at hz
      subst hz
      simp only [xm_len] at hn
      subst hn
      have ht := xm_tgt_eq ht
      simp only [xm_i, xi_cmp] at h
      split at h
      · exact st_icmp X hd ht (fun q => hj _ _ _ _ (h.1 q)) (fun q => hk _ _ _ (h.2 q))
      · exact h.elim
  | ifCond q off =>
    simp only [xm_rz] at hz
    cases ht : xm_tgt pc off with
    | none => rw [ht] at hz; cases hz
    | some t =>
      rw [ht] at hz
      simp only [Option.map_some, Option.some.injEq] at hz
      subst hz
      simp only [xm_len] at hn
      subst hn
      have ht := xm_tgt_eq ht
      simp only [xm_i, xi_if] at h
      split at h
      · exact st_if X hd ht (fun q => hj _ _ _ _ (h.1 q)) (fun q => hk _ _ _ (h.2 q))
      · exact h.elim
  | ifnull off =>
    simp only [xm_rz] at hz
    cases ht : xm_tgt pc off with
    | none => rw [ht] at hz; cases hz
    | some t =>
      rw [ht] at hz
      simp only [Option.map_some, Option.some.injEq] at hz
      subst hz
      simp only [xm_len] at hn
      subst hn
      have ht := xm_tgt_eq ht
      simp only [xm_i, xi_nul] at h
      split at h
      · exact st_ifnullN X hd ht (hj _ _ _ _ h)
      · exact st_ifnull X hd (hk _ _ _ h)
      · exact h.elim
  | ifnonnull off =>
    simp only [xm_rz] at hz
    cases ht : xm_tgt pc off with
    | none => rw [ht] at hz; cases hz
    | some t =>
      rw [ht] at hz
      simp only [Option.map_some, Option.some.injEq] at hz
      subst hz
      simp only [xm_len] at hn
      subst hn
      have ht := xm_tgt_eq ht
      simp only [xm_i, xi_nul] at h
      split at h
      · exact st_ifnonnullN X hd (hk _ _ _ h)
      · exact st_ifnonnull X hd ht (hj _ _ _ _ h)
      · exact h.elim
  | goto off =>
    simp only [xm_rz] at hz
    cases ht : xm_tgt pc off with
    | none => rw [ht] at hz; cases hz
    | some t =>
      rw [ht] at hz
      simp only [Option.map_some, Option.some.injEq] at hz
      subst hz
      simp only [xm_len] at hn
      subst hn
      have ht := xm_tgt_eq ht
      simp only [xm_i] at h
      exact st_goto X hd ht (hj _ _ _ _ h)
  | ireturn =>
    simp only [xm_rz] at hz
    split at hz
    · rename_i hr2
      simp only [Option.some.injEq] at hz
      subst hz
      simp only [xm_len] at hn
      subst hn
      intro H locs ls hW hF hl
      rcases hr2 with rfl | rfl
      · simp only [xm_i, xi_ret] at h
        split at h
        · exact hQ _ _ _ (W.iret X.1 X.2.1 hrt (fun t ht _ => xm_qend (v := some (.int _)) h ht hW hF) hF.2.2 hd X.2.2.2.2.2.2.1)
        all_goals first | exact h.elim | (rename_i hh; cases hh)
      · simp only [xm_i, xi_ret] at h
        split at h
        · rename_i hh; cases hh
        · exact hQ _ _ _ (W.zret X.1 X.2.1 hrt (by rcases h.1 with rfl | rfl <;> decide) (fun t ht _ => xm_qend (v := some (.int _)) h.2 ht hW hF) hF.2.2 hd X.2.2.2.2.2.2.1)
        all_goals first | exact h.elim | (rename_i hh; cases hh)
    · cases hz
  | areturn =>
    simp only [xm_rz] at hz
    split at hz
    · rename_i hr2
      simp only [Option.some.injEq] at hz
      subst hz
      subst hr2
      simp only [xm_len] at hn
      subst hn
      intro H locs ls hW hF hl
      obtain ⟨nm, hnm⟩ := hrt
      simp only [xm_i, xi_ret] at h
      split at h
      · rename_i hh; cases hh
      · rename_i hh; cases hh
      · exact hQ _ _ _ (W.aret X.1 X.2.1 hnm (Or.inl ⟨nm, rfl⟩) (Or.inr ⟨_, rfl⟩) (fun t ht _ => xm_qend (v := some (.ref _)) h ht hW hF) hF.2.2 hd X.2.2.2.2.2.2.1)
      · exact hQ _ _ _ (W.aret X.1 X.2.1 hnm (Or.inl ⟨nm, rfl⟩) (Or.inl rfl) (fun t ht _ => xm_qend (v := some .null) h ht hW hF) hF.2.2 hd X.2.2.2.2.2.2.1)
      all_goals first | exact h.elim | (rename_i hh; cases hh)
    · cases hz
  | dreturn =>
    simp only [xm_rz] at hz
    split at hz
    · rename_i hr2
      simp only [Option.some.injEq] at hz
      subst hz
      subst hr2
      simp only [xm_len] at hn
      subst hn
      intro H locs ls hW hF hl
      simp only [xm_i, xi_ret] at h
      split at h
      · rename_i hh; cases hh
      · rename_i hh; cases hh
      · rename_i hh; cases hh
      · rename_i hh; cases hh
      · exact hQ _ _ _ (W.dret X.1 X.2.1 hrt (fun t ht _ => xm_qend (v := some (.double _)) h ht hW hF) hF.2.2 hd X.2.2.2.2.2.2.1)
      · exact h.elim
    · cases hz
  | return_ =>
    simp only [xm_rz] at hz
    split at hz
    · rename_i hr2
      simp only [Option.some.injEq] at hz
      subst hz
      subst hr2
      simp only [xm_len] at hn
      subst hn
      intro H locs ls hW hF hl
      simp only [xm_i, xi_retv] at h
      split at h
      · exact hQ _ _ _ (W.vret X.1 X.2.1 hrt (fun t ht _ => xm_qend (v := none) h ht hW hF) hF.2.2 hd X.2.2.2.2.2.2.1)
      · exact h.elim
    · cases hz
  | _ => simp [xm_rz] at hz
theorem xm_b_ok (X : xm_X E own nL cc p s m args meth c) (hini : ini = true → meth.name = "<init>") (hrt : xm_rt rt meth.sig.returnType) (hQ : ∀ (H : Heap) (locs : List Loc) (g : JFrame), W p l e R s m args below meth c H locs ce sl (MQ below (xm_Q E r) args s ce sl (xm_fr E)) g → W p l e R s m args below meth c H locs ce sl Q g) (hj : ∀ t L S M, j t L S M → xm_Rn E p l e R s m args below meth c nL ce sl Q t L S M) {en : Nat} : ∀ (as : List xm_I) (pc : Nat) (L S : List Value) (M : xm_M), xm_okb cc own nL rt ini en pc as = true → xm_b E.2.2.2.2 en j r as L S M → xm_Rn E p l e R s m args below meth c nL ce sl Q pc L S M
  | [], pc, L, S, M, h, hb => by
    simp only [xm_okb, beq_iff_eq] at h
    subst h
    exact hj _ _ _ _ hb
  | a :: as, pc, L, S, M, h, hb => by
    simp only [xm_okb] at h
    split at h
    · rename_i i n hd
      simp only [Bool.and_eq_true, decide_eq_true_eq] at h
      exact xm_i_ok X hini hrt hQ hd h.1.1 h.1.2 hb (fun L S M hk => xm_b_ok X hini hrt hQ hj as (pc + n) L S M h.2 hk) hj
    · cases h
end XMB

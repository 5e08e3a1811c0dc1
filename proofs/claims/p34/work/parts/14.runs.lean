/-! RUNS: blocks one behind another, up to given stops (loop heads; what is no block stops too) -/
def xm_lk (bs : List (Nat × Nat × List xm_I)) (pc : Nat) : Option (Nat × List xm_I) := match bs with
  | [] => none
  | b :: l => if b.1 = pc then some b.2 else xm_lk l pc
def xm_r (sc : Nat × (Nat → Int32)) (bs : List (Nat × Nat × List xm_I)) (st : List Nat) (j : Nat → List Value → List Value → xm_M → Prop) (r : Option Value → xm_M → Prop) : Nat → Nat → List Value → List Value → xm_M → Prop
  | 0, pc, L, S, M => j pc L S M
  | n + 1, pc, L, S, M => if pc ∈ st then j pc L S M else match xm_lk bs pc with
    | some (en, as) => xm_b sc en (xm_r sc bs st j r n) r as L S M
    | none => j pc L S M
theorem xm_r_s {sc : Nat × (Nat → Int32)} {bs : List (Nat × Nat × List xm_I)} {st : List Nat} {j : Nat → List Value → List Value → xm_M → Prop} {r : Option Value → xm_M → Prop} {n pc : Nat} {L S : List Value} {M : xm_M} : xm_r sc bs st j r (n + 1) pc L S M = (if pc ∈ st then j pc L S M else match xm_lk bs pc with
    | some (en, as) => xm_b sc en (xm_r sc bs st j r n) r as L S M
    | none => j pc L S M) := rfl
/-- one more block behind a stop's test; J is what comes behind -/
def xm_st (sc : Nat × (Nat → Int32)) (bs : List (Nat × Nat × List xm_I)) (st : List Nat) (j : Nat → List Value → List Value → xm_M → Prop) (r : Option Value → xm_M → Prop) (J : Nat → List Value → List Value → xm_M → Prop) (pc : Nat) (L S : List Value) (M : xm_M) : Prop := if pc ∈ st then j pc L S M else match xm_lk bs pc with
  | some (en, as) => xm_b sc en J r as L S M
  | none => j pc L S M
/-- from pc on, a stop or not -/
def xm_r0 (sc : Nat × (Nat → Int32)) (bs : List (Nat × Nat × List xm_I)) (r : Option Value → xm_M → Prop) (J : Nat → List Value → List Value → xm_M → Prop) (pc : Nat) (L S : List Value) (M : xm_M) : Prop := match xm_lk bs pc with
  | some (en, as) => xm_b sc en J r as L S M
  | none => False
theorem xm_lk_mem {pc en : Nat} {as : List xm_I} : ∀ {bs : List (Nat × Nat × List xm_I)}, xm_lk bs pc = some (en, as) → (pc, en, as) ∈ bs
  | [], h => by cases h
  | b :: l, h => by
    unfold xm_lk at h
    split at h
    · rename_i hb
      obtain ⟨b1, b2⟩ := b
      cases hb
      cases h
      exact List.mem_cons_self
    · exact List.mem_cons_of_mem _ (xm_lk_mem h)
def xm_oks (cc : ByteArray) (own nL rt : Nat) (ini : Bool) (bs : List (Nat × Nat × List xm_I)) : Prop := ∀ b ∈ bs, xm_okb cc own nL rt ini b.2.1 b.1 b.2.2 = true
section XMR
variable {E : xm_E} {Z : xm_Z} {own nL rt D mc ms ce sl pc : Nat} {ini : Bool} {cc : ByteArray} {r : Option Value → xm_M → Prop} {L S : List Value} {M : xm_M} {bs : List (Nat × Nat × List xm_I)}
theorem xm_r_ok (hY : xm_Y E own nL cc rt ini D mc ms Z) (hk : xm_oks cc own nL rt ini bs) (st : List Nat) : ∀ (n pc : Nat) (L S : List Value) (M : xm_M), xm_r E.2.2.2.2 bs st (xm_Go E Z nL mc ms r mc ms) r n pc L S M → xm_Go E Z nL mc ms r mc ms pc L S M
  | 0, _, _, _, _, h => h
  | n + 1, pc, L, S, M, h => by
    unfold xm_r at h
    split at h
    · exact h
    · split at h
      · rename_i en as hl
        exact xm_b_ok hY.1 hY.2.1 hY.2.2.1 (fun _ _ _ h => h) (fun t L S M h => xm_r_ok hY hk st n t L S M h) as pc L S M (hk _ (xm_lk_mem hl)) h
      · exact h
theorem xm_run (hY : xm_Y E own nL cc rt ini D mc ms Z) (hk : xm_oks cc own nL rt ini bs) (st : List Nat) (n : Nat) (h : ∀ J : Nat → Nat → List Value → List Value → xm_M → Prop, (∀ pc L S M, J 0 pc L S M = xm_Go E Z nL mc ms r mc ms pc L S M) → (∀ n pc L S M, J (n + 1) pc L S M = xm_st E.2.2.2.2 bs st (xm_Go E Z nL mc ms r mc ms) r (J n) pc L S M) → xm_r0 E.2.2.2.2 bs r (J n) pc L S M) : xm_Go E Z nL mc ms r mc ms pc L S M := by
  have h := h (xm_r E.2.2.2.2 bs st (xm_Go E Z nL mc ms r mc ms) r) (fun _ _ _ _ => rfl) (fun _ _ _ _ _ => rfl)
  unfold xm_r0 at h
  split at h
  · rename_i en as hl
    exact xm_b_ok hY.1 hY.2.1 hY.2.2.1 (fun _ _ _ h => h) (fun t L S M h => xm_r_ok hY hk st n t L S M h) as pc L S M (hk _ (xm_lk_mem hl)) h
  · exact h.elim
theorem xm_rA_ok (hY : xm_Y E own nL cc rt ini D mc ms Z) (hk : xm_oks cc own nL rt ini bs) (st : List Nat) : ∀ (n pc : Nat) (L S : List Value) (M : xm_M), xm_r E.2.2.2.2 bs st (xm_Go E Z nL mc ms r ce sl) (fun _ _ => False) n pc L S M → xm_Go E Z nL mc ms r ce sl pc L S M
  | 0, _, _, _, _, h => h
  | n + 1, pc, L, S, M, h => by
    unfold xm_r at h
    split at h
    · exact h
    · split at h
      · rename_i en as hl
        exact xm_b_ok hY.1 hY.2.1 hY.2.2.1 (fun H locs g hw T hT X => by
          obtain ⟨t, a1, o, b1, b2, ⟨⟨v, M1, -, h1, -⟩, -⟩, -⟩ := hw T hT X
          exact h1.elim) (fun t L S M h => xm_rA_ok hY hk st n t L S M h) as pc L S M (hk _ (xm_lk_mem hl)) h
      · exact h
/-- .. where nothing returns, with any number of cells made -/
theorem xm_runA (hY : xm_Y E own nL cc rt ini D mc ms Z) (hk : xm_oks cc own nL rt ini bs) (st : List Nat) (n : Nat) (h : ∀ J : Nat → Nat → List Value → List Value → xm_M → Prop, (∀ pc L S M, J 0 pc L S M = xm_Go E Z nL mc ms r ce sl pc L S M) → (∀ n pc L S M, J (n + 1) pc L S M = xm_st E.2.2.2.2 bs st (xm_Go E Z nL mc ms r ce sl) (fun _ _ => False) (J n) pc L S M) → xm_r0 E.2.2.2.2 bs (fun _ _ => False) (J n) pc L S M) : xm_Go E Z nL mc ms r ce sl pc L S M := by
  have h := h (xm_r E.2.2.2.2 bs st (xm_Go E Z nL mc ms r ce sl) (fun _ _ => False)) (fun _ _ _ _ => rfl) (fun _ _ _ _ _ => rfl)
  unfold xm_r0 at h
  split at h
  · rename_i en as hl
    exact xm_b_ok hY.1 hY.2.1 hY.2.2.1 (fun H locs g hw T hT X => by
      obtain ⟨t, a1, o, b1, b2, ⟨⟨v, M1, -, h1, -⟩, -⟩, -⟩ := hw T hT X
      exact h1.elim) (fun t L S M h => xm_rA_ok hY hk st n t L S M h) as pc L S M (hk _ (xm_lk_mem hl)) h
  · exact h.elim
end XMR
def kb_X0_init : List (Nat × Nat × List xm_I) := [(0, 1, kX0_init_0), (4, 7, kX0_init_4), (9, 13, kX0_init_9)]
theorem lb_X0_init_0 : xm_lk kb_X0_init 0 = some (1, kX0_init_0) := rfl
theorem lb_X0_init_4 : xm_lk kb_X0_init 4 = some (7, kX0_init_4) := rfl
theorem lb_X0_init_9 : xm_lk kb_X0_init 9 = some (13, kX0_init_9) := rfl
theorem lb_X0_init_1 : xm_lk kb_X0_init 1 = none := rfl
theorem lb_X0_init_7 : xm_lk kb_X0_init 7 = none := rfl
theorem lb_X0_init_13 : xm_lk kb_X0_init 13 = none := rfl
theorem kc_X0_init : xm_oks cX0_init 0 1 3 true kb_X0_init := (List.forall_mem_cons.mpr ⟨bk_X0_init_0, (List.forall_mem_cons.mpr ⟨bk_X0_init_4, (List.forall_mem_cons.mpr ⟨bk_X0_init_9, (fun _ h => absurd h List.not_mem_nil)⟩)⟩)⟩)
def kb_X0_begin : List (Nat × Nat × List xm_I) := [(0, 12, kX0_begin_0), (12, 26, kX0_begin_12), (26, 40, kX0_begin_26), (40, 52, kX0_begin_40), (52, 66, kX0_begin_52), (66, 80, kX0_begin_66), (80, 81, kX0_begin_80)]
theorem lb_X0_begin_0 : xm_lk kb_X0_begin 0 = some (12, kX0_begin_0) := rfl
theorem lb_X0_begin_12 : xm_lk kb_X0_begin 12 = some (26, kX0_begin_12) := rfl
theorem lb_X0_begin_26 : xm_lk kb_X0_begin 26 = some (40, kX0_begin_26) := rfl
theorem lb_X0_begin_40 : xm_lk kb_X0_begin 40 = some (52, kX0_begin_40) := rfl
theorem lb_X0_begin_52 : xm_lk kb_X0_begin 52 = some (66, kX0_begin_52) := rfl
theorem lb_X0_begin_66 : xm_lk kb_X0_begin 66 = some (80, kX0_begin_66) := rfl
theorem lb_X0_begin_80 : xm_lk kb_X0_begin 80 = some (81, kX0_begin_80) := rfl
theorem lb_X0_begin_81 : xm_lk kb_X0_begin 81 = none := rfl
theorem kc_X0_begin : xm_oks cX0_begin 0 3 3 false kb_X0_begin := (List.forall_mem_cons.mpr ⟨bk_X0_begin_0, (List.forall_mem_cons.mpr ⟨bk_X0_begin_12, (List.forall_mem_cons.mpr ⟨bk_X0_begin_26, (List.forall_mem_cons.mpr ⟨bk_X0_begin_40, (List.forall_mem_cons.mpr ⟨bk_X0_begin_52, (List.forall_mem_cons.mpr ⟨bk_X0_begin_66, (List.forall_mem_cons.mpr ⟨bk_X0_begin_80, (fun _ h => absurd h List.not_mem_nil)⟩)⟩)⟩)⟩)⟩)⟩)⟩)
def kb_X0_rides : List (Nat × Nat × List xm_I) := [(0, 15, kX0_rides_0), (15, 19, kX0_rides_15), (19, 20, kX0_rides_19), (20, 21, kX0_rides_20)]
theorem lb_X0_rides_0 : xm_lk kb_X0_rides 0 = some (15, kX0_rides_0) := rfl
theorem lb_X0_rides_15 : xm_lk kb_X0_rides 15 = some (19, kX0_rides_15) := rfl
theorem lb_X0_rides_19 : xm_lk kb_X0_rides 19 = some (20, kX0_rides_19) := rfl
theorem lb_X0_rides_20 : xm_lk kb_X0_rides 20 = some (21, kX0_rides_20) := rfl
theorem lb_X0_rides_21 : xm_lk kb_X0_rides 21 = none := rfl
theorem kc_X0_rides : xm_oks cX0_rides 0 1 1 false kb_X0_rides := (List.forall_mem_cons.mpr ⟨bk_X0_rides_0, (List.forall_mem_cons.mpr ⟨bk_X0_rides_15, (List.forall_mem_cons.mpr ⟨bk_X0_rides_19, (List.forall_mem_cons.mpr ⟨bk_X0_rides_20, (fun _ h => absurd h List.not_mem_nil)⟩)⟩)⟩)⟩)
def kb_X0_isCommanding : List (Nat × Nat × List xm_I) := [(0, 16, kX0_isCommanding_0), (28, 29, kX0_isCommanding_28), (29, 30, kX0_isCommanding_29), (16, 28, kX0_isCommanding_16)]
theorem lb_X0_isCommanding_0 : xm_lk kb_X0_isCommanding 0 = some (16, kX0_isCommanding_0) := rfl
theorem lb_X0_isCommanding_28 : xm_lk kb_X0_isCommanding 28 = some (29, kX0_isCommanding_28) := rfl
theorem lb_X0_isCommanding_29 : xm_lk kb_X0_isCommanding 29 = some (30, kX0_isCommanding_29) := rfl
theorem lb_X0_isCommanding_16 : xm_lk kb_X0_isCommanding 16 = some (28, kX0_isCommanding_16) := rfl
theorem lb_X0_isCommanding_30 : xm_lk kb_X0_isCommanding 30 = none := rfl
theorem kc_X0_isCommanding : xm_oks cX0_isCommanding 0 3 1 false kb_X0_isCommanding := (List.forall_mem_cons.mpr ⟨bk_X0_isCommanding_0, (List.forall_mem_cons.mpr ⟨bk_X0_isCommanding_28, (List.forall_mem_cons.mpr ⟨bk_X0_isCommanding_29, (List.forall_mem_cons.mpr ⟨bk_X0_isCommanding_16, (fun _ h => absurd h List.not_mem_nil)⟩)⟩)⟩)⟩)
def kb_X0_addSample : List (Nat × Nat × List xm_I) := [(0, 15, kX0_addSample_0), (40, 53, kX0_addSample_40), (53, 54, kX0_addSample_53), (15, 28, kX0_addSample_15), (28, 40, kX0_addSample_28)]
theorem lb_X0_addSample_0 : xm_lk kb_X0_addSample 0 = some (15, kX0_addSample_0) := rfl
theorem lb_X0_addSample_40 : xm_lk kb_X0_addSample 40 = some (53, kX0_addSample_40) := rfl
theorem lb_X0_addSample_53 : xm_lk kb_X0_addSample 53 = some (54, kX0_addSample_53) := rfl
theorem lb_X0_addSample_15 : xm_lk kb_X0_addSample 15 = some (28, kX0_addSample_15) := rfl
theorem lb_X0_addSample_28 : xm_lk kb_X0_addSample 28 = some (40, kX0_addSample_28) := rfl
theorem lb_X0_addSample_54 : xm_lk kb_X0_addSample 54 = none := rfl
theorem kc_X0_addSample : xm_oks cX0_addSample 0 2 3 false kb_X0_addSample := (List.forall_mem_cons.mpr ⟨bk_X0_addSample_0, (List.forall_mem_cons.mpr ⟨bk_X0_addSample_40, (List.forall_mem_cons.mpr ⟨bk_X0_addSample_53, (List.forall_mem_cons.mpr ⟨bk_X0_addSample_15, (List.forall_mem_cons.mpr ⟨bk_X0_addSample_28, (fun _ h => absurd h List.not_mem_nil)⟩)⟩)⟩)⟩)⟩)
def kb_X0_keptAt : List (Nat × Nat × List xm_I) := [(0, 16, kX0_keptAt_0), (29, 30, kX0_keptAt_29), (30, 31, kX0_keptAt_30), (16, 29, kX0_keptAt_16)]
theorem lb_X0_keptAt_0 : xm_lk kb_X0_keptAt 0 = some (16, kX0_keptAt_0) := rfl
theorem lb_X0_keptAt_29 : xm_lk kb_X0_keptAt 29 = some (30, kX0_keptAt_29) := rfl
theorem lb_X0_keptAt_30 : xm_lk kb_X0_keptAt 30 = some (31, kX0_keptAt_30) := rfl
theorem lb_X0_keptAt_16 : xm_lk kb_X0_keptAt 16 = some (29, kX0_keptAt_16) := rfl
theorem lb_X0_keptAt_31 : xm_lk kb_X0_keptAt 31 = none := rfl
theorem kc_X0_keptAt : xm_oks cX0_keptAt 0 2 0 false kb_X0_keptAt := (List.forall_mem_cons.mpr ⟨bk_X0_keptAt_0, (List.forall_mem_cons.mpr ⟨bk_X0_keptAt_29, (List.forall_mem_cons.mpr ⟨bk_X0_keptAt_30, (List.forall_mem_cons.mpr ⟨bk_X0_keptAt_16, (fun _ h => absurd h List.not_mem_nil)⟩)⟩)⟩)⟩)
def kb_X0_meanOfLatest : List (Nat × Nat × List xm_I) := [(0, 5, kX0_meanOfLatest_0), (8, 19, kX0_meanOfLatest_8), (19, 32, kX0_meanOfLatest_19), (35, 43, kX0_meanOfLatest_35), (43, 45, kX0_meanOfLatest_43), (48, 49, kX0_meanOfLatest_48)]
theorem lb_X0_meanOfLatest_0 : xm_lk kb_X0_meanOfLatest 0 = some (5, kX0_meanOfLatest_0) := rfl
theorem lb_X0_meanOfLatest_8 : xm_lk kb_X0_meanOfLatest 8 = some (19, kX0_meanOfLatest_8) := rfl
theorem lb_X0_meanOfLatest_19 : xm_lk kb_X0_meanOfLatest 19 = some (32, kX0_meanOfLatest_19) := rfl
theorem lb_X0_meanOfLatest_35 : xm_lk kb_X0_meanOfLatest 35 = some (43, kX0_meanOfLatest_35) := rfl
theorem lb_X0_meanOfLatest_43 : xm_lk kb_X0_meanOfLatest 43 = some (45, kX0_meanOfLatest_43) := rfl
theorem lb_X0_meanOfLatest_48 : xm_lk kb_X0_meanOfLatest 48 = some (49, kX0_meanOfLatest_48) := rfl
theorem lb_X0_meanOfLatest_5 : xm_lk kb_X0_meanOfLatest 5 = none := rfl
theorem lb_X0_meanOfLatest_32 : xm_lk kb_X0_meanOfLatest 32 = none := rfl
theorem lb_X0_meanOfLatest_45 : xm_lk kb_X0_meanOfLatest 45 = none := rfl
theorem lb_X0_meanOfLatest_49 : xm_lk kb_X0_meanOfLatest 49 = none := rfl
theorem kc_X0_meanOfLatest : xm_oks cX0_meanOfLatest 0 5 0 false kb_X0_meanOfLatest := (List.forall_mem_cons.mpr ⟨bk_X0_meanOfLatest_0, (List.forall_mem_cons.mpr ⟨bk_X0_meanOfLatest_8, (List.forall_mem_cons.mpr ⟨bk_X0_meanOfLatest_19, (List.forall_mem_cons.mpr ⟨bk_X0_meanOfLatest_35, (List.forall_mem_cons.mpr ⟨bk_X0_meanOfLatest_43, (List.forall_mem_cons.mpr ⟨bk_X0_meanOfLatest_48, (fun _ h => absurd h List.not_mem_nil)⟩)⟩)⟩)⟩)⟩)⟩)
def kb_X0_spreadOfLatest : List (Nat × Nat × List xm_I) := [(0, 5, kX0_spreadOfLatest_0), (8, 16, kX0_spreadOfLatest_8), (19, 31, kX0_spreadOfLatest_19), (31, 44, kX0_spreadOfLatest_31), (50, 56, kX0_spreadOfLatest_50), (62, 70, kX0_spreadOfLatest_62), (70, 75, kX0_spreadOfLatest_70)]
theorem lb_X0_spreadOfLatest_0 : xm_lk kb_X0_spreadOfLatest 0 = some (5, kX0_spreadOfLatest_0) := rfl
theorem lb_X0_spreadOfLatest_8 : xm_lk kb_X0_spreadOfLatest 8 = some (16, kX0_spreadOfLatest_8) := rfl
theorem lb_X0_spreadOfLatest_19 : xm_lk kb_X0_spreadOfLatest 19 = some (31, kX0_spreadOfLatest_19) := rfl
theorem lb_X0_spreadOfLatest_31 : xm_lk kb_X0_spreadOfLatest 31 = some (44, kX0_spreadOfLatest_31) := rfl
theorem lb_X0_spreadOfLatest_50 : xm_lk kb_X0_spreadOfLatest 50 = some (56, kX0_spreadOfLatest_50) := rfl
theorem lb_X0_spreadOfLatest_62 : xm_lk kb_X0_spreadOfLatest 62 = some (70, kX0_spreadOfLatest_62) := rfl
theorem lb_X0_spreadOfLatest_70 : xm_lk kb_X0_spreadOfLatest 70 = some (75, kX0_spreadOfLatest_70) := rfl
theorem lb_X0_spreadOfLatest_5 : xm_lk kb_X0_spreadOfLatest 5 = none := rfl
theorem lb_X0_spreadOfLatest_16 : xm_lk kb_X0_spreadOfLatest 16 = none := rfl
theorem lb_X0_spreadOfLatest_44 : xm_lk kb_X0_spreadOfLatest 44 = none := rfl
theorem lb_X0_spreadOfLatest_56 : xm_lk kb_X0_spreadOfLatest 56 = none := rfl
theorem lb_X0_spreadOfLatest_75 : xm_lk kb_X0_spreadOfLatest 75 = none := rfl
theorem kc_X0_spreadOfLatest : xm_oks cX0_spreadOfLatest 0 6 0 false kb_X0_spreadOfLatest := (List.forall_mem_cons.mpr ⟨bk_X0_spreadOfLatest_0, (List.forall_mem_cons.mpr ⟨bk_X0_spreadOfLatest_8, (List.forall_mem_cons.mpr ⟨bk_X0_spreadOfLatest_19, (List.forall_mem_cons.mpr ⟨bk_X0_spreadOfLatest_31, (List.forall_mem_cons.mpr ⟨bk_X0_spreadOfLatest_50, (List.forall_mem_cons.mpr ⟨bk_X0_spreadOfLatest_62, (List.forall_mem_cons.mpr ⟨bk_X0_spreadOfLatest_70, (fun _ h => absurd h List.not_mem_nil)⟩)⟩)⟩)⟩)⟩)⟩)⟩)
def kb_X1_init : List (Nat × Nat × List xm_I) := [(0, 1, kX1_init_0), (4, 6, kX1_init_4), (8, 13, kX1_init_8), (15, 20, kX1_init_15), (22, 27, kX1_init_22), (29, 34, kX1_init_29), (36, 42, kX1_init_36), (45, 51, kX1_init_45), (53, 58, kX1_init_53), (58, 72, kX1_init_58), (75, 76, kX1_init_75), (80, 86, kX1_init_80), (86, 88, kX1_init_86), (91, 92, kX1_init_91)]
theorem lb_X1_init_0 : xm_lk kb_X1_init 0 = some (1, kX1_init_0) := rfl
theorem lb_X1_init_4 : xm_lk kb_X1_init 4 = some (6, kX1_init_4) := rfl
theorem lb_X1_init_8 : xm_lk kb_X1_init 8 = some (13, kX1_init_8) := rfl
theorem lb_X1_init_15 : xm_lk kb_X1_init 15 = some (20, kX1_init_15) := rfl
theorem lb_X1_init_22 : xm_lk kb_X1_init 22 = some (27, kX1_init_22) := rfl
theorem lb_X1_init_29 : xm_lk kb_X1_init 29 = some (34, kX1_init_29) := rfl
theorem lb_X1_init_36 : xm_lk kb_X1_init 36 = some (42, kX1_init_36) := rfl
theorem lb_X1_init_45 : xm_lk kb_X1_init 45 = some (51, kX1_init_45) := rfl
theorem lb_X1_init_53 : xm_lk kb_X1_init 53 = some (58, kX1_init_53) := rfl
theorem lb_X1_init_58 : xm_lk kb_X1_init 58 = some (72, kX1_init_58) := rfl
theorem lb_X1_init_75 : xm_lk kb_X1_init 75 = some (76, kX1_init_75) := rfl
theorem lb_X1_init_80 : xm_lk kb_X1_init 80 = some (86, kX1_init_80) := rfl
theorem lb_X1_init_86 : xm_lk kb_X1_init 86 = some (88, kX1_init_86) := rfl
theorem lb_X1_init_91 : xm_lk kb_X1_init 91 = some (92, kX1_init_91) := rfl
theorem lb_X1_init_1 : xm_lk kb_X1_init 1 = none := rfl
theorem lb_X1_init_6 : xm_lk kb_X1_init 6 = none := rfl
theorem lb_X1_init_13 : xm_lk kb_X1_init 13 = none := rfl
theorem lb_X1_init_20 : xm_lk kb_X1_init 20 = none := rfl
theorem lb_X1_init_27 : xm_lk kb_X1_init 27 = none := rfl
theorem lb_X1_init_34 : xm_lk kb_X1_init 34 = none := rfl
theorem lb_X1_init_42 : xm_lk kb_X1_init 42 = none := rfl
theorem lb_X1_init_51 : xm_lk kb_X1_init 51 = none := rfl
theorem lb_X1_init_72 : xm_lk kb_X1_init 72 = none := rfl
theorem lb_X1_init_76 : xm_lk kb_X1_init 76 = none := rfl
theorem lb_X1_init_88 : xm_lk kb_X1_init 88 = none := rfl
theorem lb_X1_init_92 : xm_lk kb_X1_init 92 = none := rfl
theorem kc_X1_init : xm_oks cX1_init 1 3 3 true kb_X1_init := (List.forall_mem_cons.mpr ⟨bk_X1_init_0, (List.forall_mem_cons.mpr ⟨bk_X1_init_4, (List.forall_mem_cons.mpr ⟨bk_X1_init_8, (List.forall_mem_cons.mpr ⟨bk_X1_init_15, (List.forall_mem_cons.mpr ⟨bk_X1_init_22, (List.forall_mem_cons.mpr ⟨bk_X1_init_29, (List.forall_mem_cons.mpr ⟨bk_X1_init_36, (List.forall_mem_cons.mpr ⟨bk_X1_init_45, (List.forall_mem_cons.mpr ⟨bk_X1_init_53, (List.forall_mem_cons.mpr ⟨bk_X1_init_58, (List.forall_mem_cons.mpr ⟨bk_X1_init_75, (List.forall_mem_cons.mpr ⟨bk_X1_init_80, (List.forall_mem_cons.mpr ⟨bk_X1_init_86, (List.forall_mem_cons.mpr ⟨bk_X1_init_91, (fun _ h => absurd h List.not_mem_nil)⟩)⟩)⟩)⟩)⟩)⟩)⟩)⟩)⟩)⟩)⟩)⟩)⟩)⟩)
def kb_X1_begin : List (Nat × Nat × List xm_I) := [(0, 12, kX1_begin_0), (48, 60, kX1_begin_48), (94, 106, kX1_begin_94), (12, 28, kX1_begin_12), (60, 72, kX1_begin_60), (106, 110, kX1_begin_106), (28, 42, kX1_begin_28), (72, 82, kX1_begin_72), (42, 48, kX1_begin_42), (82, 94, kX1_begin_82)]
theorem lb_X1_begin_0 : xm_lk kb_X1_begin 0 = some (12, kX1_begin_0) := rfl
theorem lb_X1_begin_48 : xm_lk kb_X1_begin 48 = some (60, kX1_begin_48) := rfl
theorem lb_X1_begin_94 : xm_lk kb_X1_begin 94 = some (106, kX1_begin_94) := rfl
theorem lb_X1_begin_12 : xm_lk kb_X1_begin 12 = some (28, kX1_begin_12) := rfl
theorem lb_X1_begin_60 : xm_lk kb_X1_begin 60 = some (72, kX1_begin_60) := rfl
theorem lb_X1_begin_106 : xm_lk kb_X1_begin 106 = some (110, kX1_begin_106) := rfl
theorem lb_X1_begin_28 : xm_lk kb_X1_begin 28 = some (42, kX1_begin_28) := rfl
theorem lb_X1_begin_72 : xm_lk kb_X1_begin 72 = some (82, kX1_begin_72) := rfl
theorem lb_X1_begin_42 : xm_lk kb_X1_begin 42 = some (48, kX1_begin_42) := rfl
theorem lb_X1_begin_82 : xm_lk kb_X1_begin 82 = some (94, kX1_begin_82) := rfl
theorem lb_X1_begin_110 : xm_lk kb_X1_begin 110 = none := rfl
theorem kc_X1_begin : xm_oks cX1_begin 1 3 3 false kb_X1_begin := (List.forall_mem_cons.mpr ⟨bk_X1_begin_0, (List.forall_mem_cons.mpr ⟨bk_X1_begin_48, (List.forall_mem_cons.mpr ⟨bk_X1_begin_94, (List.forall_mem_cons.mpr ⟨bk_X1_begin_12, (List.forall_mem_cons.mpr ⟨bk_X1_begin_60, (List.forall_mem_cons.mpr ⟨bk_X1_begin_106, (List.forall_mem_cons.mpr ⟨bk_X1_begin_28, (List.forall_mem_cons.mpr ⟨bk_X1_begin_72, (List.forall_mem_cons.mpr ⟨bk_X1_begin_42, (List.forall_mem_cons.mpr ⟨bk_X1_begin_82, (fun _ h => absurd h List.not_mem_nil)⟩)⟩)⟩)⟩)⟩)⟩)⟩)⟩)⟩)⟩)
def kb_X1_find : List (Nat × Nat × List xm_I) := [(0, 16, kX1_find_0), (21, 22, kX1_find_21), (22, 23, kX1_find_22), (16, 21, kX1_find_16)]
theorem lb_X1_find_0 : xm_lk kb_X1_find 0 = some (16, kX1_find_0) := rfl
theorem lb_X1_find_21 : xm_lk kb_X1_find 21 = some (22, kX1_find_21) := rfl
theorem lb_X1_find_22 : xm_lk kb_X1_find 22 = some (23, kX1_find_22) := rfl
theorem lb_X1_find_16 : xm_lk kb_X1_find 16 = some (21, kX1_find_16) := rfl
theorem lb_X1_find_23 : xm_lk kb_X1_find 23 = none := rfl
theorem kc_X1_find : xm_oks cX1_find 1 2 2 false kb_X1_find := (List.forall_mem_cons.mpr ⟨bk_X1_find_0, (List.forall_mem_cons.mpr ⟨bk_X1_find_21, (List.forall_mem_cons.mpr ⟨bk_X1_find_22, (List.forall_mem_cons.mpr ⟨bk_X1_find_16, (fun _ h => absurd h List.not_mem_nil)⟩)⟩)⟩)⟩)
def kb_X1_hasRoom : List (Nat × Nat × List xm_I) := [(0, 11, kX1_hasRoom_0), (11, 18, kX1_hasRoom_11), (21, 27, kX1_hasRoom_21), (30, 44, kX1_hasRoom_30), (44, 48, kX1_hasRoom_44), (48, 49, kX1_hasRoom_48), (49, 50, kX1_hasRoom_49)]
theorem lb_X1_hasRoom_0 : xm_lk kb_X1_hasRoom 0 = some (11, kX1_hasRoom_0) := rfl
theorem lb_X1_hasRoom_11 : xm_lk kb_X1_hasRoom 11 = some (18, kX1_hasRoom_11) := rfl
theorem lb_X1_hasRoom_21 : xm_lk kb_X1_hasRoom 21 = some (27, kX1_hasRoom_21) := rfl
theorem lb_X1_hasRoom_30 : xm_lk kb_X1_hasRoom 30 = some (44, kX1_hasRoom_30) := rfl
theorem lb_X1_hasRoom_44 : xm_lk kb_X1_hasRoom 44 = some (48, kX1_hasRoom_44) := rfl
theorem lb_X1_hasRoom_48 : xm_lk kb_X1_hasRoom 48 = some (49, kX1_hasRoom_48) := rfl
theorem lb_X1_hasRoom_49 : xm_lk kb_X1_hasRoom 49 = some (50, kX1_hasRoom_49) := rfl
theorem lb_X1_hasRoom_18 : xm_lk kb_X1_hasRoom 18 = none := rfl
theorem lb_X1_hasRoom_27 : xm_lk kb_X1_hasRoom 27 = none := rfl
theorem lb_X1_hasRoom_50 : xm_lk kb_X1_hasRoom 50 = none := rfl
theorem kc_X1_hasRoom : xm_oks cX1_hasRoom 1 2 1 false kb_X1_hasRoom := (List.forall_mem_cons.mpr ⟨bk_X1_hasRoom_0, (List.forall_mem_cons.mpr ⟨bk_X1_hasRoom_11, (List.forall_mem_cons.mpr ⟨bk_X1_hasRoom_21, (List.forall_mem_cons.mpr ⟨bk_X1_hasRoom_30, (List.forall_mem_cons.mpr ⟨bk_X1_hasRoom_44, (List.forall_mem_cons.mpr ⟨bk_X1_hasRoom_48, (List.forall_mem_cons.mpr ⟨bk_X1_hasRoom_49, (fun _ h => absurd h List.not_mem_nil)⟩)⟩)⟩)⟩)⟩)⟩)⟩)
def kb_X1_add : List (Nat × Nat × List xm_I) := [(0, 11, kX1_add_0), (11, 22, kX1_add_11), (25, 39, kX1_add_25), (39, 42, kX1_add_39)]
theorem lb_X1_add_0 : xm_lk kb_X1_add 0 = some (11, kX1_add_0) := rfl
theorem lb_X1_add_11 : xm_lk kb_X1_add 11 = some (22, kX1_add_11) := rfl
theorem lb_X1_add_25 : xm_lk kb_X1_add 25 = some (39, kX1_add_25) := rfl
theorem lb_X1_add_39 : xm_lk kb_X1_add 39 = some (42, kX1_add_39) := rfl
theorem lb_X1_add_22 : xm_lk kb_X1_add 22 = none := rfl
theorem lb_X1_add_42 : xm_lk kb_X1_add 42 = none := rfl
theorem kc_X1_add : xm_oks cX1_add 1 3 0 false kb_X1_add := (List.forall_mem_cons.mpr ⟨bk_X1_add_0, (List.forall_mem_cons.mpr ⟨bk_X1_add_11, (List.forall_mem_cons.mpr ⟨bk_X1_add_25, (List.forall_mem_cons.mpr ⟨bk_X1_add_39, (fun _ h => absurd h List.not_mem_nil)⟩)⟩)⟩)⟩)
def kb_X1_tick : List (Nat × Nat × List xm_I) := [(0, 11, kX1_tick_0), (14, 15, kX1_tick_14), (18, 19, kX1_tick_18), (22, 23, kX1_tick_22), (26, 27, kX1_tick_26), (30, 31, kX1_tick_30), (34, 35, kX1_tick_34), (38, 39, kX1_tick_38), (42, 43, kX1_tick_42)]
theorem lb_X1_tick_0 : xm_lk kb_X1_tick 0 = some (11, kX1_tick_0) := rfl
theorem lb_X1_tick_14 : xm_lk kb_X1_tick 14 = some (15, kX1_tick_14) := rfl
theorem lb_X1_tick_18 : xm_lk kb_X1_tick 18 = some (19, kX1_tick_18) := rfl
theorem lb_X1_tick_22 : xm_lk kb_X1_tick 22 = some (23, kX1_tick_22) := rfl
theorem lb_X1_tick_26 : xm_lk kb_X1_tick 26 = some (27, kX1_tick_26) := rfl
theorem lb_X1_tick_30 : xm_lk kb_X1_tick 30 = some (31, kX1_tick_30) := rfl
theorem lb_X1_tick_34 : xm_lk kb_X1_tick 34 = some (35, kX1_tick_34) := rfl
theorem lb_X1_tick_38 : xm_lk kb_X1_tick 38 = some (39, kX1_tick_38) := rfl
theorem lb_X1_tick_42 : xm_lk kb_X1_tick 42 = some (43, kX1_tick_42) := rfl
theorem lb_X1_tick_11 : xm_lk kb_X1_tick 11 = none := rfl
theorem lb_X1_tick_15 : xm_lk kb_X1_tick 15 = none := rfl
theorem lb_X1_tick_19 : xm_lk kb_X1_tick 19 = none := rfl
theorem lb_X1_tick_23 : xm_lk kb_X1_tick 23 = none := rfl
theorem lb_X1_tick_27 : xm_lk kb_X1_tick 27 = none := rfl
theorem lb_X1_tick_31 : xm_lk kb_X1_tick 31 = none := rfl
theorem lb_X1_tick_35 : xm_lk kb_X1_tick 35 = none := rfl
theorem lb_X1_tick_39 : xm_lk kb_X1_tick 39 = none := rfl
theorem lb_X1_tick_43 : xm_lk kb_X1_tick 43 = none := rfl
theorem kc_X1_tick : xm_oks cX1_tick 1 1 3 false kb_X1_tick := (List.forall_mem_cons.mpr ⟨bk_X1_tick_0, (List.forall_mem_cons.mpr ⟨bk_X1_tick_14, (List.forall_mem_cons.mpr ⟨bk_X1_tick_18, (List.forall_mem_cons.mpr ⟨bk_X1_tick_22, (List.forall_mem_cons.mpr ⟨bk_X1_tick_26, (List.forall_mem_cons.mpr ⟨bk_X1_tick_30, (List.forall_mem_cons.mpr ⟨bk_X1_tick_34, (List.forall_mem_cons.mpr ⟨bk_X1_tick_38, (List.forall_mem_cons.mpr ⟨bk_X1_tick_42, (fun _ h => absurd h List.not_mem_nil)⟩)⟩)⟩)⟩)⟩)⟩)⟩)⟩)⟩)
def kb_X1_moveItems : List (Nat × Nat × List xm_I) := [(0, 5, kX1_moveItems_0), (5, 19, kX1_moveItems_5), (22, 36, kX1_moveItems_22), (46, 52, kX1_moveItems_46), (52, 53, kX1_moveItems_52), (36, 46, kX1_moveItems_36)]
theorem lb_X1_moveItems_0 : xm_lk kb_X1_moveItems 0 = some (5, kX1_moveItems_0) := rfl
theorem lb_X1_moveItems_5 : xm_lk kb_X1_moveItems 5 = some (19, kX1_moveItems_5) := rfl
theorem lb_X1_moveItems_22 : xm_lk kb_X1_moveItems 22 = some (36, kX1_moveItems_22) := rfl
theorem lb_X1_moveItems_46 : xm_lk kb_X1_moveItems 46 = some (52, kX1_moveItems_46) := rfl
theorem lb_X1_moveItems_52 : xm_lk kb_X1_moveItems 52 = some (53, kX1_moveItems_52) := rfl
theorem lb_X1_moveItems_36 : xm_lk kb_X1_moveItems 36 = some (46, kX1_moveItems_36) := rfl
theorem lb_X1_moveItems_19 : xm_lk kb_X1_moveItems 19 = none := rfl
theorem lb_X1_moveItems_53 : xm_lk kb_X1_moveItems 53 = none := rfl
theorem kc_X1_moveItems : xm_oks cX1_moveItems 1 2 3 false kb_X1_moveItems := (List.forall_mem_cons.mpr ⟨bk_X1_moveItems_0, (List.forall_mem_cons.mpr ⟨bk_X1_moveItems_5, (List.forall_mem_cons.mpr ⟨bk_X1_moveItems_22, (List.forall_mem_cons.mpr ⟨bk_X1_moveItems_46, (List.forall_mem_cons.mpr ⟨bk_X1_moveItems_52, (List.forall_mem_cons.mpr ⟨bk_X1_moveItems_36, (fun _ h => absurd h List.not_mem_nil)⟩)⟩)⟩)⟩)⟩)⟩)
def kb_X1_readCell : List (Nat × Nat × List xm_I) := [(0, 8, kX1_readCell_0), (11, 22, kX1_readCell_11), (22, 36, kX1_readCell_22), (41, 56, kX1_readCell_41), (59, 73, kX1_readCell_59), (92, 97, kX1_readCell_92), (100, 102, kX1_readCell_100), (102, 108, kX1_readCell_102), (108, 121, kX1_readCell_108), (36, 38, kX1_readCell_36), (73, 89, kX1_readCell_73), (121, 122, kX1_readCell_121)]
theorem lb_X1_readCell_0 : xm_lk kb_X1_readCell 0 = some (8, kX1_readCell_0) := rfl
theorem lb_X1_readCell_11 : xm_lk kb_X1_readCell 11 = some (22, kX1_readCell_11) := rfl
theorem lb_X1_readCell_22 : xm_lk kb_X1_readCell 22 = some (36, kX1_readCell_22) := rfl
theorem lb_X1_readCell_41 : xm_lk kb_X1_readCell 41 = some (56, kX1_readCell_41) := rfl
theorem lb_X1_readCell_59 : xm_lk kb_X1_readCell 59 = some (73, kX1_readCell_59) := rfl
theorem lb_X1_readCell_92 : xm_lk kb_X1_readCell 92 = some (97, kX1_readCell_92) := rfl
theorem lb_X1_readCell_100 : xm_lk kb_X1_readCell 100 = some (102, kX1_readCell_100) := rfl
theorem lb_X1_readCell_102 : xm_lk kb_X1_readCell 102 = some (108, kX1_readCell_102) := rfl
theorem lb_X1_readCell_108 : xm_lk kb_X1_readCell 108 = some (121, kX1_readCell_108) := rfl
theorem lb_X1_readCell_36 : xm_lk kb_X1_readCell 36 = some (38, kX1_readCell_36) := rfl
theorem lb_X1_readCell_73 : xm_lk kb_X1_readCell 73 = some (89, kX1_readCell_73) := rfl
theorem lb_X1_readCell_121 : xm_lk kb_X1_readCell 121 = some (122, kX1_readCell_121) := rfl
theorem lb_X1_readCell_8 : xm_lk kb_X1_readCell 8 = none := rfl
theorem lb_X1_readCell_38 : xm_lk kb_X1_readCell 38 = none := rfl
theorem lb_X1_readCell_56 : xm_lk kb_X1_readCell 56 = none := rfl
theorem lb_X1_readCell_89 : xm_lk kb_X1_readCell 89 = none := rfl
theorem lb_X1_readCell_97 : xm_lk kb_X1_readCell 97 = none := rfl
theorem lb_X1_readCell_122 : xm_lk kb_X1_readCell 122 = none := rfl
theorem kc_X1_readCell : xm_oks cX1_readCell 1 4 3 false kb_X1_readCell := (List.forall_mem_cons.mpr ⟨bk_X1_readCell_0, (List.forall_mem_cons.mpr ⟨bk_X1_readCell_11, (List.forall_mem_cons.mpr ⟨bk_X1_readCell_22, (List.forall_mem_cons.mpr ⟨bk_X1_readCell_41, (List.forall_mem_cons.mpr ⟨bk_X1_readCell_59, (List.forall_mem_cons.mpr ⟨bk_X1_readCell_92, (List.forall_mem_cons.mpr ⟨bk_X1_readCell_100, (List.forall_mem_cons.mpr ⟨bk_X1_readCell_102, (List.forall_mem_cons.mpr ⟨bk_X1_readCell_108, (List.forall_mem_cons.mpr ⟨bk_X1_readCell_36, (List.forall_mem_cons.mpr ⟨bk_X1_readCell_73, (List.forall_mem_cons.mpr ⟨bk_X1_readCell_121, (fun _ h => absurd h List.not_mem_nil)⟩)⟩)⟩)⟩)⟩)⟩)⟩)⟩)⟩)⟩)⟩)⟩)
def kb_X1_collectSamples : List (Nat × Nat × List xm_I) := [(0, 5, kX1_collectSamples_0), (5, 19, kX1_collectSamples_5), (24, 39, kX1_collectSamples_24), (42, 56, kX1_collectSamples_42), (62, 65, kX1_collectSamples_62), (65, 70, kX1_collectSamples_65), (70, 76, kX1_collectSamples_70), (76, 77, kX1_collectSamples_76), (19, 21, kX1_collectSamples_19)]
theorem lb_X1_collectSamples_0 : xm_lk kb_X1_collectSamples 0 = some (5, kX1_collectSamples_0) := rfl
theorem lb_X1_collectSamples_5 : xm_lk kb_X1_collectSamples 5 = some (19, kX1_collectSamples_5) := rfl
theorem lb_X1_collectSamples_24 : xm_lk kb_X1_collectSamples 24 = some (39, kX1_collectSamples_24) := rfl
theorem lb_X1_collectSamples_42 : xm_lk kb_X1_collectSamples 42 = some (56, kX1_collectSamples_42) := rfl
theorem lb_X1_collectSamples_62 : xm_lk kb_X1_collectSamples 62 = some (65, kX1_collectSamples_62) := rfl
theorem lb_X1_collectSamples_65 : xm_lk kb_X1_collectSamples 65 = some (70, kX1_collectSamples_65) := rfl
theorem lb_X1_collectSamples_70 : xm_lk kb_X1_collectSamples 70 = some (76, kX1_collectSamples_70) := rfl
theorem lb_X1_collectSamples_76 : xm_lk kb_X1_collectSamples 76 = some (77, kX1_collectSamples_76) := rfl
theorem lb_X1_collectSamples_19 : xm_lk kb_X1_collectSamples 19 = some (21, kX1_collectSamples_19) := rfl
theorem lb_X1_collectSamples_21 : xm_lk kb_X1_collectSamples 21 = none := rfl
theorem lb_X1_collectSamples_39 : xm_lk kb_X1_collectSamples 39 = none := rfl
theorem lb_X1_collectSamples_56 : xm_lk kb_X1_collectSamples 56 = none := rfl
theorem lb_X1_collectSamples_77 : xm_lk kb_X1_collectSamples 77 = none := rfl
theorem kc_X1_collectSamples : xm_oks cX1_collectSamples 1 3 3 false kb_X1_collectSamples := (List.forall_mem_cons.mpr ⟨bk_X1_collectSamples_0, (List.forall_mem_cons.mpr ⟨bk_X1_collectSamples_5, (List.forall_mem_cons.mpr ⟨bk_X1_collectSamples_24, (List.forall_mem_cons.mpr ⟨bk_X1_collectSamples_42, (List.forall_mem_cons.mpr ⟨bk_X1_collectSamples_62, (List.forall_mem_cons.mpr ⟨bk_X1_collectSamples_65, (List.forall_mem_cons.mpr ⟨bk_X1_collectSamples_70, (List.forall_mem_cons.mpr ⟨bk_X1_collectSamples_76, (List.forall_mem_cons.mpr ⟨bk_X1_collectSamples_19, (fun _ h => absurd h List.not_mem_nil)⟩)⟩)⟩)⟩)⟩)⟩)⟩)⟩)⟩)
def kb_X1_decideItems : List (Nat × Nat × List xm_I) := [(0, 5, kX1_decideItems_0), (5, 19, kX1_decideItems_5), (54, 60, kX1_decideItems_54), (60, 61, kX1_decideItems_60), (19, 35, kX1_decideItems_19), (35, 51, kX1_decideItems_35)]
theorem lb_X1_decideItems_0 : xm_lk kb_X1_decideItems 0 = some (5, kX1_decideItems_0) := rfl
theorem lb_X1_decideItems_5 : xm_lk kb_X1_decideItems 5 = some (19, kX1_decideItems_5) := rfl
theorem lb_X1_decideItems_54 : xm_lk kb_X1_decideItems 54 = some (60, kX1_decideItems_54) := rfl
theorem lb_X1_decideItems_60 : xm_lk kb_X1_decideItems 60 = some (61, kX1_decideItems_60) := rfl
theorem lb_X1_decideItems_19 : xm_lk kb_X1_decideItems 19 = some (35, kX1_decideItems_19) := rfl
theorem lb_X1_decideItems_35 : xm_lk kb_X1_decideItems 35 = some (51, kX1_decideItems_35) := rfl
theorem lb_X1_decideItems_51 : xm_lk kb_X1_decideItems 51 = none := rfl
theorem lb_X1_decideItems_61 : xm_lk kb_X1_decideItems 61 = none := rfl
theorem kc_X1_decideItems : xm_oks cX1_decideItems 1 2 3 false kb_X1_decideItems := (List.forall_mem_cons.mpr ⟨bk_X1_decideItems_0, (List.forall_mem_cons.mpr ⟨bk_X1_decideItems_5, (List.forall_mem_cons.mpr ⟨bk_X1_decideItems_54, (List.forall_mem_cons.mpr ⟨bk_X1_decideItems_60, (List.forall_mem_cons.mpr ⟨bk_X1_decideItems_19, (List.forall_mem_cons.mpr ⟨bk_X1_decideItems_35, (fun _ h => absurd h List.not_mem_nil)⟩)⟩)⟩)⟩)⟩)⟩)
def kb_X1_decide : List (Nat × Nat × List xm_I) := [(0, 4, kX1_decide_0), (7, 21, kX1_decide_7), (26, 34, kX1_decide_26), (34, 38, kX1_decide_34), (41, 57, kX1_decide_41), (69, 83, kX1_decide_69), (93, 102, kX1_decide_93), (105, 106, kX1_decide_105), (21, 23, kX1_decide_21), (57, 66, kX1_decide_57), (83, 90, kX1_decide_83)]
theorem lb_X1_decide_0 : xm_lk kb_X1_decide 0 = some (4, kX1_decide_0) := rfl
theorem lb_X1_decide_7 : xm_lk kb_X1_decide 7 = some (21, kX1_decide_7) := rfl
theorem lb_X1_decide_26 : xm_lk kb_X1_decide 26 = some (34, kX1_decide_26) := rfl
theorem lb_X1_decide_34 : xm_lk kb_X1_decide 34 = some (38, kX1_decide_34) := rfl
theorem lb_X1_decide_41 : xm_lk kb_X1_decide 41 = some (57, kX1_decide_41) := rfl
theorem lb_X1_decide_69 : xm_lk kb_X1_decide 69 = some (83, kX1_decide_69) := rfl
theorem lb_X1_decide_93 : xm_lk kb_X1_decide 93 = some (102, kX1_decide_93) := rfl
theorem lb_X1_decide_105 : xm_lk kb_X1_decide 105 = some (106, kX1_decide_105) := rfl
theorem lb_X1_decide_21 : xm_lk kb_X1_decide 21 = some (23, kX1_decide_21) := rfl
theorem lb_X1_decide_57 : xm_lk kb_X1_decide 57 = some (66, kX1_decide_57) := rfl
theorem lb_X1_decide_83 : xm_lk kb_X1_decide 83 = some (90, kX1_decide_83) := rfl
theorem lb_X1_decide_4 : xm_lk kb_X1_decide 4 = none := rfl
theorem lb_X1_decide_23 : xm_lk kb_X1_decide 23 = none := rfl
theorem lb_X1_decide_38 : xm_lk kb_X1_decide 38 = none := rfl
theorem lb_X1_decide_66 : xm_lk kb_X1_decide 66 = none := rfl
theorem lb_X1_decide_90 : xm_lk kb_X1_decide 90 = none := rfl
theorem lb_X1_decide_102 : xm_lk kb_X1_decide 102 = none := rfl
theorem lb_X1_decide_106 : xm_lk kb_X1_decide 106 = none := rfl
theorem kc_X1_decide : xm_oks cX1_decide 1 3 3 false kb_X1_decide := (List.forall_mem_cons.mpr ⟨bk_X1_decide_0, (List.forall_mem_cons.mpr ⟨bk_X1_decide_7, (List.forall_mem_cons.mpr ⟨bk_X1_decide_26, (List.forall_mem_cons.mpr ⟨bk_X1_decide_34, (List.forall_mem_cons.mpr ⟨bk_X1_decide_41, (List.forall_mem_cons.mpr ⟨bk_X1_decide_69, (List.forall_mem_cons.mpr ⟨bk_X1_decide_93, (List.forall_mem_cons.mpr ⟨bk_X1_decide_105, (List.forall_mem_cons.mpr ⟨bk_X1_decide_21, (List.forall_mem_cons.mpr ⟨bk_X1_decide_57, (List.forall_mem_cons.mpr ⟨bk_X1_decide_83, (fun _ h => absurd h List.not_mem_nil)⟩)⟩)⟩)⟩)⟩)⟩)⟩)⟩)⟩)⟩)⟩)
def kb_X1_kindOf : List (Nat × Nat × List xm_I) := [(0, 18, kX1_kindOf_0), (26, 36, kX1_kindOf_26), (36, 38, kX1_kindOf_36), (38, 51, kX1_kindOf_38), (51, 66, kX1_kindOf_51), (66, 67, kX1_kindOf_66), (67, 68, kX1_kindOf_67), (18, 23, kX1_kindOf_18)]
theorem lb_X1_kindOf_0 : xm_lk kb_X1_kindOf 0 = some (18, kX1_kindOf_0) := rfl
theorem lb_X1_kindOf_26 : xm_lk kb_X1_kindOf 26 = some (36, kX1_kindOf_26) := rfl
theorem lb_X1_kindOf_36 : xm_lk kb_X1_kindOf 36 = some (38, kX1_kindOf_36) := rfl
theorem lb_X1_kindOf_38 : xm_lk kb_X1_kindOf 38 = some (51, kX1_kindOf_38) := rfl
theorem lb_X1_kindOf_51 : xm_lk kb_X1_kindOf 51 = some (66, kX1_kindOf_51) := rfl
theorem lb_X1_kindOf_66 : xm_lk kb_X1_kindOf 66 = some (67, kX1_kindOf_66) := rfl
theorem lb_X1_kindOf_67 : xm_lk kb_X1_kindOf 67 = some (68, kX1_kindOf_67) := rfl
theorem lb_X1_kindOf_18 : xm_lk kb_X1_kindOf 18 = some (23, kX1_kindOf_18) := rfl
theorem lb_X1_kindOf_23 : xm_lk kb_X1_kindOf 23 = none := rfl
theorem lb_X1_kindOf_68 : xm_lk kb_X1_kindOf 68 = none := rfl
theorem kc_X1_kindOf : xm_oks cX1_kindOf 1 3 0 false kb_X1_kindOf := (List.forall_mem_cons.mpr ⟨bk_X1_kindOf_0, (List.forall_mem_cons.mpr ⟨bk_X1_kindOf_26, (List.forall_mem_cons.mpr ⟨bk_X1_kindOf_36, (List.forall_mem_cons.mpr ⟨bk_X1_kindOf_38, (List.forall_mem_cons.mpr ⟨bk_X1_kindOf_51, (List.forall_mem_cons.mpr ⟨bk_X1_kindOf_66, (List.forall_mem_cons.mpr ⟨bk_X1_kindOf_67, (List.forall_mem_cons.mpr ⟨bk_X1_kindOf_18, (fun _ h => absurd h List.not_mem_nil)⟩)⟩)⟩)⟩)⟩)⟩)⟩)⟩)
def kb_X1_command : List (Nat × Nat × List xm_I) := [(0, 16, kX1_command_0), (25, 39, kX1_command_25), (45, 56, kX1_command_45), (59, 75, kX1_command_59), (81, 82, kX1_command_81), (16, 22, kX1_command_16), (39, 42, kX1_command_39), (75, 81, kX1_command_75)]
theorem lb_X1_command_0 : xm_lk kb_X1_command 0 = some (16, kX1_command_0) := rfl
theorem lb_X1_command_25 : xm_lk kb_X1_command 25 = some (39, kX1_command_25) := rfl
theorem lb_X1_command_45 : xm_lk kb_X1_command 45 = some (56, kX1_command_45) := rfl
theorem lb_X1_command_59 : xm_lk kb_X1_command 59 = some (75, kX1_command_59) := rfl
theorem lb_X1_command_81 : xm_lk kb_X1_command 81 = some (82, kX1_command_81) := rfl
theorem lb_X1_command_16 : xm_lk kb_X1_command 16 = some (22, kX1_command_16) := rfl
theorem lb_X1_command_39 : xm_lk kb_X1_command 39 = some (42, kX1_command_39) := rfl
theorem lb_X1_command_75 : xm_lk kb_X1_command 75 = some (81, kX1_command_75) := rfl
theorem lb_X1_command_22 : xm_lk kb_X1_command 22 = none := rfl
theorem lb_X1_command_42 : xm_lk kb_X1_command 42 = none := rfl
theorem lb_X1_command_56 : xm_lk kb_X1_command 56 = none := rfl
theorem lb_X1_command_82 : xm_lk kb_X1_command 82 = none := rfl
theorem kc_X1_command : xm_oks cX1_command 1 6 3 false kb_X1_command := (List.forall_mem_cons.mpr ⟨bk_X1_command_0, (List.forall_mem_cons.mpr ⟨bk_X1_command_25, (List.forall_mem_cons.mpr ⟨bk_X1_command_45, (List.forall_mem_cons.mpr ⟨bk_X1_command_59, (List.forall_mem_cons.mpr ⟨bk_X1_command_81, (List.forall_mem_cons.mpr ⟨bk_X1_command_16, (List.forall_mem_cons.mpr ⟨bk_X1_command_39, (List.forall_mem_cons.mpr ⟨bk_X1_command_75, (fun _ h => absurd h List.not_mem_nil)⟩)⟩)⟩)⟩)⟩)⟩)⟩)⟩)
def kb_X1_meetGates : List (Nat × Nat × List xm_I) := [(0, 5, kX1_meetGates_0), (5, 15, kX1_meetGates_5), (15, 31, kX1_meetGates_15), (35, 49, kX1_meetGates_35), (57, 62, kX1_meetGates_57), (65, 76, kX1_meetGates_65), (79, 85, kX1_meetGates_79), (85, 91, kX1_meetGates_85), (91, 92, kX1_meetGates_91), (31, 32, kX1_meetGates_31), (49, 54, kX1_meetGates_49)]
theorem lb_X1_meetGates_0 : xm_lk kb_X1_meetGates 0 = some (5, kX1_meetGates_0) := rfl
theorem lb_X1_meetGates_5 : xm_lk kb_X1_meetGates 5 = some (15, kX1_meetGates_5) := rfl
theorem lb_X1_meetGates_15 : xm_lk kb_X1_meetGates 15 = some (31, kX1_meetGates_15) := rfl
theorem lb_X1_meetGates_35 : xm_lk kb_X1_meetGates 35 = some (49, kX1_meetGates_35) := rfl
theorem lb_X1_meetGates_57 : xm_lk kb_X1_meetGates 57 = some (62, kX1_meetGates_57) := rfl
theorem lb_X1_meetGates_65 : xm_lk kb_X1_meetGates 65 = some (76, kX1_meetGates_65) := rfl
theorem lb_X1_meetGates_79 : xm_lk kb_X1_meetGates 79 = some (85, kX1_meetGates_79) := rfl
theorem lb_X1_meetGates_85 : xm_lk kb_X1_meetGates 85 = some (91, kX1_meetGates_85) := rfl
theorem lb_X1_meetGates_91 : xm_lk kb_X1_meetGates 91 = some (92, kX1_meetGates_91) := rfl
theorem lb_X1_meetGates_31 : xm_lk kb_X1_meetGates 31 = some (32, kX1_meetGates_31) := rfl
theorem lb_X1_meetGates_49 : xm_lk kb_X1_meetGates 49 = some (54, kX1_meetGates_49) := rfl
theorem lb_X1_meetGates_32 : xm_lk kb_X1_meetGates 32 = none := rfl
theorem lb_X1_meetGates_54 : xm_lk kb_X1_meetGates 54 = none := rfl
theorem lb_X1_meetGates_62 : xm_lk kb_X1_meetGates 62 = none := rfl
theorem lb_X1_meetGates_76 : xm_lk kb_X1_meetGates 76 = none := rfl
theorem lb_X1_meetGates_92 : xm_lk kb_X1_meetGates 92 = none := rfl
theorem kc_X1_meetGates : xm_oks cX1_meetGates 1 3 3 false kb_X1_meetGates := (List.forall_mem_cons.mpr ⟨bk_X1_meetGates_0, (List.forall_mem_cons.mpr ⟨bk_X1_meetGates_5, (List.forall_mem_cons.mpr ⟨bk_X1_meetGates_15, (List.forall_mem_cons.mpr ⟨bk_X1_meetGates_35, (List.forall_mem_cons.mpr ⟨bk_X1_meetGates_57, (List.forall_mem_cons.mpr ⟨bk_X1_meetGates_65, (List.forall_mem_cons.mpr ⟨bk_X1_meetGates_79, (List.forall_mem_cons.mpr ⟨bk_X1_meetGates_85, (List.forall_mem_cons.mpr ⟨bk_X1_meetGates_91, (List.forall_mem_cons.mpr ⟨bk_X1_meetGates_31, (List.forall_mem_cons.mpr ⟨bk_X1_meetGates_49, (fun _ h => absurd h List.not_mem_nil)⟩)⟩)⟩)⟩)⟩)⟩)⟩)⟩)⟩)⟩)⟩)
def kb_X1_comesTo : List (Nat × Nat × List xm_I) := [(0, 16, kX1_comesTo_0), (28, 29, kX1_comesTo_28), (29, 30, kX1_comesTo_29), (16, 28, kX1_comesTo_16)]
theorem lb_X1_comesTo_0 : xm_lk kb_X1_comesTo 0 = some (16, kX1_comesTo_0) := rfl
theorem lb_X1_comesTo_28 : xm_lk kb_X1_comesTo 28 = some (29, kX1_comesTo_28) := rfl
theorem lb_X1_comesTo_29 : xm_lk kb_X1_comesTo 29 = some (30, kX1_comesTo_29) := rfl
theorem lb_X1_comesTo_16 : xm_lk kb_X1_comesTo 16 = some (28, kX1_comesTo_16) := rfl
theorem lb_X1_comesTo_30 : xm_lk kb_X1_comesTo 30 = none := rfl
theorem kc_X1_comesTo : xm_oks cX1_comesTo 1 3 1 false kb_X1_comesTo := (List.forall_mem_cons.mpr ⟨bk_X1_comesTo_0, (List.forall_mem_cons.mpr ⟨bk_X1_comesTo_28, (List.forall_mem_cons.mpr ⟨bk_X1_comesTo_29, (List.forall_mem_cons.mpr ⟨bk_X1_comesTo_16, (fun _ h => absurd h List.not_mem_nil)⟩)⟩)⟩)⟩)
def kb_X1_divert : List (Nat × Nat × List xm_I) := [(0, 13, kX1_divert_0), (13, 14, kX1_divert_13), (14, 30, kX1_divert_14), (30, 40, kX1_divert_30), (40, 51, kX1_divert_40)]
theorem lb_X1_divert_0 : xm_lk kb_X1_divert 0 = some (13, kX1_divert_0) := rfl
theorem lb_X1_divert_13 : xm_lk kb_X1_divert 13 = some (14, kX1_divert_13) := rfl
theorem lb_X1_divert_14 : xm_lk kb_X1_divert 14 = some (30, kX1_divert_14) := rfl
theorem lb_X1_divert_30 : xm_lk kb_X1_divert 30 = some (40, kX1_divert_30) := rfl
theorem lb_X1_divert_40 : xm_lk kb_X1_divert 40 = some (51, kX1_divert_40) := rfl
theorem lb_X1_divert_51 : xm_lk kb_X1_divert 51 = none := rfl
theorem kc_X1_divert : xm_oks cX1_divert 1 3 3 false kb_X1_divert := (List.forall_mem_cons.mpr ⟨bk_X1_divert_0, (List.forall_mem_cons.mpr ⟨bk_X1_divert_13, (List.forall_mem_cons.mpr ⟨bk_X1_divert_14, (List.forall_mem_cons.mpr ⟨bk_X1_divert_30, (List.forall_mem_cons.mpr ⟨bk_X1_divert_40, (fun _ h => absurd h List.not_mem_nil)⟩)⟩)⟩)⟩)⟩)
def kb_X1_leaveAtEnd : List (Nat × Nat × List xm_I) := [(0, 5, kX1_leaveAtEnd_0), (5, 19, kX1_leaveAtEnd_5), (24, 42, kX1_leaveAtEnd_24), (54, 55, kX1_leaveAtEnd_54), (55, 66, kX1_leaveAtEnd_55), (66, 72, kX1_leaveAtEnd_66), (72, 88, kX1_leaveAtEnd_72), (95, 111, kX1_leaveAtEnd_95), (111, 112, kX1_leaveAtEnd_111), (19, 21, kX1_leaveAtEnd_19), (42, 54, kX1_leaveAtEnd_42), (88, 92, kX1_leaveAtEnd_88)]
theorem lb_X1_leaveAtEnd_0 : xm_lk kb_X1_leaveAtEnd 0 = some (5, kX1_leaveAtEnd_0) := rfl
theorem lb_X1_leaveAtEnd_5 : xm_lk kb_X1_leaveAtEnd 5 = some (19, kX1_leaveAtEnd_5) := rfl
theorem lb_X1_leaveAtEnd_24 : xm_lk kb_X1_leaveAtEnd 24 = some (42, kX1_leaveAtEnd_24) := rfl
theorem lb_X1_leaveAtEnd_54 : xm_lk kb_X1_leaveAtEnd 54 = some (55, kX1_leaveAtEnd_54) := rfl
theorem lb_X1_leaveAtEnd_55 : xm_lk kb_X1_leaveAtEnd 55 = some (66, kX1_leaveAtEnd_55) := rfl
theorem lb_X1_leaveAtEnd_66 : xm_lk kb_X1_leaveAtEnd 66 = some (72, kX1_leaveAtEnd_66) := rfl
theorem lb_X1_leaveAtEnd_72 : xm_lk kb_X1_leaveAtEnd 72 = some (88, kX1_leaveAtEnd_72) := rfl
theorem lb_X1_leaveAtEnd_95 : xm_lk kb_X1_leaveAtEnd 95 = some (111, kX1_leaveAtEnd_95) := rfl
theorem lb_X1_leaveAtEnd_111 : xm_lk kb_X1_leaveAtEnd 111 = some (112, kX1_leaveAtEnd_111) := rfl
theorem lb_X1_leaveAtEnd_19 : xm_lk kb_X1_leaveAtEnd 19 = some (21, kX1_leaveAtEnd_19) := rfl
theorem lb_X1_leaveAtEnd_42 : xm_lk kb_X1_leaveAtEnd 42 = some (54, kX1_leaveAtEnd_42) := rfl
theorem lb_X1_leaveAtEnd_88 : xm_lk kb_X1_leaveAtEnd 88 = some (92, kX1_leaveAtEnd_88) := rfl
theorem lb_X1_leaveAtEnd_21 : xm_lk kb_X1_leaveAtEnd 21 = none := rfl
theorem lb_X1_leaveAtEnd_92 : xm_lk kb_X1_leaveAtEnd 92 = none := rfl
theorem lb_X1_leaveAtEnd_112 : xm_lk kb_X1_leaveAtEnd 112 = none := rfl
theorem kc_X1_leaveAtEnd : xm_oks cX1_leaveAtEnd 1 3 3 false kb_X1_leaveAtEnd := (List.forall_mem_cons.mpr ⟨bk_X1_leaveAtEnd_0, (List.forall_mem_cons.mpr ⟨bk_X1_leaveAtEnd_5, (List.forall_mem_cons.mpr ⟨bk_X1_leaveAtEnd_24, (List.forall_mem_cons.mpr ⟨bk_X1_leaveAtEnd_54, (List.forall_mem_cons.mpr ⟨bk_X1_leaveAtEnd_55, (List.forall_mem_cons.mpr ⟨bk_X1_leaveAtEnd_66, (List.forall_mem_cons.mpr ⟨bk_X1_leaveAtEnd_72, (List.forall_mem_cons.mpr ⟨bk_X1_leaveAtEnd_95, (List.forall_mem_cons.mpr ⟨bk_X1_leaveAtEnd_111, (List.forall_mem_cons.mpr ⟨bk_X1_leaveAtEnd_19, (List.forall_mem_cons.mpr ⟨bk_X1_leaveAtEnd_42, (List.forall_mem_cons.mpr ⟨bk_X1_leaveAtEnd_88, (fun _ h => absurd h List.not_mem_nil)⟩)⟩)⟩)⟩)⟩)⟩)⟩)⟩)⟩)⟩)⟩)⟩)
def kb_X1_zeroTare : List (Nat × Nat × List xm_I) := [(0, 14, kX1_zeroTare_0), (17, 18, kX1_zeroTare_17), (18, 36, kX1_zeroTare_18), (45, 46, kX1_zeroTare_45), (46, 50, kX1_zeroTare_46), (50, 64, kX1_zeroTare_50), (67, 75, kX1_zeroTare_67), (75, 84, kX1_zeroTare_75), (87, 91, kX1_zeroTare_87), (14, 17, kX1_zeroTare_14), (36, 45, kX1_zeroTare_36)]
theorem lb_X1_zeroTare_0 : xm_lk kb_X1_zeroTare 0 = some (14, kX1_zeroTare_0) := rfl
theorem lb_X1_zeroTare_17 : xm_lk kb_X1_zeroTare 17 = some (18, kX1_zeroTare_17) := rfl
theorem lb_X1_zeroTare_18 : xm_lk kb_X1_zeroTare 18 = some (36, kX1_zeroTare_18) := rfl
theorem lb_X1_zeroTare_45 : xm_lk kb_X1_zeroTare 45 = some (46, kX1_zeroTare_45) := rfl
theorem lb_X1_zeroTare_46 : xm_lk kb_X1_zeroTare 46 = some (50, kX1_zeroTare_46) := rfl
theorem lb_X1_zeroTare_50 : xm_lk kb_X1_zeroTare 50 = some (64, kX1_zeroTare_50) := rfl
theorem lb_X1_zeroTare_67 : xm_lk kb_X1_zeroTare 67 = some (75, kX1_zeroTare_67) := rfl
theorem lb_X1_zeroTare_75 : xm_lk kb_X1_zeroTare 75 = some (84, kX1_zeroTare_75) := rfl
theorem lb_X1_zeroTare_87 : xm_lk kb_X1_zeroTare 87 = some (91, kX1_zeroTare_87) := rfl
theorem lb_X1_zeroTare_14 : xm_lk kb_X1_zeroTare 14 = some (17, kX1_zeroTare_14) := rfl
theorem lb_X1_zeroTare_36 : xm_lk kb_X1_zeroTare 36 = some (45, kX1_zeroTare_36) := rfl
theorem lb_X1_zeroTare_64 : xm_lk kb_X1_zeroTare 64 = none := rfl
theorem lb_X1_zeroTare_84 : xm_lk kb_X1_zeroTare 84 = none := rfl
theorem lb_X1_zeroTare_91 : xm_lk kb_X1_zeroTare 91 = none := rfl
theorem kc_X1_zeroTare : xm_oks cX1_zeroTare 1 3 3 false kb_X1_zeroTare := (List.forall_mem_cons.mpr ⟨bk_X1_zeroTare_0, (List.forall_mem_cons.mpr ⟨bk_X1_zeroTare_17, (List.forall_mem_cons.mpr ⟨bk_X1_zeroTare_18, (List.forall_mem_cons.mpr ⟨bk_X1_zeroTare_45, (List.forall_mem_cons.mpr ⟨bk_X1_zeroTare_46, (List.forall_mem_cons.mpr ⟨bk_X1_zeroTare_50, (List.forall_mem_cons.mpr ⟨bk_X1_zeroTare_67, (List.forall_mem_cons.mpr ⟨bk_X1_zeroTare_75, (List.forall_mem_cons.mpr ⟨bk_X1_zeroTare_87, (List.forall_mem_cons.mpr ⟨bk_X1_zeroTare_14, (List.forall_mem_cons.mpr ⟨bk_X1_zeroTare_36, (fun _ h => absurd h List.not_mem_nil)⟩)⟩)⟩)⟩)⟩)⟩)⟩)⟩)⟩)⟩)⟩)
def kb_X1_confirmDiversions : List (Nat × Nat × List xm_I) := [(0, 2, kX1_confirmDiversions_0), (2, 18, kX1_confirmDiversions_2), (35, 51, kX1_confirmDiversions_35), (85, 97, kX1_confirmDiversions_85), (98, 110, kX1_confirmDiversions_98), (113, 119, kX1_confirmDiversions_113), (119, 120, kX1_confirmDiversions_119), (18, 32, kX1_confirmDiversions_18), (51, 69, kX1_confirmDiversions_51), (97, 98, kX1_confirmDiversions_97), (110, 113, kX1_confirmDiversions_110), (69, 81, kX1_confirmDiversions_69), (81, 85, kX1_confirmDiversions_81)]
theorem lb_X1_confirmDiversions_0 : xm_lk kb_X1_confirmDiversions 0 = some (2, kX1_confirmDiversions_0) := rfl
theorem lb_X1_confirmDiversions_2 : xm_lk kb_X1_confirmDiversions 2 = some (18, kX1_confirmDiversions_2) := rfl
theorem lb_X1_confirmDiversions_35 : xm_lk kb_X1_confirmDiversions 35 = some (51, kX1_confirmDiversions_35) := rfl
theorem lb_X1_confirmDiversions_85 : xm_lk kb_X1_confirmDiversions 85 = some (97, kX1_confirmDiversions_85) := rfl
theorem lb_X1_confirmDiversions_98 : xm_lk kb_X1_confirmDiversions 98 = some (110, kX1_confirmDiversions_98) := rfl
theorem lb_X1_confirmDiversions_113 : xm_lk kb_X1_confirmDiversions 113 = some (119, kX1_confirmDiversions_113) := rfl
theorem lb_X1_confirmDiversions_119 : xm_lk kb_X1_confirmDiversions 119 = some (120, kX1_confirmDiversions_119) := rfl
theorem lb_X1_confirmDiversions_18 : xm_lk kb_X1_confirmDiversions 18 = some (32, kX1_confirmDiversions_18) := rfl
theorem lb_X1_confirmDiversions_51 : xm_lk kb_X1_confirmDiversions 51 = some (69, kX1_confirmDiversions_51) := rfl
theorem lb_X1_confirmDiversions_97 : xm_lk kb_X1_confirmDiversions 97 = some (98, kX1_confirmDiversions_97) := rfl
theorem lb_X1_confirmDiversions_110 : xm_lk kb_X1_confirmDiversions 110 = some (113, kX1_confirmDiversions_110) := rfl
theorem lb_X1_confirmDiversions_69 : xm_lk kb_X1_confirmDiversions 69 = some (81, kX1_confirmDiversions_69) := rfl
theorem lb_X1_confirmDiversions_81 : xm_lk kb_X1_confirmDiversions 81 = some (85, kX1_confirmDiversions_81) := rfl
theorem lb_X1_confirmDiversions_32 : xm_lk kb_X1_confirmDiversions 32 = none := rfl
theorem lb_X1_confirmDiversions_120 : xm_lk kb_X1_confirmDiversions 120 = none := rfl
theorem kc_X1_confirmDiversions : xm_oks cX1_confirmDiversions 1 3 3 false kb_X1_confirmDiversions := (List.forall_mem_cons.mpr ⟨bk_X1_confirmDiversions_0, (List.forall_mem_cons.mpr ⟨bk_X1_confirmDiversions_2, (List.forall_mem_cons.mpr ⟨bk_X1_confirmDiversions_35, (List.forall_mem_cons.mpr ⟨bk_X1_confirmDiversions_85, (List.forall_mem_cons.mpr ⟨bk_X1_confirmDiversions_98, (List.forall_mem_cons.mpr ⟨bk_X1_confirmDiversions_113, (List.forall_mem_cons.mpr ⟨bk_X1_confirmDiversions_119, (List.forall_mem_cons.mpr ⟨bk_X1_confirmDiversions_18, (List.forall_mem_cons.mpr ⟨bk_X1_confirmDiversions_51, (List.forall_mem_cons.mpr ⟨bk_X1_confirmDiversions_97, (List.forall_mem_cons.mpr ⟨bk_X1_confirmDiversions_110, (List.forall_mem_cons.mpr ⟨bk_X1_confirmDiversions_69, (List.forall_mem_cons.mpr ⟨bk_X1_confirmDiversions_81, (fun _ h => absurd h List.not_mem_nil)⟩)⟩)⟩)⟩)⟩)⟩)⟩)⟩)⟩)⟩)⟩)⟩)⟩)
def kb_X1_cellAt : List (Nat × Nat × List xm_I) := [(0, 16, kX1_cellAt_0), (29, 30, kX1_cellAt_29), (30, 31, kX1_cellAt_30), (16, 29, kX1_cellAt_16)]
theorem lb_X1_cellAt_0 : xm_lk kb_X1_cellAt 0 = some (16, kX1_cellAt_0) := rfl
theorem lb_X1_cellAt_29 : xm_lk kb_X1_cellAt 29 = some (30, kX1_cellAt_29) := rfl
theorem lb_X1_cellAt_30 : xm_lk kb_X1_cellAt 30 = some (31, kX1_cellAt_30) := rfl
theorem lb_X1_cellAt_16 : xm_lk kb_X1_cellAt 16 = some (29, kX1_cellAt_16) := rfl
theorem lb_X1_cellAt_31 : xm_lk kb_X1_cellAt 31 = none := rfl
theorem kc_X1_cellAt : xm_oks cX1_cellAt 1 2 0 false kb_X1_cellAt := (List.forall_mem_cons.mpr ⟨bk_X1_cellAt_0, (List.forall_mem_cons.mpr ⟨bk_X1_cellAt_29, (List.forall_mem_cons.mpr ⟨bk_X1_cellAt_30, (List.forall_mem_cons.mpr ⟨bk_X1_cellAt_16, (fun _ h => absurd h List.not_mem_nil)⟩)⟩)⟩)⟩)
def kb_X1_isOpen : List (Nat × Nat × List xm_I) := [(0, 12, kX1_isOpen_0), (18, 25, kX1_isOpen_18), (25, 26, kX1_isOpen_25), (26, 27, kX1_isOpen_26), (12, 15, kX1_isOpen_12)]
theorem lb_X1_isOpen_0 : xm_lk kb_X1_isOpen 0 = some (12, kX1_isOpen_0) := rfl
theorem lb_X1_isOpen_18 : xm_lk kb_X1_isOpen 18 = some (25, kX1_isOpen_18) := rfl
theorem lb_X1_isOpen_25 : xm_lk kb_X1_isOpen 25 = some (26, kX1_isOpen_25) := rfl
theorem lb_X1_isOpen_26 : xm_lk kb_X1_isOpen 26 = some (27, kX1_isOpen_26) := rfl
theorem lb_X1_isOpen_12 : xm_lk kb_X1_isOpen 12 = some (15, kX1_isOpen_12) := rfl
theorem lb_X1_isOpen_15 : xm_lk kb_X1_isOpen 15 = none := rfl
theorem lb_X1_isOpen_27 : xm_lk kb_X1_isOpen 27 = none := rfl
theorem kc_X1_isOpen : xm_oks cX1_isOpen 1 2 1 false kb_X1_isOpen := (List.forall_mem_cons.mpr ⟨bk_X1_isOpen_0, (List.forall_mem_cons.mpr ⟨bk_X1_isOpen_18, (List.forall_mem_cons.mpr ⟨bk_X1_isOpen_25, (List.forall_mem_cons.mpr ⟨bk_X1_isOpen_26, (List.forall_mem_cons.mpr ⟨bk_X1_isOpen_12, (fun _ h => absurd h List.not_mem_nil)⟩)⟩)⟩)⟩)⟩)
def kb_X1_isCommanded : List (Nat × Nat × List xm_I) := [(0, 2, kX1_isCommanded_0), (2, 16, kX1_isCommanded_2), (21, 26, kX1_isCommanded_21), (26, 32, kX1_isCommanded_26), (32, 34, kX1_isCommanded_32), (16, 18, kX1_isCommanded_16)]
theorem lb_X1_isCommanded_0 : xm_lk kb_X1_isCommanded 0 = some (2, kX1_isCommanded_0) := rfl
theorem lb_X1_isCommanded_2 : xm_lk kb_X1_isCommanded 2 = some (16, kX1_isCommanded_2) := rfl
theorem lb_X1_isCommanded_21 : xm_lk kb_X1_isCommanded 21 = some (26, kX1_isCommanded_21) := rfl
theorem lb_X1_isCommanded_26 : xm_lk kb_X1_isCommanded 26 = some (32, kX1_isCommanded_26) := rfl
theorem lb_X1_isCommanded_32 : xm_lk kb_X1_isCommanded 32 = some (34, kX1_isCommanded_32) := rfl
theorem lb_X1_isCommanded_16 : xm_lk kb_X1_isCommanded 16 = some (18, kX1_isCommanded_16) := rfl
theorem lb_X1_isCommanded_18 : xm_lk kb_X1_isCommanded 18 = none := rfl
theorem lb_X1_isCommanded_34 : xm_lk kb_X1_isCommanded 34 = none := rfl
theorem kc_X1_isCommanded : xm_oks cX1_isCommanded 1 4 1 false kb_X1_isCommanded := (List.forall_mem_cons.mpr ⟨bk_X1_isCommanded_0, (List.forall_mem_cons.mpr ⟨bk_X1_isCommanded_2, (List.forall_mem_cons.mpr ⟨bk_X1_isCommanded_21, (List.forall_mem_cons.mpr ⟨bk_X1_isCommanded_26, (List.forall_mem_cons.mpr ⟨bk_X1_isCommanded_32, (List.forall_mem_cons.mpr ⟨bk_X1_isCommanded_16, (fun _ h => absurd h List.not_mem_nil)⟩)⟩)⟩)⟩)⟩)⟩)
def kb_X1_allAlarms : List (Nat × Nat × List xm_I) := [(0, 4, kX1_allAlarms_0), (4, 20, kX1_allAlarms_4), (30, 32, kX1_allAlarms_30), (20, 30, kX1_allAlarms_20)]
theorem lb_X1_allAlarms_0 : xm_lk kb_X1_allAlarms 0 = some (4, kX1_allAlarms_0) := rfl
theorem lb_X1_allAlarms_4 : xm_lk kb_X1_allAlarms 4 = some (20, kX1_allAlarms_4) := rfl
theorem lb_X1_allAlarms_30 : xm_lk kb_X1_allAlarms 30 = some (32, kX1_allAlarms_30) := rfl
theorem lb_X1_allAlarms_20 : xm_lk kb_X1_allAlarms 20 = some (30, kX1_allAlarms_20) := rfl
theorem lb_X1_allAlarms_32 : xm_lk kb_X1_allAlarms 32 = none := rfl
theorem kc_X1_allAlarms : xm_oks cX1_allAlarms 1 3 0 false kb_X1_allAlarms := (List.forall_mem_cons.mpr ⟨bk_X1_allAlarms_0, (List.forall_mem_cons.mpr ⟨bk_X1_allAlarms_4, (List.forall_mem_cons.mpr ⟨bk_X1_allAlarms_30, (List.forall_mem_cons.mpr ⟨bk_X1_allAlarms_20, (fun _ h => absurd h List.not_mem_nil)⟩)⟩)⟩)⟩)
def kb_X1_itemsIn : List (Nat × Nat × List xm_I) := [(0, 4, kX1_itemsIn_0), (4, 18, kX1_itemsIn_4), (28, 34, kX1_itemsIn_28), (34, 36, kX1_itemsIn_34), (18, 28, kX1_itemsIn_18)]
theorem lb_X1_itemsIn_0 : xm_lk kb_X1_itemsIn 0 = some (4, kX1_itemsIn_0) := rfl
theorem lb_X1_itemsIn_4 : xm_lk kb_X1_itemsIn 4 = some (18, kX1_itemsIn_4) := rfl
theorem lb_X1_itemsIn_28 : xm_lk kb_X1_itemsIn 28 = some (34, kX1_itemsIn_28) := rfl
theorem lb_X1_itemsIn_34 : xm_lk kb_X1_itemsIn 34 = some (36, kX1_itemsIn_34) := rfl
theorem lb_X1_itemsIn_18 : xm_lk kb_X1_itemsIn 18 = some (28, kX1_itemsIn_18) := rfl
theorem lb_X1_itemsIn_36 : xm_lk kb_X1_itemsIn 36 = none := rfl
theorem kc_X1_itemsIn : xm_oks cX1_itemsIn 1 4 0 false kb_X1_itemsIn := (List.forall_mem_cons.mpr ⟨bk_X1_itemsIn_0, (List.forall_mem_cons.mpr ⟨bk_X1_itemsIn_4, (List.forall_mem_cons.mpr ⟨bk_X1_itemsIn_28, (List.forall_mem_cons.mpr ⟨bk_X1_itemsIn_34, (List.forall_mem_cons.mpr ⟨bk_X1_itemsIn_18, (fun _ h => absurd h List.not_mem_nil)⟩)⟩)⟩)⟩)⟩)
def kb_X1_itemsOf : List (Nat × Nat × List xm_I) := [(0, 4, kX1_itemsOf_0), (4, 18, kX1_itemsOf_4), (28, 34, kX1_itemsOf_28), (34, 36, kX1_itemsOf_34), (18, 28, kX1_itemsOf_18)]
theorem lb_X1_itemsOf_0 : xm_lk kb_X1_itemsOf 0 = some (4, kX1_itemsOf_0) := rfl
theorem lb_X1_itemsOf_4 : xm_lk kb_X1_itemsOf 4 = some (18, kX1_itemsOf_4) := rfl
theorem lb_X1_itemsOf_28 : xm_lk kb_X1_itemsOf 28 = some (34, kX1_itemsOf_28) := rfl
theorem lb_X1_itemsOf_34 : xm_lk kb_X1_itemsOf 34 = some (36, kX1_itemsOf_34) := rfl
theorem lb_X1_itemsOf_18 : xm_lk kb_X1_itemsOf 18 = some (28, kX1_itemsOf_18) := rfl
theorem lb_X1_itemsOf_36 : xm_lk kb_X1_itemsOf 36 = none := rfl
theorem kc_X1_itemsOf : xm_oks cX1_itemsOf 1 4 0 false kb_X1_itemsOf := (List.forall_mem_cons.mpr ⟨bk_X1_itemsOf_0, (List.forall_mem_cons.mpr ⟨bk_X1_itemsOf_4, (List.forall_mem_cons.mpr ⟨bk_X1_itemsOf_28, (List.forall_mem_cons.mpr ⟨bk_X1_itemsOf_34, (List.forall_mem_cons.mpr ⟨bk_X1_itemsOf_18, (fun _ h => absurd h List.not_mem_nil)⟩)⟩)⟩)⟩)⟩)
def kb_X1_sumOfGood : List (Nat × Nat × List xm_I) := [(0, 4, kX1_sumOfGood_0), (4, 18, kX1_sumOfGood_4), (37, 43, kX1_sumOfGood_37), (43, 45, kX1_sumOfGood_43), (18, 32, kX1_sumOfGood_18), (32, 37, kX1_sumOfGood_32)]
theorem lb_X1_sumOfGood_0 : xm_lk kb_X1_sumOfGood 0 = some (4, kX1_sumOfGood_0) := rfl
theorem lb_X1_sumOfGood_4 : xm_lk kb_X1_sumOfGood 4 = some (18, kX1_sumOfGood_4) := rfl
theorem lb_X1_sumOfGood_37 : xm_lk kb_X1_sumOfGood 37 = some (43, kX1_sumOfGood_37) := rfl
theorem lb_X1_sumOfGood_43 : xm_lk kb_X1_sumOfGood 43 = some (45, kX1_sumOfGood_43) := rfl
theorem lb_X1_sumOfGood_18 : xm_lk kb_X1_sumOfGood 18 = some (32, kX1_sumOfGood_18) := rfl
theorem lb_X1_sumOfGood_32 : xm_lk kb_X1_sumOfGood 32 = some (37, kX1_sumOfGood_32) := rfl
theorem lb_X1_sumOfGood_45 : xm_lk kb_X1_sumOfGood 45 = none := rfl
theorem kc_X1_sumOfGood : xm_oks cX1_sumOfGood 1 3 0 false kb_X1_sumOfGood := (List.forall_mem_cons.mpr ⟨bk_X1_sumOfGood_0, (List.forall_mem_cons.mpr ⟨bk_X1_sumOfGood_4, (List.forall_mem_cons.mpr ⟨bk_X1_sumOfGood_37, (List.forall_mem_cons.mpr ⟨bk_X1_sumOfGood_43, (List.forall_mem_cons.mpr ⟨bk_X1_sumOfGood_18, (List.forall_mem_cons.mpr ⟨bk_X1_sumOfGood_32, (fun _ h => absurd h List.not_mem_nil)⟩)⟩)⟩)⟩)⟩)⟩)
def kb_X1_itemsWithResult : List (Nat × Nat × List xm_I) := [(0, 4, kX1_itemsWithResult_0), (4, 18, kX1_itemsWithResult_4), (27, 33, kX1_itemsWithResult_27), (33, 35, kX1_itemsWithResult_33), (18, 27, kX1_itemsWithResult_18)]
theorem lb_X1_itemsWithResult_0 : xm_lk kb_X1_itemsWithResult 0 = some (4, kX1_itemsWithResult_0) := rfl
theorem lb_X1_itemsWithResult_4 : xm_lk kb_X1_itemsWithResult 4 = some (18, kX1_itemsWithResult_4) := rfl
theorem lb_X1_itemsWithResult_27 : xm_lk kb_X1_itemsWithResult 27 = some (33, kX1_itemsWithResult_27) := rfl
theorem lb_X1_itemsWithResult_33 : xm_lk kb_X1_itemsWithResult 33 = some (35, kX1_itemsWithResult_33) := rfl
theorem lb_X1_itemsWithResult_18 : xm_lk kb_X1_itemsWithResult 18 = some (27, kX1_itemsWithResult_18) := rfl
theorem lb_X1_itemsWithResult_35 : xm_lk kb_X1_itemsWithResult 35 = none := rfl
theorem kc_X1_itemsWithResult : xm_oks cX1_itemsWithResult 1 3 0 false kb_X1_itemsWithResult := (List.forall_mem_cons.mpr ⟨bk_X1_itemsWithResult_0, (List.forall_mem_cons.mpr ⟨bk_X1_itemsWithResult_4, (List.forall_mem_cons.mpr ⟨bk_X1_itemsWithResult_27, (List.forall_mem_cons.mpr ⟨bk_X1_itemsWithResult_33, (List.forall_mem_cons.mpr ⟨bk_X1_itemsWithResult_18, (fun _ h => absurd h List.not_mem_nil)⟩)⟩)⟩)⟩)⟩)
def kb_X1_sumOfErrors : List (Nat × Nat × List xm_I) := [(0, 4, kX1_sumOfErrors_0), (4, 18, kX1_sumOfErrors_4), (47, 49, kX1_sumOfErrors_47), (49, 55, kX1_sumOfErrors_49), (55, 57, kX1_sumOfErrors_55), (18, 34, kX1_sumOfErrors_18), (34, 44, kX1_sumOfErrors_34)]
theorem lb_X1_sumOfErrors_0 : xm_lk kb_X1_sumOfErrors 0 = some (4, kX1_sumOfErrors_0) := rfl
theorem lb_X1_sumOfErrors_4 : xm_lk kb_X1_sumOfErrors 4 = some (18, kX1_sumOfErrors_4) := rfl
theorem lb_X1_sumOfErrors_47 : xm_lk kb_X1_sumOfErrors 47 = some (49, kX1_sumOfErrors_47) := rfl
theorem lb_X1_sumOfErrors_49 : xm_lk kb_X1_sumOfErrors 49 = some (55, kX1_sumOfErrors_49) := rfl
theorem lb_X1_sumOfErrors_55 : xm_lk kb_X1_sumOfErrors 55 = some (57, kX1_sumOfErrors_55) := rfl
theorem lb_X1_sumOfErrors_18 : xm_lk kb_X1_sumOfErrors 18 = some (34, kX1_sumOfErrors_18) := rfl
theorem lb_X1_sumOfErrors_34 : xm_lk kb_X1_sumOfErrors 34 = some (44, kX1_sumOfErrors_34) := rfl
theorem lb_X1_sumOfErrors_44 : xm_lk kb_X1_sumOfErrors 44 = none := rfl
theorem lb_X1_sumOfErrors_57 : xm_lk kb_X1_sumOfErrors 57 = none := rfl
theorem kc_X1_sumOfErrors : xm_oks cX1_sumOfErrors 1 3 0 false kb_X1_sumOfErrors := (List.forall_mem_cons.mpr ⟨bk_X1_sumOfErrors_0, (List.forall_mem_cons.mpr ⟨bk_X1_sumOfErrors_4, (List.forall_mem_cons.mpr ⟨bk_X1_sumOfErrors_47, (List.forall_mem_cons.mpr ⟨bk_X1_sumOfErrors_49, (List.forall_mem_cons.mpr ⟨bk_X1_sumOfErrors_55, (List.forall_mem_cons.mpr ⟨bk_X1_sumOfErrors_18, (List.forall_mem_cons.mpr ⟨bk_X1_sumOfErrors_34, (fun _ h => absurd h List.not_mem_nil)⟩)⟩)⟩)⟩)⟩)⟩)⟩)
def kb_X2_init : List (Nat × Nat × List xm_I) := [(0, 1, kX2_init_0), (4, 16, kX2_init_4), (16, 30, kX2_init_16), (30, 44, kX2_init_30), (44, 50, kX2_init_44)]
theorem lb_X2_init_0 : xm_lk kb_X2_init 0 = some (1, kX2_init_0) := rfl
theorem lb_X2_init_4 : xm_lk kb_X2_init 4 = some (16, kX2_init_4) := rfl
theorem lb_X2_init_16 : xm_lk kb_X2_init 16 = some (30, kX2_init_16) := rfl
theorem lb_X2_init_30 : xm_lk kb_X2_init 30 = some (44, kX2_init_30) := rfl
theorem lb_X2_init_44 : xm_lk kb_X2_init 44 = some (50, kX2_init_44) := rfl
theorem lb_X2_init_1 : xm_lk kb_X2_init 1 = none := rfl
theorem lb_X2_init_50 : xm_lk kb_X2_init 50 = none := rfl
theorem kc_X2_init : xm_oks cX2_init 2 3 3 true kb_X2_init := (List.forall_mem_cons.mpr ⟨bk_X2_init_0, (List.forall_mem_cons.mpr ⟨bk_X2_init_4, (List.forall_mem_cons.mpr ⟨bk_X2_init_16, (List.forall_mem_cons.mpr ⟨bk_X2_init_30, (List.forall_mem_cons.mpr ⟨bk_X2_init_44, (fun _ h => absurd h List.not_mem_nil)⟩)⟩)⟩)⟩)⟩)
def kb_X2_read : List (Nat × Nat × List xm_I) := [(0, 7, kX2_read_0), (10, 22, kX2_read_10), (25, 37, kX2_read_25), (49, 50, kX2_read_49), (53, 54, kX2_read_53), (57, 58, kX2_read_57), (61, 62, kX2_read_61), (65, 66, kX2_read_65), (37, 46, kX2_read_37)]
theorem lb_X2_read_0 : xm_lk kb_X2_read 0 = some (7, kX2_read_0) := rfl
theorem lb_X2_read_10 : xm_lk kb_X2_read 10 = some (22, kX2_read_10) := rfl
theorem lb_X2_read_25 : xm_lk kb_X2_read 25 = some (37, kX2_read_25) := rfl
theorem lb_X2_read_49 : xm_lk kb_X2_read 49 = some (50, kX2_read_49) := rfl
theorem lb_X2_read_53 : xm_lk kb_X2_read 53 = some (54, kX2_read_53) := rfl
theorem lb_X2_read_57 : xm_lk kb_X2_read 57 = some (58, kX2_read_57) := rfl
theorem lb_X2_read_61 : xm_lk kb_X2_read 61 = some (62, kX2_read_61) := rfl
theorem lb_X2_read_65 : xm_lk kb_X2_read 65 = some (66, kX2_read_65) := rfl
theorem lb_X2_read_37 : xm_lk kb_X2_read 37 = some (46, kX2_read_37) := rfl
theorem lb_X2_read_7 : xm_lk kb_X2_read 7 = none := rfl
theorem lb_X2_read_22 : xm_lk kb_X2_read 22 = none := rfl
theorem lb_X2_read_46 : xm_lk kb_X2_read 46 = none := rfl
theorem lb_X2_read_50 : xm_lk kb_X2_read 50 = none := rfl
theorem lb_X2_read_54 : xm_lk kb_X2_read 54 = none := rfl
theorem lb_X2_read_58 : xm_lk kb_X2_read 58 = none := rfl
theorem lb_X2_read_62 : xm_lk kb_X2_read 62 = none := rfl
theorem lb_X2_read_66 : xm_lk kb_X2_read 66 = none := rfl
theorem kc_X2_read : xm_oks cX2_read 2 3 3 false kb_X2_read := (List.forall_mem_cons.mpr ⟨bk_X2_read_0, (List.forall_mem_cons.mpr ⟨bk_X2_read_10, (List.forall_mem_cons.mpr ⟨bk_X2_read_25, (List.forall_mem_cons.mpr ⟨bk_X2_read_49, (List.forall_mem_cons.mpr ⟨bk_X2_read_53, (List.forall_mem_cons.mpr ⟨bk_X2_read_57, (List.forall_mem_cons.mpr ⟨bk_X2_read_61, (List.forall_mem_cons.mpr ⟨bk_X2_read_65, (List.forall_mem_cons.mpr ⟨bk_X2_read_37, (fun _ h => absurd h List.not_mem_nil)⟩)⟩)⟩)⟩)⟩)⟩)⟩)⟩)⟩)
def kb_X2_readBelt : List (Nat × Nat × List xm_I) := [(0, 1, kX2_readBelt_0), (6, 14, kX2_readBelt_6), (17, 29, kX2_readBelt_17), (32, 48, kX2_readBelt_32), (55, 71, kX2_readBelt_55), (78, 82, kX2_readBelt_78), (85, 86, kX2_readBelt_85), (48, 52, kX2_readBelt_48), (71, 75, kX2_readBelt_71)]
theorem lb_X2_readBelt_0 : xm_lk kb_X2_readBelt 0 = some (1, kX2_readBelt_0) := rfl
theorem lb_X2_readBelt_6 : xm_lk kb_X2_readBelt 6 = some (14, kX2_readBelt_6) := rfl
theorem lb_X2_readBelt_17 : xm_lk kb_X2_readBelt 17 = some (29, kX2_readBelt_17) := rfl
theorem lb_X2_readBelt_32 : xm_lk kb_X2_readBelt 32 = some (48, kX2_readBelt_32) := rfl
theorem lb_X2_readBelt_55 : xm_lk kb_X2_readBelt 55 = some (71, kX2_readBelt_55) := rfl
theorem lb_X2_readBelt_78 : xm_lk kb_X2_readBelt 78 = some (82, kX2_readBelt_78) := rfl
theorem lb_X2_readBelt_85 : xm_lk kb_X2_readBelt 85 = some (86, kX2_readBelt_85) := rfl
theorem lb_X2_readBelt_48 : xm_lk kb_X2_readBelt 48 = some (52, kX2_readBelt_48) := rfl
theorem lb_X2_readBelt_71 : xm_lk kb_X2_readBelt 71 = some (75, kX2_readBelt_71) := rfl
theorem lb_X2_readBelt_1 : xm_lk kb_X2_readBelt 1 = none := rfl
theorem lb_X2_readBelt_14 : xm_lk kb_X2_readBelt 14 = none := rfl
theorem lb_X2_readBelt_29 : xm_lk kb_X2_readBelt 29 = none := rfl
theorem lb_X2_readBelt_52 : xm_lk kb_X2_readBelt 52 = none := rfl
theorem lb_X2_readBelt_75 : xm_lk kb_X2_readBelt 75 = none := rfl
theorem lb_X2_readBelt_82 : xm_lk kb_X2_readBelt 82 = none := rfl
theorem lb_X2_readBelt_86 : xm_lk kb_X2_readBelt 86 = none := rfl
theorem kc_X2_readBelt : xm_oks cX2_readBelt 2 1 3 false kb_X2_readBelt := (List.forall_mem_cons.mpr ⟨bk_X2_readBelt_0, (List.forall_mem_cons.mpr ⟨bk_X2_readBelt_6, (List.forall_mem_cons.mpr ⟨bk_X2_readBelt_17, (List.forall_mem_cons.mpr ⟨bk_X2_readBelt_32, (List.forall_mem_cons.mpr ⟨bk_X2_readBelt_55, (List.forall_mem_cons.mpr ⟨bk_X2_readBelt_78, (List.forall_mem_cons.mpr ⟨bk_X2_readBelt_85, (List.forall_mem_cons.mpr ⟨bk_X2_readBelt_48, (List.forall_mem_cons.mpr ⟨bk_X2_readBelt_71, (fun _ h => absurd h List.not_mem_nil)⟩)⟩)⟩)⟩)⟩)⟩)⟩)⟩)⟩)
def kb_X2_readVibrations : List (Nat × Nat × List xm_I) := [(0, 2, kX2_readVibrations_0), (2, 10, kX2_readVibrations_2), (15, 33, kX2_readVibrations_15), (37, 38, kX2_readVibrations_37), (38, 39, kX2_readVibrations_38), (42, 47, kX2_readVibrations_42), (50, 52, kX2_readVibrations_50), (55, 61, kX2_readVibrations_55), (64, 67, kX2_readVibrations_64), (70, 81, kX2_readVibrations_70), (84, 90, kX2_readVibrations_84), (90, 91, kX2_readVibrations_90), (33, 34, kX2_readVibrations_33)]
theorem lb_X2_readVibrations_0 : xm_lk kb_X2_readVibrations 0 = some (2, kX2_readVibrations_0) := rfl
theorem lb_X2_readVibrations_2 : xm_lk kb_X2_readVibrations 2 = some (10, kX2_readVibrations_2) := rfl
theorem lb_X2_readVibrations_15 : xm_lk kb_X2_readVibrations 15 = some (33, kX2_readVibrations_15) := rfl
theorem lb_X2_readVibrations_37 : xm_lk kb_X2_readVibrations 37 = some (38, kX2_readVibrations_37) := rfl
theorem lb_X2_readVibrations_38 : xm_lk kb_X2_readVibrations 38 = some (39, kX2_readVibrations_38) := rfl
theorem lb_X2_readVibrations_42 : xm_lk kb_X2_readVibrations 42 = some (47, kX2_readVibrations_42) := rfl
theorem lb_X2_readVibrations_50 : xm_lk kb_X2_readVibrations 50 = some (52, kX2_readVibrations_50) := rfl
theorem lb_X2_readVibrations_55 : xm_lk kb_X2_readVibrations 55 = some (61, kX2_readVibrations_55) := rfl
theorem lb_X2_readVibrations_64 : xm_lk kb_X2_readVibrations 64 = some (67, kX2_readVibrations_64) := rfl
theorem lb_X2_readVibrations_70 : xm_lk kb_X2_readVibrations 70 = some (81, kX2_readVibrations_70) := rfl
theorem lb_X2_readVibrations_84 : xm_lk kb_X2_readVibrations 84 = some (90, kX2_readVibrations_84) := rfl
theorem lb_X2_readVibrations_90 : xm_lk kb_X2_readVibrations 90 = some (91, kX2_readVibrations_90) := rfl
theorem lb_X2_readVibrations_33 : xm_lk kb_X2_readVibrations 33 = some (34, kX2_readVibrations_33) := rfl
theorem lb_X2_readVibrations_10 : xm_lk kb_X2_readVibrations 10 = none := rfl
theorem lb_X2_readVibrations_34 : xm_lk kb_X2_readVibrations 34 = none := rfl
theorem lb_X2_readVibrations_39 : xm_lk kb_X2_readVibrations 39 = none := rfl
theorem lb_X2_readVibrations_47 : xm_lk kb_X2_readVibrations 47 = none := rfl
theorem lb_X2_readVibrations_52 : xm_lk kb_X2_readVibrations 52 = none := rfl
theorem lb_X2_readVibrations_61 : xm_lk kb_X2_readVibrations 61 = none := rfl
theorem lb_X2_readVibrations_67 : xm_lk kb_X2_readVibrations 67 = none := rfl
theorem lb_X2_readVibrations_81 : xm_lk kb_X2_readVibrations 81 = none := rfl
theorem lb_X2_readVibrations_91 : xm_lk kb_X2_readVibrations 91 = none := rfl
theorem kc_X2_readVibrations : xm_oks cX2_readVibrations 2 5 3 false kb_X2_readVibrations := (List.forall_mem_cons.mpr ⟨bk_X2_readVibrations_0, (List.forall_mem_cons.mpr ⟨bk_X2_readVibrations_2, (List.forall_mem_cons.mpr ⟨bk_X2_readVibrations_15, (List.forall_mem_cons.mpr ⟨bk_X2_readVibrations_37, (List.forall_mem_cons.mpr ⟨bk_X2_readVibrations_38, (List.forall_mem_cons.mpr ⟨bk_X2_readVibrations_42, (List.forall_mem_cons.mpr ⟨bk_X2_readVibrations_50, (List.forall_mem_cons.mpr ⟨bk_X2_readVibrations_55, (List.forall_mem_cons.mpr ⟨bk_X2_readVibrations_64, (List.forall_mem_cons.mpr ⟨bk_X2_readVibrations_70, (List.forall_mem_cons.mpr ⟨bk_X2_readVibrations_84, (List.forall_mem_cons.mpr ⟨bk_X2_readVibrations_90, (List.forall_mem_cons.mpr ⟨bk_X2_readVibrations_33, (fun _ h => absurd h List.not_mem_nil)⟩)⟩)⟩)⟩)⟩)⟩)⟩)⟩)⟩)⟩)⟩)⟩)⟩)
def kb_X2_readPeriod : List (Nat × Nat × List xm_I) := [(0, 9, kX2_readPeriod_0), (12, 19, kX2_readPeriod_12), (22, 26, kX2_readPeriod_22), (29, 30, kX2_readPeriod_29)]
theorem lb_X2_readPeriod_0 : xm_lk kb_X2_readPeriod 0 = some (9, kX2_readPeriod_0) := rfl
theorem lb_X2_readPeriod_12 : xm_lk kb_X2_readPeriod 12 = some (19, kX2_readPeriod_12) := rfl
theorem lb_X2_readPeriod_22 : xm_lk kb_X2_readPeriod 22 = some (26, kX2_readPeriod_22) := rfl
theorem lb_X2_readPeriod_29 : xm_lk kb_X2_readPeriod 29 = some (30, kX2_readPeriod_29) := rfl
theorem lb_X2_readPeriod_9 : xm_lk kb_X2_readPeriod 9 = none := rfl
theorem lb_X2_readPeriod_19 : xm_lk kb_X2_readPeriod 19 = none := rfl
theorem lb_X2_readPeriod_26 : xm_lk kb_X2_readPeriod 26 = none := rfl
theorem lb_X2_readPeriod_30 : xm_lk kb_X2_readPeriod 30 = none := rfl
theorem kc_X2_readPeriod : xm_oks cX2_readPeriod 2 1 0 false kb_X2_readPeriod := (List.forall_mem_cons.mpr ⟨bk_X2_readPeriod_0, (List.forall_mem_cons.mpr ⟨bk_X2_readPeriod_12, (List.forall_mem_cons.mpr ⟨bk_X2_readPeriod_22, (List.forall_mem_cons.mpr ⟨bk_X2_readPeriod_29, (fun _ h => absurd h List.not_mem_nil)⟩)⟩)⟩)⟩)
def kb_X2_readGates : List (Nat × Nat × List xm_I) := [(0, 2, kX2_readGates_0), (2, 10, kX2_readGates_2), (15, 19, kX2_readGates_15), (22, 23, kX2_readGates_22), (26, 32, kX2_readGates_26), (35, 46, kX2_readGates_35), (49, 54, kX2_readGates_49), (57, 60, kX2_readGates_57), (63, 71, kX2_readGates_63), (74, 80, kX2_readGates_74), (80, 81, kX2_readGates_80)]
theorem lb_X2_readGates_0 : xm_lk kb_X2_readGates 0 = some (2, kX2_readGates_0) := rfl
theorem lb_X2_readGates_2 : xm_lk kb_X2_readGates 2 = some (10, kX2_readGates_2) := rfl
theorem lb_X2_readGates_15 : xm_lk kb_X2_readGates 15 = some (19, kX2_readGates_15) := rfl
theorem lb_X2_readGates_22 : xm_lk kb_X2_readGates 22 = some (23, kX2_readGates_22) := rfl
theorem lb_X2_readGates_26 : xm_lk kb_X2_readGates 26 = some (32, kX2_readGates_26) := rfl
theorem lb_X2_readGates_35 : xm_lk kb_X2_readGates 35 = some (46, kX2_readGates_35) := rfl
theorem lb_X2_readGates_49 : xm_lk kb_X2_readGates 49 = some (54, kX2_readGates_49) := rfl
theorem lb_X2_readGates_57 : xm_lk kb_X2_readGates 57 = some (60, kX2_readGates_57) := rfl
theorem lb_X2_readGates_63 : xm_lk kb_X2_readGates 63 = some (71, kX2_readGates_63) := rfl
theorem lb_X2_readGates_74 : xm_lk kb_X2_readGates 74 = some (80, kX2_readGates_74) := rfl
theorem lb_X2_readGates_80 : xm_lk kb_X2_readGates 80 = some (81, kX2_readGates_80) := rfl
theorem lb_X2_readGates_10 : xm_lk kb_X2_readGates 10 = none := rfl
theorem lb_X2_readGates_19 : xm_lk kb_X2_readGates 19 = none := rfl
theorem lb_X2_readGates_23 : xm_lk kb_X2_readGates 23 = none := rfl
theorem lb_X2_readGates_32 : xm_lk kb_X2_readGates 32 = none := rfl
theorem lb_X2_readGates_46 : xm_lk kb_X2_readGates 46 = none := rfl
theorem lb_X2_readGates_54 : xm_lk kb_X2_readGates 54 = none := rfl
theorem lb_X2_readGates_60 : xm_lk kb_X2_readGates 60 = none := rfl
theorem lb_X2_readGates_71 : xm_lk kb_X2_readGates 71 = none := rfl
theorem lb_X2_readGates_81 : xm_lk kb_X2_readGates 81 = none := rfl
theorem kc_X2_readGates : xm_oks cX2_readGates 2 5 3 false kb_X2_readGates := (List.forall_mem_cons.mpr ⟨bk_X2_readGates_0, (List.forall_mem_cons.mpr ⟨bk_X2_readGates_2, (List.forall_mem_cons.mpr ⟨bk_X2_readGates_15, (List.forall_mem_cons.mpr ⟨bk_X2_readGates_22, (List.forall_mem_cons.mpr ⟨bk_X2_readGates_26, (List.forall_mem_cons.mpr ⟨bk_X2_readGates_35, (List.forall_mem_cons.mpr ⟨bk_X2_readGates_49, (List.forall_mem_cons.mpr ⟨bk_X2_readGates_57, (List.forall_mem_cons.mpr ⟨bk_X2_readGates_63, (List.forall_mem_cons.mpr ⟨bk_X2_readGates_74, (List.forall_mem_cons.mpr ⟨bk_X2_readGates_80, (fun _ h => absurd h List.not_mem_nil)⟩)⟩)⟩)⟩)⟩)⟩)⟩)⟩)⟩)⟩)⟩)
def kb_X2_readKind : List (Nat × Nat × List xm_I) := [(0, 1, kX2_readKind_0), (4, 12, kX2_readKind_4), (15, 18, kX2_readKind_15), (18, 23, kX2_readKind_18), (26, 32, kX2_readKind_26), (35, 36, kX2_readKind_35), (39, 41, kX2_readKind_39)]
theorem lb_X2_readKind_0 : xm_lk kb_X2_readKind 0 = some (1, kX2_readKind_0) := rfl
theorem lb_X2_readKind_4 : xm_lk kb_X2_readKind 4 = some (12, kX2_readKind_4) := rfl
theorem lb_X2_readKind_15 : xm_lk kb_X2_readKind 15 = some (18, kX2_readKind_15) := rfl
theorem lb_X2_readKind_18 : xm_lk kb_X2_readKind 18 = some (23, kX2_readKind_18) := rfl
theorem lb_X2_readKind_26 : xm_lk kb_X2_readKind 26 = some (32, kX2_readKind_26) := rfl
theorem lb_X2_readKind_35 : xm_lk kb_X2_readKind 35 = some (36, kX2_readKind_35) := rfl
theorem lb_X2_readKind_39 : xm_lk kb_X2_readKind 39 = some (41, kX2_readKind_39) := rfl
theorem lb_X2_readKind_1 : xm_lk kb_X2_readKind 1 = none := rfl
theorem lb_X2_readKind_12 : xm_lk kb_X2_readKind 12 = none := rfl
theorem lb_X2_readKind_23 : xm_lk kb_X2_readKind 23 = none := rfl
theorem lb_X2_readKind_32 : xm_lk kb_X2_readKind 32 = none := rfl
theorem lb_X2_readKind_36 : xm_lk kb_X2_readKind 36 = none := rfl
theorem lb_X2_readKind_41 : xm_lk kb_X2_readKind 41 = none := rfl
theorem kc_X2_readKind : xm_oks cX2_readKind 2 2 0 false kb_X2_readKind := (List.forall_mem_cons.mpr ⟨bk_X2_readKind_0, (List.forall_mem_cons.mpr ⟨bk_X2_readKind_4, (List.forall_mem_cons.mpr ⟨bk_X2_readKind_15, (List.forall_mem_cons.mpr ⟨bk_X2_readKind_18, (List.forall_mem_cons.mpr ⟨bk_X2_readKind_26, (List.forall_mem_cons.mpr ⟨bk_X2_readKind_35, (List.forall_mem_cons.mpr ⟨bk_X2_readKind_39, (fun _ h => absurd h List.not_mem_nil)⟩)⟩)⟩)⟩)⟩)⟩)⟩)
def kb_X2_kindAt : List (Nat × Nat × List xm_I) := [(0, 1, kX2_kindAt_0), (6, 11, kX2_kindAt_6), (11, 12, kX2_kindAt_11), (17, 22, kX2_kindAt_17), (22, 23, kX2_kindAt_22), (28, 35, kX2_kindAt_28), (35, 36, kX2_kindAt_35), (36, 37, kX2_kindAt_36)]
theorem lb_X2_kindAt_0 : xm_lk kb_X2_kindAt 0 = some (1, kX2_kindAt_0) := rfl
theorem lb_X2_kindAt_6 : xm_lk kb_X2_kindAt 6 = some (11, kX2_kindAt_6) := rfl
theorem lb_X2_kindAt_11 : xm_lk kb_X2_kindAt 11 = some (12, kX2_kindAt_11) := rfl
theorem lb_X2_kindAt_17 : xm_lk kb_X2_kindAt 17 = some (22, kX2_kindAt_17) := rfl
theorem lb_X2_kindAt_22 : xm_lk kb_X2_kindAt 22 = some (23, kX2_kindAt_22) := rfl
theorem lb_X2_kindAt_28 : xm_lk kb_X2_kindAt 28 = some (35, kX2_kindAt_28) := rfl
theorem lb_X2_kindAt_35 : xm_lk kb_X2_kindAt 35 = some (36, kX2_kindAt_35) := rfl
theorem lb_X2_kindAt_36 : xm_lk kb_X2_kindAt 36 = some (37, kX2_kindAt_36) := rfl
theorem lb_X2_kindAt_1 : xm_lk kb_X2_kindAt 1 = none := rfl
theorem lb_X2_kindAt_12 : xm_lk kb_X2_kindAt 12 = none := rfl
theorem lb_X2_kindAt_23 : xm_lk kb_X2_kindAt 23 = none := rfl
theorem lb_X2_kindAt_37 : xm_lk kb_X2_kindAt 37 = none := rfl
theorem kc_X2_kindAt : xm_oks cX2_kindAt 2 1 0 false kb_X2_kindAt := (List.forall_mem_cons.mpr ⟨bk_X2_kindAt_0, (List.forall_mem_cons.mpr ⟨bk_X2_kindAt_6, (List.forall_mem_cons.mpr ⟨bk_X2_kindAt_11, (List.forall_mem_cons.mpr ⟨bk_X2_kindAt_17, (List.forall_mem_cons.mpr ⟨bk_X2_kindAt_22, (List.forall_mem_cons.mpr ⟨bk_X2_kindAt_28, (List.forall_mem_cons.mpr ⟨bk_X2_kindAt_35, (List.forall_mem_cons.mpr ⟨bk_X2_kindAt_36, (fun _ h => absurd h List.not_mem_nil)⟩)⟩)⟩)⟩)⟩)⟩)⟩)⟩)
def kb_X2_readSettings : List (Nat × Nat × List xm_I) := [(0, 2, kX2_readSettings_0), (2, 20, kX2_readSettings_2), (27, 35, kX2_readSettings_27), (38, 39, kX2_readSettings_38), (39, 51, kX2_readSettings_39), (55, 56, kX2_readSettings_55), (56, 68, kX2_readSettings_56), (72, 74, kX2_readSettings_72), (77, 78, kX2_readSettings_77), (81, 87, kX2_readSettings_81), (87, 88, kX2_readSettings_87), (20, 24, kX2_readSettings_20), (51, 52, kX2_readSettings_51), (68, 69, kX2_readSettings_68)]
theorem lb_X2_readSettings_0 : xm_lk kb_X2_readSettings 0 = some (2, kX2_readSettings_0) := rfl
theorem lb_X2_readSettings_2 : xm_lk kb_X2_readSettings 2 = some (20, kX2_readSettings_2) := rfl
theorem lb_X2_readSettings_27 : xm_lk kb_X2_readSettings 27 = some (35, kX2_readSettings_27) := rfl
theorem lb_X2_readSettings_38 : xm_lk kb_X2_readSettings 38 = some (39, kX2_readSettings_38) := rfl
theorem lb_X2_readSettings_39 : xm_lk kb_X2_readSettings 39 = some (51, kX2_readSettings_39) := rfl
theorem lb_X2_readSettings_55 : xm_lk kb_X2_readSettings 55 = some (56, kX2_readSettings_55) := rfl
theorem lb_X2_readSettings_56 : xm_lk kb_X2_readSettings 56 = some (68, kX2_readSettings_56) := rfl
theorem lb_X2_readSettings_72 : xm_lk kb_X2_readSettings 72 = some (74, kX2_readSettings_72) := rfl
theorem lb_X2_readSettings_77 : xm_lk kb_X2_readSettings 77 = some (78, kX2_readSettings_77) := rfl
theorem lb_X2_readSettings_81 : xm_lk kb_X2_readSettings 81 = some (87, kX2_readSettings_81) := rfl
theorem lb_X2_readSettings_87 : xm_lk kb_X2_readSettings 87 = some (88, kX2_readSettings_87) := rfl
theorem lb_X2_readSettings_20 : xm_lk kb_X2_readSettings 20 = some (24, kX2_readSettings_20) := rfl
theorem lb_X2_readSettings_51 : xm_lk kb_X2_readSettings 51 = some (52, kX2_readSettings_51) := rfl
theorem lb_X2_readSettings_68 : xm_lk kb_X2_readSettings 68 = some (69, kX2_readSettings_68) := rfl
theorem lb_X2_readSettings_24 : xm_lk kb_X2_readSettings 24 = none := rfl
theorem lb_X2_readSettings_35 : xm_lk kb_X2_readSettings 35 = none := rfl
theorem lb_X2_readSettings_52 : xm_lk kb_X2_readSettings 52 = none := rfl
theorem lb_X2_readSettings_69 : xm_lk kb_X2_readSettings 69 = none := rfl
theorem lb_X2_readSettings_74 : xm_lk kb_X2_readSettings 74 = none := rfl
theorem lb_X2_readSettings_78 : xm_lk kb_X2_readSettings 78 = none := rfl
theorem lb_X2_readSettings_88 : xm_lk kb_X2_readSettings 88 = none := rfl
theorem kc_X2_readSettings : xm_oks cX2_readSettings 2 3 3 false kb_X2_readSettings := (List.forall_mem_cons.mpr ⟨bk_X2_readSettings_0, (List.forall_mem_cons.mpr ⟨bk_X2_readSettings_2, (List.forall_mem_cons.mpr ⟨bk_X2_readSettings_27, (List.forall_mem_cons.mpr ⟨bk_X2_readSettings_38, (List.forall_mem_cons.mpr ⟨bk_X2_readSettings_39, (List.forall_mem_cons.mpr ⟨bk_X2_readSettings_55, (List.forall_mem_cons.mpr ⟨bk_X2_readSettings_56, (List.forall_mem_cons.mpr ⟨bk_X2_readSettings_72, (List.forall_mem_cons.mpr ⟨bk_X2_readSettings_77, (List.forall_mem_cons.mpr ⟨bk_X2_readSettings_81, (List.forall_mem_cons.mpr ⟨bk_X2_readSettings_87, (List.forall_mem_cons.mpr ⟨bk_X2_readSettings_20, (List.forall_mem_cons.mpr ⟨bk_X2_readSettings_51, (List.forall_mem_cons.mpr ⟨bk_X2_readSettings_68, (fun _ h => absurd h List.not_mem_nil)⟩)⟩)⟩)⟩)⟩)⟩)⟩)⟩)⟩)⟩)⟩)⟩)⟩)⟩)
def kb_X2_settingAt : List (Nat × Nat × List xm_I) := [(0, 1, kX2_settingAt_0), (6, 11, kX2_settingAt_6), (11, 12, kX2_settingAt_11), (17, 22, kX2_settingAt_17), (22, 23, kX2_settingAt_22), (28, 33, kX2_settingAt_28), (33, 34, kX2_settingAt_33), (39, 44, kX2_settingAt_39), (44, 45, kX2_settingAt_44), (50, 55, kX2_settingAt_50), (55, 56, kX2_settingAt_55), (61, 66, kX2_settingAt_61), (66, 67, kX2_settingAt_66), (72, 78, kX2_settingAt_72), (78, 79, kX2_settingAt_78), (84, 92, kX2_settingAt_84), (92, 93, kX2_settingAt_92), (93, 94, kX2_settingAt_93)]
theorem lb_X2_settingAt_0 : xm_lk kb_X2_settingAt 0 = some (1, kX2_settingAt_0) := rfl
theorem lb_X2_settingAt_6 : xm_lk kb_X2_settingAt 6 = some (11, kX2_settingAt_6) := rfl
theorem lb_X2_settingAt_11 : xm_lk kb_X2_settingAt 11 = some (12, kX2_settingAt_11) := rfl
theorem lb_X2_settingAt_17 : xm_lk kb_X2_settingAt 17 = some (22, kX2_settingAt_17) := rfl
theorem lb_X2_settingAt_22 : xm_lk kb_X2_settingAt 22 = some (23, kX2_settingAt_22) := rfl
theorem lb_X2_settingAt_28 : xm_lk kb_X2_settingAt 28 = some (33, kX2_settingAt_28) := rfl
theorem lb_X2_settingAt_33 : xm_lk kb_X2_settingAt 33 = some (34, kX2_settingAt_33) := rfl
theorem lb_X2_settingAt_39 : xm_lk kb_X2_settingAt 39 = some (44, kX2_settingAt_39) := rfl
theorem lb_X2_settingAt_44 : xm_lk kb_X2_settingAt 44 = some (45, kX2_settingAt_44) := rfl
theorem lb_X2_settingAt_50 : xm_lk kb_X2_settingAt 50 = some (55, kX2_settingAt_50) := rfl
theorem lb_X2_settingAt_55 : xm_lk kb_X2_settingAt 55 = some (56, kX2_settingAt_55) := rfl
theorem lb_X2_settingAt_61 : xm_lk kb_X2_settingAt 61 = some (66, kX2_settingAt_61) := rfl
theorem lb_X2_settingAt_66 : xm_lk kb_X2_settingAt 66 = some (67, kX2_settingAt_66) := rfl
theorem lb_X2_settingAt_72 : xm_lk kb_X2_settingAt 72 = some (78, kX2_settingAt_72) := rfl
theorem lb_X2_settingAt_78 : xm_lk kb_X2_settingAt 78 = some (79, kX2_settingAt_78) := rfl
theorem lb_X2_settingAt_84 : xm_lk kb_X2_settingAt 84 = some (92, kX2_settingAt_84) := rfl
theorem lb_X2_settingAt_92 : xm_lk kb_X2_settingAt 92 = some (93, kX2_settingAt_92) := rfl
theorem lb_X2_settingAt_93 : xm_lk kb_X2_settingAt 93 = some (94, kX2_settingAt_93) := rfl
theorem lb_X2_settingAt_1 : xm_lk kb_X2_settingAt 1 = none := rfl
theorem lb_X2_settingAt_12 : xm_lk kb_X2_settingAt 12 = none := rfl
theorem lb_X2_settingAt_23 : xm_lk kb_X2_settingAt 23 = none := rfl
theorem lb_X2_settingAt_34 : xm_lk kb_X2_settingAt 34 = none := rfl
theorem lb_X2_settingAt_45 : xm_lk kb_X2_settingAt 45 = none := rfl
theorem lb_X2_settingAt_56 : xm_lk kb_X2_settingAt 56 = none := rfl
theorem lb_X2_settingAt_67 : xm_lk kb_X2_settingAt 67 = none := rfl
theorem lb_X2_settingAt_79 : xm_lk kb_X2_settingAt 79 = none := rfl
theorem lb_X2_settingAt_94 : xm_lk kb_X2_settingAt 94 = none := rfl
theorem kc_X2_settingAt : xm_oks cX2_settingAt 2 1 0 false kb_X2_settingAt := (List.forall_mem_cons.mpr ⟨bk_X2_settingAt_0, (List.forall_mem_cons.mpr ⟨bk_X2_settingAt_6, (List.forall_mem_cons.mpr ⟨bk_X2_settingAt_11, (List.forall_mem_cons.mpr ⟨bk_X2_settingAt_17, (List.forall_mem_cons.mpr ⟨bk_X2_settingAt_22, (List.forall_mem_cons.mpr ⟨bk_X2_settingAt_28, (List.forall_mem_cons.mpr ⟨bk_X2_settingAt_33, (List.forall_mem_cons.mpr ⟨bk_X2_settingAt_39, (List.forall_mem_cons.mpr ⟨bk_X2_settingAt_44, (List.forall_mem_cons.mpr ⟨bk_X2_settingAt_50, (List.forall_mem_cons.mpr ⟨bk_X2_settingAt_55, (List.forall_mem_cons.mpr ⟨bk_X2_settingAt_61, (List.forall_mem_cons.mpr ⟨bk_X2_settingAt_66, (List.forall_mem_cons.mpr ⟨bk_X2_settingAt_72, (List.forall_mem_cons.mpr ⟨bk_X2_settingAt_78, (List.forall_mem_cons.mpr ⟨bk_X2_settingAt_84, (List.forall_mem_cons.mpr ⟨bk_X2_settingAt_92, (List.forall_mem_cons.mpr ⟨bk_X2_settingAt_93, (fun _ h => absurd h List.not_mem_nil)⟩)⟩)⟩)⟩)⟩)⟩)⟩)⟩)⟩)⟩)⟩)⟩)⟩)⟩)⟩)⟩)⟩)⟩)
def kb_X2_readSetting : List (Nat × Nat × List xm_I) := [(0, 1, kX2_readSetting_0), (44, 53, kX2_readSetting_44), (56, 74, kX2_readSetting_56), (77, 83, kX2_readSetting_77), (83, 91, kX2_readSetting_83), (94, 100, kX2_readSetting_94), (100, 101, kX2_readSetting_100), (104, 107, kX2_readSetting_104), (107, 116, kX2_readSetting_107), (119, 125, kX2_readSetting_119), (125, 133, kX2_readSetting_125), (136, 142, kX2_readSetting_136), (142, 150, kX2_readSetting_142), (153, 165, kX2_readSetting_153), (168, 174, kX2_readSetting_168), (174, 182, kX2_readSetting_174), (185, 191, kX2_readSetting_185), (191, 199, kX2_readSetting_191), (202, 205, kX2_readSetting_202), (205, 206, kX2_readSetting_205)]
theorem lb_X2_readSetting_0 : xm_lk kb_X2_readSetting 0 = some (1, kX2_readSetting_0) := rfl
theorem lb_X2_readSetting_44 : xm_lk kb_X2_readSetting 44 = some (53, kX2_readSetting_44) := rfl
theorem lb_X2_readSetting_56 : xm_lk kb_X2_readSetting 56 = some (74, kX2_readSetting_56) := rfl
theorem lb_X2_readSetting_77 : xm_lk kb_X2_readSetting 77 = some (83, kX2_readSetting_77) := rfl
theorem lb_X2_readSetting_83 : xm_lk kb_X2_readSetting 83 = some (91, kX2_readSetting_83) := rfl
theorem lb_X2_readSetting_94 : xm_lk kb_X2_readSetting 94 = some (100, kX2_readSetting_94) := rfl
theorem lb_X2_readSetting_100 : xm_lk kb_X2_readSetting 100 = some (101, kX2_readSetting_100) := rfl
theorem lb_X2_readSetting_104 : xm_lk kb_X2_readSetting 104 = some (107, kX2_readSetting_104) := rfl
theorem lb_X2_readSetting_107 : xm_lk kb_X2_readSetting 107 = some (116, kX2_readSetting_107) := rfl
theorem lb_X2_readSetting_119 : xm_lk kb_X2_readSetting 119 = some (125, kX2_readSetting_119) := rfl
theorem lb_X2_readSetting_125 : xm_lk kb_X2_readSetting 125 = some (133, kX2_readSetting_125) := rfl
theorem lb_X2_readSetting_136 : xm_lk kb_X2_readSetting 136 = some (142, kX2_readSetting_136) := rfl
theorem lb_X2_readSetting_142 : xm_lk kb_X2_readSetting 142 = some (150, kX2_readSetting_142) := rfl
theorem lb_X2_readSetting_153 : xm_lk kb_X2_readSetting 153 = some (165, kX2_readSetting_153) := rfl
theorem lb_X2_readSetting_168 : xm_lk kb_X2_readSetting 168 = some (174, kX2_readSetting_168) := rfl
theorem lb_X2_readSetting_174 : xm_lk kb_X2_readSetting 174 = some (182, kX2_readSetting_174) := rfl
theorem lb_X2_readSetting_185 : xm_lk kb_X2_readSetting 185 = some (191, kX2_readSetting_185) := rfl
theorem lb_X2_readSetting_191 : xm_lk kb_X2_readSetting 191 = some (199, kX2_readSetting_191) := rfl
theorem lb_X2_readSetting_202 : xm_lk kb_X2_readSetting 202 = some (205, kX2_readSetting_202) := rfl
theorem lb_X2_readSetting_205 : xm_lk kb_X2_readSetting 205 = some (206, kX2_readSetting_205) := rfl
theorem lb_X2_readSetting_1 : xm_lk kb_X2_readSetting 1 = none := rfl
theorem lb_X2_readSetting_53 : xm_lk kb_X2_readSetting 53 = none := rfl
theorem lb_X2_readSetting_74 : xm_lk kb_X2_readSetting 74 = none := rfl
theorem lb_X2_readSetting_91 : xm_lk kb_X2_readSetting 91 = none := rfl
theorem lb_X2_readSetting_101 : xm_lk kb_X2_readSetting 101 = none := rfl
theorem lb_X2_readSetting_116 : xm_lk kb_X2_readSetting 116 = none := rfl
theorem lb_X2_readSetting_133 : xm_lk kb_X2_readSetting 133 = none := rfl
theorem lb_X2_readSetting_150 : xm_lk kb_X2_readSetting 150 = none := rfl
theorem lb_X2_readSetting_165 : xm_lk kb_X2_readSetting 165 = none := rfl
theorem lb_X2_readSetting_182 : xm_lk kb_X2_readSetting 182 = none := rfl
theorem lb_X2_readSetting_199 : xm_lk kb_X2_readSetting 199 = none := rfl
theorem lb_X2_readSetting_206 : xm_lk kb_X2_readSetting 206 = none := rfl
theorem kc_X2_readSetting : xm_oks cX2_readSetting 2 2 3 false kb_X2_readSetting := (List.forall_mem_cons.mpr ⟨bk_X2_readSetting_0, (List.forall_mem_cons.mpr ⟨bk_X2_readSetting_44, (List.forall_mem_cons.mpr ⟨bk_X2_readSetting_56, (List.forall_mem_cons.mpr ⟨bk_X2_readSetting_77, (List.forall_mem_cons.mpr ⟨bk_X2_readSetting_83, (List.forall_mem_cons.mpr ⟨bk_X2_readSetting_94, (List.forall_mem_cons.mpr ⟨bk_X2_readSetting_100, (List.forall_mem_cons.mpr ⟨bk_X2_readSetting_104, (List.forall_mem_cons.mpr ⟨bk_X2_readSetting_107, (List.forall_mem_cons.mpr ⟨bk_X2_readSetting_119, (List.forall_mem_cons.mpr ⟨bk_X2_readSetting_125, (List.forall_mem_cons.mpr ⟨bk_X2_readSetting_136, (List.forall_mem_cons.mpr ⟨bk_X2_readSetting_142, (List.forall_mem_cons.mpr ⟨bk_X2_readSetting_153, (List.forall_mem_cons.mpr ⟨bk_X2_readSetting_168, (List.forall_mem_cons.mpr ⟨bk_X2_readSetting_174, (List.forall_mem_cons.mpr ⟨bk_X2_readSetting_185, (List.forall_mem_cons.mpr ⟨bk_X2_readSetting_191, (List.forall_mem_cons.mpr ⟨bk_X2_readSetting_202, (List.forall_mem_cons.mpr ⟨bk_X2_readSetting_205, (fun _ h => absurd h List.not_mem_nil)⟩)⟩)⟩)⟩)⟩)⟩)⟩)⟩)⟩)⟩)⟩)⟩)⟩)⟩)⟩)⟩)⟩)⟩)⟩)⟩)
def kb_X2_readNotch : List (Nat × Nat × List xm_I) := [(0, 5, kX2_readNotch_0), (10, 24, kX2_readNotch_10), (29, 34, kX2_readNotch_29), (37, 38, kX2_readNotch_37), (41, 42, kX2_readNotch_41)]
theorem lb_X2_readNotch_0 : xm_lk kb_X2_readNotch 0 = some (5, kX2_readNotch_0) := rfl
theorem lb_X2_readNotch_10 : xm_lk kb_X2_readNotch 10 = some (24, kX2_readNotch_10) := rfl
theorem lb_X2_readNotch_29 : xm_lk kb_X2_readNotch 29 = some (34, kX2_readNotch_29) := rfl
theorem lb_X2_readNotch_37 : xm_lk kb_X2_readNotch 37 = some (38, kX2_readNotch_37) := rfl
theorem lb_X2_readNotch_41 : xm_lk kb_X2_readNotch 41 = some (42, kX2_readNotch_41) := rfl
theorem lb_X2_readNotch_5 : xm_lk kb_X2_readNotch 5 = none := rfl
theorem lb_X2_readNotch_24 : xm_lk kb_X2_readNotch 24 = none := rfl
theorem lb_X2_readNotch_34 : xm_lk kb_X2_readNotch 34 = none := rfl
theorem lb_X2_readNotch_38 : xm_lk kb_X2_readNotch 38 = none := rfl
theorem lb_X2_readNotch_42 : xm_lk kb_X2_readNotch 42 = none := rfl
theorem kc_X2_readNotch : xm_oks cX2_readNotch 2 1 3 false kb_X2_readNotch := (List.forall_mem_cons.mpr ⟨bk_X2_readNotch_0, (List.forall_mem_cons.mpr ⟨bk_X2_readNotch_10, (List.forall_mem_cons.mpr ⟨bk_X2_readNotch_29, (List.forall_mem_cons.mpr ⟨bk_X2_readNotch_37, (List.forall_mem_cons.mpr ⟨bk_X2_readNotch_41, (fun _ h => absurd h List.not_mem_nil)⟩)⟩)⟩)⟩)⟩)
def kb_X2_readWord : List (Nat × Nat × List xm_I) := [(0, 2, kX2_readWord_0), (5, 10, kX2_readWord_5), (13, 14, kX2_readWord_13), (17, 18, kX2_readWord_17)]
theorem lb_X2_readWord_0 : xm_lk kb_X2_readWord 0 = some (2, kX2_readWord_0) := rfl
theorem lb_X2_readWord_5 : xm_lk kb_X2_readWord 5 = some (10, kX2_readWord_5) := rfl
theorem lb_X2_readWord_13 : xm_lk kb_X2_readWord 13 = some (14, kX2_readWord_13) := rfl
theorem lb_X2_readWord_17 : xm_lk kb_X2_readWord 17 = some (18, kX2_readWord_17) := rfl
theorem lb_X2_readWord_2 : xm_lk kb_X2_readWord 2 = none := rfl
theorem lb_X2_readWord_10 : xm_lk kb_X2_readWord 10 = none := rfl
theorem lb_X2_readWord_14 : xm_lk kb_X2_readWord 14 = none := rfl
theorem lb_X2_readWord_18 : xm_lk kb_X2_readWord 18 = none := rfl
theorem kc_X2_readWord : xm_oks cX2_readWord 2 2 3 false kb_X2_readWord := (List.forall_mem_cons.mpr ⟨bk_X2_readWord_0, (List.forall_mem_cons.mpr ⟨bk_X2_readWord_5, (List.forall_mem_cons.mpr ⟨bk_X2_readWord_13, (List.forall_mem_cons.mpr ⟨bk_X2_readWord_17, (fun _ h => absurd h List.not_mem_nil)⟩)⟩)⟩)⟩)
def kb_X2_readSemicolon : List (Nat × Nat × List xm_I) := [(0, 10, kX2_readSemicolon_0), (13, 14, kX2_readSemicolon_13), (17, 18, kX2_readSemicolon_17)]
theorem lb_X2_readSemicolon_0 : xm_lk kb_X2_readSemicolon 0 = some (10, kX2_readSemicolon_0) := rfl
theorem lb_X2_readSemicolon_13 : xm_lk kb_X2_readSemicolon 13 = some (14, kX2_readSemicolon_13) := rfl
theorem lb_X2_readSemicolon_17 : xm_lk kb_X2_readSemicolon 17 = some (18, kX2_readSemicolon_17) := rfl
theorem lb_X2_readSemicolon_10 : xm_lk kb_X2_readSemicolon 10 = none := rfl
theorem lb_X2_readSemicolon_14 : xm_lk kb_X2_readSemicolon 14 = none := rfl
theorem lb_X2_readSemicolon_18 : xm_lk kb_X2_readSemicolon 18 = none := rfl
theorem kc_X2_readSemicolon : xm_oks cX2_readSemicolon 2 1 3 false kb_X2_readSemicolon := (List.forall_mem_cons.mpr ⟨bk_X2_readSemicolon_0, (List.forall_mem_cons.mpr ⟨bk_X2_readSemicolon_13, (List.forall_mem_cons.mpr ⟨bk_X2_readSemicolon_17, (fun _ h => absurd h List.not_mem_nil)⟩)⟩)⟩)
def kb_X2_readNumber : List (Nat × Nat × List xm_I) := [(0, 12, kX2_readNumber_0), (15, 18, kX2_readNumber_15), (18, 19, kX2_readNumber_18), (22, 27, kX2_readNumber_22), (30, 34, kX2_readNumber_30), (34, 36, kX2_readNumber_34), (39, 42, kX2_readNumber_39), (42, 43, kX2_readNumber_42), (46, 47, kX2_readNumber_46), (47, 48, kX2_readNumber_47), (51, 53, kX2_readNumber_51)]
theorem lb_X2_readNumber_0 : xm_lk kb_X2_readNumber 0 = some (12, kX2_readNumber_0) := rfl
theorem lb_X2_readNumber_15 : xm_lk kb_X2_readNumber 15 = some (18, kX2_readNumber_15) := rfl
theorem lb_X2_readNumber_18 : xm_lk kb_X2_readNumber 18 = some (19, kX2_readNumber_18) := rfl
theorem lb_X2_readNumber_22 : xm_lk kb_X2_readNumber 22 = some (27, kX2_readNumber_22) := rfl
theorem lb_X2_readNumber_30 : xm_lk kb_X2_readNumber 30 = some (34, kX2_readNumber_30) := rfl
theorem lb_X2_readNumber_34 : xm_lk kb_X2_readNumber 34 = some (36, kX2_readNumber_34) := rfl
theorem lb_X2_readNumber_39 : xm_lk kb_X2_readNumber 39 = some (42, kX2_readNumber_39) := rfl
theorem lb_X2_readNumber_42 : xm_lk kb_X2_readNumber 42 = some (43, kX2_readNumber_42) := rfl
theorem lb_X2_readNumber_46 : xm_lk kb_X2_readNumber 46 = some (47, kX2_readNumber_46) := rfl
theorem lb_X2_readNumber_47 : xm_lk kb_X2_readNumber 47 = some (48, kX2_readNumber_47) := rfl
theorem lb_X2_readNumber_51 : xm_lk kb_X2_readNumber 51 = some (53, kX2_readNumber_51) := rfl
theorem lb_X2_readNumber_12 : xm_lk kb_X2_readNumber 12 = none := rfl
theorem lb_X2_readNumber_19 : xm_lk kb_X2_readNumber 19 = none := rfl
theorem lb_X2_readNumber_27 : xm_lk kb_X2_readNumber 27 = none := rfl
theorem lb_X2_readNumber_36 : xm_lk kb_X2_readNumber 36 = none := rfl
theorem lb_X2_readNumber_43 : xm_lk kb_X2_readNumber 43 = none := rfl
theorem lb_X2_readNumber_48 : xm_lk kb_X2_readNumber 48 = none := rfl
theorem lb_X2_readNumber_53 : xm_lk kb_X2_readNumber 53 = none := rfl
theorem kc_X2_readNumber : xm_oks cX2_readNumber 2 4 0 false kb_X2_readNumber := (List.forall_mem_cons.mpr ⟨bk_X2_readNumber_0, (List.forall_mem_cons.mpr ⟨bk_X2_readNumber_15, (List.forall_mem_cons.mpr ⟨bk_X2_readNumber_18, (List.forall_mem_cons.mpr ⟨bk_X2_readNumber_22, (List.forall_mem_cons.mpr ⟨bk_X2_readNumber_30, (List.forall_mem_cons.mpr ⟨bk_X2_readNumber_34, (List.forall_mem_cons.mpr ⟨bk_X2_readNumber_39, (List.forall_mem_cons.mpr ⟨bk_X2_readNumber_42, (List.forall_mem_cons.mpr ⟨bk_X2_readNumber_46, (List.forall_mem_cons.mpr ⟨bk_X2_readNumber_47, (List.forall_mem_cons.mpr ⟨bk_X2_readNumber_51, (fun _ h => absurd h List.not_mem_nil)⟩)⟩)⟩)⟩)⟩)⟩)⟩)⟩)⟩)⟩)⟩)
def kb_X2_fail : List (Nat × Nat × List xm_I) := [(0, 14, kX2_fail_0), (20, 21, kX2_fail_20), (14, 20, kX2_fail_14)]
theorem lb_X2_fail_0 : xm_lk kb_X2_fail 0 = some (14, kX2_fail_0) := rfl
theorem lb_X2_fail_20 : xm_lk kb_X2_fail 20 = some (21, kX2_fail_20) := rfl
theorem lb_X2_fail_14 : xm_lk kb_X2_fail 14 = some (20, kX2_fail_14) := rfl
theorem lb_X2_fail_21 : xm_lk kb_X2_fail 21 = none := rfl
theorem kc_X2_fail : xm_oks cX2_fail 2 2 3 false kb_X2_fail := (List.forall_mem_cons.mpr ⟨bk_X2_fail_0, (List.forall_mem_cons.mpr ⟨bk_X2_fail_20, (List.forall_mem_cons.mpr ⟨bk_X2_fail_14, (fun _ h => absurd h List.not_mem_nil)⟩)⟩)⟩)
def kb_X2_isAt : List (Nat × Nat × List xm_I) := [(0, 16, kX2_isAt_0), (28, 31, kX2_isAt_28), (31, 33, kX2_isAt_31), (33, 35, kX2_isAt_33), (35, 37, kX2_isAt_35), (40, 50, kX2_isAt_40), (53, 55, kX2_isAt_53), (58, 63, kX2_isAt_58), (63, 69, kX2_isAt_63), (69, 71, kX2_isAt_69), (16, 25, kX2_isAt_16)]
theorem lb_X2_isAt_0 : xm_lk kb_X2_isAt 0 = some (16, kX2_isAt_0) := rfl
theorem lb_X2_isAt_28 : xm_lk kb_X2_isAt 28 = some (31, kX2_isAt_28) := rfl
theorem lb_X2_isAt_31 : xm_lk kb_X2_isAt 31 = some (33, kX2_isAt_31) := rfl
theorem lb_X2_isAt_33 : xm_lk kb_X2_isAt 33 = some (35, kX2_isAt_33) := rfl
theorem lb_X2_isAt_35 : xm_lk kb_X2_isAt 35 = some (37, kX2_isAt_35) := rfl
theorem lb_X2_isAt_40 : xm_lk kb_X2_isAt 40 = some (50, kX2_isAt_40) := rfl
theorem lb_X2_isAt_53 : xm_lk kb_X2_isAt 53 = some (55, kX2_isAt_53) := rfl
theorem lb_X2_isAt_58 : xm_lk kb_X2_isAt 58 = some (63, kX2_isAt_58) := rfl
theorem lb_X2_isAt_63 : xm_lk kb_X2_isAt 63 = some (69, kX2_isAt_63) := rfl
theorem lb_X2_isAt_69 : xm_lk kb_X2_isAt 69 = some (71, kX2_isAt_69) := rfl
theorem lb_X2_isAt_16 : xm_lk kb_X2_isAt 16 = some (25, kX2_isAt_16) := rfl
theorem lb_X2_isAt_25 : xm_lk kb_X2_isAt 25 = none := rfl
theorem lb_X2_isAt_37 : xm_lk kb_X2_isAt 37 = none := rfl
theorem lb_X2_isAt_50 : xm_lk kb_X2_isAt 50 = none := rfl
theorem lb_X2_isAt_55 : xm_lk kb_X2_isAt 55 = none := rfl
theorem lb_X2_isAt_71 : xm_lk kb_X2_isAt 71 = none := rfl
theorem kc_X2_isAt : xm_oks cX2_isAt 2 3 1 false kb_X2_isAt := (List.forall_mem_cons.mpr ⟨bk_X2_isAt_0, (List.forall_mem_cons.mpr ⟨bk_X2_isAt_28, (List.forall_mem_cons.mpr ⟨bk_X2_isAt_31, (List.forall_mem_cons.mpr ⟨bk_X2_isAt_33, (List.forall_mem_cons.mpr ⟨bk_X2_isAt_35, (List.forall_mem_cons.mpr ⟨bk_X2_isAt_40, (List.forall_mem_cons.mpr ⟨bk_X2_isAt_53, (List.forall_mem_cons.mpr ⟨bk_X2_isAt_58, (List.forall_mem_cons.mpr ⟨bk_X2_isAt_63, (List.forall_mem_cons.mpr ⟨bk_X2_isAt_69, (List.forall_mem_cons.mpr ⟨bk_X2_isAt_16, (fun _ h => absurd h List.not_mem_nil)⟩)⟩)⟩)⟩)⟩)⟩)⟩)⟩)⟩)⟩)⟩)
def kb_X2_value : List (Nat × Nat × List xm_I) := [(0, 7, kX2_value_0), (7, 20, kX2_value_7), (24, 35, kX2_value_24), (35, 37, kX2_value_35), (20, 21, kX2_value_20)]
theorem lb_X2_value_0 : xm_lk kb_X2_value 0 = some (7, kX2_value_0) := rfl
theorem lb_X2_value_7 : xm_lk kb_X2_value 7 = some (20, kX2_value_7) := rfl
theorem lb_X2_value_24 : xm_lk kb_X2_value 24 = some (35, kX2_value_24) := rfl
theorem lb_X2_value_35 : xm_lk kb_X2_value 35 = some (37, kX2_value_35) := rfl
theorem lb_X2_value_20 : xm_lk kb_X2_value 20 = some (21, kX2_value_20) := rfl
theorem lb_X2_value_21 : xm_lk kb_X2_value 21 = none := rfl
theorem lb_X2_value_37 : xm_lk kb_X2_value 37 = none := rfl
theorem kc_X2_value : xm_oks cX2_value 2 3 0 false kb_X2_value := (List.forall_mem_cons.mpr ⟨bk_X2_value_0, (List.forall_mem_cons.mpr ⟨bk_X2_value_7, (List.forall_mem_cons.mpr ⟨bk_X2_value_24, (List.forall_mem_cons.mpr ⟨bk_X2_value_35, (List.forall_mem_cons.mpr ⟨bk_X2_value_20, (fun _ h => absurd h List.not_mem_nil)⟩)⟩)⟩)⟩)⟩)
def kb_X2_advance : List (Nat × Nat × List xm_I) := [(0, 8, kX2_advance_0), (8, 16, kX2_advance_8), (16, 32, kX2_advance_16), (38, 54, kX2_advance_38), (54, 70, kX2_advance_54), (81, 86, kX2_advance_81), (92, 100, kX2_advance_92), (100, 116, kX2_advance_100), (122, 138, kX2_advance_122), (138, 143, kX2_advance_138), (149, 152, kX2_advance_149), (152, 168, kX2_advance_152), (174, 190, kX2_advance_174), (190, 204, kX2_advance_190), (208, 209, kX2_advance_208), (209, 215, kX2_advance_209), (215, 221, kX2_advance_215), (224, 233, kX2_advance_224), (233, 234, kX2_advance_233), (234, 247, kX2_advance_234), (247, 248, kX2_advance_247), (70, 81, kX2_advance_70), (204, 208, kX2_advance_204)]
theorem lb_X2_advance_0 : xm_lk kb_X2_advance 0 = some (8, kX2_advance_0) := rfl
theorem lb_X2_advance_8 : xm_lk kb_X2_advance 8 = some (16, kX2_advance_8) := rfl
theorem lb_X2_advance_16 : xm_lk kb_X2_advance 16 = some (32, kX2_advance_16) := rfl
theorem lb_X2_advance_38 : xm_lk kb_X2_advance 38 = some (54, kX2_advance_38) := rfl
theorem lb_X2_advance_54 : xm_lk kb_X2_advance 54 = some (70, kX2_advance_54) := rfl
theorem lb_X2_advance_81 : xm_lk kb_X2_advance 81 = some (86, kX2_advance_81) := rfl
theorem lb_X2_advance_92 : xm_lk kb_X2_advance 92 = some (100, kX2_advance_92) := rfl
theorem lb_X2_advance_100 : xm_lk kb_X2_advance 100 = some (116, kX2_advance_100) := rfl
theorem lb_X2_advance_122 : xm_lk kb_X2_advance 122 = some (138, kX2_advance_122) := rfl
theorem lb_X2_advance_138 : xm_lk kb_X2_advance 138 = some (143, kX2_advance_138) := rfl
theorem lb_X2_advance_149 : xm_lk kb_X2_advance 149 = some (152, kX2_advance_149) := rfl
theorem lb_X2_advance_152 : xm_lk kb_X2_advance 152 = some (168, kX2_advance_152) := rfl
theorem lb_X2_advance_174 : xm_lk kb_X2_advance 174 = some (190, kX2_advance_174) := rfl
theorem lb_X2_advance_190 : xm_lk kb_X2_advance 190 = some (204, kX2_advance_190) := rfl
theorem lb_X2_advance_208 : xm_lk kb_X2_advance 208 = some (209, kX2_advance_208) := rfl
theorem lb_X2_advance_209 : xm_lk kb_X2_advance 209 = some (215, kX2_advance_209) := rfl
theorem lb_X2_advance_215 : xm_lk kb_X2_advance 215 = some (221, kX2_advance_215) := rfl
theorem lb_X2_advance_224 : xm_lk kb_X2_advance 224 = some (233, kX2_advance_224) := rfl
theorem lb_X2_advance_233 : xm_lk kb_X2_advance 233 = some (234, kX2_advance_233) := rfl
theorem lb_X2_advance_234 : xm_lk kb_X2_advance 234 = some (247, kX2_advance_234) := rfl
theorem lb_X2_advance_247 : xm_lk kb_X2_advance 247 = some (248, kX2_advance_247) := rfl
theorem lb_X2_advance_70 : xm_lk kb_X2_advance 70 = some (81, kX2_advance_70) := rfl
theorem lb_X2_advance_204 : xm_lk kb_X2_advance 204 = some (208, kX2_advance_204) := rfl
theorem lb_X2_advance_32 : xm_lk kb_X2_advance 32 = none := rfl
theorem lb_X2_advance_86 : xm_lk kb_X2_advance 86 = none := rfl
theorem lb_X2_advance_116 : xm_lk kb_X2_advance 116 = none := rfl
theorem lb_X2_advance_143 : xm_lk kb_X2_advance 143 = none := rfl
theorem lb_X2_advance_168 : xm_lk kb_X2_advance 168 = none := rfl
theorem lb_X2_advance_221 : xm_lk kb_X2_advance 221 = none := rfl
theorem lb_X2_advance_248 : xm_lk kb_X2_advance 248 = none := rfl
theorem kc_X2_advance : xm_oks cX2_advance 2 1 3 false kb_X2_advance := (List.forall_mem_cons.mpr ⟨bk_X2_advance_0, (List.forall_mem_cons.mpr ⟨bk_X2_advance_8, (List.forall_mem_cons.mpr ⟨bk_X2_advance_16, (List.forall_mem_cons.mpr ⟨bk_X2_advance_38, (List.forall_mem_cons.mpr ⟨bk_X2_advance_54, (List.forall_mem_cons.mpr ⟨bk_X2_advance_81, (List.forall_mem_cons.mpr ⟨bk_X2_advance_92, (List.forall_mem_cons.mpr ⟨bk_X2_advance_100, (List.forall_mem_cons.mpr ⟨bk_X2_advance_122, (List.forall_mem_cons.mpr ⟨bk_X2_advance_138, (List.forall_mem_cons.mpr ⟨bk_X2_advance_149, (List.forall_mem_cons.mpr ⟨bk_X2_advance_152, (List.forall_mem_cons.mpr ⟨bk_X2_advance_174, (List.forall_mem_cons.mpr ⟨bk_X2_advance_190, (List.forall_mem_cons.mpr ⟨bk_X2_advance_208, (List.forall_mem_cons.mpr ⟨bk_X2_advance_209, (List.forall_mem_cons.mpr ⟨bk_X2_advance_215, (List.forall_mem_cons.mpr ⟨bk_X2_advance_224, (List.forall_mem_cons.mpr ⟨bk_X2_advance_233, (List.forall_mem_cons.mpr ⟨bk_X2_advance_234, (List.forall_mem_cons.mpr ⟨bk_X2_advance_247, (List.forall_mem_cons.mpr ⟨bk_X2_advance_70, (List.forall_mem_cons.mpr ⟨bk_X2_advance_204, (fun _ h => absurd h List.not_mem_nil)⟩)⟩)⟩)⟩)⟩)⟩)⟩)⟩)⟩)⟩)⟩)⟩)⟩)⟩)⟩)⟩)⟩)⟩)⟩)⟩)⟩)⟩)⟩)
def kb_X2_byteAt : List (Nat × Nat × List xm_I) := [(0, 16, kX2_byteAt_0), (21, 22, kX2_byteAt_21), (22, 23, kX2_byteAt_22), (16, 21, kX2_byteAt_16)]
theorem lb_X2_byteAt_0 : xm_lk kb_X2_byteAt 0 = some (16, kX2_byteAt_0) := rfl
theorem lb_X2_byteAt_21 : xm_lk kb_X2_byteAt 21 = some (22, kX2_byteAt_21) := rfl
theorem lb_X2_byteAt_22 : xm_lk kb_X2_byteAt 22 = some (23, kX2_byteAt_22) := rfl
theorem lb_X2_byteAt_16 : xm_lk kb_X2_byteAt 16 = some (21, kX2_byteAt_16) := rfl
theorem lb_X2_byteAt_23 : xm_lk kb_X2_byteAt 23 = none := rfl
theorem kc_X2_byteAt : xm_oks cX2_byteAt 2 2 0 false kb_X2_byteAt := (List.forall_mem_cons.mpr ⟨bk_X2_byteAt_0, (List.forall_mem_cons.mpr ⟨bk_X2_byteAt_21, (List.forall_mem_cons.mpr ⟨bk_X2_byteAt_22, (List.forall_mem_cons.mpr ⟨bk_X2_byteAt_16, (fun _ h => absurd h List.not_mem_nil)⟩)⟩)⟩)⟩)
def kb_X2_isBlank : List (Nat × Nat × List xm_I) := [(0, 12, kX2_isBlank_0), (12, 16, kX2_isBlank_12), (16, 17, kX2_isBlank_16), (17, 18, kX2_isBlank_17)]
theorem lb_X2_isBlank_0 : xm_lk kb_X2_isBlank 0 = some (12, kX2_isBlank_0) := rfl
theorem lb_X2_isBlank_12 : xm_lk kb_X2_isBlank 12 = some (16, kX2_isBlank_12) := rfl
theorem lb_X2_isBlank_16 : xm_lk kb_X2_isBlank 16 = some (17, kX2_isBlank_16) := rfl
theorem lb_X2_isBlank_17 : xm_lk kb_X2_isBlank 17 = some (18, kX2_isBlank_17) := rfl
theorem lb_X2_isBlank_18 : xm_lk kb_X2_isBlank 18 = none := rfl
theorem kc_X2_isBlank : xm_oks cX2_isBlank 2 1 1 false kb_X2_isBlank := (List.forall_mem_cons.mpr ⟨bk_X2_isBlank_0, (List.forall_mem_cons.mpr ⟨bk_X2_isBlank_12, (List.forall_mem_cons.mpr ⟨bk_X2_isBlank_16, (List.forall_mem_cons.mpr ⟨bk_X2_isBlank_17, (fun _ h => absurd h List.not_mem_nil)⟩)⟩)⟩)⟩)
def kb_X2_isLetter : List (Nat × Nat × List xm_I) := [(0, 16, kX2_isLetter_0), (16, 17, kX2_isLetter_16), (17, 18, kX2_isLetter_17)]
theorem lb_X2_isLetter_0 : xm_lk kb_X2_isLetter 0 = some (16, kX2_isLetter_0) := rfl
theorem lb_X2_isLetter_16 : xm_lk kb_X2_isLetter 16 = some (17, kX2_isLetter_16) := rfl
theorem lb_X2_isLetter_17 : xm_lk kb_X2_isLetter 17 = some (18, kX2_isLetter_17) := rfl
theorem lb_X2_isLetter_18 : xm_lk kb_X2_isLetter 18 = none := rfl
theorem kc_X2_isLetter : xm_oks cX2_isLetter 2 1 1 false kb_X2_isLetter := (List.forall_mem_cons.mpr ⟨bk_X2_isLetter_0, (List.forall_mem_cons.mpr ⟨bk_X2_isLetter_16, (List.forall_mem_cons.mpr ⟨bk_X2_isLetter_17, (fun _ h => absurd h List.not_mem_nil)⟩)⟩)⟩)
def kb_X2_isDigit : List (Nat × Nat × List xm_I) := [(0, 16, kX2_isDigit_0), (16, 17, kX2_isDigit_16), (17, 18, kX2_isDigit_17)]
theorem lb_X2_isDigit_0 : xm_lk kb_X2_isDigit 0 = some (16, kX2_isDigit_0) := rfl
theorem lb_X2_isDigit_16 : xm_lk kb_X2_isDigit 16 = some (17, kX2_isDigit_16) := rfl
theorem lb_X2_isDigit_17 : xm_lk kb_X2_isDigit 17 = some (18, kX2_isDigit_17) := rfl
theorem lb_X2_isDigit_18 : xm_lk kb_X2_isDigit 18 = none := rfl
theorem kc_X2_isDigit : xm_oks cX2_isDigit 2 1 1 false kb_X2_isDigit := (List.forall_mem_cons.mpr ⟨bk_X2_isDigit_0, (List.forall_mem_cons.mpr ⟨bk_X2_isDigit_16, (List.forall_mem_cons.mpr ⟨bk_X2_isDigit_17, (fun _ h => absurd h List.not_mem_nil)⟩)⟩)⟩)
def kb_X3_init : List (Nat × Nat × List xm_I) := [(0, 1, kX3_init_0), (4, 8, kX3_init_4), (10, 16, kX3_init_10), (18, 23, kX3_init_18), (26, 27, kX3_init_26)]
theorem lb_X3_init_0 : xm_lk kb_X3_init 0 = some (1, kX3_init_0) := rfl
theorem lb_X3_init_4 : xm_lk kb_X3_init 4 = some (8, kX3_init_4) := rfl
theorem lb_X3_init_10 : xm_lk kb_X3_init 10 = some (16, kX3_init_10) := rfl
theorem lb_X3_init_18 : xm_lk kb_X3_init 18 = some (23, kX3_init_18) := rfl
theorem lb_X3_init_26 : xm_lk kb_X3_init 26 = some (27, kX3_init_26) := rfl
theorem lb_X3_init_1 : xm_lk kb_X3_init 1 = none := rfl
theorem lb_X3_init_8 : xm_lk kb_X3_init 8 = none := rfl
theorem lb_X3_init_16 : xm_lk kb_X3_init 16 = none := rfl
theorem lb_X3_init_23 : xm_lk kb_X3_init 23 = none := rfl
theorem lb_X3_init_27 : xm_lk kb_X3_init 27 = none := rfl
theorem kc_X3_init : xm_oks cX3_init 3 2 3 true kb_X3_init := (List.forall_mem_cons.mpr ⟨bk_X3_init_0, (List.forall_mem_cons.mpr ⟨bk_X3_init_4, (List.forall_mem_cons.mpr ⟨bk_X3_init_10, (List.forall_mem_cons.mpr ⟨bk_X3_init_18, (List.forall_mem_cons.mpr ⟨bk_X3_init_26, (fun _ h => absurd h List.not_mem_nil)⟩)⟩)⟩)⟩)⟩)
def kb_X3_begin : List (Nat × Nat × List xm_I) := [(0, 12, kX3_begin_0), (12, 26, kX3_begin_12), (34, 35, kX3_begin_34), (26, 34, kX3_begin_26)]
theorem lb_X3_begin_0 : xm_lk kb_X3_begin 0 = some (12, kX3_begin_0) := rfl
theorem lb_X3_begin_12 : xm_lk kb_X3_begin 12 = some (26, kX3_begin_12) := rfl
theorem lb_X3_begin_34 : xm_lk kb_X3_begin 34 = some (35, kX3_begin_34) := rfl
theorem lb_X3_begin_26 : xm_lk kb_X3_begin 26 = some (34, kX3_begin_26) := rfl
theorem lb_X3_begin_35 : xm_lk kb_X3_begin 35 = none := rfl
theorem kc_X3_begin : xm_oks cX3_begin 3 3 3 false kb_X3_begin := (List.forall_mem_cons.mpr ⟨bk_X3_begin_0, (List.forall_mem_cons.mpr ⟨bk_X3_begin_12, (List.forall_mem_cons.mpr ⟨bk_X3_begin_34, (List.forall_mem_cons.mpr ⟨bk_X3_begin_26, (fun _ h => absurd h List.not_mem_nil)⟩)⟩)⟩)⟩)
def kb_X4_init : List (Nat × Nat × List xm_I) := [(0, 1, kX4_init_0), (4, 5, kX4_init_4), (8, 9, kX4_init_8), (12, 17, kX4_init_12), (19, 24, kX4_init_19), (26, 31, kX4_init_26), (33, 37, kX4_init_33), (40, 41, kX4_init_40)]
theorem lb_X4_init_0 : xm_lk kb_X4_init 0 = some (1, kX4_init_0) := rfl
theorem lb_X4_init_4 : xm_lk kb_X4_init 4 = some (5, kX4_init_4) := rfl
theorem lb_X4_init_8 : xm_lk kb_X4_init 8 = some (9, kX4_init_8) := rfl
theorem lb_X4_init_12 : xm_lk kb_X4_init 12 = some (17, kX4_init_12) := rfl
theorem lb_X4_init_19 : xm_lk kb_X4_init 19 = some (24, kX4_init_19) := rfl
theorem lb_X4_init_26 : xm_lk kb_X4_init 26 = some (31, kX4_init_26) := rfl
theorem lb_X4_init_33 : xm_lk kb_X4_init 33 = some (37, kX4_init_33) := rfl
theorem lb_X4_init_40 : xm_lk kb_X4_init 40 = some (41, kX4_init_40) := rfl
theorem lb_X4_init_1 : xm_lk kb_X4_init 1 = none := rfl
theorem lb_X4_init_5 : xm_lk kb_X4_init 5 = none := rfl
theorem lb_X4_init_9 : xm_lk kb_X4_init 9 = none := rfl
theorem lb_X4_init_17 : xm_lk kb_X4_init 17 = none := rfl
theorem lb_X4_init_24 : xm_lk kb_X4_init 24 = none := rfl
theorem lb_X4_init_31 : xm_lk kb_X4_init 31 = none := rfl
theorem lb_X4_init_37 : xm_lk kb_X4_init 37 = none := rfl
theorem lb_X4_init_41 : xm_lk kb_X4_init 41 = none := rfl
theorem kc_X4_init : xm_oks cX4_init 4 1 3 true kb_X4_init := (List.forall_mem_cons.mpr ⟨bk_X4_init_0, (List.forall_mem_cons.mpr ⟨bk_X4_init_4, (List.forall_mem_cons.mpr ⟨bk_X4_init_8, (List.forall_mem_cons.mpr ⟨bk_X4_init_12, (List.forall_mem_cons.mpr ⟨bk_X4_init_19, (List.forall_mem_cons.mpr ⟨bk_X4_init_26, (List.forall_mem_cons.mpr ⟨bk_X4_init_33, (List.forall_mem_cons.mpr ⟨bk_X4_init_40, (fun _ h => absurd h List.not_mem_nil)⟩)⟩)⟩)⟩)⟩)⟩)⟩)⟩)
def kb_X4_reset : List (Nat × Nat × List xm_I) := [(0, 16, kX4_reset_0), (16, 34, kX4_reset_16), (34, 48, kX4_reset_34), (48, 63, kX4_reset_48), (63, 79, kX4_reset_63), (79, 91, kX4_reset_79), (91, 95, kX4_reset_91)]
theorem lb_X4_reset_0 : xm_lk kb_X4_reset 0 = some (16, kX4_reset_0) := rfl
theorem lb_X4_reset_16 : xm_lk kb_X4_reset 16 = some (34, kX4_reset_16) := rfl
theorem lb_X4_reset_34 : xm_lk kb_X4_reset 34 = some (48, kX4_reset_34) := rfl
theorem lb_X4_reset_48 : xm_lk kb_X4_reset 48 = some (63, kX4_reset_48) := rfl
theorem lb_X4_reset_63 : xm_lk kb_X4_reset 63 = some (79, kX4_reset_63) := rfl
theorem lb_X4_reset_79 : xm_lk kb_X4_reset 79 = some (91, kX4_reset_79) := rfl
theorem lb_X4_reset_91 : xm_lk kb_X4_reset 91 = some (95, kX4_reset_91) := rfl
theorem lb_X4_reset_95 : xm_lk kb_X4_reset 95 = none := rfl
theorem kc_X4_reset : xm_oks cX4_reset 4 1 3 false kb_X4_reset := (List.forall_mem_cons.mpr ⟨bk_X4_reset_0, (List.forall_mem_cons.mpr ⟨bk_X4_reset_16, (List.forall_mem_cons.mpr ⟨bk_X4_reset_34, (List.forall_mem_cons.mpr ⟨bk_X4_reset_48, (List.forall_mem_cons.mpr ⟨bk_X4_reset_63, (List.forall_mem_cons.mpr ⟨bk_X4_reset_79, (List.forall_mem_cons.mpr ⟨bk_X4_reset_91, (fun _ h => absurd h List.not_mem_nil)⟩)⟩)⟩)⟩)⟩)⟩)⟩)
def kb_X4_hasGate : List (Nat × Nat × List xm_I) := [(0, 16, kX4_hasGate_0), (16, 17, kX4_hasGate_16), (17, 18, kX4_hasGate_17)]
theorem lb_X4_hasGate_0 : xm_lk kb_X4_hasGate 0 = some (16, kX4_hasGate_0) := rfl
theorem lb_X4_hasGate_16 : xm_lk kb_X4_hasGate 16 = some (17, kX4_hasGate_16) := rfl
theorem lb_X4_hasGate_17 : xm_lk kb_X4_hasGate 17 = some (18, kX4_hasGate_17) := rfl
theorem lb_X4_hasGate_18 : xm_lk kb_X4_hasGate 18 = none := rfl
theorem kc_X4_hasGate : xm_oks cX4_hasGate 4 2 1 false kb_X4_hasGate := (List.forall_mem_cons.mpr ⟨bk_X4_hasGate_0, (List.forall_mem_cons.mpr ⟨bk_X4_hasGate_16, (List.forall_mem_cons.mpr ⟨bk_X4_hasGate_17, (fun _ h => absurd h List.not_mem_nil)⟩)⟩)⟩)
def kb_X4_addGate : List (Nat × Nat × List xm_I) := [(0, 9, kX4_addGate_0), (9, 23, kX4_addGate_9), (23, 37, kX4_addGate_23), (37, 49, kX4_addGate_37), (49, 50, kX4_addGate_49)]
theorem lb_X4_addGate_0 : xm_lk kb_X4_addGate 0 = some (9, kX4_addGate_0) := rfl
theorem lb_X4_addGate_9 : xm_lk kb_X4_addGate 9 = some (23, kX4_addGate_9) := rfl
theorem lb_X4_addGate_23 : xm_lk kb_X4_addGate 23 = some (37, kX4_addGate_23) := rfl
theorem lb_X4_addGate_37 : xm_lk kb_X4_addGate 37 = some (49, kX4_addGate_37) := rfl
theorem lb_X4_addGate_49 : xm_lk kb_X4_addGate 49 = some (50, kX4_addGate_49) := rfl
theorem lb_X4_addGate_50 : xm_lk kb_X4_addGate 50 = none := rfl
theorem kc_X4_addGate : xm_oks cX4_addGate 4 4 3 false kb_X4_addGate := (List.forall_mem_cons.mpr ⟨bk_X4_addGate_0, (List.forall_mem_cons.mpr ⟨bk_X4_addGate_9, (List.forall_mem_cons.mpr ⟨bk_X4_addGate_23, (List.forall_mem_cons.mpr ⟨bk_X4_addGate_37, (List.forall_mem_cons.mpr ⟨bk_X4_addGate_49, (fun _ h => absurd h List.not_mem_nil)⟩)⟩)⟩)⟩)⟩)
def kb_X4_gateFor : List (Nat × Nat × List xm_I) := [(0, 2, kX4_gateFor_0), (2, 16, kX4_gateFor_2), (22, 28, kX4_gateFor_22), (28, 30, kX4_gateFor_28), (16, 22, kX4_gateFor_16)]
theorem lb_X4_gateFor_0 : xm_lk kb_X4_gateFor 0 = some (2, kX4_gateFor_0) := rfl
theorem lb_X4_gateFor_2 : xm_lk kb_X4_gateFor 2 = some (16, kX4_gateFor_2) := rfl
theorem lb_X4_gateFor_22 : xm_lk kb_X4_gateFor 22 = some (28, kX4_gateFor_22) := rfl
theorem lb_X4_gateFor_28 : xm_lk kb_X4_gateFor 28 = some (30, kX4_gateFor_28) := rfl
theorem lb_X4_gateFor_16 : xm_lk kb_X4_gateFor 16 = some (22, kX4_gateFor_16) := rfl
theorem lb_X4_gateFor_30 : xm_lk kb_X4_gateFor 30 = none := rfl
theorem kc_X4_gateFor : xm_oks cX4_gateFor 4 3 0 false kb_X4_gateFor := (List.forall_mem_cons.mpr ⟨bk_X4_gateFor_0, (List.forall_mem_cons.mpr ⟨bk_X4_gateFor_2, (List.forall_mem_cons.mpr ⟨bk_X4_gateFor_22, (List.forall_mem_cons.mpr ⟨bk_X4_gateFor_28, (List.forall_mem_cons.mpr ⟨bk_X4_gateFor_16, (fun _ h => absurd h List.not_mem_nil)⟩)⟩)⟩)⟩)⟩)
def kb_X4_lastPosition : List (Nat × Nat × List xm_I) := [(0, 14, kX4_lastPosition_0), (14, 25, kX4_lastPosition_14), (25, 26, kX4_lastPosition_25)]
theorem lb_X4_lastPosition_0 : xm_lk kb_X4_lastPosition 0 = some (14, kX4_lastPosition_0) := rfl
theorem lb_X4_lastPosition_14 : xm_lk kb_X4_lastPosition 14 = some (25, kX4_lastPosition_14) := rfl
theorem lb_X4_lastPosition_25 : xm_lk kb_X4_lastPosition 25 = some (26, kX4_lastPosition_25) := rfl
theorem lb_X4_lastPosition_26 : xm_lk kb_X4_lastPosition 26 = none := rfl
theorem kc_X4_lastPosition : xm_oks cX4_lastPosition 4 1 0 false kb_X4_lastPosition := (List.forall_mem_cons.mpr ⟨bk_X4_lastPosition_0, (List.forall_mem_cons.mpr ⟨bk_X4_lastPosition_14, (List.forall_mem_cons.mpr ⟨bk_X4_lastPosition_25, (fun _ h => absurd h List.not_mem_nil)⟩)⟩)⟩)
def kb_X4_windowInUse : List (Nat × Nat × List xm_I) := [(0, 12, kX4_windowInUse_0), (12, 22, kX4_windowInUse_12), (25, 30, kX4_windowInUse_25), (30, 36, kX4_windowInUse_30), (36, 41, kX4_windowInUse_36)]
theorem lb_X4_windowInUse_0 : xm_lk kb_X4_windowInUse 0 = some (12, kX4_windowInUse_0) := rfl
theorem lb_X4_windowInUse_12 : xm_lk kb_X4_windowInUse 12 = some (22, kX4_windowInUse_12) := rfl
theorem lb_X4_windowInUse_25 : xm_lk kb_X4_windowInUse 25 = some (30, kX4_windowInUse_25) := rfl
theorem lb_X4_windowInUse_30 : xm_lk kb_X4_windowInUse 30 = some (36, kX4_windowInUse_30) := rfl
theorem lb_X4_windowInUse_36 : xm_lk kb_X4_windowInUse 36 = some (41, kX4_windowInUse_36) := rfl
theorem lb_X4_windowInUse_22 : xm_lk kb_X4_windowInUse 22 = none := rfl
theorem lb_X4_windowInUse_41 : xm_lk kb_X4_windowInUse 41 = none := rfl
theorem kc_X4_windowInUse : xm_oks cX4_windowInUse 4 2 0 false kb_X4_windowInUse := (List.forall_mem_cons.mpr ⟨bk_X4_windowInUse_0, (List.forall_mem_cons.mpr ⟨bk_X4_windowInUse_12, (List.forall_mem_cons.mpr ⟨bk_X4_windowInUse_25, (List.forall_mem_cons.mpr ⟨bk_X4_windowInUse_30, (List.forall_mem_cons.mpr ⟨bk_X4_windowInUse_36, (fun _ h => absurd h List.not_mem_nil)⟩)⟩)⟩)⟩)⟩)
def kb_X4_loadCellAlone : List (Nat × Nat × List xm_I) := [(0, 10, kX4_loadCellAlone_0), (13, 18, kX4_loadCellAlone_13), (21, 23, kX4_loadCellAlone_21)]
theorem lb_X4_loadCellAlone_0 : xm_lk kb_X4_loadCellAlone 0 = some (10, kX4_loadCellAlone_0) := rfl
theorem lb_X4_loadCellAlone_13 : xm_lk kb_X4_loadCellAlone 13 = some (18, kX4_loadCellAlone_13) := rfl
theorem lb_X4_loadCellAlone_21 : xm_lk kb_X4_loadCellAlone 21 = some (23, kX4_loadCellAlone_21) := rfl
theorem lb_X4_loadCellAlone_10 : xm_lk kb_X4_loadCellAlone 10 = none := rfl
theorem lb_X4_loadCellAlone_18 : xm_lk kb_X4_loadCellAlone 18 = none := rfl
theorem lb_X4_loadCellAlone_23 : xm_lk kb_X4_loadCellAlone 23 = none := rfl
theorem kc_X4_loadCellAlone : xm_oks cX4_loadCellAlone 4 2 0 false kb_X4_loadCellAlone := (List.forall_mem_cons.mpr ⟨bk_X4_loadCellAlone_0, (List.forall_mem_cons.mpr ⟨bk_X4_loadCellAlone_13, (List.forall_mem_cons.mpr ⟨bk_X4_loadCellAlone_21, (fun _ h => absurd h List.not_mem_nil)⟩)⟩)⟩)
def kb_X4_lengthOnTable : List (Nat × Nat × List xm_I) := [(0, 5, kX4_lengthOnTable_0), (8, 15, kX4_lengthOnTable_8), (18, 20, kX4_lengthOnTable_18)]
theorem lb_X4_lengthOnTable_0 : xm_lk kb_X4_lengthOnTable 0 = some (5, kX4_lengthOnTable_0) := rfl
theorem lb_X4_lengthOnTable_8 : xm_lk kb_X4_lengthOnTable 8 = some (15, kX4_lengthOnTable_8) := rfl
theorem lb_X4_lengthOnTable_18 : xm_lk kb_X4_lengthOnTable 18 = some (20, kX4_lengthOnTable_18) := rfl
theorem lb_X4_lengthOnTable_5 : xm_lk kb_X4_lengthOnTable 5 = none := rfl
theorem lb_X4_lengthOnTable_15 : xm_lk kb_X4_lengthOnTable 15 = none := rfl
theorem lb_X4_lengthOnTable_20 : xm_lk kb_X4_lengthOnTable 20 = none := rfl
theorem kc_X4_lengthOnTable : xm_oks cX4_lengthOnTable 4 3 0 false kb_X4_lengthOnTable := (List.forall_mem_cons.mpr ⟨bk_X4_lengthOnTable_0, (List.forall_mem_cons.mpr ⟨bk_X4_lengthOnTable_8, (List.forall_mem_cons.mpr ⟨bk_X4_lengthOnTable_18, (fun _ h => absurd h List.not_mem_nil)⟩)⟩)⟩)
def kb_X4_isInPart : List (Nat × Nat × List xm_I) := [(0, 12, kX4_isInPart_0), (22, 23, kX4_isInPart_22), (23, 24, kX4_isInPart_23), (12, 22, kX4_isInPart_12)]
theorem lb_X4_isInPart_0 : xm_lk kb_X4_isInPart 0 = some (12, kX4_isInPart_0) := rfl
theorem lb_X4_isInPart_22 : xm_lk kb_X4_isInPart 22 = some (23, kX4_isInPart_22) := rfl
theorem lb_X4_isInPart_23 : xm_lk kb_X4_isInPart 23 = some (24, kX4_isInPart_23) := rfl
theorem lb_X4_isInPart_12 : xm_lk kb_X4_isInPart 12 = some (22, kX4_isInPart_12) := rfl
theorem lb_X4_isInPart_24 : xm_lk kb_X4_isInPart 24 = none := rfl
theorem kc_X4_isInPart : xm_oks cX4_isInPart 4 3 1 false kb_X4_isInPart := (List.forall_mem_cons.mpr ⟨bk_X4_isInPart_0, (List.forall_mem_cons.mpr ⟨bk_X4_isInPart_22, (List.forall_mem_cons.mpr ⟨bk_X4_isInPart_23, (List.forall_mem_cons.mpr ⟨bk_X4_isInPart_12, (fun _ h => absurd h List.not_mem_nil)⟩)⟩)⟩)⟩)
def kb_X4_isAsWhole : List (Nat × Nat × List xm_I) := [(0, 12, kX4_isAsWhole_0), (22, 23, kX4_isAsWhole_22), (23, 24, kX4_isAsWhole_23), (12, 22, kX4_isAsWhole_12)]
theorem lb_X4_isAsWhole_0 : xm_lk kb_X4_isAsWhole 0 = some (12, kX4_isAsWhole_0) := rfl
theorem lb_X4_isAsWhole_22 : xm_lk kb_X4_isAsWhole 22 = some (23, kX4_isAsWhole_22) := rfl
theorem lb_X4_isAsWhole_23 : xm_lk kb_X4_isAsWhole 23 = some (24, kX4_isAsWhole_23) := rfl
theorem lb_X4_isAsWhole_12 : xm_lk kb_X4_isAsWhole 12 = some (22, kX4_isAsWhole_12) := rfl
theorem lb_X4_isAsWhole_24 : xm_lk kb_X4_isAsWhole 24 = none := rfl
theorem kc_X4_isAsWhole : xm_oks cX4_isAsWhole 4 3 1 false kb_X4_isAsWhole := (List.forall_mem_cons.mpr ⟨bk_X4_isAsWhole_0, (List.forall_mem_cons.mpr ⟨bk_X4_isAsWhole_22, (List.forall_mem_cons.mpr ⟨bk_X4_isAsWhole_23, (List.forall_mem_cons.mpr ⟨bk_X4_isAsWhole_12, (fun _ h => absurd h List.not_mem_nil)⟩)⟩)⟩)⟩)
def kb_X4_ticksFor : List (Nat × Nat × List xm_I) := [(0, 5, kX4_ticksFor_0), (8, 9, kX4_ticksFor_8)]
theorem lb_X4_ticksFor_0 : xm_lk kb_X4_ticksFor 0 = some (5, kX4_ticksFor_0) := rfl
theorem lb_X4_ticksFor_8 : xm_lk kb_X4_ticksFor 8 = some (9, kX4_ticksFor_8) := rfl
theorem lb_X4_ticksFor_5 : xm_lk kb_X4_ticksFor 5 = none := rfl
theorem lb_X4_ticksFor_9 : xm_lk kb_X4_ticksFor 9 = none := rfl
theorem kc_X4_ticksFor : xm_oks cX4_ticksFor 4 2 0 false kb_X4_ticksFor := (List.forall_mem_cons.mpr ⟨bk_X4_ticksFor_0, (List.forall_mem_cons.mpr ⟨bk_X4_ticksFor_8, (fun _ h => absurd h List.not_mem_nil)⟩)⟩)
def kb_X5_init : List (Nat × Nat × List xm_I) := [(0, 1, kX5_init_0), (4, 11, kX5_init_4), (13, 18, kX5_init_13), (20, 25, kX5_init_20), (27, 31, kX5_init_27)]
theorem lb_X5_init_0 : xm_lk kb_X5_init 0 = some (1, kX5_init_0) := rfl
theorem lb_X5_init_4 : xm_lk kb_X5_init 4 = some (11, kX5_init_4) := rfl
theorem lb_X5_init_13 : xm_lk kb_X5_init 13 = some (18, kX5_init_13) := rfl
theorem lb_X5_init_20 : xm_lk kb_X5_init 20 = some (25, kX5_init_20) := rfl
theorem lb_X5_init_27 : xm_lk kb_X5_init 27 = some (31, kX5_init_27) := rfl
theorem lb_X5_init_1 : xm_lk kb_X5_init 1 = none := rfl
theorem lb_X5_init_11 : xm_lk kb_X5_init 11 = none := rfl
theorem lb_X5_init_18 : xm_lk kb_X5_init 18 = none := rfl
theorem lb_X5_init_25 : xm_lk kb_X5_init 25 = none := rfl
theorem lb_X5_init_31 : xm_lk kb_X5_init 31 = none := rfl
theorem kc_X5_init : xm_oks cX5_init 5 1 3 true kb_X5_init := (List.forall_mem_cons.mpr ⟨bk_X5_init_0, (List.forall_mem_cons.mpr ⟨bk_X5_init_4, (List.forall_mem_cons.mpr ⟨bk_X5_init_13, (List.forall_mem_cons.mpr ⟨bk_X5_init_20, (List.forall_mem_cons.mpr ⟨bk_X5_init_27, (fun _ h => absurd h List.not_mem_nil)⟩)⟩)⟩)⟩)⟩)
def kb_X5_add : List (Nat × Nat × List xm_I) := [(0, 9, kX5_add_0), (9, 23, kX5_add_9), (23, 37, kX5_add_23), (37, 49, kX5_add_37), (49, 50, kX5_add_49)]
theorem lb_X5_add_0 : xm_lk kb_X5_add 0 = some (9, kX5_add_0) := rfl
theorem lb_X5_add_9 : xm_lk kb_X5_add 9 = some (23, kX5_add_9) := rfl
theorem lb_X5_add_23 : xm_lk kb_X5_add 23 = some (37, kX5_add_23) := rfl
theorem lb_X5_add_37 : xm_lk kb_X5_add 37 = some (49, kX5_add_37) := rfl
theorem lb_X5_add_49 : xm_lk kb_X5_add 49 = some (50, kX5_add_49) := rfl
theorem lb_X5_add_50 : xm_lk kb_X5_add 50 = none := rfl
theorem kc_X5_add : xm_oks cX5_add 5 4 3 false kb_X5_add := (List.forall_mem_cons.mpr ⟨bk_X5_add_0, (List.forall_mem_cons.mpr ⟨bk_X5_add_9, (List.forall_mem_cons.mpr ⟨bk_X5_add_23, (List.forall_mem_cons.mpr ⟨bk_X5_add_37, (List.forall_mem_cons.mpr ⟨bk_X5_add_49, (fun _ h => absurd h List.not_mem_nil)⟩)⟩)⟩)⟩)⟩)
def kb_X5_valueAt : List (Nat × Nat × List xm_I) := [(0, 4, kX5_valueAt_0), (4, 18, kX5_valueAt_4), (29, 41, kX5_valueAt_29), (44, 45, kX5_valueAt_44), (45, 59, kX5_valueAt_45), (62, 69, kX5_valueAt_62), (69, 77, kX5_valueAt_69), (77, 79, kX5_valueAt_77), (18, 26, kX5_valueAt_18), (41, 44, kX5_valueAt_41), (59, 62, kX5_valueAt_59)]
theorem lb_X5_valueAt_0 : xm_lk kb_X5_valueAt 0 = some (4, kX5_valueAt_0) := rfl
theorem lb_X5_valueAt_4 : xm_lk kb_X5_valueAt 4 = some (18, kX5_valueAt_4) := rfl
theorem lb_X5_valueAt_29 : xm_lk kb_X5_valueAt 29 = some (41, kX5_valueAt_29) := rfl
theorem lb_X5_valueAt_44 : xm_lk kb_X5_valueAt 44 = some (45, kX5_valueAt_44) := rfl
theorem lb_X5_valueAt_45 : xm_lk kb_X5_valueAt 45 = some (59, kX5_valueAt_45) := rfl
theorem lb_X5_valueAt_62 : xm_lk kb_X5_valueAt 62 = some (69, kX5_valueAt_62) := rfl
theorem lb_X5_valueAt_69 : xm_lk kb_X5_valueAt 69 = some (77, kX5_valueAt_69) := rfl
theorem lb_X5_valueAt_77 : xm_lk kb_X5_valueAt 77 = some (79, kX5_valueAt_77) := rfl
theorem lb_X5_valueAt_18 : xm_lk kb_X5_valueAt 18 = some (26, kX5_valueAt_18) := rfl
theorem lb_X5_valueAt_41 : xm_lk kb_X5_valueAt 41 = some (44, kX5_valueAt_41) := rfl
theorem lb_X5_valueAt_59 : xm_lk kb_X5_valueAt 59 = some (62, kX5_valueAt_59) := rfl
theorem lb_X5_valueAt_26 : xm_lk kb_X5_valueAt 26 = none := rfl
theorem lb_X5_valueAt_79 : xm_lk kb_X5_valueAt 79 = none := rfl
theorem kc_X5_valueAt : xm_oks cX5_valueAt 5 5 0 false kb_X5_valueAt := (List.forall_mem_cons.mpr ⟨bk_X5_valueAt_0, (List.forall_mem_cons.mpr ⟨bk_X5_valueAt_4, (List.forall_mem_cons.mpr ⟨bk_X5_valueAt_29, (List.forall_mem_cons.mpr ⟨bk_X5_valueAt_44, (List.forall_mem_cons.mpr ⟨bk_X5_valueAt_45, (List.forall_mem_cons.mpr ⟨bk_X5_valueAt_62, (List.forall_mem_cons.mpr ⟨bk_X5_valueAt_69, (List.forall_mem_cons.mpr ⟨bk_X5_valueAt_77, (List.forall_mem_cons.mpr ⟨bk_X5_valueAt_18, (List.forall_mem_cons.mpr ⟨bk_X5_valueAt_41, (List.forall_mem_cons.mpr ⟨bk_X5_valueAt_59, (fun _ h => absurd h List.not_mem_nil)⟩)⟩)⟩)⟩)⟩)⟩)⟩)⟩)⟩)⟩)⟩)
def kb_X5_cancelIn : List (Nat × Nat × List xm_I) := [(0, 2, kX5_cancelIn_0), (2, 16, kX5_cancelIn_2), (20, 25, kX5_cancelIn_20), (25, 31, kX5_cancelIn_25), (31, 33, kX5_cancelIn_31), (16, 17, kX5_cancelIn_16)]
theorem lb_X5_cancelIn_0 : xm_lk kb_X5_cancelIn 0 = some (2, kX5_cancelIn_0) := rfl
theorem lb_X5_cancelIn_2 : xm_lk kb_X5_cancelIn 2 = some (16, kX5_cancelIn_2) := rfl
theorem lb_X5_cancelIn_20 : xm_lk kb_X5_cancelIn 20 = some (25, kX5_cancelIn_20) := rfl
theorem lb_X5_cancelIn_25 : xm_lk kb_X5_cancelIn 25 = some (31, kX5_cancelIn_25) := rfl
theorem lb_X5_cancelIn_31 : xm_lk kb_X5_cancelIn 31 = some (33, kX5_cancelIn_31) := rfl
theorem lb_X5_cancelIn_16 : xm_lk kb_X5_cancelIn 16 = some (17, kX5_cancelIn_16) := rfl
theorem lb_X5_cancelIn_17 : xm_lk kb_X5_cancelIn 17 = none := rfl
theorem lb_X5_cancelIn_33 : xm_lk kb_X5_cancelIn 33 = none := rfl
theorem kc_X5_cancelIn : xm_oks cX5_cancelIn 5 3 1 false kb_X5_cancelIn := (List.forall_mem_cons.mpr ⟨bk_X5_cancelIn_0, (List.forall_mem_cons.mpr ⟨bk_X5_cancelIn_2, (List.forall_mem_cons.mpr ⟨bk_X5_cancelIn_20, (List.forall_mem_cons.mpr ⟨bk_X5_cancelIn_25, (List.forall_mem_cons.mpr ⟨bk_X5_cancelIn_31, (List.forall_mem_cons.mpr ⟨bk_X5_cancelIn_16, (fun _ h => absurd h List.not_mem_nil)⟩)⟩)⟩)⟩)⟩)⟩)
def kb_X6_init : List (Nat × Nat × List xm_I) := [(0, 1, kX6_init_0), (4, 8, kX6_init_4), (10, 24, kX6_init_10), (32, 33, kX6_init_32), (36, 40, kX6_init_36), (43, 44, kX6_init_43), (47, 51, kX6_init_47), (54, 63, kX6_init_54), (66, 70, kX6_init_66), (73, 78, kX6_init_73), (81, 85, kX6_init_81), (88, 93, kX6_init_88), (96, 100, kX6_init_96), (103, 111, kX6_init_103), (114, 118, kX6_init_114), (24, 29, kX6_init_24)]
theorem lb_X6_init_0 : xm_lk kb_X6_init 0 = some (1, kX6_init_0) := rfl
theorem lb_X6_init_4 : xm_lk kb_X6_init 4 = some (8, kX6_init_4) := rfl
theorem lb_X6_init_10 : xm_lk kb_X6_init 10 = some (24, kX6_init_10) := rfl
theorem lb_X6_init_32 : xm_lk kb_X6_init 32 = some (33, kX6_init_32) := rfl
theorem lb_X6_init_36 : xm_lk kb_X6_init 36 = some (40, kX6_init_36) := rfl
theorem lb_X6_init_43 : xm_lk kb_X6_init 43 = some (44, kX6_init_43) := rfl
theorem lb_X6_init_47 : xm_lk kb_X6_init 47 = some (51, kX6_init_47) := rfl
theorem lb_X6_init_54 : xm_lk kb_X6_init 54 = some (63, kX6_init_54) := rfl
theorem lb_X6_init_66 : xm_lk kb_X6_init 66 = some (70, kX6_init_66) := rfl
theorem lb_X6_init_73 : xm_lk kb_X6_init 73 = some (78, kX6_init_73) := rfl
theorem lb_X6_init_81 : xm_lk kb_X6_init 81 = some (85, kX6_init_81) := rfl
theorem lb_X6_init_88 : xm_lk kb_X6_init 88 = some (93, kX6_init_88) := rfl
theorem lb_X6_init_96 : xm_lk kb_X6_init 96 = some (100, kX6_init_96) := rfl
theorem lb_X6_init_103 : xm_lk kb_X6_init 103 = some (111, kX6_init_103) := rfl
theorem lb_X6_init_114 : xm_lk kb_X6_init 114 = some (118, kX6_init_114) := rfl
theorem lb_X6_init_24 : xm_lk kb_X6_init 24 = some (29, kX6_init_24) := rfl
theorem lb_X6_init_1 : xm_lk kb_X6_init 1 = none := rfl
theorem lb_X6_init_8 : xm_lk kb_X6_init 8 = none := rfl
theorem lb_X6_init_29 : xm_lk kb_X6_init 29 = none := rfl
theorem lb_X6_init_33 : xm_lk kb_X6_init 33 = none := rfl
theorem lb_X6_init_40 : xm_lk kb_X6_init 40 = none := rfl
theorem lb_X6_init_44 : xm_lk kb_X6_init 44 = none := rfl
theorem lb_X6_init_51 : xm_lk kb_X6_init 51 = none := rfl
theorem lb_X6_init_63 : xm_lk kb_X6_init 63 = none := rfl
theorem lb_X6_init_70 : xm_lk kb_X6_init 70 = none := rfl
theorem lb_X6_init_78 : xm_lk kb_X6_init 78 = none := rfl
theorem lb_X6_init_85 : xm_lk kb_X6_init 85 = none := rfl
theorem lb_X6_init_93 : xm_lk kb_X6_init 93 = none := rfl
theorem lb_X6_init_100 : xm_lk kb_X6_init 100 = none := rfl
theorem lb_X6_init_111 : xm_lk kb_X6_init 111 = none := rfl
theorem lb_X6_init_118 : xm_lk kb_X6_init 118 = none := rfl
theorem kc_X6_init : xm_oks cX6_init 6 1 3 true kb_X6_init := (List.forall_mem_cons.mpr ⟨bk_X6_init_0, (List.forall_mem_cons.mpr ⟨bk_X6_init_4, (List.forall_mem_cons.mpr ⟨bk_X6_init_10, (List.forall_mem_cons.mpr ⟨bk_X6_init_32, (List.forall_mem_cons.mpr ⟨bk_X6_init_36, (List.forall_mem_cons.mpr ⟨bk_X6_init_43, (List.forall_mem_cons.mpr ⟨bk_X6_init_47, (List.forall_mem_cons.mpr ⟨bk_X6_init_54, (List.forall_mem_cons.mpr ⟨bk_X6_init_66, (List.forall_mem_cons.mpr ⟨bk_X6_init_73, (List.forall_mem_cons.mpr ⟨bk_X6_init_81, (List.forall_mem_cons.mpr ⟨bk_X6_init_88, (List.forall_mem_cons.mpr ⟨bk_X6_init_96, (List.forall_mem_cons.mpr ⟨bk_X6_init_103, (List.forall_mem_cons.mpr ⟨bk_X6_init_114, (List.forall_mem_cons.mpr ⟨bk_X6_init_24, (fun _ h => absurd h List.not_mem_nil)⟩)⟩)⟩)⟩)⟩)⟩)⟩)⟩)⟩)⟩)⟩)⟩)⟩)⟩)⟩)⟩)
def kb_X6_append : List (Nat × Nat × List xm_I) := [(0, 13, kX6_append_0), (16, 17, kX6_append_16), (21, 23, kX6_append_21), (26, 28, kX6_append_26), (31, 33, kX6_append_31), (36, 39, kX6_append_36), (42, 45, kX6_append_42), (48, 53, kX6_append_48)]
theorem lb_X6_append_0 : xm_lk kb_X6_append 0 = some (13, kX6_append_0) := rfl
theorem lb_X6_append_16 : xm_lk kb_X6_append 16 = some (17, kX6_append_16) := rfl
theorem lb_X6_append_21 : xm_lk kb_X6_append 21 = some (23, kX6_append_21) := rfl
theorem lb_X6_append_26 : xm_lk kb_X6_append 26 = some (28, kX6_append_26) := rfl
theorem lb_X6_append_31 : xm_lk kb_X6_append 31 = some (33, kX6_append_31) := rfl
theorem lb_X6_append_36 : xm_lk kb_X6_append 36 = some (39, kX6_append_36) := rfl
theorem lb_X6_append_42 : xm_lk kb_X6_append 42 = some (45, kX6_append_42) := rfl
theorem lb_X6_append_48 : xm_lk kb_X6_append 48 = some (53, kX6_append_48) := rfl
theorem lb_X6_append_13 : xm_lk kb_X6_append 13 = none := rfl
theorem lb_X6_append_17 : xm_lk kb_X6_append 17 = none := rfl
theorem lb_X6_append_23 : xm_lk kb_X6_append 23 = none := rfl
theorem lb_X6_append_28 : xm_lk kb_X6_append 28 = none := rfl
theorem lb_X6_append_33 : xm_lk kb_X6_append 33 = none := rfl
theorem lb_X6_append_39 : xm_lk kb_X6_append 39 = none := rfl
theorem lb_X6_append_45 : xm_lk kb_X6_append 45 = none := rfl
theorem lb_X6_append_53 : xm_lk kb_X6_append 53 = none := rfl
theorem kc_X6_append : xm_oks cX6_append 6 6 0 false kb_X6_append := (List.forall_mem_cons.mpr ⟨bk_X6_append_0, (List.forall_mem_cons.mpr ⟨bk_X6_append_16, (List.forall_mem_cons.mpr ⟨bk_X6_append_21, (List.forall_mem_cons.mpr ⟨bk_X6_append_26, (List.forall_mem_cons.mpr ⟨bk_X6_append_31, (List.forall_mem_cons.mpr ⟨bk_X6_append_36, (List.forall_mem_cons.mpr ⟨bk_X6_append_42, (List.forall_mem_cons.mpr ⟨bk_X6_append_48, (fun _ h => absurd h List.not_mem_nil)⟩)⟩)⟩)⟩)⟩)⟩)⟩)⟩)
def kb_X6_addBytes : List (Nat × Nat × List xm_I) := [(0, 3, kX6_addBytes_0), (3, 21, kX6_addBytes_3), (49, 50, kX6_addBytes_49), (21, 33, kX6_addBytes_21), (33, 49, kX6_addBytes_33)]
theorem lb_X6_addBytes_0 : xm_lk kb_X6_addBytes 0 = some (3, kX6_addBytes_0) := rfl
theorem lb_X6_addBytes_3 : xm_lk kb_X6_addBytes 3 = some (21, kX6_addBytes_3) := rfl
theorem lb_X6_addBytes_49 : xm_lk kb_X6_addBytes 49 = some (50, kX6_addBytes_49) := rfl
theorem lb_X6_addBytes_21 : xm_lk kb_X6_addBytes 21 = some (33, kX6_addBytes_21) := rfl
theorem lb_X6_addBytes_33 : xm_lk kb_X6_addBytes 33 = some (49, kX6_addBytes_33) := rfl
theorem lb_X6_addBytes_50 : xm_lk kb_X6_addBytes 50 = none := rfl
theorem kc_X6_addBytes : xm_oks cX6_addBytes 6 3 3 false kb_X6_addBytes := (List.forall_mem_cons.mpr ⟨bk_X6_addBytes_0, (List.forall_mem_cons.mpr ⟨bk_X6_addBytes_3, (List.forall_mem_cons.mpr ⟨bk_X6_addBytes_49, (List.forall_mem_cons.mpr ⟨bk_X6_addBytes_21, (List.forall_mem_cons.mpr ⟨bk_X6_addBytes_33, (fun _ h => absurd h List.not_mem_nil)⟩)⟩)⟩)⟩)⟩)
def kb_X6_truncate : List (Nat × Nat × List xm_I) := [(0, 12, kX6_truncate_0), (15, 16, kX6_truncate_15), (20, 30, kX6_truncate_20)]
theorem lb_X6_truncate_0 : xm_lk kb_X6_truncate 0 = some (12, kX6_truncate_0) := rfl
theorem lb_X6_truncate_15 : xm_lk kb_X6_truncate 15 = some (16, kX6_truncate_15) := rfl
theorem lb_X6_truncate_20 : xm_lk kb_X6_truncate 20 = some (30, kX6_truncate_20) := rfl
theorem lb_X6_truncate_12 : xm_lk kb_X6_truncate 12 = none := rfl
theorem lb_X6_truncate_16 : xm_lk kb_X6_truncate 16 = none := rfl
theorem lb_X6_truncate_30 : xm_lk kb_X6_truncate 30 = none := rfl
theorem kc_X6_truncate : xm_oks cX6_truncate 6 2 0 false kb_X6_truncate := (List.forall_mem_cons.mpr ⟨bk_X6_truncate_0, (List.forall_mem_cons.mpr ⟨bk_X6_truncate_15, (List.forall_mem_cons.mpr ⟨bk_X6_truncate_20, (fun _ h => absurd h List.not_mem_nil)⟩)⟩)⟩)
def kb_X6_load : List (Nat × Nat × List xm_I) := [(0, 12, kX6_load_0), (15, 31, kX6_load_15), (52, 53, kX6_load_52), (57, 71, kX6_load_57), (86, 97, kX6_load_86), (100, 108, kX6_load_100), (31, 49, kX6_load_31), (71, 83, kX6_load_71)]
theorem lb_X6_load_0 : xm_lk kb_X6_load 0 = some (12, kX6_load_0) := rfl
theorem lb_X6_load_15 : xm_lk kb_X6_load 15 = some (31, kX6_load_15) := rfl
theorem lb_X6_load_52 : xm_lk kb_X6_load 52 = some (53, kX6_load_52) := rfl
theorem lb_X6_load_57 : xm_lk kb_X6_load 57 = some (71, kX6_load_57) := rfl
theorem lb_X6_load_86 : xm_lk kb_X6_load 86 = some (97, kX6_load_86) := rfl
theorem lb_X6_load_100 : xm_lk kb_X6_load 100 = some (108, kX6_load_100) := rfl
theorem lb_X6_load_31 : xm_lk kb_X6_load 31 = some (49, kX6_load_31) := rfl
theorem lb_X6_load_71 : xm_lk kb_X6_load 71 = some (83, kX6_load_71) := rfl
theorem lb_X6_load_12 : xm_lk kb_X6_load 12 = none := rfl
theorem lb_X6_load_49 : xm_lk kb_X6_load 49 = none := rfl
theorem lb_X6_load_53 : xm_lk kb_X6_load 53 = none := rfl
theorem lb_X6_load_83 : xm_lk kb_X6_load 83 = none := rfl
theorem lb_X6_load_97 : xm_lk kb_X6_load 97 = none := rfl
theorem lb_X6_load_108 : xm_lk kb_X6_load 108 = none := rfl
theorem kc_X6_load : xm_oks cX6_load 6 2 0 false kb_X6_load := (List.forall_mem_cons.mpr ⟨bk_X6_load_0, (List.forall_mem_cons.mpr ⟨bk_X6_load_15, (List.forall_mem_cons.mpr ⟨bk_X6_load_52, (List.forall_mem_cons.mpr ⟨bk_X6_load_57, (List.forall_mem_cons.mpr ⟨bk_X6_load_86, (List.forall_mem_cons.mpr ⟨bk_X6_load_100, (List.forall_mem_cons.mpr ⟨bk_X6_load_31, (List.forall_mem_cons.mpr ⟨bk_X6_load_71, (fun _ h => absurd h List.not_mem_nil)⟩)⟩)⟩)⟩)⟩)⟩)⟩)⟩)
def kb_X6_report : List (Nat × Nat × List xm_I) := [(0, 1, kX6_report_0), (64, 72, kX6_report_64), (72, 80, kX6_report_72), (80, 91, kX6_report_80), (91, 99, kX6_report_91), (99, 107, kX6_report_99), (107, 115, kX6_report_107), (115, 119, kX6_report_115), (122, 123, kX6_report_122), (123, 131, kX6_report_123), (131, 139, kX6_report_131), (139, 144, kX6_report_139), (147, 152, kX6_report_147), (155, 157, kX6_report_155), (157, 165, kX6_report_157), (165, 169, kX6_report_165), (172, 173, kX6_report_172), (176, 177, kX6_report_176)]
theorem lb_X6_report_0 : xm_lk kb_X6_report 0 = some (1, kX6_report_0) := rfl
theorem lb_X6_report_64 : xm_lk kb_X6_report 64 = some (72, kX6_report_64) := rfl
theorem lb_X6_report_72 : xm_lk kb_X6_report 72 = some (80, kX6_report_72) := rfl
theorem lb_X6_report_80 : xm_lk kb_X6_report 80 = some (91, kX6_report_80) := rfl
theorem lb_X6_report_91 : xm_lk kb_X6_report 91 = some (99, kX6_report_91) := rfl
theorem lb_X6_report_99 : xm_lk kb_X6_report 99 = some (107, kX6_report_99) := rfl
theorem lb_X6_report_107 : xm_lk kb_X6_report 107 = some (115, kX6_report_107) := rfl
theorem lb_X6_report_115 : xm_lk kb_X6_report 115 = some (119, kX6_report_115) := rfl
theorem lb_X6_report_122 : xm_lk kb_X6_report 122 = some (123, kX6_report_122) := rfl
theorem lb_X6_report_123 : xm_lk kb_X6_report 123 = some (131, kX6_report_123) := rfl
theorem lb_X6_report_131 : xm_lk kb_X6_report 131 = some (139, kX6_report_131) := rfl
theorem lb_X6_report_139 : xm_lk kb_X6_report 139 = some (144, kX6_report_139) := rfl
theorem lb_X6_report_147 : xm_lk kb_X6_report 147 = some (152, kX6_report_147) := rfl
theorem lb_X6_report_155 : xm_lk kb_X6_report 155 = some (157, kX6_report_155) := rfl
theorem lb_X6_report_157 : xm_lk kb_X6_report 157 = some (165, kX6_report_157) := rfl
theorem lb_X6_report_165 : xm_lk kb_X6_report 165 = some (169, kX6_report_165) := rfl
theorem lb_X6_report_172 : xm_lk kb_X6_report 172 = some (173, kX6_report_172) := rfl
theorem lb_X6_report_176 : xm_lk kb_X6_report 176 = some (177, kX6_report_176) := rfl
theorem lb_X6_report_1 : xm_lk kb_X6_report 1 = none := rfl
theorem lb_X6_report_119 : xm_lk kb_X6_report 119 = none := rfl
theorem lb_X6_report_144 : xm_lk kb_X6_report 144 = none := rfl
theorem lb_X6_report_152 : xm_lk kb_X6_report 152 = none := rfl
theorem lb_X6_report_169 : xm_lk kb_X6_report 169 = none := rfl
theorem lb_X6_report_173 : xm_lk kb_X6_report 173 = none := rfl
theorem lb_X6_report_177 : xm_lk kb_X6_report 177 = none := rfl
theorem kc_X6_report : xm_oks cX6_report 6 2 0 false kb_X6_report := (List.forall_mem_cons.mpr ⟨bk_X6_report_0, (List.forall_mem_cons.mpr ⟨bk_X6_report_64, (List.forall_mem_cons.mpr ⟨bk_X6_report_72, (List.forall_mem_cons.mpr ⟨bk_X6_report_80, (List.forall_mem_cons.mpr ⟨bk_X6_report_91, (List.forall_mem_cons.mpr ⟨bk_X6_report_99, (List.forall_mem_cons.mpr ⟨bk_X6_report_107, (List.forall_mem_cons.mpr ⟨bk_X6_report_115, (List.forall_mem_cons.mpr ⟨bk_X6_report_122, (List.forall_mem_cons.mpr ⟨bk_X6_report_123, (List.forall_mem_cons.mpr ⟨bk_X6_report_131, (List.forall_mem_cons.mpr ⟨bk_X6_report_139, (List.forall_mem_cons.mpr ⟨bk_X6_report_147, (List.forall_mem_cons.mpr ⟨bk_X6_report_155, (List.forall_mem_cons.mpr ⟨bk_X6_report_157, (List.forall_mem_cons.mpr ⟨bk_X6_report_165, (List.forall_mem_cons.mpr ⟨bk_X6_report_172, (List.forall_mem_cons.mpr ⟨bk_X6_report_176, (fun _ h => absurd h List.not_mem_nil)⟩)⟩)⟩)⟩)⟩)⟩)⟩)⟩)⟩)⟩)⟩)⟩)⟩)⟩)⟩)⟩)⟩)⟩)
def kb_X6_gate : List (Nat × Nat × List xm_I) := [(0, 5, kX6_gate_0), (8, 11, kX6_gate_8), (14, 15, kX6_gate_14), (19, 20, kX6_gate_19), (72, 82, kX6_gate_72), (82, 92, kX6_gate_82), (92, 102, kX6_gate_92), (102, 112, kX6_gate_102), (112, 122, kX6_gate_112), (122, 132, kX6_gate_122), (132, 137, kX6_gate_132), (140, 147, kX6_gate_140), (147, 148, kX6_gate_147), (148, 149, kX6_gate_148), (149, 165, kX6_gate_149), (165, 166, kX6_gate_165), (166, 167, kX6_gate_166), (167, 183, kX6_gate_167), (183, 184, kX6_gate_183), (184, 185, kX6_gate_184), (188, 189, kX6_gate_188)]
theorem lb_X6_gate_0 : xm_lk kb_X6_gate 0 = some (5, kX6_gate_0) := rfl
theorem lb_X6_gate_8 : xm_lk kb_X6_gate 8 = some (11, kX6_gate_8) := rfl
theorem lb_X6_gate_14 : xm_lk kb_X6_gate 14 = some (15, kX6_gate_14) := rfl
theorem lb_X6_gate_19 : xm_lk kb_X6_gate 19 = some (20, kX6_gate_19) := rfl
theorem lb_X6_gate_72 : xm_lk kb_X6_gate 72 = some (82, kX6_gate_72) := rfl
theorem lb_X6_gate_82 : xm_lk kb_X6_gate 82 = some (92, kX6_gate_82) := rfl
theorem lb_X6_gate_92 : xm_lk kb_X6_gate 92 = some (102, kX6_gate_92) := rfl
theorem lb_X6_gate_102 : xm_lk kb_X6_gate 102 = some (112, kX6_gate_102) := rfl
theorem lb_X6_gate_112 : xm_lk kb_X6_gate 112 = some (122, kX6_gate_112) := rfl
theorem lb_X6_gate_122 : xm_lk kb_X6_gate 122 = some (132, kX6_gate_122) := rfl
theorem lb_X6_gate_132 : xm_lk kb_X6_gate 132 = some (137, kX6_gate_132) := rfl
theorem lb_X6_gate_140 : xm_lk kb_X6_gate 140 = some (147, kX6_gate_140) := rfl
theorem lb_X6_gate_147 : xm_lk kb_X6_gate 147 = some (148, kX6_gate_147) := rfl
theorem lb_X6_gate_148 : xm_lk kb_X6_gate 148 = some (149, kX6_gate_148) := rfl
theorem lb_X6_gate_149 : xm_lk kb_X6_gate 149 = some (165, kX6_gate_149) := rfl
theorem lb_X6_gate_165 : xm_lk kb_X6_gate 165 = some (166, kX6_gate_165) := rfl
theorem lb_X6_gate_166 : xm_lk kb_X6_gate 166 = some (167, kX6_gate_166) := rfl
theorem lb_X6_gate_167 : xm_lk kb_X6_gate 167 = some (183, kX6_gate_167) := rfl
theorem lb_X6_gate_183 : xm_lk kb_X6_gate 183 = some (184, kX6_gate_183) := rfl
theorem lb_X6_gate_184 : xm_lk kb_X6_gate 184 = some (185, kX6_gate_184) := rfl
theorem lb_X6_gate_188 : xm_lk kb_X6_gate 188 = some (189, kX6_gate_188) := rfl
theorem lb_X6_gate_5 : xm_lk kb_X6_gate 5 = none := rfl
theorem lb_X6_gate_11 : xm_lk kb_X6_gate 11 = none := rfl
theorem lb_X6_gate_15 : xm_lk kb_X6_gate 15 = none := rfl
theorem lb_X6_gate_20 : xm_lk kb_X6_gate 20 = none := rfl
theorem lb_X6_gate_137 : xm_lk kb_X6_gate 137 = none := rfl
theorem lb_X6_gate_185 : xm_lk kb_X6_gate 185 = none := rfl
theorem lb_X6_gate_189 : xm_lk kb_X6_gate 189 = none := rfl
theorem kc_X6_gate : xm_oks cX6_gate 6 3 0 false kb_X6_gate := (List.forall_mem_cons.mpr ⟨bk_X6_gate_0, (List.forall_mem_cons.mpr ⟨bk_X6_gate_8, (List.forall_mem_cons.mpr ⟨bk_X6_gate_14, (List.forall_mem_cons.mpr ⟨bk_X6_gate_19, (List.forall_mem_cons.mpr ⟨bk_X6_gate_72, (List.forall_mem_cons.mpr ⟨bk_X6_gate_82, (List.forall_mem_cons.mpr ⟨bk_X6_gate_92, (List.forall_mem_cons.mpr ⟨bk_X6_gate_102, (List.forall_mem_cons.mpr ⟨bk_X6_gate_112, (List.forall_mem_cons.mpr ⟨bk_X6_gate_122, (List.forall_mem_cons.mpr ⟨bk_X6_gate_132, (List.forall_mem_cons.mpr ⟨bk_X6_gate_140, (List.forall_mem_cons.mpr ⟨bk_X6_gate_147, (List.forall_mem_cons.mpr ⟨bk_X6_gate_148, (List.forall_mem_cons.mpr ⟨bk_X6_gate_149, (List.forall_mem_cons.mpr ⟨bk_X6_gate_165, (List.forall_mem_cons.mpr ⟨bk_X6_gate_166, (List.forall_mem_cons.mpr ⟨bk_X6_gate_167, (List.forall_mem_cons.mpr ⟨bk_X6_gate_183, (List.forall_mem_cons.mpr ⟨bk_X6_gate_184, (List.forall_mem_cons.mpr ⟨bk_X6_gate_188, (fun _ h => absurd h List.not_mem_nil)⟩)⟩)⟩)⟩)⟩)⟩)⟩)⟩)⟩)⟩)⟩)⟩)⟩)⟩)⟩)⟩)⟩)⟩)⟩)⟩)⟩)
def kb_X6_put : List (Nat × Nat × List xm_I) := [(0, 13, kX6_put_0), (16, 19, kX6_put_16), (22, 23, kX6_put_22), (27, 31, kX6_put_27), (34, 37, kX6_put_34), (40, 41, kX6_put_40), (45, 51, kX6_put_45), (54, 55, kX6_put_54)]
theorem lb_X6_put_0 : xm_lk kb_X6_put 0 = some (13, kX6_put_0) := rfl
theorem lb_X6_put_16 : xm_lk kb_X6_put 16 = some (19, kX6_put_16) := rfl
theorem lb_X6_put_22 : xm_lk kb_X6_put 22 = some (23, kX6_put_22) := rfl
theorem lb_X6_put_27 : xm_lk kb_X6_put 27 = some (31, kX6_put_27) := rfl
theorem lb_X6_put_34 : xm_lk kb_X6_put 34 = some (37, kX6_put_34) := rfl
theorem lb_X6_put_40 : xm_lk kb_X6_put 40 = some (41, kX6_put_40) := rfl
theorem lb_X6_put_45 : xm_lk kb_X6_put 45 = some (51, kX6_put_45) := rfl
theorem lb_X6_put_54 : xm_lk kb_X6_put 54 = some (55, kX6_put_54) := rfl
theorem lb_X6_put_13 : xm_lk kb_X6_put 13 = none := rfl
theorem lb_X6_put_19 : xm_lk kb_X6_put 19 = none := rfl
theorem lb_X6_put_23 : xm_lk kb_X6_put 23 = none := rfl
theorem lb_X6_put_31 : xm_lk kb_X6_put 31 = none := rfl
theorem lb_X6_put_37 : xm_lk kb_X6_put 37 = none := rfl
theorem lb_X6_put_41 : xm_lk kb_X6_put 41 = none := rfl
theorem lb_X6_put_51 : xm_lk kb_X6_put 51 = none := rfl
theorem lb_X6_put_55 : xm_lk kb_X6_put 55 = none := rfl
theorem kc_X6_put : xm_oks cX6_put 6 3 0 false kb_X6_put := (List.forall_mem_cons.mpr ⟨bk_X6_put_0, (List.forall_mem_cons.mpr ⟨bk_X6_put_16, (List.forall_mem_cons.mpr ⟨bk_X6_put_22, (List.forall_mem_cons.mpr ⟨bk_X6_put_27, (List.forall_mem_cons.mpr ⟨bk_X6_put_34, (List.forall_mem_cons.mpr ⟨bk_X6_put_40, (List.forall_mem_cons.mpr ⟨bk_X6_put_45, (List.forall_mem_cons.mpr ⟨bk_X6_put_54, (fun _ h => absurd h List.not_mem_nil)⟩)⟩)⟩)⟩)⟩)⟩)⟩)⟩)
def kb_X6_step : List (Nat × Nat × List xm_I) := [(0, 12, kX6_step_0), (15, 16, kX6_step_15), (20, 35, kX6_step_20), (38, 39, kX6_step_38), (43, 53, kX6_step_43), (53, 62, kX6_step_53), (65, 71, kX6_step_65), (71, 81, kX6_step_71)]
theorem lb_X6_step_0 : xm_lk kb_X6_step 0 = some (12, kX6_step_0) := rfl
theorem lb_X6_step_15 : xm_lk kb_X6_step 15 = some (16, kX6_step_15) := rfl
theorem lb_X6_step_20 : xm_lk kb_X6_step 20 = some (35, kX6_step_20) := rfl
theorem lb_X6_step_38 : xm_lk kb_X6_step 38 = some (39, kX6_step_38) := rfl
theorem lb_X6_step_43 : xm_lk kb_X6_step 43 = some (53, kX6_step_43) := rfl
theorem lb_X6_step_53 : xm_lk kb_X6_step 53 = some (62, kX6_step_53) := rfl
theorem lb_X6_step_65 : xm_lk kb_X6_step 65 = some (71, kX6_step_65) := rfl
theorem lb_X6_step_71 : xm_lk kb_X6_step 71 = some (81, kX6_step_71) := rfl
theorem lb_X6_step_12 : xm_lk kb_X6_step 12 = none := rfl
theorem lb_X6_step_16 : xm_lk kb_X6_step 16 = none := rfl
theorem lb_X6_step_35 : xm_lk kb_X6_step 35 = none := rfl
theorem lb_X6_step_39 : xm_lk kb_X6_step 39 = none := rfl
theorem lb_X6_step_62 : xm_lk kb_X6_step 62 = none := rfl
theorem lb_X6_step_81 : xm_lk kb_X6_step 81 = none := rfl
theorem kc_X6_step : xm_oks cX6_step 6 4 0 false kb_X6_step := (List.forall_mem_cons.mpr ⟨bk_X6_step_0, (List.forall_mem_cons.mpr ⟨bk_X6_step_15, (List.forall_mem_cons.mpr ⟨bk_X6_step_20, (List.forall_mem_cons.mpr ⟨bk_X6_step_38, (List.forall_mem_cons.mpr ⟨bk_X6_step_43, (List.forall_mem_cons.mpr ⟨bk_X6_step_53, (List.forall_mem_cons.mpr ⟨bk_X6_step_65, (List.forall_mem_cons.mpr ⟨bk_X6_step_71, (fun _ h => absurd h List.not_mem_nil)⟩)⟩)⟩)⟩)⟩)⟩)⟩)⟩)
def kb_X6_jam : List (Nat × Nat × List xm_I) := [(0, 5, kX6_jam_0), (8, 11, kX6_jam_8), (14, 15, kX6_jam_14), (19, 33, kX6_jam_19), (36, 37, kX6_jam_36), (37, 49, kX6_jam_37), (33, 36, kX6_jam_33), (49, 50, kX6_jam_49)]
theorem lb_X6_jam_0 : xm_lk kb_X6_jam 0 = some (5, kX6_jam_0) := rfl
theorem lb_X6_jam_8 : xm_lk kb_X6_jam 8 = some (11, kX6_jam_8) := rfl
theorem lb_X6_jam_14 : xm_lk kb_X6_jam 14 = some (15, kX6_jam_14) := rfl
theorem lb_X6_jam_19 : xm_lk kb_X6_jam 19 = some (33, kX6_jam_19) := rfl
theorem lb_X6_jam_36 : xm_lk kb_X6_jam 36 = some (37, kX6_jam_36) := rfl
theorem lb_X6_jam_37 : xm_lk kb_X6_jam 37 = some (49, kX6_jam_37) := rfl
theorem lb_X6_jam_33 : xm_lk kb_X6_jam 33 = some (36, kX6_jam_33) := rfl
theorem lb_X6_jam_49 : xm_lk kb_X6_jam 49 = some (50, kX6_jam_49) := rfl
theorem lb_X6_jam_5 : xm_lk kb_X6_jam 5 = none := rfl
theorem lb_X6_jam_11 : xm_lk kb_X6_jam 11 = none := rfl
theorem lb_X6_jam_15 : xm_lk kb_X6_jam 15 = none := rfl
theorem lb_X6_jam_50 : xm_lk kb_X6_jam 50 = none := rfl
theorem kc_X6_jam : xm_oks cX6_jam 6 4 1 false kb_X6_jam := (List.forall_mem_cons.mpr ⟨bk_X6_jam_0, (List.forall_mem_cons.mpr ⟨bk_X6_jam_8, (List.forall_mem_cons.mpr ⟨bk_X6_jam_14, (List.forall_mem_cons.mpr ⟨bk_X6_jam_19, (List.forall_mem_cons.mpr ⟨bk_X6_jam_36, (List.forall_mem_cons.mpr ⟨bk_X6_jam_37, (List.forall_mem_cons.mpr ⟨bk_X6_jam_33, (List.forall_mem_cons.mpr ⟨bk_X6_jam_49, (fun _ h => absurd h List.not_mem_nil)⟩)⟩)⟩)⟩)⟩)⟩)⟩)⟩)
def kb_X6_sensor : List (Nat × Nat × List xm_I) := [(0, 5, kX6_sensor_0), (8, 11, kX6_sensor_8), (14, 15, kX6_sensor_14), (19, 33, kX6_sensor_19), (36, 37, kX6_sensor_36), (37, 49, kX6_sensor_37), (33, 36, kX6_sensor_33), (49, 50, kX6_sensor_49)]
theorem lb_X6_sensor_0 : xm_lk kb_X6_sensor 0 = some (5, kX6_sensor_0) := rfl
theorem lb_X6_sensor_8 : xm_lk kb_X6_sensor 8 = some (11, kX6_sensor_8) := rfl
theorem lb_X6_sensor_14 : xm_lk kb_X6_sensor 14 = some (15, kX6_sensor_14) := rfl
theorem lb_X6_sensor_19 : xm_lk kb_X6_sensor 19 = some (33, kX6_sensor_19) := rfl
theorem lb_X6_sensor_36 : xm_lk kb_X6_sensor 36 = some (37, kX6_sensor_36) := rfl
theorem lb_X6_sensor_37 : xm_lk kb_X6_sensor 37 = some (49, kX6_sensor_37) := rfl
theorem lb_X6_sensor_33 : xm_lk kb_X6_sensor 33 = some (36, kX6_sensor_33) := rfl
theorem lb_X6_sensor_49 : xm_lk kb_X6_sensor 49 = some (50, kX6_sensor_49) := rfl
theorem lb_X6_sensor_5 : xm_lk kb_X6_sensor 5 = none := rfl
theorem lb_X6_sensor_11 : xm_lk kb_X6_sensor 11 = none := rfl
theorem lb_X6_sensor_15 : xm_lk kb_X6_sensor 15 = none := rfl
theorem lb_X6_sensor_50 : xm_lk kb_X6_sensor 50 = none := rfl
theorem kc_X6_sensor : xm_oks cX6_sensor 6 4 1 false kb_X6_sensor := (List.forall_mem_cons.mpr ⟨bk_X6_sensor_0, (List.forall_mem_cons.mpr ⟨bk_X6_sensor_8, (List.forall_mem_cons.mpr ⟨bk_X6_sensor_14, (List.forall_mem_cons.mpr ⟨bk_X6_sensor_19, (List.forall_mem_cons.mpr ⟨bk_X6_sensor_36, (List.forall_mem_cons.mpr ⟨bk_X6_sensor_37, (List.forall_mem_cons.mpr ⟨bk_X6_sensor_33, (List.forall_mem_cons.mpr ⟨bk_X6_sensor_49, (fun _ h => absurd h List.not_mem_nil)⟩)⟩)⟩)⟩)⟩)⟩)⟩)⟩)
def kb_X6_setLimits : List (Nat × Nat × List xm_I) := [(0, 16, kX6_setLimits_0), (26, 27, kX6_setLimits_26), (31, 47, kX6_setLimits_31), (16, 23, kX6_setLimits_16), (47, 48, kX6_setLimits_47)]
theorem lb_X6_setLimits_0 : xm_lk kb_X6_setLimits 0 = some (16, kX6_setLimits_0) := rfl
theorem lb_X6_setLimits_26 : xm_lk kb_X6_setLimits 26 = some (27, kX6_setLimits_26) := rfl
theorem lb_X6_setLimits_31 : xm_lk kb_X6_setLimits 31 = some (47, kX6_setLimits_31) := rfl
theorem lb_X6_setLimits_16 : xm_lk kb_X6_setLimits 16 = some (23, kX6_setLimits_16) := rfl
theorem lb_X6_setLimits_47 : xm_lk kb_X6_setLimits 47 = some (48, kX6_setLimits_47) := rfl
theorem lb_X6_setLimits_23 : xm_lk kb_X6_setLimits 23 = none := rfl
theorem lb_X6_setLimits_27 : xm_lk kb_X6_setLimits 27 = none := rfl
theorem lb_X6_setLimits_48 : xm_lk kb_X6_setLimits 48 = none := rfl
theorem kc_X6_setLimits : xm_oks cX6_setLimits 6 3 3 false kb_X6_setLimits := (List.forall_mem_cons.mpr ⟨bk_X6_setLimits_0, (List.forall_mem_cons.mpr ⟨bk_X6_setLimits_26, (List.forall_mem_cons.mpr ⟨bk_X6_setLimits_31, (List.forall_mem_cons.mpr ⟨bk_X6_setLimits_16, (List.forall_mem_cons.mpr ⟨bk_X6_setLimits_47, (fun _ h => absurd h List.not_mem_nil)⟩)⟩)⟩)⟩)⟩)
def kb_X6_setTare : List (Nat × Nat × List xm_I) := [(0, 14, kX6_setTare_0), (17, 18, kX6_setTare_17), (22, 38, kX6_setTare_22), (38, 40, kX6_setTare_38)]
theorem lb_X6_setTare_0 : xm_lk kb_X6_setTare 0 = some (14, kX6_setTare_0) := rfl
theorem lb_X6_setTare_17 : xm_lk kb_X6_setTare 17 = some (18, kX6_setTare_17) := rfl
theorem lb_X6_setTare_22 : xm_lk kb_X6_setTare 22 = some (38, kX6_setTare_22) := rfl
theorem lb_X6_setTare_38 : xm_lk kb_X6_setTare 38 = some (40, kX6_setTare_38) := rfl
theorem lb_X6_setTare_14 : xm_lk kb_X6_setTare 14 = none := rfl
theorem lb_X6_setTare_18 : xm_lk kb_X6_setTare 18 = none := rfl
theorem lb_X6_setTare_40 : xm_lk kb_X6_setTare 40 = none := rfl
theorem kc_X6_setTare : xm_oks cX6_setTare 6 3 0 false kb_X6_setTare := (List.forall_mem_cons.mpr ⟨bk_X6_setTare_0, (List.forall_mem_cons.mpr ⟨bk_X6_setTare_17, (List.forall_mem_cons.mpr ⟨bk_X6_setTare_22, (List.forall_mem_cons.mpr ⟨bk_X6_setTare_38, (fun _ h => absurd h List.not_mem_nil)⟩)⟩)⟩)⟩)
def kb_X6_item : List (Nat × Nat × List xm_I) := [(0, 5, kX6_item_0), (8, 13, kX6_item_8), (16, 17, kX6_item_16), (21, 22, kX6_item_21), (76, 81, kX6_item_76), (81, 86, kX6_item_81), (86, 91, kX6_item_86), (91, 96, kX6_item_91), (96, 101, kX6_item_96), (101, 112, kX6_item_101), (112, 113, kX6_item_112), (113, 114, kX6_item_113), (114, 119, kX6_item_114), (119, 124, kX6_item_119), (124, 129, kX6_item_124), (129, 134, kX6_item_129), (137, 138, kX6_item_137)]
theorem lb_X6_item_0 : xm_lk kb_X6_item 0 = some (5, kX6_item_0) := rfl
theorem lb_X6_item_8 : xm_lk kb_X6_item 8 = some (13, kX6_item_8) := rfl
theorem lb_X6_item_16 : xm_lk kb_X6_item 16 = some (17, kX6_item_16) := rfl
theorem lb_X6_item_21 : xm_lk kb_X6_item 21 = some (22, kX6_item_21) := rfl
theorem lb_X6_item_76 : xm_lk kb_X6_item 76 = some (81, kX6_item_76) := rfl
theorem lb_X6_item_81 : xm_lk kb_X6_item 81 = some (86, kX6_item_81) := rfl
theorem lb_X6_item_86 : xm_lk kb_X6_item 86 = some (91, kX6_item_86) := rfl
theorem lb_X6_item_91 : xm_lk kb_X6_item 91 = some (96, kX6_item_91) := rfl
theorem lb_X6_item_96 : xm_lk kb_X6_item 96 = some (101, kX6_item_96) := rfl
theorem lb_X6_item_101 : xm_lk kb_X6_item 101 = some (112, kX6_item_101) := rfl
theorem lb_X6_item_112 : xm_lk kb_X6_item 112 = some (113, kX6_item_112) := rfl
theorem lb_X6_item_113 : xm_lk kb_X6_item 113 = some (114, kX6_item_113) := rfl
theorem lb_X6_item_114 : xm_lk kb_X6_item 114 = some (119, kX6_item_114) := rfl
theorem lb_X6_item_119 : xm_lk kb_X6_item 119 = some (124, kX6_item_119) := rfl
theorem lb_X6_item_124 : xm_lk kb_X6_item 124 = some (129, kX6_item_124) := rfl
theorem lb_X6_item_129 : xm_lk kb_X6_item 129 = some (134, kX6_item_129) := rfl
theorem lb_X6_item_137 : xm_lk kb_X6_item 137 = some (138, kX6_item_137) := rfl
theorem lb_X6_item_5 : xm_lk kb_X6_item 5 = none := rfl
theorem lb_X6_item_13 : xm_lk kb_X6_item 13 = none := rfl
theorem lb_X6_item_17 : xm_lk kb_X6_item 17 = none := rfl
theorem lb_X6_item_22 : xm_lk kb_X6_item 22 = none := rfl
theorem lb_X6_item_134 : xm_lk kb_X6_item 134 = none := rfl
theorem lb_X6_item_138 : xm_lk kb_X6_item 138 = none := rfl
theorem kc_X6_item : xm_oks cX6_item 6 4 0 false kb_X6_item := (List.forall_mem_cons.mpr ⟨bk_X6_item_0, (List.forall_mem_cons.mpr ⟨bk_X6_item_8, (List.forall_mem_cons.mpr ⟨bk_X6_item_16, (List.forall_mem_cons.mpr ⟨bk_X6_item_21, (List.forall_mem_cons.mpr ⟨bk_X6_item_76, (List.forall_mem_cons.mpr ⟨bk_X6_item_81, (List.forall_mem_cons.mpr ⟨bk_X6_item_86, (List.forall_mem_cons.mpr ⟨bk_X6_item_91, (List.forall_mem_cons.mpr ⟨bk_X6_item_96, (List.forall_mem_cons.mpr ⟨bk_X6_item_101, (List.forall_mem_cons.mpr ⟨bk_X6_item_112, (List.forall_mem_cons.mpr ⟨bk_X6_item_113, (List.forall_mem_cons.mpr ⟨bk_X6_item_114, (List.forall_mem_cons.mpr ⟨bk_X6_item_119, (List.forall_mem_cons.mpr ⟨bk_X6_item_124, (List.forall_mem_cons.mpr ⟨bk_X6_item_129, (List.forall_mem_cons.mpr ⟨bk_X6_item_137, (fun _ h => absurd h List.not_mem_nil)⟩)⟩)⟩)⟩)⟩)⟩)⟩)⟩)⟩)⟩)⟩)⟩)⟩)⟩)⟩)⟩)⟩)
def kb_X6_measured : List (Nat × Nat × List xm_I) := [(0, 5, kX6_measured_0), (8, 13, kX6_measured_8), (16, 17, kX6_measured_16), (21, 28, kX6_measured_21), (31, 32, kX6_measured_31), (36, 41, kX6_measured_36)]
theorem lb_X6_measured_0 : xm_lk kb_X6_measured 0 = some (5, kX6_measured_0) := rfl
theorem lb_X6_measured_8 : xm_lk kb_X6_measured 8 = some (13, kX6_measured_8) := rfl
theorem lb_X6_measured_16 : xm_lk kb_X6_measured 16 = some (17, kX6_measured_16) := rfl
theorem lb_X6_measured_21 : xm_lk kb_X6_measured 21 = some (28, kX6_measured_21) := rfl
theorem lb_X6_measured_31 : xm_lk kb_X6_measured 31 = some (32, kX6_measured_31) := rfl
theorem lb_X6_measured_36 : xm_lk kb_X6_measured 36 = some (41, kX6_measured_36) := rfl
theorem lb_X6_measured_5 : xm_lk kb_X6_measured 5 = none := rfl
theorem lb_X6_measured_13 : xm_lk kb_X6_measured 13 = none := rfl
theorem lb_X6_measured_17 : xm_lk kb_X6_measured 17 = none := rfl
theorem lb_X6_measured_28 : xm_lk kb_X6_measured 28 = none := rfl
theorem lb_X6_measured_32 : xm_lk kb_X6_measured 32 = none := rfl
theorem lb_X6_measured_41 : xm_lk kb_X6_measured 41 = none := rfl
theorem kc_X6_measured : xm_oks cX6_measured 6 3 0 false kb_X6_measured := (List.forall_mem_cons.mpr ⟨bk_X6_measured_0, (List.forall_mem_cons.mpr ⟨bk_X6_measured_8, (List.forall_mem_cons.mpr ⟨bk_X6_measured_16, (List.forall_mem_cons.mpr ⟨bk_X6_measured_21, (List.forall_mem_cons.mpr ⟨bk_X6_measured_31, (List.forall_mem_cons.mpr ⟨bk_X6_measured_36, (fun _ h => absurd h List.not_mem_nil)⟩)⟩)⟩)⟩)⟩)⟩)
def kb_X6_sampleOf : List (Nat × Nat × List xm_I) := [(0, 5, kX6_sampleOf_0), (8, 22, kX6_sampleOf_8), (28, 29, kX6_sampleOf_28), (33, 35, kX6_sampleOf_33), (38, 39, kX6_sampleOf_38), (22, 25, kX6_sampleOf_22)]
theorem lb_X6_sampleOf_0 : xm_lk kb_X6_sampleOf 0 = some (5, kX6_sampleOf_0) := rfl
theorem lb_X6_sampleOf_8 : xm_lk kb_X6_sampleOf 8 = some (22, kX6_sampleOf_8) := rfl
theorem lb_X6_sampleOf_28 : xm_lk kb_X6_sampleOf 28 = some (29, kX6_sampleOf_28) := rfl
theorem lb_X6_sampleOf_33 : xm_lk kb_X6_sampleOf 33 = some (35, kX6_sampleOf_33) := rfl
theorem lb_X6_sampleOf_38 : xm_lk kb_X6_sampleOf 38 = some (39, kX6_sampleOf_38) := rfl
theorem lb_X6_sampleOf_22 : xm_lk kb_X6_sampleOf 22 = some (25, kX6_sampleOf_22) := rfl
theorem lb_X6_sampleOf_5 : xm_lk kb_X6_sampleOf 5 = none := rfl
theorem lb_X6_sampleOf_25 : xm_lk kb_X6_sampleOf 25 = none := rfl
theorem lb_X6_sampleOf_29 : xm_lk kb_X6_sampleOf 29 = none := rfl
theorem lb_X6_sampleOf_35 : xm_lk kb_X6_sampleOf 35 = none := rfl
theorem lb_X6_sampleOf_39 : xm_lk kb_X6_sampleOf 39 = none := rfl
theorem kc_X6_sampleOf : xm_oks cX6_sampleOf 6 4 0 false kb_X6_sampleOf := (List.forall_mem_cons.mpr ⟨bk_X6_sampleOf_0, (List.forall_mem_cons.mpr ⟨bk_X6_sampleOf_8, (List.forall_mem_cons.mpr ⟨bk_X6_sampleOf_28, (List.forall_mem_cons.mpr ⟨bk_X6_sampleOf_33, (List.forall_mem_cons.mpr ⟨bk_X6_sampleOf_38, (List.forall_mem_cons.mpr ⟨bk_X6_sampleOf_22, (fun _ h => absurd h List.not_mem_nil)⟩)⟩)⟩)⟩)⟩)⟩)
def kb_X6_sample : List (Nat × Nat × List xm_I) := [(0, 10, kX6_sample_0), (13, 14, kX6_sample_13), (18, 29, kX6_sample_18), (32, 33, kX6_sample_32), (37, 42, kX6_sample_37), (45, 46, kX6_sample_45)]
theorem lb_X6_sample_0 : xm_lk kb_X6_sample 0 = some (10, kX6_sample_0) := rfl
theorem lb_X6_sample_13 : xm_lk kb_X6_sample 13 = some (14, kX6_sample_13) := rfl
theorem lb_X6_sample_18 : xm_lk kb_X6_sample 18 = some (29, kX6_sample_18) := rfl
theorem lb_X6_sample_32 : xm_lk kb_X6_sample 32 = some (33, kX6_sample_32) := rfl
theorem lb_X6_sample_37 : xm_lk kb_X6_sample 37 = some (42, kX6_sample_37) := rfl
theorem lb_X6_sample_45 : xm_lk kb_X6_sample 45 = some (46, kX6_sample_45) := rfl
theorem lb_X6_sample_10 : xm_lk kb_X6_sample 10 = none := rfl
theorem lb_X6_sample_14 : xm_lk kb_X6_sample 14 = none := rfl
theorem lb_X6_sample_29 : xm_lk kb_X6_sample 29 = none := rfl
theorem lb_X6_sample_33 : xm_lk kb_X6_sample 33 = none := rfl
theorem lb_X6_sample_42 : xm_lk kb_X6_sample 42 = none := rfl
theorem lb_X6_sample_46 : xm_lk kb_X6_sample 46 = none := rfl
theorem kc_X6_sample : xm_oks cX6_sample 6 2 0 false kb_X6_sample := (List.forall_mem_cons.mpr ⟨bk_X6_sample_0, (List.forall_mem_cons.mpr ⟨bk_X6_sample_13, (List.forall_mem_cons.mpr ⟨bk_X6_sample_18, (List.forall_mem_cons.mpr ⟨bk_X6_sample_32, (List.forall_mem_cons.mpr ⟨bk_X6_sample_37, (List.forall_mem_cons.mpr ⟨bk_X6_sample_45, (fun _ h => absurd h List.not_mem_nil)⟩)⟩)⟩)⟩)⟩)⟩)
def kb_X6_count : List (Nat × Nat × List xm_I) := [(0, 9, kX6_count_0), (12, 13, kX6_count_12), (17, 22, kX6_count_17), (25, 26, kX6_count_25)]
theorem lb_X6_count_0 : xm_lk kb_X6_count 0 = some (9, kX6_count_0) := rfl
theorem lb_X6_count_12 : xm_lk kb_X6_count 12 = some (13, kX6_count_12) := rfl
theorem lb_X6_count_17 : xm_lk kb_X6_count 17 = some (22, kX6_count_17) := rfl
theorem lb_X6_count_25 : xm_lk kb_X6_count 25 = some (26, kX6_count_25) := rfl
theorem lb_X6_count_9 : xm_lk kb_X6_count 9 = none := rfl
theorem lb_X6_count_13 : xm_lk kb_X6_count 13 = none := rfl
theorem lb_X6_count_22 : xm_lk kb_X6_count 22 = none := rfl
theorem lb_X6_count_26 : xm_lk kb_X6_count 26 = none := rfl
theorem kc_X6_count : xm_oks cX6_count 6 2 0 false kb_X6_count := (List.forall_mem_cons.mpr ⟨bk_X6_count_0, (List.forall_mem_cons.mpr ⟨bk_X6_count_12, (List.forall_mem_cons.mpr ⟨bk_X6_count_17, (List.forall_mem_cons.mpr ⟨bk_X6_count_25, (fun _ h => absurd h List.not_mem_nil)⟩)⟩)⟩)⟩)
def kb_X6_decided : List (Nat × Nat × List xm_I) := [(0, 9, kX6_decided_0), (12, 13, kX6_decided_12), (17, 22, kX6_decided_17), (25, 26, kX6_decided_25)]
theorem lb_X6_decided_0 : xm_lk kb_X6_decided 0 = some (9, kX6_decided_0) := rfl
theorem lb_X6_decided_12 : xm_lk kb_X6_decided 12 = some (13, kX6_decided_12) := rfl
theorem lb_X6_decided_17 : xm_lk kb_X6_decided 17 = some (22, kX6_decided_17) := rfl
theorem lb_X6_decided_25 : xm_lk kb_X6_decided 25 = some (26, kX6_decided_25) := rfl
theorem lb_X6_decided_9 : xm_lk kb_X6_decided 9 = none := rfl
theorem lb_X6_decided_13 : xm_lk kb_X6_decided 13 = none := rfl
theorem lb_X6_decided_22 : xm_lk kb_X6_decided 22 = none := rfl
theorem lb_X6_decided_26 : xm_lk kb_X6_decided 26 = none := rfl
theorem kc_X6_decided : xm_oks cX6_decided 6 2 0 false kb_X6_decided := (List.forall_mem_cons.mpr ⟨bk_X6_decided_0, (List.forall_mem_cons.mpr ⟨bk_X6_decided_12, (List.forall_mem_cons.mpr ⟨bk_X6_decided_17, (List.forall_mem_cons.mpr ⟨bk_X6_decided_25, (fun _ h => absurd h List.not_mem_nil)⟩)⟩)⟩)⟩)
def kb_X6_meanGood : List (Nat × Nat × List xm_I) := [(0, 5, kX6_meanGood_0), (8, 13, kX6_meanGood_8), (16, 17, kX6_meanGood_16), (21, 25, kX6_meanGood_21), (28, 31, kX6_meanGood_28), (32, 33, kX6_meanGood_32)]
theorem lb_X6_meanGood_0 : xm_lk kb_X6_meanGood 0 = some (5, kX6_meanGood_0) := rfl
theorem lb_X6_meanGood_8 : xm_lk kb_X6_meanGood 8 = some (13, kX6_meanGood_8) := rfl
theorem lb_X6_meanGood_16 : xm_lk kb_X6_meanGood 16 = some (17, kX6_meanGood_16) := rfl
theorem lb_X6_meanGood_21 : xm_lk kb_X6_meanGood 21 = some (25, kX6_meanGood_21) := rfl
theorem lb_X6_meanGood_28 : xm_lk kb_X6_meanGood 28 = some (31, kX6_meanGood_28) := rfl
theorem lb_X6_meanGood_32 : xm_lk kb_X6_meanGood 32 = some (33, kX6_meanGood_32) := rfl
theorem lb_X6_meanGood_5 : xm_lk kb_X6_meanGood 5 = none := rfl
theorem lb_X6_meanGood_13 : xm_lk kb_X6_meanGood 13 = none := rfl
theorem lb_X6_meanGood_17 : xm_lk kb_X6_meanGood 17 = none := rfl
theorem lb_X6_meanGood_25 : xm_lk kb_X6_meanGood 25 = none := rfl
theorem lb_X6_meanGood_31 : xm_lk kb_X6_meanGood 31 = none := rfl
theorem lb_X6_meanGood_33 : xm_lk kb_X6_meanGood 33 = none := rfl
theorem kc_X6_meanGood : xm_oks cX6_meanGood 6 2 4 false kb_X6_meanGood := (List.forall_mem_cons.mpr ⟨bk_X6_meanGood_0, (List.forall_mem_cons.mpr ⟨bk_X6_meanGood_8, (List.forall_mem_cons.mpr ⟨bk_X6_meanGood_16, (List.forall_mem_cons.mpr ⟨bk_X6_meanGood_21, (List.forall_mem_cons.mpr ⟨bk_X6_meanGood_28, (List.forall_mem_cons.mpr ⟨bk_X6_meanGood_32, (fun _ h => absurd h List.not_mem_nil)⟩)⟩)⟩)⟩)⟩)⟩)
def kb_X6_meanError : List (Nat × Nat × List xm_I) := [(0, 4, kX6_meanError_0), (7, 12, kX6_meanError_7), (15, 16, kX6_meanError_15), (20, 24, kX6_meanError_20), (27, 30, kX6_meanError_27), (31, 32, kX6_meanError_31)]
theorem lb_X6_meanError_0 : xm_lk kb_X6_meanError 0 = some (4, kX6_meanError_0) := rfl
theorem lb_X6_meanError_7 : xm_lk kb_X6_meanError 7 = some (12, kX6_meanError_7) := rfl
theorem lb_X6_meanError_15 : xm_lk kb_X6_meanError 15 = some (16, kX6_meanError_15) := rfl
theorem lb_X6_meanError_20 : xm_lk kb_X6_meanError 20 = some (24, kX6_meanError_20) := rfl
theorem lb_X6_meanError_27 : xm_lk kb_X6_meanError 27 = some (30, kX6_meanError_27) := rfl
theorem lb_X6_meanError_31 : xm_lk kb_X6_meanError 31 = some (32, kX6_meanError_31) := rfl
theorem lb_X6_meanError_4 : xm_lk kb_X6_meanError 4 = none := rfl
theorem lb_X6_meanError_12 : xm_lk kb_X6_meanError 12 = none := rfl
theorem lb_X6_meanError_16 : xm_lk kb_X6_meanError 16 = none := rfl
theorem lb_X6_meanError_24 : xm_lk kb_X6_meanError 24 = none := rfl
theorem lb_X6_meanError_30 : xm_lk kb_X6_meanError 30 = none := rfl
theorem lb_X6_meanError_32 : xm_lk kb_X6_meanError 32 = none := rfl
theorem kc_X6_meanError : xm_oks cX6_meanError 6 2 4 false kb_X6_meanError := (List.forall_mem_cons.mpr ⟨bk_X6_meanError_0, (List.forall_mem_cons.mpr ⟨bk_X6_meanError_7, (List.forall_mem_cons.mpr ⟨bk_X6_meanError_15, (List.forall_mem_cons.mpr ⟨bk_X6_meanError_20, (List.forall_mem_cons.mpr ⟨bk_X6_meanError_27, (List.forall_mem_cons.mpr ⟨bk_X6_meanError_31, (fun _ h => absurd h List.not_mem_nil)⟩)⟩)⟩)⟩)⟩)⟩)
def kb_X6_weightWith : List (Nat × Nat × List xm_I) := [(0, 5, kX6_weightWith_0), (8, 13, kX6_weightWith_8), (16, 17, kX6_weightWith_16), (21, 22, kX6_weightWith_21), (25, 28, kX6_weightWith_25), (31, 32, kX6_weightWith_31), (36, 43, kX6_weightWith_36), (46, 47, kX6_weightWith_46), (51, 53, kX6_weightWith_51), (56, 65, kX6_weightWith_56)]
theorem lb_X6_weightWith_0 : xm_lk kb_X6_weightWith 0 = some (5, kX6_weightWith_0) := rfl
theorem lb_X6_weightWith_8 : xm_lk kb_X6_weightWith 8 = some (13, kX6_weightWith_8) := rfl
theorem lb_X6_weightWith_16 : xm_lk kb_X6_weightWith 16 = some (17, kX6_weightWith_16) := rfl
theorem lb_X6_weightWith_21 : xm_lk kb_X6_weightWith 21 = some (22, kX6_weightWith_21) := rfl
theorem lb_X6_weightWith_25 : xm_lk kb_X6_weightWith 25 = some (28, kX6_weightWith_25) := rfl
theorem lb_X6_weightWith_31 : xm_lk kb_X6_weightWith 31 = some (32, kX6_weightWith_31) := rfl
theorem lb_X6_weightWith_36 : xm_lk kb_X6_weightWith 36 = some (43, kX6_weightWith_36) := rfl
theorem lb_X6_weightWith_46 : xm_lk kb_X6_weightWith 46 = some (47, kX6_weightWith_46) := rfl
theorem lb_X6_weightWith_51 : xm_lk kb_X6_weightWith 51 = some (53, kX6_weightWith_51) := rfl
theorem lb_X6_weightWith_56 : xm_lk kb_X6_weightWith 56 = some (65, kX6_weightWith_56) := rfl
theorem lb_X6_weightWith_5 : xm_lk kb_X6_weightWith 5 = none := rfl
theorem lb_X6_weightWith_13 : xm_lk kb_X6_weightWith 13 = none := rfl
theorem lb_X6_weightWith_17 : xm_lk kb_X6_weightWith 17 = none := rfl
theorem lb_X6_weightWith_22 : xm_lk kb_X6_weightWith 22 = none := rfl
theorem lb_X6_weightWith_28 : xm_lk kb_X6_weightWith 28 = none := rfl
theorem lb_X6_weightWith_32 : xm_lk kb_X6_weightWith 32 = none := rfl
theorem lb_X6_weightWith_43 : xm_lk kb_X6_weightWith 43 = none := rfl
theorem lb_X6_weightWith_47 : xm_lk kb_X6_weightWith 47 = none := rfl
theorem lb_X6_weightWith_53 : xm_lk kb_X6_weightWith 53 = none := rfl
theorem lb_X6_weightWith_65 : xm_lk kb_X6_weightWith 65 = none := rfl
theorem kc_X6_weightWith : xm_oks cX6_weightWith 6 4 0 false kb_X6_weightWith := (List.forall_mem_cons.mpr ⟨bk_X6_weightWith_0, (List.forall_mem_cons.mpr ⟨bk_X6_weightWith_8, (List.forall_mem_cons.mpr ⟨bk_X6_weightWith_16, (List.forall_mem_cons.mpr ⟨bk_X6_weightWith_21, (List.forall_mem_cons.mpr ⟨bk_X6_weightWith_25, (List.forall_mem_cons.mpr ⟨bk_X6_weightWith_31, (List.forall_mem_cons.mpr ⟨bk_X6_weightWith_36, (List.forall_mem_cons.mpr ⟨bk_X6_weightWith_46, (List.forall_mem_cons.mpr ⟨bk_X6_weightWith_51, (List.forall_mem_cons.mpr ⟨bk_X6_weightWith_56, (fun _ h => absurd h List.not_mem_nil)⟩)⟩)⟩)⟩)⟩)⟩)⟩)⟩)⟩)⟩)
def kb_X6_isLength : List (Nat × Nat × List xm_I) := [(0, 16, kX6_isLength_0), (16, 17, kX6_isLength_16), (17, 18, kX6_isLength_17)]
theorem lb_X6_isLength_0 : xm_lk kb_X6_isLength 0 = some (16, kX6_isLength_0) := rfl
theorem lb_X6_isLength_16 : xm_lk kb_X6_isLength 16 = some (17, kX6_isLength_16) := rfl
theorem lb_X6_isLength_17 : xm_lk kb_X6_isLength 17 = some (18, kX6_isLength_17) := rfl
theorem lb_X6_isLength_18 : xm_lk kb_X6_isLength 18 = none := rfl
theorem kc_X6_isLength : xm_oks cX6_isLength 6 1 1 false kb_X6_isLength := (List.forall_mem_cons.mpr ⟨bk_X6_isLength_0, (List.forall_mem_cons.mpr ⟨bk_X6_isLength_16, (List.forall_mem_cons.mpr ⟨bk_X6_isLength_17, (fun _ h => absurd h List.not_mem_nil)⟩)⟩)⟩)
def kb_X6_isWindow : List (Nat × Nat × List xm_I) := [(0, 15, kX6_isWindow_0), (15, 16, kX6_isWindow_15), (16, 17, kX6_isWindow_16)]
theorem lb_X6_isWindow_0 : xm_lk kb_X6_isWindow 0 = some (15, kX6_isWindow_0) := rfl
theorem lb_X6_isWindow_15 : xm_lk kb_X6_isWindow 15 = some (16, kX6_isWindow_15) := rfl
theorem lb_X6_isWindow_16 : xm_lk kb_X6_isWindow 16 = some (17, kX6_isWindow_16) := rfl
theorem lb_X6_isWindow_17 : xm_lk kb_X6_isWindow 17 = none := rfl
theorem kc_X6_isWindow : xm_oks cX6_isWindow 6 1 1 false kb_X6_isWindow := (List.forall_mem_cons.mpr ⟨bk_X6_isWindow_0, (List.forall_mem_cons.mpr ⟨bk_X6_isWindow_15, (List.forall_mem_cons.mpr ⟨bk_X6_isWindow_16, (fun _ h => absurd h List.not_mem_nil)⟩)⟩)⟩)
def kb_X6_quotient : List (Nat × Nat × List xm_I) := [(0, 8, kX6_quotient_0), (8, 11, kX6_quotient_8), (11, 12, kX6_quotient_11)]
theorem lb_X6_quotient_0 : xm_lk kb_X6_quotient 0 = some (8, kX6_quotient_0) := rfl
theorem lb_X6_quotient_8 : xm_lk kb_X6_quotient 8 = some (11, kX6_quotient_8) := rfl
theorem lb_X6_quotient_11 : xm_lk kb_X6_quotient 11 = some (12, kX6_quotient_11) := rfl
theorem lb_X6_quotient_12 : xm_lk kb_X6_quotient 12 = none := rfl
theorem kc_X6_quotient : xm_oks cX6_quotient 6 2 0 false kb_X6_quotient := (List.forall_mem_cons.mpr ⟨bk_X6_quotient_0, (List.forall_mem_cons.mpr ⟨bk_X6_quotient_8, (List.forall_mem_cons.mpr ⟨bk_X6_quotient_11, (fun _ h => absurd h List.not_mem_nil)⟩)⟩)⟩)
def kb_X6_remainder : List (Nat × Nat × List xm_I) := [(0, 8, kX6_remainder_0), (8, 11, kX6_remainder_8), (11, 12, kX6_remainder_11)]
theorem lb_X6_remainder_0 : xm_lk kb_X6_remainder 0 = some (8, kX6_remainder_0) := rfl
theorem lb_X6_remainder_8 : xm_lk kb_X6_remainder 8 = some (11, kX6_remainder_8) := rfl
theorem lb_X6_remainder_11 : xm_lk kb_X6_remainder 11 = some (12, kX6_remainder_11) := rfl
theorem lb_X6_remainder_12 : xm_lk kb_X6_remainder 12 = none := rfl
theorem kc_X6_remainder : xm_oks cX6_remainder 6 2 0 false kb_X6_remainder := (List.forall_mem_cons.mpr ⟨bk_X6_remainder_0, (List.forall_mem_cons.mpr ⟨bk_X6_remainder_8, (List.forall_mem_cons.mpr ⟨bk_X6_remainder_11, (fun _ h => absurd h List.not_mem_nil)⟩)⟩)⟩)
def kb_X6_quotientUp : List (Nat × Nat × List xm_I) := [(0, 8, kX6_quotientUp_0), (8, 15, kX6_quotientUp_8), (15, 16, kX6_quotientUp_15)]
theorem lb_X6_quotientUp_0 : xm_lk kb_X6_quotientUp 0 = some (8, kX6_quotientUp_0) := rfl
theorem lb_X6_quotientUp_8 : xm_lk kb_X6_quotientUp 8 = some (15, kX6_quotientUp_8) := rfl
theorem lb_X6_quotientUp_15 : xm_lk kb_X6_quotientUp 15 = some (16, kX6_quotientUp_15) := rfl
theorem lb_X6_quotientUp_16 : xm_lk kb_X6_quotientUp 16 = none := rfl
theorem kc_X6_quotientUp : xm_oks cX6_quotientUp 6 2 0 false kb_X6_quotientUp := (List.forall_mem_cons.mpr ⟨bk_X6_quotientUp_0, (List.forall_mem_cons.mpr ⟨bk_X6_quotientUp_8, (List.forall_mem_cons.mpr ⟨bk_X6_quotientUp_15, (fun _ h => absurd h List.not_mem_nil)⟩)⟩)⟩)

/-! RUNS: blocks one behind another, up to given stops (loop heads; what is no block stops too) -/
def xm_lk (bs : List (Nat × Nat × List xm_I)) (pc : Nat) : Option (Nat × List xm_I) := match bs with
  | [] => none
  | b :: l => if b.1 = pc then some b.2 else xm_lk l pc
def xm_r (sc : Nat × (Nat → Int32)) (bs : List (Nat × Nat × List xm_I)) (st : List Nat) (j : Nat → List Value → List Value → xm_M → Prop) (r : Option Value → xm_M → Prop) : Nat → Nat → List Value → List Value → xm_M → Prop
  | 0, pc, L, S, M => j pc L S M
  | n + 1, pc, L, S, M => if pc ∈ st then j pc L S M else match xm_lk bs pc with
    | some (en, as) => xm_b sc en (xm_r sc bs st j r n) r as L S M
    | none => j pc L S M
theorem xm_r_s {sc : Nat × (Nat → Int32)} {bs : List (Nat × Nat × List xm_I)} {st : List Nat} {j : Nat → List Value → List Value → xm_M → Prop} {r : Option Value → xm_M → Prop} {n pc : Nat} {L S : List Value} {M : xm_M} : xm_r sc bs st j r (n + 1) pc L S M = (if pc ∈ st then j pc L S M else match xm_lk bs pc with
    | some (en, as) => xm_b sc en (xm_r sc bs st j r n) r as L S M
    | none => j pc L S M) := rfl
/-- one more block behind a stop's test; J is what comes behind -/
def xm_st (sc : Nat × (Nat → Int32)) (bs : List (Nat × Nat × List xm_I)) (st : List Nat) (j : Nat → List Value → List Value → xm_M → Prop) (r : Option Value → xm_M → Prop) (J : Nat → List Value → List Value → xm_M → Prop) (pc : Nat) (L S : List Value) (M : xm_M) : Prop := if pc ∈ st then j pc L S M else match xm_lk bs pc with
  | some (en, as) => xm_b sc en J r as L S M
  | none => j pc L S M
/-- from pc on, a stop or not -/
def xm_r0 (sc : Nat × (Nat → Int32)) (bs : List (Nat × Nat × List xm_I)) (r : Option Value → xm_M → Prop) (J : Nat → List Value → List Value → xm_M → Prop) (pc : Nat) (L S : List Value) (M : xm_M) : Prop := match xm_lk bs pc with
  | some (en, as) => xm_b sc en J r as L S M
  | none => False
theorem xm_lk_mem {pc en : Nat} {as : List xm_I} : ∀ {bs : List (Nat × Nat × List xm_I)}, xm_lk bs pc = some (en, as) → (pc, en, as) ∈ bs
  | [], h => by cases h
  | b :: l, h => by
    unfold xm_lk at h
    split at h
    · rename_i hb
      obtain ⟨b1, b2⟩ := b
      cases hb
      cases h
      exact List.mem_cons_self
    · exact List.mem_cons_of_mem _ (xm_lk_mem h)
def xm_oks (cc : ByteArray) (own nL rt : Nat) (ini : Bool) (bs : List (Nat × Nat × List xm_I)) : Prop := ∀ b ∈ bs, xm_okb cc own nL rt ini b.2.1 b.1 b.2.2 = true
section XMR
variable {E : xm_E} {Z : xm_Z} {own nL rt D mc ms ce sl pc : Nat} {ini : Bool} {cc : ByteArray} {r : Option Value → xm_M → Prop} {L S : List Value} {M : xm_M} {bs : List (Nat × Nat × List xm_I)}
theorem xm_r_ok (hY : xm_Y E own nL cc rt ini D mc ms Z) (hk : xm_oks cc own nL rt ini bs) (st : List Nat) : ∀ (n pc : Nat) (L S : List Value) (M : xm_M), xm_r E.2.2.2.2 bs st (xm_Go E Z nL mc ms r mc ms) r n pc L S M → xm_Go E Z nL mc ms r mc ms pc L S M
  | 0, _, _, _, _, h => h
  | n + 1, pc, L, S, M, h => by
    unfold xm_r at h
    split at h
    · exact h
    · split at h
      · rename_i en as hl
        exact xm_b_ok hY.1 hY.2.1 hY.2.2.1 (fun _ _ _ h => h) (fun t L S M h => xm_r_ok hY hk st n t L S M h) as pc L S M (hk _ (xm_lk_mem hl)) h
      · exact h
theorem xm_run (hY : xm_Y E own nL cc rt ini D mc ms Z) (hk : xm_oks cc own nL rt ini bs) (st : List Nat) (n : Nat) (h : ∀ J : Nat → Nat → List Value → List Value → xm_M → Prop, (∀ pc L S M, J 0 pc L S M = xm_Go E Z nL mc ms r mc ms pc L S M) → (∀ n pc L S M, J (n + 1) pc L S M = xm_st E.2.2.2.2 bs st (xm_Go E Z nL mc ms r mc ms) r (J n) pc L S M) → xm_r0 E.2.2.2.2 bs r (J n) pc L S M) : xm_Go E Z nL mc ms r mc ms pc L S M := by
  have h := h (xm_r E.2.2.2.2 bs st (xm_Go E Z nL mc ms r mc ms) r) (fun _ _ _ _ => rfl) (fun _ _ _ _ _ => rfl)
  unfold xm_r0 at h
  split at h
  · rename_i en as hl
    exact xm_b_ok hY.1 hY.2.1 hY.2.2.1 (fun _ _ _ h => h) (fun t L S M h => xm_r_ok hY hk st n t L S M h) as pc L S M (hk _ (xm_lk_mem hl)) h
  · exact h.elim
theorem xm_rA_ok (hY : xm_Y E own nL cc rt ini D mc ms Z) (hk : xm_oks cc own nL rt ini bs) (st : List Nat) : ∀ (n pc : Nat) (L S : List Value) (M : xm_M), xm_r E.2.2.2.2 bs st (xm_Go E Z nL mc ms r ce sl) (fun _ _ => False) n pc L S M → xm_Go E Z nL mc ms r ce sl pc L S M
  | 0, _, _, _, _, h => h
  | n + 1, pc, L, S, M, h => by
    unfold xm_r at h
    split at h
    · exact h
    · split at h
      · rename_i en as hl
        exact xm_b_ok hY.1 hY.2.1 hY.2.2.1 (fun H locs g hw T hT X => by
          obtain ⟨t, a1, o, b1, b2, ⟨⟨v, M1, -, h1, -⟩, -⟩, -⟩ := hw T hT X
          exact h1.elim) (fun t L S M h => xm_rA_ok hY hk st n t L S M h) as pc L S M (hk _ (xm_lk_mem hl)) h
      · exact h
/-- .. where nothing returns, with any number of cells made -/
theorem xm_runA (hY : xm_Y E own nL cc rt ini D mc ms Z) (hk : xm_oks cc own nL rt ini bs) (st : List Nat) (n : Nat) (h : ∀ J : Nat → Nat → List Value → List Value → xm_M → Prop, (∀ pc L S M, J 0 pc L S M = xm_Go E Z nL mc ms r ce sl pc L S M) → (∀ n pc L S M, J (n + 1) pc L S M = xm_st E.2.2.2.2 bs st (xm_Go E Z nL mc ms r ce sl) (fun _ _ => False) (J n) pc L S M) → xm_r0 E.2.2.2.2 bs (fun _ _ => False) (J n) pc L S M) : xm_Go E Z nL mc ms r ce sl pc L S M := by
  have h := h (xm_r E.2.2.2.2 bs st (xm_Go E Z nL mc ms r ce sl) (fun _ _ => False)) (fun _ _ _ _ => rfl) (fun _ _ _ _ _ => rfl)
  unfold xm_r0 at h
  split at h
  · rename_i en as hl
    exact xm_b_ok hY.1 hY.2.1 hY.2.2.1 (fun H locs g hw T hT X => by
      obtain ⟨t, a1, o, b1, b2, ⟨⟨v, M1, -, h1, -⟩, -⟩, -⟩ := hw T hT X
      exact h1.elim) (fun t L S M h => xm_rA_ok hY hk st n t L S M h) as pc L S M (hk _ (xm_lk_mem hl)) h
  · exact h.elim
end XMR
def kb_X0_init : List (Nat × Nat × List xm_I) := [(0, 1, kX0_init_0), (4, 7, kX0_init_4), (9, 13, kX0_init_9)]
theorem lb_X0_init_0 : xm_lk kb_X0_init 0 = some (1, kX0_init_0) := rfl
theorem lb_X0_init_4 : xm_lk kb_X0_init 4 = some (7, kX0_init_4) := rfl
theorem lb_X0_init_9 : xm_lk kb_X0_init 9 = some (13, kX0_init_9) := rfl
theorem lb_X0_init_1 : xm_lk kb_X0_init 1 = none := rfl
theorem lb_X0_init_7 : xm_lk kb_X0_init 7 = none := rfl
theorem lb_X0_init_13 : xm_lk kb_X0_init 13 = none := rfl
theorem kc_X0_init : xm_oks cX0_init 0 1 3 true kb_X0_init := (List.forall_mem_cons.mpr ⟨bk_X0_init_0, (List.forall_mem_cons.mpr ⟨bk_X0_init_4, (List.forall_mem_cons.mpr ⟨bk_X0_init_9, (fun _ h => absurd h List.not_mem_nil)⟩)⟩)⟩)
def kb_X0_begin : List (Nat × Nat × List xm_I) := [(0, 12, kX0_begin_0), (12, 26, kX0_begin_12), (26, 40, kX0_begin_26), (40, 52, kX0_begin_40), (52, 66, kX0_begin_52), (66, 80, kX0_begin_66), (80, 81, kX0_begin_80)]
theorem lb_X0_begin_0 : xm_lk kb_X0_begin 0 = some (12, kX0_begin_0) := rfl
theorem lb_X0_begin_12 : xm_lk kb_X0_begin 12 = some (26, kX0_begin_12) := rfl
theorem lb_X0_begin_26 : xm_lk kb_X0_begin 26 = some (40, kX0_begin_26) := rfl
theorem lb_X0_begin_40 : xm_lk kb_X0_begin 40 = some (52, kX0_begin_40) := rfl
theorem lb_X0_begin_52 : xm_lk kb_X0_begin 52 = some (66, kX0_begin_52) := rfl
theorem lb_X0_begin_66 : xm_lk kb_X0_begin 66 = some (80, kX0_begin_66) := rfl
theorem lb_X0_begin_80 : xm_lk kb_X0_begin 80 = some (81, kX0_begin_80) := rfl
theorem lb_X0_begin_81 : xm_lk kb_X0_begin 81 = none := rfl
theorem kc_X0_begin : xm_oks cX0_begin 0 3 3 false kb_X0_begin := (List.forall_mem_cons.mpr ⟨bk_X0_begin_0, (List.forall_mem_cons.mpr ⟨bk_X0_begin_12, (List.forall_mem_cons.mpr ⟨bk_X0_begin_26, (List.forall_mem_cons.mpr ⟨bk_X0_begin_40, (List.forall_mem_cons.mpr ⟨bk_X0_begin_52, (List.forall_mem_cons.mpr ⟨bk_X0_begin_66, (List.forall_mem_cons.mpr ⟨bk_X0_begin_80, (fun _ h => absurd h List.not_mem_nil)⟩)⟩)⟩)⟩)⟩)⟩)⟩)
def kb_X0_copyFrom : List (Nat × Nat × List xm_I) := [(0, 16, kX0_copyFrom_0), (143, 144, kX0_copyFrom_143), (16, 32, kX0_copyFrom_16), (32, 48, kX0_copyFrom_32), (48, 64, kX0_copyFrom_48), (64, 80, kX0_copyFrom_64), (80, 96, kX0_copyFrom_80), (96, 112, kX0_copyFrom_96), (112, 128, kX0_copyFrom_112), (128, 140, kX0_copyFrom_128)]
theorem lb_X0_copyFrom_0 : xm_lk kb_X0_copyFrom 0 = some (16, kX0_copyFrom_0) := rfl
theorem lb_X0_copyFrom_143 : xm_lk kb_X0_copyFrom 143 = some (144, kX0_copyFrom_143) := rfl
theorem lb_X0_copyFrom_16 : xm_lk kb_X0_copyFrom 16 = some (32, kX0_copyFrom_16) := rfl
theorem lb_X0_copyFrom_32 : xm_lk kb_X0_copyFrom 32 = some (48, kX0_copyFrom_32) := rfl
theorem lb_X0_copyFrom_48 : xm_lk kb_X0_copyFrom 48 = some (64, kX0_copyFrom_48) := rfl
theorem lb_X0_copyFrom_64 : xm_lk kb_X0_copyFrom 64 = some (80, kX0_copyFrom_64) := rfl
theorem lb_X0_copyFrom_80 : xm_lk kb_X0_copyFrom 80 = some (96, kX0_copyFrom_80) := rfl
theorem lb_X0_copyFrom_96 : xm_lk kb_X0_copyFrom 96 = some (112, kX0_copyFrom_96) := rfl
theorem lb_X0_copyFrom_112 : xm_lk kb_X0_copyFrom 112 = some (128, kX0_copyFrom_112) := rfl
theorem lb_X0_copyFrom_128 : xm_lk kb_X0_copyFrom 128 = some (140, kX0_copyFrom_128) := rfl
theorem lb_X0_copyFrom_140 : xm_lk kb_X0_copyFrom 140 = none := rfl
theorem lb_X0_copyFrom_144 : xm_lk kb_X0_copyFrom 144 = none := rfl
theorem kc_X0_copyFrom : xm_oks cX0_copyFrom 0 2 3 false kb_X0_copyFrom := (List.forall_mem_cons.mpr ⟨bk_X0_copyFrom_0, (List.forall_mem_cons.mpr ⟨bk_X0_copyFrom_143, (List.forall_mem_cons.mpr ⟨bk_X0_copyFrom_16, (List.forall_mem_cons.mpr ⟨bk_X0_copyFrom_32, (List.forall_mem_cons.mpr ⟨bk_X0_copyFrom_48, (List.forall_mem_cons.mpr ⟨bk_X0_copyFrom_64, (List.forall_mem_cons.mpr ⟨bk_X0_copyFrom_80, (List.forall_mem_cons.mpr ⟨bk_X0_copyFrom_96, (List.forall_mem_cons.mpr ⟨bk_X0_copyFrom_112, (List.forall_mem_cons.mpr ⟨bk_X0_copyFrom_128, (fun _ h => absurd h List.not_mem_nil)⟩)⟩)⟩)⟩)⟩)⟩)⟩)⟩)⟩)⟩)
def kb_X0_rides : List (Nat × Nat × List xm_I) := [(0, 15, kX0_rides_0), (15, 19, kX0_rides_15), (19, 20, kX0_rides_19), (20, 21, kX0_rides_20)]
theorem lb_X0_rides_0 : xm_lk kb_X0_rides 0 = some (15, kX0_rides_0) := rfl
theorem lb_X0_rides_15 : xm_lk kb_X0_rides 15 = some (19, kX0_rides_15) := rfl
theorem lb_X0_rides_19 : xm_lk kb_X0_rides 19 = some (20, kX0_rides_19) := rfl
theorem lb_X0_rides_20 : xm_lk kb_X0_rides 20 = some (21, kX0_rides_20) := rfl
theorem lb_X0_rides_21 : xm_lk kb_X0_rides 21 = none := rfl
theorem kc_X0_rides : xm_oks cX0_rides 0 1 1 false kb_X0_rides := (List.forall_mem_cons.mpr ⟨bk_X0_rides_0, (List.forall_mem_cons.mpr ⟨bk_X0_rides_15, (List.forall_mem_cons.mpr ⟨bk_X0_rides_19, (List.forall_mem_cons.mpr ⟨bk_X0_rides_20, (fun _ h => absurd h List.not_mem_nil)⟩)⟩)⟩)⟩)
def kb_X0_isCommanding : List (Nat × Nat × List xm_I) := [(0, 16, kX0_isCommanding_0), (28, 29, kX0_isCommanding_28), (29, 30, kX0_isCommanding_29), (16, 28, kX0_isCommanding_16)]
theorem lb_X0_isCommanding_0 : xm_lk kb_X0_isCommanding 0 = some (16, kX0_isCommanding_0) := rfl
theorem lb_X0_isCommanding_28 : xm_lk kb_X0_isCommanding 28 = some (29, kX0_isCommanding_28) := rfl
theorem lb_X0_isCommanding_29 : xm_lk kb_X0_isCommanding 29 = some (30, kX0_isCommanding_29) := rfl
theorem lb_X0_isCommanding_16 : xm_lk kb_X0_isCommanding 16 = some (28, kX0_isCommanding_16) := rfl
theorem lb_X0_isCommanding_30 : xm_lk kb_X0_isCommanding 30 = none := rfl
theorem kc_X0_isCommanding : xm_oks cX0_isCommanding 0 3 1 false kb_X0_isCommanding := (List.forall_mem_cons.mpr ⟨bk_X0_isCommanding_0, (List.forall_mem_cons.mpr ⟨bk_X0_isCommanding_28, (List.forall_mem_cons.mpr ⟨bk_X0_isCommanding_29, (List.forall_mem_cons.mpr ⟨bk_X0_isCommanding_16, (fun _ h => absurd h List.not_mem_nil)⟩)⟩)⟩)⟩)
def kb_X0_addSample : List (Nat × Nat × List xm_I) := [(0, 15, kX0_addSample_0), (40, 53, kX0_addSample_40), (53, 54, kX0_addSample_53), (15, 28, kX0_addSample_15), (28, 40, kX0_addSample_28)]
theorem lb_X0_addSample_0 : xm_lk kb_X0_addSample 0 = some (15, kX0_addSample_0) := rfl
theorem lb_X0_addSample_40 : xm_lk kb_X0_addSample 40 = some (53, kX0_addSample_40) := rfl
theorem lb_X0_addSample_53 : xm_lk kb_X0_addSample 53 = some (54, kX0_addSample_53) := rfl
theorem lb_X0_addSample_15 : xm_lk kb_X0_addSample 15 = some (28, kX0_addSample_15) := rfl
theorem lb_X0_addSample_28 : xm_lk kb_X0_addSample 28 = some (40, kX0_addSample_28) := rfl
theorem lb_X0_addSample_54 : xm_lk kb_X0_addSample 54 = none := rfl
theorem kc_X0_addSample : xm_oks cX0_addSample 0 2 3 false kb_X0_addSample := (List.forall_mem_cons.mpr ⟨bk_X0_addSample_0, (List.forall_mem_cons.mpr ⟨bk_X0_addSample_40, (List.forall_mem_cons.mpr ⟨bk_X0_addSample_53, (List.forall_mem_cons.mpr ⟨bk_X0_addSample_15, (List.forall_mem_cons.mpr ⟨bk_X0_addSample_28, (fun _ h => absurd h List.not_mem_nil)⟩)⟩)⟩)⟩)⟩)
def kb_X0_keptAt : List (Nat × Nat × List xm_I) := [(0, 16, kX0_keptAt_0), (29, 30, kX0_keptAt_29), (30, 31, kX0_keptAt_30), (16, 29, kX0_keptAt_16)]
theorem lb_X0_keptAt_0 : xm_lk kb_X0_keptAt 0 = some (16, kX0_keptAt_0) := rfl
theorem lb_X0_keptAt_29 : xm_lk kb_X0_keptAt 29 = some (30, kX0_keptAt_29) := rfl
theorem lb_X0_keptAt_30 : xm_lk kb_X0_keptAt 30 = some (31, kX0_keptAt_30) := rfl
theorem lb_X0_keptAt_16 : xm_lk kb_X0_keptAt 16 = some (29, kX0_keptAt_16) := rfl
theorem lb_X0_keptAt_31 : xm_lk kb_X0_keptAt 31 = none := rfl
theorem kc_X0_keptAt : xm_oks cX0_keptAt 0 2 0 false kb_X0_keptAt := (List.forall_mem_cons.mpr ⟨bk_X0_keptAt_0, (List.forall_mem_cons.mpr ⟨bk_X0_keptAt_29, (List.forall_mem_cons.mpr ⟨bk_X0_keptAt_30, (List.forall_mem_cons.mpr ⟨bk_X0_keptAt_16, (fun _ h => absurd h List.not_mem_nil)⟩)⟩)⟩)⟩)
def kb_X0_meanOfLatest : List (Nat × Nat × List xm_I) := [(0, 5, kX0_meanOfLatest_0), (8, 19, kX0_meanOfLatest_8), (19, 32, kX0_meanOfLatest_19), (35, 43, kX0_meanOfLatest_35), (43, 45, kX0_meanOfLatest_43), (48, 49, kX0_meanOfLatest_48)]
theorem lb_X0_meanOfLatest_0 : xm_lk kb_X0_meanOfLatest 0 = some (5, kX0_meanOfLatest_0) := rfl
theorem lb_X0_meanOfLatest_8 : xm_lk kb_X0_meanOfLatest 8 = some (19, kX0_meanOfLatest_8) := rfl
theorem lb_X0_meanOfLatest_19 : xm_lk kb_X0_meanOfLatest 19 = some (32, kX0_meanOfLatest_19) := rfl
theorem lb_X0_meanOfLatest_35 : xm_lk kb_X0_meanOfLatest 35 = some (43, kX0_meanOfLatest_35) := rfl
theorem lb_X0_meanOfLatest_43 : xm_lk kb_X0_meanOfLatest 43 = some (45, kX0_meanOfLatest_43) := rfl
theorem lb_X0_meanOfLatest_48 : xm_lk kb_X0_meanOfLatest 48 = some (49, kX0_meanOfLatest_48) := rfl
theorem lb_X0_meanOfLatest_5 : xm_lk kb_X0_meanOfLatest 5 = none := rfl
theorem lb_X0_meanOfLatest_32 : xm_lk kb_X0_meanOfLatest 32 = none := rfl
theorem lb_X0_meanOfLatest_45 : xm_lk kb_X0_meanOfLatest 45 = none := rfl
theorem lb_X0_meanOfLatest_49 : xm_lk kb_X0_meanOfLatest 49 = none := rfl
theorem kc_X0_meanOfLatest : xm_oks cX0_meanOfLatest 0 5 0 false kb_X0_meanOfLatest := (List.forall_mem_cons.mpr ⟨bk_X0_meanOfLatest_0, (List.forall_mem_cons.mpr ⟨bk_X0_meanOfLatest_8, (List.forall_mem_cons.mpr ⟨bk_X0_meanOfLatest_19, (List.forall_mem_cons.mpr ⟨bk_X0_meanOfLatest_35, (List.forall_mem_cons.mpr ⟨bk_X0_meanOfLatest_43, (List.forall_mem_cons.mpr ⟨bk_X0_meanOfLatest_48, (fun _ h => absurd h List.not_mem_nil)⟩)⟩)⟩)⟩)⟩)⟩)
def kb_X0_spreadOfLatest : List (Nat × Nat × List xm_I) := [(0, 5, kX0_spreadOfLatest_0), (8, 16, kX0_spreadOfLatest_8), (19, 31, kX0_spreadOfLatest_19), (31, 44, kX0_spreadOfLatest_31), (50, 56, kX0_spreadOfLatest_50), (62, 70, kX0_spreadOfLatest_62), (70, 75, kX0_spreadOfLatest_70)]
theorem lb_X0_spreadOfLatest_0 : xm_lk kb_X0_spreadOfLatest 0 = some (5, kX0_spreadOfLatest_0) := rfl
theorem lb_X0_spreadOfLatest_8 : xm_lk kb_X0_spreadOfLatest 8 = some (16, kX0_spreadOfLatest_8) := rfl
theorem lb_X0_spreadOfLatest_19 : xm_lk kb_X0_spreadOfLatest 19 = some (31, kX0_spreadOfLatest_19) := rfl
theorem lb_X0_spreadOfLatest_31 : xm_lk kb_X0_spreadOfLatest 31 = some (44, kX0_spreadOfLatest_31) := rfl
theorem lb_X0_spreadOfLatest_50 : xm_lk kb_X0_spreadOfLatest 50 = some (56, kX0_spreadOfLatest_50) := rfl
theorem lb_X0_spreadOfLatest_62 : xm_lk kb_X0_spreadOfLatest 62 = some (70, kX0_spreadOfLatest_62) := rfl
theorem lb_X0_spreadOfLatest_70 : xm_lk kb_X0_spreadOfLatest 70 = some (75, kX0_spreadOfLatest_70) := rfl
theorem lb_X0_spreadOfLatest_5 : xm_lk kb_X0_spreadOfLatest 5 = none := rfl
theorem lb_X0_spreadOfLatest_16 : xm_lk kb_X0_spreadOfLatest 16 = none := rfl
theorem lb_X0_spreadOfLatest_44 : xm_lk kb_X0_spreadOfLatest 44 = none := rfl
theorem lb_X0_spreadOfLatest_56 : xm_lk kb_X0_spreadOfLatest 56 = none := rfl
theorem lb_X0_spreadOfLatest_75 : xm_lk kb_X0_spreadOfLatest 75 = none := rfl
theorem kc_X0_spreadOfLatest : xm_oks cX0_spreadOfLatest 0 6 0 false kb_X0_spreadOfLatest := (List.forall_mem_cons.mpr ⟨bk_X0_spreadOfLatest_0, (List.forall_mem_cons.mpr ⟨bk_X0_spreadOfLatest_8, (List.forall_mem_cons.mpr ⟨bk_X0_spreadOfLatest_19, (List.forall_mem_cons.mpr ⟨bk_X0_spreadOfLatest_31, (List.forall_mem_cons.mpr ⟨bk_X0_spreadOfLatest_50, (List.forall_mem_cons.mpr ⟨bk_X0_spreadOfLatest_62, (List.forall_mem_cons.mpr ⟨bk_X0_spreadOfLatest_70, (fun _ h => absurd h List.not_mem_nil)⟩)⟩)⟩)⟩)⟩)⟩)⟩)
def kb_X1_init : List (Nat × Nat × List xm_I) := [(0, 1, kX1_init_0), (4, 6, kX1_init_4), (8, 13, kX1_init_8), (15, 20, kX1_init_15), (22, 27, kX1_init_22), (29, 34, kX1_init_29), (36, 42, kX1_init_36), (45, 51, kX1_init_45), (53, 58, kX1_init_53), (58, 72, kX1_init_58), (75, 76, kX1_init_75), (80, 86, kX1_init_80), (86, 88, kX1_init_86), (91, 92, kX1_init_91)]
theorem lb_X1_init_0 : xm_lk kb_X1_init 0 = some (1, kX1_init_0) := rfl
theorem lb_X1_init_4 : xm_lk kb_X1_init 4 = some (6, kX1_init_4) := rfl
theorem lb_X1_init_8 : xm_lk kb_X1_init 8 = some (13, kX1_init_8) := rfl
theorem lb_X1_init_15 : xm_lk kb_X1_init 15 = some (20, kX1_init_15) := rfl
theorem lb_X1_init_22 : xm_lk kb_X1_init 22 = some (27, kX1_init_22) := rfl
theorem lb_X1_init_29 : xm_lk kb_X1_init 29 = some (34, kX1_init_29) := rfl
theorem lb_X1_init_36 : xm_lk kb_X1_init 36 = some (42, kX1_init_36) := rfl
theorem lb_X1_init_45 : xm_lk kb_X1_init 45 = some (51, kX1_init_45) := rfl
theorem lb_X1_init_53 : xm_lk kb_X1_init 53 = some (58, kX1_init_53) := rfl
theorem lb_X1_init_58 : xm_lk kb_X1_init 58 = some (72, kX1_init_58) := rfl
theorem lb_X1_init_75 : xm_lk kb_X1_init 75 = some (76, kX1_init_75) := rfl
theorem lb_X1_init_80 : xm_lk kb_X1_init 80 = some (86, kX1_init_80) := rfl
theorem lb_X1_init_86 : xm_lk kb_X1_init 86 = some (88, kX1_init_86) := rfl
theorem lb_X1_init_91 : xm_lk kb_X1_init 91 = some (92, kX1_init_91) := rfl
theorem lb_X1_init_1 : xm_lk kb_X1_init 1 = none := rfl
theorem lb_X1_init_6 : xm_lk kb_X1_init 6 = none := rfl
theorem lb_X1_init_13 : xm_lk kb_X1_init 13 = none := rfl
theorem lb_X1_init_20 : xm_lk kb_X1_init 20 = none := rfl
theorem lb_X1_init_27 : xm_lk kb_X1_init 27 = none := rfl
theorem lb_X1_init_34 : xm_lk kb_X1_init 34 = none := rfl
theorem lb_X1_init_42 : xm_lk kb_X1_init 42 = none := rfl
theorem lb_X1_init_51 : xm_lk kb_X1_init 51 = none := rfl
theorem lb_X1_init_72 : xm_lk kb_X1_init 72 = none := rfl
theorem lb_X1_init_76 : xm_lk kb_X1_init 76 = none := rfl
theorem lb_X1_init_88 : xm_lk kb_X1_init 88 = none := rfl
theorem lb_X1_init_92 : xm_lk kb_X1_init 92 = none := rfl
theorem kc_X1_init : xm_oks cX1_init 1 3 3 true kb_X1_init := (List.forall_mem_cons.mpr ⟨bk_X1_init_0, (List.forall_mem_cons.mpr ⟨bk_X1_init_4, (List.forall_mem_cons.mpr ⟨bk_X1_init_8, (List.forall_mem_cons.mpr ⟨bk_X1_init_15, (List.forall_mem_cons.mpr ⟨bk_X1_init_22, (List.forall_mem_cons.mpr ⟨bk_X1_init_29, (List.forall_mem_cons.mpr ⟨bk_X1_init_36, (List.forall_mem_cons.mpr ⟨bk_X1_init_45, (List.forall_mem_cons.mpr ⟨bk_X1_init_53, (List.forall_mem_cons.mpr ⟨bk_X1_init_58, (List.forall_mem_cons.mpr ⟨bk_X1_init_75, (List.forall_mem_cons.mpr ⟨bk_X1_init_80, (List.forall_mem_cons.mpr ⟨bk_X1_init_86, (List.forall_mem_cons.mpr ⟨bk_X1_init_91, (fun _ h => absurd h List.not_mem_nil)⟩)⟩)⟩)⟩)⟩)⟩)⟩)⟩)⟩)⟩)⟩)⟩)⟩)⟩)
def kb_X1_begin : List (Nat × Nat × List xm_I) := [(0, 12, kX1_begin_0), (48, 60, kX1_begin_48), (94, 106, kX1_begin_94), (12, 28, kX1_begin_12), (60, 72, kX1_begin_60), (106, 110, kX1_begin_106), (28, 42, kX1_begin_28), (72, 82, kX1_begin_72), (42, 48, kX1_begin_42), (82, 94, kX1_begin_82)]
theorem lb_X1_begin_0 : xm_lk kb_X1_begin 0 = some (12, kX1_begin_0) := rfl
theorem lb_X1_begin_48 : xm_lk kb_X1_begin 48 = some (60, kX1_begin_48) := rfl
theorem lb_X1_begin_94 : xm_lk kb_X1_begin 94 = some (106, kX1_begin_94) := rfl
theorem lb_X1_begin_12 : xm_lk kb_X1_begin 12 = some (28, kX1_begin_12) := rfl
theorem lb_X1_begin_60 : xm_lk kb_X1_begin 60 = some (72, kX1_begin_60) := rfl
theorem lb_X1_begin_106 : xm_lk kb_X1_begin 106 = some (110, kX1_begin_106) := rfl
theorem lb_X1_begin_28 : xm_lk kb_X1_begin 28 = some (42, kX1_begin_28) := rfl
theorem lb_X1_begin_72 : xm_lk kb_X1_begin 72 = some (82, kX1_begin_72) := rfl
theorem lb_X1_begin_42 : xm_lk kb_X1_begin 42 = some (48, kX1_begin_42) := rfl
theorem lb_X1_begin_82 : xm_lk kb_X1_begin 82 = some (94, kX1_begin_82) := rfl
theorem lb_X1_begin_110 : xm_lk kb_X1_begin 110 = none := rfl
theorem kc_X1_begin : xm_oks cX1_begin 1 3 3 false kb_X1_begin := (List.forall_mem_cons.mpr ⟨bk_X1_begin_0, (List.forall_mem_cons.mpr ⟨bk_X1_begin_48, (List.forall_mem_cons.mpr ⟨bk_X1_begin_94, (List.forall_mem_cons.mpr ⟨bk_X1_begin_12, (List.forall_mem_cons.mpr ⟨bk_X1_begin_60, (List.forall_mem_cons.mpr ⟨bk_X1_begin_106, (List.forall_mem_cons.mpr ⟨bk_X1_begin_28, (List.forall_mem_cons.mpr ⟨bk_X1_begin_72, (List.forall_mem_cons.mpr ⟨bk_X1_begin_42, (List.forall_mem_cons.mpr ⟨bk_X1_begin_82, (fun _ h => absurd h List.not_mem_nil)⟩)⟩)⟩)⟩)⟩)⟩)⟩)⟩)⟩)⟩)
def kb_X1_copyFrom : List (Nat × Nat × List xm_I) := [(0, 5, kX1_copyFrom_0), (8, 24, kX1_copyFrom_8), (87, 89, kX1_copyFrom_87), (89, 103, kX1_copyFrom_89), (112, 114, kX1_copyFrom_112), (114, 128, kX1_copyFrom_114), (137, 143, kX1_copyFrom_137), (143, 144, kX1_copyFrom_143), (24, 40, kX1_copyFrom_24), (103, 112, kX1_copyFrom_103), (128, 134, kX1_copyFrom_128), (40, 56, kX1_copyFrom_40), (56, 72, kX1_copyFrom_56), (72, 84, kX1_copyFrom_72)]
theorem lb_X1_copyFrom_0 : xm_lk kb_X1_copyFrom 0 = some (5, kX1_copyFrom_0) := rfl
theorem lb_X1_copyFrom_8 : xm_lk kb_X1_copyFrom 8 = some (24, kX1_copyFrom_8) := rfl
theorem lb_X1_copyFrom_87 : xm_lk kb_X1_copyFrom 87 = some (89, kX1_copyFrom_87) := rfl
theorem lb_X1_copyFrom_89 : xm_lk kb_X1_copyFrom 89 = some (103, kX1_copyFrom_89) := rfl
theorem lb_X1_copyFrom_112 : xm_lk kb_X1_copyFrom 112 = some (114, kX1_copyFrom_112) := rfl
theorem lb_X1_copyFrom_114 : xm_lk kb_X1_copyFrom 114 = some (128, kX1_copyFrom_114) := rfl
theorem lb_X1_copyFrom_137 : xm_lk kb_X1_copyFrom 137 = some (143, kX1_copyFrom_137) := rfl
theorem lb_X1_copyFrom_143 : xm_lk kb_X1_copyFrom 143 = some (144, kX1_copyFrom_143) := rfl
theorem lb_X1_copyFrom_24 : xm_lk kb_X1_copyFrom 24 = some (40, kX1_copyFrom_24) := rfl
theorem lb_X1_copyFrom_103 : xm_lk kb_X1_copyFrom 103 = some (112, kX1_copyFrom_103) := rfl
theorem lb_X1_copyFrom_128 : xm_lk kb_X1_copyFrom 128 = some (134, kX1_copyFrom_128) := rfl
theorem lb_X1_copyFrom_40 : xm_lk kb_X1_copyFrom 40 = some (56, kX1_copyFrom_40) := rfl
theorem lb_X1_copyFrom_56 : xm_lk kb_X1_copyFrom 56 = some (72, kX1_copyFrom_56) := rfl
theorem lb_X1_copyFrom_72 : xm_lk kb_X1_copyFrom 72 = some (84, kX1_copyFrom_72) := rfl
theorem lb_X1_copyFrom_5 : xm_lk kb_X1_copyFrom 5 = none := rfl
theorem lb_X1_copyFrom_84 : xm_lk kb_X1_copyFrom 84 = none := rfl
theorem lb_X1_copyFrom_134 : xm_lk kb_X1_copyFrom 134 = none := rfl
theorem lb_X1_copyFrom_144 : xm_lk kb_X1_copyFrom 144 = none := rfl
theorem kc_X1_copyFrom : xm_oks cX1_copyFrom 1 3 3 false kb_X1_copyFrom := (List.forall_mem_cons.mpr ⟨bk_X1_copyFrom_0, (List.forall_mem_cons.mpr ⟨bk_X1_copyFrom_8, (List.forall_mem_cons.mpr ⟨bk_X1_copyFrom_87, (List.forall_mem_cons.mpr ⟨bk_X1_copyFrom_89, (List.forall_mem_cons.mpr ⟨bk_X1_copyFrom_112, (List.forall_mem_cons.mpr ⟨bk_X1_copyFrom_114, (List.forall_mem_cons.mpr ⟨bk_X1_copyFrom_137, (List.forall_mem_cons.mpr ⟨bk_X1_copyFrom_143, (List.forall_mem_cons.mpr ⟨bk_X1_copyFrom_24, (List.forall_mem_cons.mpr ⟨bk_X1_copyFrom_103, (List.forall_mem_cons.mpr ⟨bk_X1_copyFrom_128, (List.forall_mem_cons.mpr ⟨bk_X1_copyFrom_40, (List.forall_mem_cons.mpr ⟨bk_X1_copyFrom_56, (List.forall_mem_cons.mpr ⟨bk_X1_copyFrom_72, (fun _ h => absurd h List.not_mem_nil)⟩)⟩)⟩)⟩)⟩)⟩)⟩)⟩)⟩)⟩)⟩)⟩)⟩)⟩)
def kb_X1_find : List (Nat × Nat × List xm_I) := [(0, 16, kX1_find_0), (21, 22, kX1_find_21), (22, 23, kX1_find_22), (16, 21, kX1_find_16)]
theorem lb_X1_find_0 : xm_lk kb_X1_find 0 = some (16, kX1_find_0) := rfl
theorem lb_X1_find_21 : xm_lk kb_X1_find 21 = some (22, kX1_find_21) := rfl
theorem lb_X1_find_22 : xm_lk kb_X1_find 22 = some (23, kX1_find_22) := rfl
theorem lb_X1_find_16 : xm_lk kb_X1_find 16 = some (21, kX1_find_16) := rfl
theorem lb_X1_find_23 : xm_lk kb_X1_find 23 = none := rfl
theorem kc_X1_find : xm_oks cX1_find 1 2 2 false kb_X1_find := (List.forall_mem_cons.mpr ⟨bk_X1_find_0, (List.forall_mem_cons.mpr ⟨bk_X1_find_21, (List.forall_mem_cons.mpr ⟨bk_X1_find_22, (List.forall_mem_cons.mpr ⟨bk_X1_find_16, (fun _ h => absurd h List.not_mem_nil)⟩)⟩)⟩)⟩)
def kb_X1_hasRoom : List (Nat × Nat × List xm_I) := [(0, 11, kX1_hasRoom_0), (11, 18, kX1_hasRoom_11), (21, 27, kX1_hasRoom_21), (30, 44, kX1_hasRoom_30), (44, 48, kX1_hasRoom_44), (48, 49, kX1_hasRoom_48), (49, 50, kX1_hasRoom_49)]
theorem lb_X1_hasRoom_0 : xm_lk kb_X1_hasRoom 0 = some (11, kX1_hasRoom_0) := rfl
theorem lb_X1_hasRoom_11 : xm_lk kb_X1_hasRoom 11 = some (18, kX1_hasRoom_11) := rfl
theorem lb_X1_hasRoom_21 : xm_lk kb_X1_hasRoom 21 = some (27, kX1_hasRoom_21) := rfl
theorem lb_X1_hasRoom_30 : xm_lk kb_X1_hasRoom 30 = some (44, kX1_hasRoom_30) := rfl
theorem lb_X1_hasRoom_44 : xm_lk kb_X1_hasRoom 44 = some (48, kX1_hasRoom_44) := rfl
theorem lb_X1_hasRoom_48 : xm_lk kb_X1_hasRoom 48 = some (49, kX1_hasRoom_48) := rfl
theorem lb_X1_hasRoom_49 : xm_lk kb_X1_hasRoom 49 = some (50, kX1_hasRoom_49) := rfl
theorem lb_X1_hasRoom_18 : xm_lk kb_X1_hasRoom 18 = none := rfl
theorem lb_X1_hasRoom_27 : xm_lk kb_X1_hasRoom 27 = none := rfl
theorem lb_X1_hasRoom_50 : xm_lk kb_X1_hasRoom 50 = none := rfl
theorem kc_X1_hasRoom : xm_oks cX1_hasRoom 1 2 1 false kb_X1_hasRoom := (List.forall_mem_cons.mpr ⟨bk_X1_hasRoom_0, (List.forall_mem_cons.mpr ⟨bk_X1_hasRoom_11, (List.forall_mem_cons.mpr ⟨bk_X1_hasRoom_21, (List.forall_mem_cons.mpr ⟨bk_X1_hasRoom_30, (List.forall_mem_cons.mpr ⟨bk_X1_hasRoom_44, (List.forall_mem_cons.mpr ⟨bk_X1_hasRoom_48, (List.forall_mem_cons.mpr ⟨bk_X1_hasRoom_49, (fun _ h => absurd h List.not_mem_nil)⟩)⟩)⟩)⟩)⟩)⟩)⟩)
def kb_X1_add : List (Nat × Nat × List xm_I) := [(0, 11, kX1_add_0), (11, 22, kX1_add_11), (25, 39, kX1_add_25), (39, 42, kX1_add_39)]
theorem lb_X1_add_0 : xm_lk kb_X1_add 0 = some (11, kX1_add_0) := rfl
theorem lb_X1_add_11 : xm_lk kb_X1_add 11 = some (22, kX1_add_11) := rfl
theorem lb_X1_add_25 : xm_lk kb_X1_add 25 = some (39, kX1_add_25) := rfl
theorem lb_X1_add_39 : xm_lk kb_X1_add 39 = some (42, kX1_add_39) := rfl
theorem lb_X1_add_22 : xm_lk kb_X1_add 22 = none := rfl
theorem lb_X1_add_42 : xm_lk kb_X1_add 42 = none := rfl
theorem kc_X1_add : xm_oks cX1_add 1 3 0 false kb_X1_add := (List.forall_mem_cons.mpr ⟨bk_X1_add_0, (List.forall_mem_cons.mpr ⟨bk_X1_add_11, (List.forall_mem_cons.mpr ⟨bk_X1_add_25, (List.forall_mem_cons.mpr ⟨bk_X1_add_39, (fun _ h => absurd h List.not_mem_nil)⟩)⟩)⟩)⟩)
def kb_X1_tick : List (Nat × Nat × List xm_I) := [(0, 11, kX1_tick_0), (14, 15, kX1_tick_14), (18, 19, kX1_tick_18), (22, 23, kX1_tick_22), (26, 27, kX1_tick_26), (30, 31, kX1_tick_30), (34, 35, kX1_tick_34), (38, 39, kX1_tick_38), (42, 43, kX1_tick_42)]
theorem lb_X1_tick_0 : xm_lk kb_X1_tick 0 = some (11, kX1_tick_0) := rfl
theorem lb_X1_tick_14 : xm_lk kb_X1_tick 14 = some (15, kX1_tick_14) := rfl
theorem lb_X1_tick_18 : xm_lk kb_X1_tick 18 = some (19, kX1_tick_18) := rfl
theorem lb_X1_tick_22 : xm_lk kb_X1_tick 22 = some (23, kX1_tick_22) := rfl
theorem lb_X1_tick_26 : xm_lk kb_X1_tick 26 = some (27, kX1_tick_26) := rfl
theorem lb_X1_tick_30 : xm_lk kb_X1_tick 30 = some (31, kX1_tick_30) := rfl
theorem lb_X1_tick_34 : xm_lk kb_X1_tick 34 = some (35, kX1_tick_34) := rfl
theorem lb_X1_tick_38 : xm_lk kb_X1_tick 38 = some (39, kX1_tick_38) := rfl
theorem lb_X1_tick_42 : xm_lk kb_X1_tick 42 = some (43, kX1_tick_42) := rfl
theorem lb_X1_tick_11 : xm_lk kb_X1_tick 11 = none := rfl
theorem lb_X1_tick_15 : xm_lk kb_X1_tick 15 = none := rfl
theorem lb_X1_tick_19 : xm_lk kb_X1_tick 19 = none := rfl
theorem lb_X1_tick_23 : xm_lk kb_X1_tick 23 = none := rfl
theorem lb_X1_tick_27 : xm_lk kb_X1_tick 27 = none := rfl
theorem lb_X1_tick_31 : xm_lk kb_X1_tick 31 = none := rfl
theorem lb_X1_tick_35 : xm_lk kb_X1_tick 35 = none := rfl
theorem lb_X1_tick_39 : xm_lk kb_X1_tick 39 = none := rfl
theorem lb_X1_tick_43 : xm_lk kb_X1_tick 43 = none := rfl
theorem kc_X1_tick : xm_oks cX1_tick 1 1 3 false kb_X1_tick := (List.forall_mem_cons.mpr ⟨bk_X1_tick_0, (List.forall_mem_cons.mpr ⟨bk_X1_tick_14, (List.forall_mem_cons.mpr ⟨bk_X1_tick_18, (List.forall_mem_cons.mpr ⟨bk_X1_tick_22, (List.forall_mem_cons.mpr ⟨bk_X1_tick_26, (List.forall_mem_cons.mpr ⟨bk_X1_tick_30, (List.forall_mem_cons.mpr ⟨bk_X1_tick_34, (List.forall_mem_cons.mpr ⟨bk_X1_tick_38, (List.forall_mem_cons.mpr ⟨bk_X1_tick_42, (fun _ h => absurd h List.not_mem_nil)⟩)⟩)⟩)⟩)⟩)⟩)⟩)⟩)⟩)
def kb_X1_moveItems : List (Nat × Nat × List xm_I) := [(0, 5, kX1_moveItems_0), (5, 19, kX1_moveItems_5), (22, 36, kX1_moveItems_22), (46, 52, kX1_moveItems_46), (52, 53, kX1_moveItems_52), (36, 46, kX1_moveItems_36)]
theorem lb_X1_moveItems_0 : xm_lk kb_X1_moveItems 0 = some (5, kX1_moveItems_0) := rfl
theorem lb_X1_moveItems_5 : xm_lk kb_X1_moveItems 5 = some (19, kX1_moveItems_5) := rfl
theorem lb_X1_moveItems_22 : xm_lk kb_X1_moveItems 22 = some (36, kX1_moveItems_22) := rfl
theorem lb_X1_moveItems_46 : xm_lk kb_X1_moveItems 46 = some (52, kX1_moveItems_46) := rfl
theorem lb_X1_moveItems_52 : xm_lk kb_X1_moveItems 52 = some (53, kX1_moveItems_52) := rfl
theorem lb_X1_moveItems_36 : xm_lk kb_X1_moveItems 36 = some (46, kX1_moveItems_36) := rfl
theorem lb_X1_moveItems_19 : xm_lk kb_X1_moveItems 19 = none := rfl
theorem lb_X1_moveItems_53 : xm_lk kb_X1_moveItems 53 = none := rfl
theorem kc_X1_moveItems : xm_oks cX1_moveItems 1 2 3 false kb_X1_moveItems := (List.forall_mem_cons.mpr ⟨bk_X1_moveItems_0, (List.forall_mem_cons.mpr ⟨bk_X1_moveItems_5, (List.forall_mem_cons.mpr ⟨bk_X1_moveItems_22, (List.forall_mem_cons.mpr ⟨bk_X1_moveItems_46, (List.forall_mem_cons.mpr ⟨bk_X1_moveItems_52, (List.forall_mem_cons.mpr ⟨bk_X1_moveItems_36, (fun _ h => absurd h List.not_mem_nil)⟩)⟩)⟩)⟩)⟩)⟩)
def kb_X1_readCell : List (Nat × Nat × List xm_I) := [(0, 8, kX1_readCell_0), (11, 22, kX1_readCell_11), (22, 36, kX1_readCell_22), (41, 56, kX1_readCell_41), (59, 73, kX1_readCell_59), (92, 97, kX1_readCell_92), (100, 102, kX1_readCell_100), (102, 108, kX1_readCell_102), (108, 121, kX1_readCell_108), (36, 38, kX1_readCell_36), (73, 89, kX1_readCell_73), (121, 122, kX1_readCell_121)]
theorem lb_X1_readCell_0 : xm_lk kb_X1_readCell 0 = some (8, kX1_readCell_0) := rfl
theorem lb_X1_readCell_11 : xm_lk kb_X1_readCell 11 = some (22, kX1_readCell_11) := rfl
theorem lb_X1_readCell_22 : xm_lk kb_X1_readCell 22 = some (36, kX1_readCell_22) := rfl
theorem lb_X1_readCell_41 : xm_lk kb_X1_readCell 41 = some (56, kX1_readCell_41) := rfl
theorem lb_X1_readCell_59 : xm_lk kb_X1_readCell 59 = some (73, kX1_readCell_59) := rfl
theorem lb_X1_readCell_92 : xm_lk kb_X1_readCell 92 = some (97, kX1_readCell_92) := rfl
theorem lb_X1_readCell_100 : xm_lk kb_X1_readCell 100 = some (102, kX1_readCell_100) := rfl
theorem lb_X1_readCell_102 : xm_lk kb_X1_readCell 102 = some (108, kX1_readCell_102) := rfl
theorem lb_X1_readCell_108 : xm_lk kb_X1_readCell 108 = some (121, kX1_readCell_108) := rfl
theorem lb_X1_readCell_36 : xm_lk kb_X1_readCell 36 = some (38, kX1_readCell_36) := rfl
theorem lb_X1_readCell_73 : xm_lk kb_X1_readCell 73 = some (89, kX1_readCell_73) := rfl
theorem lb_X1_readCell_121 : xm_lk kb_X1_readCell 121 = some (122, kX1_readCell_121) := rfl
theorem lb_X1_readCell_8 : xm_lk kb_X1_readCell 8 = none := rfl
theorem lb_X1_readCell_38 : xm_lk kb_X1_readCell 38 = none := rfl
theorem lb_X1_readCell_56 : xm_lk kb_X1_readCell 56 = none := rfl
theorem lb_X1_readCell_89 : xm_lk kb_X1_readCell 89 = none := rfl
theorem lb_X1_readCell_97 : xm_lk kb_X1_readCell 97 = none := rfl
theorem lb_X1_readCell_122 : xm_lk kb_X1_readCell 122 = none := rfl
theorem kc_X1_readCell : xm_oks cX1_readCell 1 4 3 false kb_X1_readCell := (List.forall_mem_cons.mpr ⟨bk_X1_readCell_0, (List.forall_mem_cons.mpr ⟨bk_X1_readCell_11, (List.forall_mem_cons.mpr ⟨bk_X1_readCell_22, (List.forall_mem_cons.mpr ⟨bk_X1_readCell_41, (List.forall_mem_cons.mpr ⟨bk_X1_readCell_59, (List.forall_mem_cons.mpr ⟨bk_X1_readCell_92, (List.forall_mem_cons.mpr ⟨bk_X1_readCell_100, (List.forall_mem_cons.mpr ⟨bk_X1_readCell_102, (List.forall_mem_cons.mpr ⟨bk_X1_readCell_108, (List.forall_mem_cons.mpr ⟨bk_X1_readCell_36, (List.forall_mem_cons.mpr ⟨bk_X1_readCell_73, (List.forall_mem_cons.mpr ⟨bk_X1_readCell_121, (fun _ h => absurd h List.not_mem_nil)⟩)⟩)⟩)⟩)⟩)⟩)⟩)⟩)⟩)⟩)⟩)⟩)
def kb_X1_collectSamples : List (Nat × Nat × List xm_I) := [(0, 5, kX1_collectSamples_0), (5, 19, kX1_collectSamples_5), (24, 39, kX1_collectSamples_24), (42, 56, kX1_collectSamples_42), (62, 65, kX1_collectSamples_62), (65, 70, kX1_collectSamples_65), (70, 76, kX1_collectSamples_70), (76, 77, kX1_collectSamples_76), (19, 21, kX1_collectSamples_19)]
theorem lb_X1_collectSamples_0 : xm_lk kb_X1_collectSamples 0 = some (5, kX1_collectSamples_0) := rfl
theorem lb_X1_collectSamples_5 : xm_lk kb_X1_collectSamples 5 = some (19, kX1_collectSamples_5) := rfl
theorem lb_X1_collectSamples_24 : xm_lk kb_X1_collectSamples 24 = some (39, kX1_collectSamples_24) := rfl
theorem lb_X1_collectSamples_42 : xm_lk kb_X1_collectSamples 42 = some (56, kX1_collectSamples_42) := rfl
theorem lb_X1_collectSamples_62 : xm_lk kb_X1_collectSamples 62 = some (65, kX1_collectSamples_62) := rfl
theorem lb_X1_collectSamples_65 : xm_lk kb_X1_collectSamples 65 = some (70, kX1_collectSamples_65) := rfl
theorem lb_X1_collectSamples_70 : xm_lk kb_X1_collectSamples 70 = some (76, kX1_collectSamples_70) := rfl
theorem lb_X1_collectSamples_76 : xm_lk kb_X1_collectSamples 76 = some (77, kX1_collectSamples_76) := rfl
theorem lb_X1_collectSamples_19 : xm_lk kb_X1_collectSamples 19 = some (21, kX1_collectSamples_19) := rfl
theorem lb_X1_collectSamples_21 : xm_lk kb_X1_collectSamples 21 = none := rfl
theorem lb_X1_collectSamples_39 : xm_lk kb_X1_collectSamples 39 = none := rfl
theorem lb_X1_collectSamples_56 : xm_lk kb_X1_collectSamples 56 = none := rfl
theorem lb_X1_collectSamples_77 : xm_lk kb_X1_collectSamples 77 = none := rfl
theorem kc_X1_collectSamples : xm_oks cX1_collectSamples 1 3 3 false kb_X1_collectSamples := (List.forall_mem_cons.mpr ⟨bk_X1_collectSamples_0, (List.forall_mem_cons.mpr ⟨bk_X1_collectSamples_5, (List.forall_mem_cons.mpr ⟨bk_X1_collectSamples_24, (List.forall_mem_cons.mpr ⟨bk_X1_collectSamples_42, (List.forall_mem_cons.mpr ⟨bk_X1_collectSamples_62, (List.forall_mem_cons.mpr ⟨bk_X1_collectSamples_65, (List.forall_mem_cons.mpr ⟨bk_X1_collectSamples_70, (List.forall_mem_cons.mpr ⟨bk_X1_collectSamples_76, (List.forall_mem_cons.mpr ⟨bk_X1_collectSamples_19, (fun _ h => absurd h List.not_mem_nil)⟩)⟩)⟩)⟩)⟩)⟩)⟩)⟩)⟩)
def kb_X1_decideItems : List (Nat × Nat × List xm_I) := [(0, 5, kX1_decideItems_0), (5, 19, kX1_decideItems_5), (54, 60, kX1_decideItems_54), (60, 61, kX1_decideItems_60), (19, 35, kX1_decideItems_19), (35, 51, kX1_decideItems_35)]
theorem lb_X1_decideItems_0 : xm_lk kb_X1_decideItems 0 = some (5, kX1_decideItems_0) := rfl
theorem lb_X1_decideItems_5 : xm_lk kb_X1_decideItems 5 = some (19, kX1_decideItems_5) := rfl
theorem lb_X1_decideItems_54 : xm_lk kb_X1_decideItems 54 = some (60, kX1_decideItems_54) := rfl
theorem lb_X1_decideItems_60 : xm_lk kb_X1_decideItems 60 = some (61, kX1_decideItems_60) := rfl
theorem lb_X1_decideItems_19 : xm_lk kb_X1_decideItems 19 = some (35, kX1_decideItems_19) := rfl
theorem lb_X1_decideItems_35 : xm_lk kb_X1_decideItems 35 = some (51, kX1_decideItems_35) := rfl
theorem lb_X1_decideItems_51 : xm_lk kb_X1_decideItems 51 = none := rfl
theorem lb_X1_decideItems_61 : xm_lk kb_X1_decideItems 61 = none := rfl
theorem kc_X1_decideItems : xm_oks cX1_decideItems 1 2 3 false kb_X1_decideItems := (List.forall_mem_cons.mpr ⟨bk_X1_decideItems_0, (List.forall_mem_cons.mpr ⟨bk_X1_decideItems_5, (List.forall_mem_cons.mpr ⟨bk_X1_decideItems_54, (List.forall_mem_cons.mpr ⟨bk_X1_decideItems_60, (List.forall_mem_cons.mpr ⟨bk_X1_decideItems_19, (List.forall_mem_cons.mpr ⟨bk_X1_decideItems_35, (fun _ h => absurd h List.not_mem_nil)⟩)⟩)⟩)⟩)⟩)⟩)
def kb_X1_decide : List (Nat × Nat × List xm_I) := [(0, 4, kX1_decide_0), (7, 21, kX1_decide_7), (26, 34, kX1_decide_26), (34, 38, kX1_decide_34), (41, 57, kX1_decide_41), (69, 83, kX1_decide_69), (93, 102, kX1_decide_93), (105, 106, kX1_decide_105), (21, 23, kX1_decide_21), (57, 66, kX1_decide_57), (83, 90, kX1_decide_83)]
theorem lb_X1_decide_0 : xm_lk kb_X1_decide 0 = some (4, kX1_decide_0) := rfl
theorem lb_X1_decide_7 : xm_lk kb_X1_decide 7 = some (21, kX1_decide_7) := rfl
theorem lb_X1_decide_26 : xm_lk kb_X1_decide 26 = some (34, kX1_decide_26) := rfl
theorem lb_X1_decide_34 : xm_lk kb_X1_decide 34 = some (38, kX1_decide_34) := rfl
theorem lb_X1_decide_41 : xm_lk kb_X1_decide 41 = some (57, kX1_decide_41) := rfl
theorem lb_X1_decide_69 : xm_lk kb_X1_decide 69 = some (83, kX1_decide_69) := rfl
theorem lb_X1_decide_93 : xm_lk kb_X1_decide 93 = some (102, kX1_decide_93) := rfl
theorem lb_X1_decide_105 : xm_lk kb_X1_decide 105 = some (106, kX1_decide_105) := rfl
theorem lb_X1_decide_21 : xm_lk kb_X1_decide 21 = some (23, kX1_decide_21) := rfl
theorem lb_X1_decide_57 : xm_lk kb_X1_decide 57 = some (66, kX1_decide_57) := rfl
theorem lb_X1_decide_83 : xm_lk kb_X1_decide 83 = some (90, kX1_decide_83) := rfl
theorem lb_X1_decide_4 : xm_lk kb_X1_decide 4 = none := rfl
theorem lb_X1_decide_23 : xm_lk kb_X1_decide 23 = none := rfl
theorem lb_X1_decide_38 : xm_lk kb_X1_decide 38 = none := rfl
theorem lb_X1_decide_66 : xm_lk kb_X1_decide 66 = none := rfl
theorem lb_X1_decide_90 : xm_lk kb_X1_decide 90 = none := rfl
theorem lb_X1_decide_102 : xm_lk kb_X1_decide 102 = none := rfl
theorem lb_X1_decide_106 : xm_lk kb_X1_decide 106 = none := rfl
theorem kc_X1_decide : xm_oks cX1_decide 1 3 3 false kb_X1_decide := (List.forall_mem_cons.mpr ⟨bk_X1_decide_0, (List.forall_mem_cons.mpr ⟨bk_X1_decide_7, (List.forall_mem_cons.mpr ⟨bk_X1_decide_26, (List.forall_mem_cons.mpr ⟨bk_X1_decide_34, (List.forall_mem_cons.mpr ⟨bk_X1_decide_41, (List.forall_mem_cons.mpr ⟨bk_X1_decide_69, (List.forall_mem_cons.mpr ⟨bk_X1_decide_93, (List.forall_mem_cons.mpr ⟨bk_X1_decide_105, (List.forall_mem_cons.mpr ⟨bk_X1_decide_21, (List.forall_mem_cons.mpr ⟨bk_X1_decide_57, (List.forall_mem_cons.mpr ⟨bk_X1_decide_83, (fun _ h => absurd h List.not_mem_nil)⟩)⟩)⟩)⟩)⟩)⟩)⟩)⟩)⟩)⟩)⟩)
def kb_X1_kindOf : List (Nat × Nat × List xm_I) := [(0, 18, kX1_kindOf_0), (26, 36, kX1_kindOf_26), (36, 38, kX1_kindOf_36), (38, 51, kX1_kindOf_38), (51, 66, kX1_kindOf_51), (66, 67, kX1_kindOf_66), (67, 68, kX1_kindOf_67), (18, 23, kX1_kindOf_18)]
theorem lb_X1_kindOf_0 : xm_lk kb_X1_kindOf 0 = some (18, kX1_kindOf_0) := rfl
theorem lb_X1_kindOf_26 : xm_lk kb_X1_kindOf 26 = some (36, kX1_kindOf_26) := rfl
theorem lb_X1_kindOf_36 : xm_lk kb_X1_kindOf 36 = some (38, kX1_kindOf_36) := rfl
theorem lb_X1_kindOf_38 : xm_lk kb_X1_kindOf 38 = some (51, kX1_kindOf_38) := rfl
theorem lb_X1_kindOf_51 : xm_lk kb_X1_kindOf 51 = some (66, kX1_kindOf_51) := rfl
theorem lb_X1_kindOf_66 : xm_lk kb_X1_kindOf 66 = some (67, kX1_kindOf_66) := rfl
theorem lb_X1_kindOf_67 : xm_lk kb_X1_kindOf 67 = some (68, kX1_kindOf_67) := rfl
theorem lb_X1_kindOf_18 : xm_lk kb_X1_kindOf 18 = some (23, kX1_kindOf_18) := rfl
theorem lb_X1_kindOf_23 : xm_lk kb_X1_kindOf 23 = none := rfl
theorem lb_X1_kindOf_68 : xm_lk kb_X1_kindOf 68 = none := rfl
theorem kc_X1_kindOf : xm_oks cX1_kindOf 1 3 0 false kb_X1_kindOf := (List.forall_mem_cons.mpr ⟨bk_X1_kindOf_0, (List.forall_mem_cons.mpr ⟨bk_X1_kindOf_26, (List.forall_mem_cons.mpr ⟨bk_X1_kindOf_36, (List.forall_mem_cons.mpr ⟨bk_X1_kindOf_38, (List.forall_mem_cons.mpr ⟨bk_X1_kindOf_51, (List.forall_mem_cons.mpr ⟨bk_X1_kindOf_66, (List.forall_mem_cons.mpr ⟨bk_X1_kindOf_67, (List.forall_mem_cons.mpr ⟨bk_X1_kindOf_18, (fun _ h => absurd h List.not_mem_nil)⟩)⟩)⟩)⟩)⟩)⟩)⟩)⟩)
def kb_X1_command : List (Nat × Nat × List xm_I) := [(0, 16, kX1_command_0), (25, 39, kX1_command_25), (45, 56, kX1_command_45), (59, 75, kX1_command_59), (81, 82, kX1_command_81), (16, 22, kX1_command_16), (39, 42, kX1_command_39), (75, 81, kX1_command_75)]
theorem lb_X1_command_0 : xm_lk kb_X1_command 0 = some (16, kX1_command_0) := rfl
theorem lb_X1_command_25 : xm_lk kb_X1_command 25 = some (39, kX1_command_25) := rfl
theorem lb_X1_command_45 : xm_lk kb_X1_command 45 = some (56, kX1_command_45) := rfl
theorem lb_X1_command_59 : xm_lk kb_X1_command 59 = some (75, kX1_command_59) := rfl
theorem lb_X1_command_81 : xm_lk kb_X1_command 81 = some (82, kX1_command_81) := rfl
theorem lb_X1_command_16 : xm_lk kb_X1_command 16 = some (22, kX1_command_16) := rfl
theorem lb_X1_command_39 : xm_lk kb_X1_command 39 = some (42, kX1_command_39) := rfl
theorem lb_X1_command_75 : xm_lk kb_X1_command 75 = some (81, kX1_command_75) := rfl
theorem lb_X1_command_22 : xm_lk kb_X1_command 22 = none := rfl
theorem lb_X1_command_42 : xm_lk kb_X1_command 42 = none := rfl
theorem lb_X1_command_56 : xm_lk kb_X1_command 56 = none := rfl
theorem lb_X1_command_82 : xm_lk kb_X1_command 82 = none := rfl
theorem kc_X1_command : xm_oks cX1_command 1 6 3 false kb_X1_command := (List.forall_mem_cons.mpr ⟨bk_X1_command_0, (List.forall_mem_cons.mpr ⟨bk_X1_command_25, (List.forall_mem_cons.mpr ⟨bk_X1_command_45, (List.forall_mem_cons.mpr ⟨bk_X1_command_59, (List.forall_mem_cons.mpr ⟨bk_X1_command_81, (List.forall_mem_cons.mpr ⟨bk_X1_command_16, (List.forall_mem_cons.mpr ⟨bk_X1_command_39, (List.forall_mem_cons.mpr ⟨bk_X1_command_75, (fun _ h => absurd h List.not_mem_nil)⟩)⟩)⟩)⟩)⟩)⟩)⟩)⟩)
def kb_X1_meetGates : List (Nat × Nat × List xm_I) := [(0, 5, kX1_meetGates_0), (5, 15, kX1_meetGates_5), (15, 31, kX1_meetGates_15), (35, 49, kX1_meetGates_35), (57, 62, kX1_meetGates_57), (65, 76, kX1_meetGates_65), (79, 85, kX1_meetGates_79), (85, 91, kX1_meetGates_85), (91, 92, kX1_meetGates_91), (31, 32, kX1_meetGates_31), (49, 54, kX1_meetGates_49)]
theorem lb_X1_meetGates_0 : xm_lk kb_X1_meetGates 0 = some (5, kX1_meetGates_0) := rfl
theorem lb_X1_meetGates_5 : xm_lk kb_X1_meetGates 5 = some (15, kX1_meetGates_5) := rfl
theorem lb_X1_meetGates_15 : xm_lk kb_X1_meetGates 15 = some (31, kX1_meetGates_15) := rfl
theorem lb_X1_meetGates_35 : xm_lk kb_X1_meetGates 35 = some (49, kX1_meetGates_35) := rfl
theorem lb_X1_meetGates_57 : xm_lk kb_X1_meetGates 57 = some (62, kX1_meetGates_57) := rfl
theorem lb_X1_meetGates_65 : xm_lk kb_X1_meetGates 65 = some (76, kX1_meetGates_65) := rfl
theorem lb_X1_meetGates_79 : xm_lk kb_X1_meetGates 79 = some (85, kX1_meetGates_79) := rfl
theorem lb_X1_meetGates_85 : xm_lk kb_X1_meetGates 85 = some (91, kX1_meetGates_85) := rfl
theorem lb_X1_meetGates_91 : xm_lk kb_X1_meetGates 91 = some (92, kX1_meetGates_91) := rfl
theorem lb_X1_meetGates_31 : xm_lk kb_X1_meetGates 31 = some (32, kX1_meetGates_31) := rfl
theorem lb_X1_meetGates_49 : xm_lk kb_X1_meetGates 49 = some (54, kX1_meetGates_49) := rfl
theorem lb_X1_meetGates_32 : xm_lk kb_X1_meetGates 32 = none := rfl
theorem lb_X1_meetGates_54 : xm_lk kb_X1_meetGates 54 = none := rfl
theorem lb_X1_meetGates_62 : xm_lk kb_X1_meetGates 62 = none := rfl
theorem lb_X1_meetGates_76 : xm_lk kb_X1_meetGates 76 = none := rfl
theorem lb_X1_meetGates_92 : xm_lk kb_X1_meetGates 92 = none := rfl
theorem kc_X1_meetGates : xm_oks cX1_meetGates 1 3 3 false kb_X1_meetGates := (List.forall_mem_cons.mpr ⟨bk_X1_meetGates_0, (List.forall_mem_cons.mpr ⟨bk_X1_meetGates_5, (List.forall_mem_cons.mpr ⟨bk_X1_meetGates_15, (List.forall_mem_cons.mpr ⟨bk_X1_meetGates_35, (List.forall_mem_cons.mpr ⟨bk_X1_meetGates_57, (List.forall_mem_cons.mpr ⟨bk_X1_meetGates_65, (List.forall_mem_cons.mpr ⟨bk_X1_meetGates_79, (List.forall_mem_cons.mpr ⟨bk_X1_meetGates_85, (List.forall_mem_cons.mpr ⟨bk_X1_meetGates_91, (List.forall_mem_cons.mpr ⟨bk_X1_meetGates_31, (List.forall_mem_cons.mpr ⟨bk_X1_meetGates_49, (fun _ h => absurd h List.not_mem_nil)⟩)⟩)⟩)⟩)⟩)⟩)⟩)⟩)⟩)⟩)⟩)
def kb_X1_comesTo : List (Nat × Nat × List xm_I) := [(0, 16, kX1_comesTo_0), (28, 29, kX1_comesTo_28), (29, 30, kX1_comesTo_29), (16, 28, kX1_comesTo_16)]
theorem lb_X1_comesTo_0 : xm_lk kb_X1_comesTo 0 = some (16, kX1_comesTo_0) := rfl
theorem lb_X1_comesTo_28 : xm_lk kb_X1_comesTo 28 = some (29, kX1_comesTo_28) := rfl
theorem lb_X1_comesTo_29 : xm_lk kb_X1_comesTo 29 = some (30, kX1_comesTo_29) := rfl
theorem lb_X1_comesTo_16 : xm_lk kb_X1_comesTo 16 = some (28, kX1_comesTo_16) := rfl
theorem lb_X1_comesTo_30 : xm_lk kb_X1_comesTo 30 = none := rfl
theorem kc_X1_comesTo : xm_oks cX1_comesTo 1 3 1 false kb_X1_comesTo := (List.forall_mem_cons.mpr ⟨bk_X1_comesTo_0, (List.forall_mem_cons.mpr ⟨bk_X1_comesTo_28, (List.forall_mem_cons.mpr ⟨bk_X1_comesTo_29, (List.forall_mem_cons.mpr ⟨bk_X1_comesTo_16, (fun _ h => absurd h List.not_mem_nil)⟩)⟩)⟩)⟩)
def kb_X1_divert : List (Nat × Nat × List xm_I) := [(0, 13, kX1_divert_0), (13, 14, kX1_divert_13), (14, 30, kX1_divert_14), (30, 40, kX1_divert_30), (40, 51, kX1_divert_40)]
theorem lb_X1_divert_0 : xm_lk kb_X1_divert 0 = some (13, kX1_divert_0) := rfl
theorem lb_X1_divert_13 : xm_lk kb_X1_divert 13 = some (14, kX1_divert_13) := rfl
theorem lb_X1_divert_14 : xm_lk kb_X1_divert 14 = some (30, kX1_divert_14) := rfl
theorem lb_X1_divert_30 : xm_lk kb_X1_divert 30 = some (40, kX1_divert_30) := rfl
theorem lb_X1_divert_40 : xm_lk kb_X1_divert 40 = some (51, kX1_divert_40) := rfl
theorem lb_X1_divert_51 : xm_lk kb_X1_divert 51 = none := rfl
theorem kc_X1_divert : xm_oks cX1_divert 1 3 3 false kb_X1_divert := (List.forall_mem_cons.mpr ⟨bk_X1_divert_0, (List.forall_mem_cons.mpr ⟨bk_X1_divert_13, (List.forall_mem_cons.mpr ⟨bk_X1_divert_14, (List.forall_mem_cons.mpr ⟨bk_X1_divert_30, (List.forall_mem_cons.mpr ⟨bk_X1_divert_40, (fun _ h => absurd h List.not_mem_nil)⟩)⟩)⟩)⟩)⟩)
def kb_X1_leaveAtEnd : List (Nat × Nat × List xm_I) := [(0, 5, kX1_leaveAtEnd_0), (5, 19, kX1_leaveAtEnd_5), (24, 42, kX1_leaveAtEnd_24), (54, 55, kX1_leaveAtEnd_54), (55, 66, kX1_leaveAtEnd_55), (66, 72, kX1_leaveAtEnd_66), (72, 88, kX1_leaveAtEnd_72), (95, 111, kX1_leaveAtEnd_95), (111, 112, kX1_leaveAtEnd_111), (19, 21, kX1_leaveAtEnd_19), (42, 54, kX1_leaveAtEnd_42), (88, 92, kX1_leaveAtEnd_88)]
theorem lb_X1_leaveAtEnd_0 : xm_lk kb_X1_leaveAtEnd 0 = some (5, kX1_leaveAtEnd_0) := rfl
theorem lb_X1_leaveAtEnd_5 : xm_lk kb_X1_leaveAtEnd 5 = some (19, kX1_leaveAtEnd_5) := rfl
theorem lb_X1_leaveAtEnd_24 : xm_lk kb_X1_leaveAtEnd 24 = some (42, kX1_leaveAtEnd_24) := rfl
theorem lb_X1_leaveAtEnd_54 : xm_lk kb_X1_leaveAtEnd 54 = some (55, kX1_leaveAtEnd_54) := rfl
theorem lb_X1_leaveAtEnd_55 : xm_lk kb_X1_leaveAtEnd 55 = some (66, kX1_leaveAtEnd_55) := rfl
theorem lb_X1_leaveAtEnd_66 : xm_lk kb_X1_leaveAtEnd 66 = some (72, kX1_leaveAtEnd_66) := rfl
theorem lb_X1_leaveAtEnd_72 : xm_lk kb_X1_leaveAtEnd 72 = some (88, kX1_leaveAtEnd_72) := rfl
theorem lb_X1_leaveAtEnd_95 : xm_lk kb_X1_leaveAtEnd 95 = some (111, kX1_leaveAtEnd_95) := rfl
theorem lb_X1_leaveAtEnd_111 : xm_lk kb_X1_leaveAtEnd 111 = some (112, kX1_leaveAtEnd_111) := rfl
theorem lb_X1_leaveAtEnd_19 : xm_lk kb_X1_leaveAtEnd 19 = some (21, kX1_leaveAtEnd_19) := rfl
theorem lb_X1_leaveAtEnd_42 : xm_lk kb_X1_leaveAtEnd 42 = some (54, kX1_leaveAtEnd_42) := rfl
theorem lb_X1_leaveAtEnd_88 : xm_lk kb_X1_leaveAtEnd 88 = some (92, kX1_leaveAtEnd_88) := rfl
theorem lb_X1_leaveAtEnd_21 : xm_lk kb_X1_leaveAtEnd 21 = none := rfl
theorem lb_X1_leaveAtEnd_92 : xm_lk kb_X1_leaveAtEnd 92 = none := rfl
theorem lb_X1_leaveAtEnd_112 : xm_lk kb_X1_leaveAtEnd 112 = none := rfl
theorem kc_X1_leaveAtEnd : xm_oks cX1_leaveAtEnd 1 3 3 false kb_X1_leaveAtEnd := (List.forall_mem_cons.mpr ⟨bk_X1_leaveAtEnd_0, (List.forall_mem_cons.mpr ⟨bk_X1_leaveAtEnd_5, (List.forall_mem_cons.mpr ⟨bk_X1_leaveAtEnd_24, (List.forall_mem_cons.mpr ⟨bk_X1_leaveAtEnd_54, (List.forall_mem_cons.mpr ⟨bk_X1_leaveAtEnd_55, (List.forall_mem_cons.mpr ⟨bk_X1_leaveAtEnd_66, (List.forall_mem_cons.mpr ⟨bk_X1_leaveAtEnd_72, (List.forall_mem_cons.mpr ⟨bk_X1_leaveAtEnd_95, (List.forall_mem_cons.mpr ⟨bk_X1_leaveAtEnd_111, (List.forall_mem_cons.mpr ⟨bk_X1_leaveAtEnd_19, (List.forall_mem_cons.mpr ⟨bk_X1_leaveAtEnd_42, (List.forall_mem_cons.mpr ⟨bk_X1_leaveAtEnd_88, (fun _ h => absurd h List.not_mem_nil)⟩)⟩)⟩)⟩)⟩)⟩)⟩)⟩)⟩)⟩)⟩)⟩)
def kb_X1_zeroTare : List (Nat × Nat × List xm_I) := [(0, 14, kX1_zeroTare_0), (17, 18, kX1_zeroTare_17), (18, 36, kX1_zeroTare_18), (45, 46, kX1_zeroTare_45), (46, 50, kX1_zeroTare_46), (50, 64, kX1_zeroTare_50), (67, 75, kX1_zeroTare_67), (75, 84, kX1_zeroTare_75), (87, 91, kX1_zeroTare_87), (14, 17, kX1_zeroTare_14), (36, 45, kX1_zeroTare_36)]
theorem lb_X1_zeroTare_0 : xm_lk kb_X1_zeroTare 0 = some (14, kX1_zeroTare_0) := rfl
theorem lb_X1_zeroTare_17 : xm_lk kb_X1_zeroTare 17 = some (18, kX1_zeroTare_17) := rfl
theorem lb_X1_zeroTare_18 : xm_lk kb_X1_zeroTare 18 = some (36, kX1_zeroTare_18) := rfl
theorem lb_X1_zeroTare_45 : xm_lk kb_X1_zeroTare 45 = some (46, kX1_zeroTare_45) := rfl
theorem lb_X1_zeroTare_46 : xm_lk kb_X1_zeroTare 46 = some (50, kX1_zeroTare_46) := rfl
theorem lb_X1_zeroTare_50 : xm_lk kb_X1_zeroTare 50 = some (64, kX1_zeroTare_50) := rfl
theorem lb_X1_zeroTare_67 : xm_lk kb_X1_zeroTare 67 = some (75, kX1_zeroTare_67) := rfl
theorem lb_X1_zeroTare_75 : xm_lk kb_X1_zeroTare 75 = some (84, kX1_zeroTare_75) := rfl
theorem lb_X1_zeroTare_87 : xm_lk kb_X1_zeroTare 87 = some (91, kX1_zeroTare_87) := rfl
theorem lb_X1_zeroTare_14 : xm_lk kb_X1_zeroTare 14 = some (17, kX1_zeroTare_14) := rfl
theorem lb_X1_zeroTare_36 : xm_lk kb_X1_zeroTare 36 = some (45, kX1_zeroTare_36) := rfl
theorem lb_X1_zeroTare_64 : xm_lk kb_X1_zeroTare 64 = none := rfl
theorem lb_X1_zeroTare_84 : xm_lk kb_X1_zeroTare 84 = none := rfl
theorem lb_X1_zeroTare_91 : xm_lk kb_X1_zeroTare 91 = none := rfl
theorem kc_X1_zeroTare : xm_oks cX1_zeroTare 1 3 3 false kb_X1_zeroTare := (List.forall_mem_cons.mpr ⟨bk_X1_zeroTare_0, (List.forall_mem_cons.mpr ⟨bk_X1_zeroTare_17, (List.forall_mem_cons.mpr ⟨bk_X1_zeroTare_18, (List.forall_mem_cons.mpr ⟨bk_X1_zeroTare_45, (List.forall_mem_cons.mpr ⟨bk_X1_zeroTare_46, (List.forall_mem_cons.mpr ⟨bk_X1_zeroTare_50, (List.forall_mem_cons.mpr ⟨bk_X1_zeroTare_67, (List.forall_mem_cons.mpr ⟨bk_X1_zeroTare_75, (List.forall_mem_cons.mpr ⟨bk_X1_zeroTare_87, (List.forall_mem_cons.mpr ⟨bk_X1_zeroTare_14, (List.forall_mem_cons.mpr ⟨bk_X1_zeroTare_36, (fun _ h => absurd h List.not_mem_nil)⟩)⟩)⟩)⟩)⟩)⟩)⟩)⟩)⟩)⟩)⟩)
def kb_X1_confirmDiversions : List (Nat × Nat × List xm_I) := [(0, 2, kX1_confirmDiversions_0), (2, 18, kX1_confirmDiversions_2), (35, 51, kX1_confirmDiversions_35), (85, 97, kX1_confirmDiversions_85), (98, 110, kX1_confirmDiversions_98), (113, 119, kX1_confirmDiversions_113), (119, 120, kX1_confirmDiversions_119), (18, 32, kX1_confirmDiversions_18), (51, 69, kX1_confirmDiversions_51), (97, 98, kX1_confirmDiversions_97), (110, 113, kX1_confirmDiversions_110), (69, 81, kX1_confirmDiversions_69), (81, 85, kX1_confirmDiversions_81)]
theorem lb_X1_confirmDiversions_0 : xm_lk kb_X1_confirmDiversions 0 = some (2, kX1_confirmDiversions_0) := rfl
theorem lb_X1_confirmDiversions_2 : xm_lk kb_X1_confirmDiversions 2 = some (18, kX1_confirmDiversions_2) := rfl
theorem lb_X1_confirmDiversions_35 : xm_lk kb_X1_confirmDiversions 35 = some (51, kX1_confirmDiversions_35) := rfl
theorem lb_X1_confirmDiversions_85 : xm_lk kb_X1_confirmDiversions 85 = some (97, kX1_confirmDiversions_85) := rfl
theorem lb_X1_confirmDiversions_98 : xm_lk kb_X1_confirmDiversions 98 = some (110, kX1_confirmDiversions_98) := rfl
theorem lb_X1_confirmDiversions_113 : xm_lk kb_X1_confirmDiversions 113 = some (119, kX1_confirmDiversions_113) := rfl
theorem lb_X1_confirmDiversions_119 : xm_lk kb_X1_confirmDiversions 119 = some (120, kX1_confirmDiversions_119) := rfl
theorem lb_X1_confirmDiversions_18 : xm_lk kb_X1_confirmDiversions 18 = some (32, kX1_confirmDiversions_18) := rfl
theorem lb_X1_confirmDiversions_51 : xm_lk kb_X1_confirmDiversions 51 = some (69, kX1_confirmDiversions_51) := rfl
theorem lb_X1_confirmDiversions_97 : xm_lk kb_X1_confirmDiversions 97 = some (98, kX1_confirmDiversions_97) := rfl
theorem lb_X1_confirmDiversions_110 : xm_lk kb_X1_confirmDiversions 110 = some (113, kX1_confirmDiversions_110) := rfl
theorem lb_X1_confirmDiversions_69 : xm_lk kb_X1_confirmDiversions 69 = some (81, kX1_confirmDiversions_69) := rfl
theorem lb_X1_confirmDiversions_81 : xm_lk kb_X1_confirmDiversions 81 = some (85, kX1_confirmDiversions_81) := rfl
theorem lb_X1_confirmDiversions_32 : xm_lk kb_X1_confirmDiversions 32 = none := rfl
theorem lb_X1_confirmDiversions_120 : xm_lk kb_X1_confirmDiversions 120 = none := rfl
theorem kc_X1_confirmDiversions : xm_oks cX1_confirmDiversions 1 3 3 false kb_X1_confirmDiversions := (List.forall_mem_cons.mpr ⟨bk_X1_confirmDiversions_0, (List.forall_mem_cons.mpr ⟨bk_X1_confirmDiversions_2, (List.forall_mem_cons.mpr ⟨bk_X1_confirmDiversions_35, (List.forall_mem_cons.mpr ⟨bk_X1_confirmDiversions_85, (List.forall_mem_cons.mpr ⟨bk_X1_confirmDiversions_98, (List.forall_mem_cons.mpr ⟨bk_X1_confirmDiversions_113, (List.forall_mem_cons.mpr ⟨bk_X1_confirmDiversions_119, (List.forall_mem_cons.mpr ⟨bk_X1_confirmDiversions_18, (List.forall_mem_cons.mpr ⟨bk_X1_confirmDiversions_51, (List.forall_mem_cons.mpr ⟨bk_X1_confirmDiversions_97, (List.forall_mem_cons.mpr ⟨bk_X1_confirmDiversions_110, (List.forall_mem_cons.mpr ⟨bk_X1_confirmDiversions_69, (List.forall_mem_cons.mpr ⟨bk_X1_confirmDiversions_81, (fun _ h => absurd h List.not_mem_nil)⟩)⟩)⟩)⟩)⟩)⟩)⟩)⟩)⟩)⟩)⟩)⟩)⟩)
def kb_X1_cellAt : List (Nat × Nat × List xm_I) := [(0, 16, kX1_cellAt_0), (29, 30, kX1_cellAt_29), (30, 31, kX1_cellAt_30), (16, 29, kX1_cellAt_16)]
theorem lb_X1_cellAt_0 : xm_lk kb_X1_cellAt 0 = some (16, kX1_cellAt_0) := rfl
theorem lb_X1_cellAt_29 : xm_lk kb_X1_cellAt 29 = some (30, kX1_cellAt_29) := rfl
theorem lb_X1_cellAt_30 : xm_lk kb_X1_cellAt 30 = some (31, kX1_cellAt_30) := rfl
theorem lb_X1_cellAt_16 : xm_lk kb_X1_cellAt 16 = some (29, kX1_cellAt_16) := rfl
theorem lb_X1_cellAt_31 : xm_lk kb_X1_cellAt 31 = none := rfl
theorem kc_X1_cellAt : xm_oks cX1_cellAt 1 2 0 false kb_X1_cellAt := (List.forall_mem_cons.mpr ⟨bk_X1_cellAt_0, (List.forall_mem_cons.mpr ⟨bk_X1_cellAt_29, (List.forall_mem_cons.mpr ⟨bk_X1_cellAt_30, (List.forall_mem_cons.mpr ⟨bk_X1_cellAt_16, (fun _ h => absurd h List.not_mem_nil)⟩)⟩)⟩)⟩)
def kb_X1_isOpen : List (Nat × Nat × List xm_I) := [(0, 12, kX1_isOpen_0), (18, 25, kX1_isOpen_18), (25, 26, kX1_isOpen_25), (26, 27, kX1_isOpen_26), (12, 15, kX1_isOpen_12)]
theorem lb_X1_isOpen_0 : xm_lk kb_X1_isOpen 0 = some (12, kX1_isOpen_0) := rfl
theorem lb_X1_isOpen_18 : xm_lk kb_X1_isOpen 18 = some (25, kX1_isOpen_18) := rfl
theorem lb_X1_isOpen_25 : xm_lk kb_X1_isOpen 25 = some (26, kX1_isOpen_25) := rfl
theorem lb_X1_isOpen_26 : xm_lk kb_X1_isOpen 26 = some (27, kX1_isOpen_26) := rfl
theorem lb_X1_isOpen_12 : xm_lk kb_X1_isOpen 12 = some (15, kX1_isOpen_12) := rfl
theorem lb_X1_isOpen_15 : xm_lk kb_X1_isOpen 15 = none := rfl
theorem lb_X1_isOpen_27 : xm_lk kb_X1_isOpen 27 = none := rfl
theorem kc_X1_isOpen : xm_oks cX1_isOpen 1 2 1 false kb_X1_isOpen := (List.forall_mem_cons.mpr ⟨bk_X1_isOpen_0, (List.forall_mem_cons.mpr ⟨bk_X1_isOpen_18, (List.forall_mem_cons.mpr ⟨bk_X1_isOpen_25, (List.forall_mem_cons.mpr ⟨bk_X1_isOpen_26, (List.forall_mem_cons.mpr ⟨bk_X1_isOpen_12, (fun _ h => absurd h List.not_mem_nil)⟩)⟩)⟩)⟩)⟩)
def kb_X1_isCommanded : List (Nat × Nat × List xm_I) := [(0, 2, kX1_isCommanded_0), (2, 16, kX1_isCommanded_2), (21, 26, kX1_isCommanded_21), (26, 32, kX1_isCommanded_26), (32, 34, kX1_isCommanded_32), (16, 18, kX1_isCommanded_16)]
theorem lb_X1_isCommanded_0 : xm_lk kb_X1_isCommanded 0 = some (2, kX1_isCommanded_0) := rfl
theorem lb_X1_isCommanded_2 : xm_lk kb_X1_isCommanded 2 = some (16, kX1_isCommanded_2) := rfl
theorem lb_X1_isCommanded_21 : xm_lk kb_X1_isCommanded 21 = some (26, kX1_isCommanded_21) := rfl
theorem lb_X1_isCommanded_26 : xm_lk kb_X1_isCommanded 26 = some (32, kX1_isCommanded_26) := rfl
theorem lb_X1_isCommanded_32 : xm_lk kb_X1_isCommanded 32 = some (34, kX1_isCommanded_32) := rfl
theorem lb_X1_isCommanded_16 : xm_lk kb_X1_isCommanded 16 = some (18, kX1_isCommanded_16) := rfl
theorem lb_X1_isCommanded_18 : xm_lk kb_X1_isCommanded 18 = none := rfl
theorem lb_X1_isCommanded_34 : xm_lk kb_X1_isCommanded 34 = none := rfl
theorem kc_X1_isCommanded : xm_oks cX1_isCommanded 1 4 1 false kb_X1_isCommanded := (List.forall_mem_cons.mpr ⟨bk_X1_isCommanded_0, (List.forall_mem_cons.mpr ⟨bk_X1_isCommanded_2, (List.forall_mem_cons.mpr ⟨bk_X1_isCommanded_21, (List.forall_mem_cons.mpr ⟨bk_X1_isCommanded_26, (List.forall_mem_cons.mpr ⟨bk_X1_isCommanded_32, (List.forall_mem_cons.mpr ⟨bk_X1_isCommanded_16, (fun _ h => absurd h List.not_mem_nil)⟩)⟩)⟩)⟩)⟩)⟩)
def kb_X1_allAlarms : List (Nat × Nat × List xm_I) := [(0, 4, kX1_allAlarms_0), (4, 20, kX1_allAlarms_4), (30, 32, kX1_allAlarms_30), (20, 30, kX1_allAlarms_20)]
theorem lb_X1_allAlarms_0 : xm_lk kb_X1_allAlarms 0 = some (4, kX1_allAlarms_0) := rfl
theorem lb_X1_allAlarms_4 : xm_lk kb_X1_allAlarms 4 = some (20, kX1_allAlarms_4) := rfl
theorem lb_X1_allAlarms_30 : xm_lk kb_X1_allAlarms 30 = some (32, kX1_allAlarms_30) := rfl
theorem lb_X1_allAlarms_20 : xm_lk kb_X1_allAlarms 20 = some (30, kX1_allAlarms_20) := rfl
theorem lb_X1_allAlarms_32 : xm_lk kb_X1_allAlarms 32 = none := rfl
theorem kc_X1_allAlarms : xm_oks cX1_allAlarms 1 3 0 false kb_X1_allAlarms := (List.forall_mem_cons.mpr ⟨bk_X1_allAlarms_0, (List.forall_mem_cons.mpr ⟨bk_X1_allAlarms_4, (List.forall_mem_cons.mpr ⟨bk_X1_allAlarms_30, (List.forall_mem_cons.mpr ⟨bk_X1_allAlarms_20, (fun _ h => absurd h List.not_mem_nil)⟩)⟩)⟩)⟩)
def kb_X1_itemsIn : List (Nat × Nat × List xm_I) := [(0, 4, kX1_itemsIn_0), (4, 18, kX1_itemsIn_4), (28, 34, kX1_itemsIn_28), (34, 36, kX1_itemsIn_34), (18, 28, kX1_itemsIn_18)]
theorem lb_X1_itemsIn_0 : xm_lk kb_X1_itemsIn 0 = some (4, kX1_itemsIn_0) := rfl
theorem lb_X1_itemsIn_4 : xm_lk kb_X1_itemsIn 4 = some (18, kX1_itemsIn_4) := rfl
theorem lb_X1_itemsIn_28 : xm_lk kb_X1_itemsIn 28 = some (34, kX1_itemsIn_28) := rfl
theorem lb_X1_itemsIn_34 : xm_lk kb_X1_itemsIn 34 = some (36, kX1_itemsIn_34) := rfl
theorem lb_X1_itemsIn_18 : xm_lk kb_X1_itemsIn 18 = some (28, kX1_itemsIn_18) := rfl
theorem lb_X1_itemsIn_36 : xm_lk kb_X1_itemsIn 36 = none := rfl
theorem kc_X1_itemsIn : xm_oks cX1_itemsIn 1 4 0 false kb_X1_itemsIn := (List.forall_mem_cons.mpr ⟨bk_X1_itemsIn_0, (List.forall_mem_cons.mpr ⟨bk_X1_itemsIn_4, (List.forall_mem_cons.mpr ⟨bk_X1_itemsIn_28, (List.forall_mem_cons.mpr ⟨bk_X1_itemsIn_34, (List.forall_mem_cons.mpr ⟨bk_X1_itemsIn_18, (fun _ h => absurd h List.not_mem_nil)⟩)⟩)⟩)⟩)⟩)
def kb_X1_itemsOf : List (Nat × Nat × List xm_I) := [(0, 4, kX1_itemsOf_0), (4, 18, kX1_itemsOf_4), (28, 34, kX1_itemsOf_28), (34, 36, kX1_itemsOf_34), (18, 28, kX1_itemsOf_18)]
theorem lb_X1_itemsOf_0 : xm_lk kb_X1_itemsOf 0 = some (4, kX1_itemsOf_0) := rfl
theorem lb_X1_itemsOf_4 : xm_lk kb_X1_itemsOf 4 = some (18, kX1_itemsOf_4) := rfl
theorem lb_X1_itemsOf_28 : xm_lk kb_X1_itemsOf 28 = some (34, kX1_itemsOf_28) := rfl
theorem lb_X1_itemsOf_34 : xm_lk kb_X1_itemsOf 34 = some (36, kX1_itemsOf_34) := rfl
theorem lb_X1_itemsOf_18 : xm_lk kb_X1_itemsOf 18 = some (28, kX1_itemsOf_18) := rfl
theorem lb_X1_itemsOf_36 : xm_lk kb_X1_itemsOf 36 = none := rfl
theorem kc_X1_itemsOf : xm_oks cX1_itemsOf 1 4 0 false kb_X1_itemsOf := (List.forall_mem_cons.mpr ⟨bk_X1_itemsOf_0, (List.forall_mem_cons.mpr ⟨bk_X1_itemsOf_4, (List.forall_mem_cons.mpr ⟨bk_X1_itemsOf_28, (List.forall_mem_cons.mpr ⟨bk_X1_itemsOf_34, (List.forall_mem_cons.mpr ⟨bk_X1_itemsOf_18, (fun _ h => absurd h List.not_mem_nil)⟩)⟩)⟩)⟩)⟩)
def kb_X1_sumOfGood : List (Nat × Nat × List xm_I) := [(0, 4, kX1_sumOfGood_0), (4, 18, kX1_sumOfGood_4), (37, 43, kX1_sumOfGood_37), (43, 45, kX1_sumOfGood_43), (18, 32, kX1_sumOfGood_18), (32, 37, kX1_sumOfGood_32)]
theorem lb_X1_sumOfGood_0 : xm_lk kb_X1_sumOfGood 0 = some (4, kX1_sumOfGood_0) := rfl
theorem lb_X1_sumOfGood_4 : xm_lk kb_X1_sumOfGood 4 = some (18, kX1_sumOfGood_4) := rfl
theorem lb_X1_sumOfGood_37 : xm_lk kb_X1_sumOfGood 37 = some (43, kX1_sumOfGood_37) := rfl
theorem lb_X1_sumOfGood_43 : xm_lk kb_X1_sumOfGood 43 = some (45, kX1_sumOfGood_43) := rfl
theorem lb_X1_sumOfGood_18 : xm_lk kb_X1_sumOfGood 18 = some (32, kX1_sumOfGood_18) := rfl
theorem lb_X1_sumOfGood_32 : xm_lk kb_X1_sumOfGood 32 = some (37, kX1_sumOfGood_32) := rfl
theorem lb_X1_sumOfGood_45 : xm_lk kb_X1_sumOfGood 45 = none := rfl
theorem kc_X1_sumOfGood : xm_oks cX1_sumOfGood 1 3 0 false kb_X1_sumOfGood := (List.forall_mem_cons.mpr ⟨bk_X1_sumOfGood_0, (List.forall_mem_cons.mpr ⟨bk_X1_sumOfGood_4, (List.forall_mem_cons.mpr ⟨bk_X1_sumOfGood_37, (List.forall_mem_cons.mpr ⟨bk_X1_sumOfGood_43, (List.forall_mem_cons.mpr ⟨bk_X1_sumOfGood_18, (List.forall_mem_cons.mpr ⟨bk_X1_sumOfGood_32, (fun _ h => absurd h List.not_mem_nil)⟩)⟩)⟩)⟩)⟩)⟩)
def kb_X1_itemsWithResult : List (Nat × Nat × List xm_I) := [(0, 4, kX1_itemsWithResult_0), (4, 18, kX1_itemsWithResult_4), (27, 33, kX1_itemsWithResult_27), (33, 35, kX1_itemsWithResult_33), (18, 27, kX1_itemsWithResult_18)]
theorem lb_X1_itemsWithResult_0 : xm_lk kb_X1_itemsWithResult 0 = some (4, kX1_itemsWithResult_0) := rfl
theorem lb_X1_itemsWithResult_4 : xm_lk kb_X1_itemsWithResult 4 = some (18, kX1_itemsWithResult_4) := rfl
theorem lb_X1_itemsWithResult_27 : xm_lk kb_X1_itemsWithResult 27 = some (33, kX1_itemsWithResult_27) := rfl
theorem lb_X1_itemsWithResult_33 : xm_lk kb_X1_itemsWithResult 33 = some (35, kX1_itemsWithResult_33) := rfl
theorem lb_X1_itemsWithResult_18 : xm_lk kb_X1_itemsWithResult 18 = some (27, kX1_itemsWithResult_18) := rfl
theorem lb_X1_itemsWithResult_35 : xm_lk kb_X1_itemsWithResult 35 = none := rfl
theorem kc_X1_itemsWithResult : xm_oks cX1_itemsWithResult 1 3 0 false kb_X1_itemsWithResult := (List.forall_mem_cons.mpr ⟨bk_X1_itemsWithResult_0, (List.forall_mem_cons.mpr ⟨bk_X1_itemsWithResult_4, (List.forall_mem_cons.mpr ⟨bk_X1_itemsWithResult_27, (List.forall_mem_cons.mpr ⟨bk_X1_itemsWithResult_33, (List.forall_mem_cons.mpr ⟨bk_X1_itemsWithResult_18, (fun _ h => absurd h List.not_mem_nil)⟩)⟩)⟩)⟩)⟩)
def kb_X1_sumOfErrors : List (Nat × Nat × List xm_I) := [(0, 4, kX1_sumOfErrors_0), (4, 18, kX1_sumOfErrors_4), (47, 49, kX1_sumOfErrors_47), (49, 55, kX1_sumOfErrors_49), (55, 57, kX1_sumOfErrors_55), (18, 34, kX1_sumOfErrors_18), (34, 44, kX1_sumOfErrors_34)]
theorem lb_X1_sumOfErrors_0 : xm_lk kb_X1_sumOfErrors 0 = some (4, kX1_sumOfErrors_0) := rfl
theorem lb_X1_sumOfErrors_4 : xm_lk kb_X1_sumOfErrors 4 = some (18, kX1_sumOfErrors_4) := rfl
theorem lb_X1_sumOfErrors_47 : xm_lk kb_X1_sumOfErrors 47 = some (49, kX1_sumOfErrors_47) := rfl
theorem lb_X1_sumOfErrors_49 : xm_lk kb_X1_sumOfErrors 49 = some (55, kX1_sumOfErrors_49) := rfl
theorem lb_X1_sumOfErrors_55 : xm_lk kb_X1_sumOfErrors 55 = some (57, kX1_sumOfErrors_55) := rfl
theorem lb_X1_sumOfErrors_18 : xm_lk kb_X1_sumOfErrors 18 = some (34, kX1_sumOfErrors_18) := rfl
theorem lb_X1_sumOfErrors_34 : xm_lk kb_X1_sumOfErrors 34 = some (44, kX1_sumOfErrors_34) := rfl
theorem lb_X1_sumOfErrors_44 : xm_lk kb_X1_sumOfErrors 44 = none := rfl
theorem lb_X1_sumOfErrors_57 : xm_lk kb_X1_sumOfErrors 57 = none := rfl
theorem kc_X1_sumOfErrors : xm_oks cX1_sumOfErrors 1 3 0 false kb_X1_sumOfErrors := (List.forall_mem_cons.mpr ⟨bk_X1_sumOfErrors_0, (List.forall_mem_cons.mpr ⟨bk_X1_sumOfErrors_4, (List.forall_mem_cons.mpr ⟨bk_X1_sumOfErrors_47, (List.forall_mem_cons.mpr ⟨bk_X1_sumOfErrors_49, (List.forall_mem_cons.mpr ⟨bk_X1_sumOfErrors_55, (List.forall_mem_cons.mpr ⟨bk_X1_sumOfErrors_18, (List.forall_mem_cons.mpr ⟨bk_X1_sumOfErrors_34, (fun _ h => absurd h List.not_mem_nil)⟩)⟩)⟩)⟩)⟩)⟩)⟩)
def kb_X1_commandedTicks : List (Nat × Nat × List xm_I) := [(0, 10, kX1_commandedTicks_0), (12, 28, kX1_commandedTicks_12), (49, 62, kX1_commandedTicks_49), (67, 80, kX1_commandedTicks_67), (83, 84, kX1_commandedTicks_83), (84, 90, kX1_commandedTicks_84), (90, 92, kX1_commandedTicks_90), (10, 12, kX1_commandedTicks_10), (28, 43, kX1_commandedTicks_28), (62, 64, kX1_commandedTicks_62), (43, 46, kX1_commandedTicks_43)]
theorem lb_X1_commandedTicks_0 : xm_lk kb_X1_commandedTicks 0 = some (10, kX1_commandedTicks_0) := rfl
theorem lb_X1_commandedTicks_12 : xm_lk kb_X1_commandedTicks 12 = some (28, kX1_commandedTicks_12) := rfl
theorem lb_X1_commandedTicks_49 : xm_lk kb_X1_commandedTicks 49 = some (62, kX1_commandedTicks_49) := rfl
theorem lb_X1_commandedTicks_67 : xm_lk kb_X1_commandedTicks 67 = some (80, kX1_commandedTicks_67) := rfl
theorem lb_X1_commandedTicks_83 : xm_lk kb_X1_commandedTicks 83 = some (84, kX1_commandedTicks_83) := rfl
theorem lb_X1_commandedTicks_84 : xm_lk kb_X1_commandedTicks 84 = some (90, kX1_commandedTicks_84) := rfl
theorem lb_X1_commandedTicks_90 : xm_lk kb_X1_commandedTicks 90 = some (92, kX1_commandedTicks_90) := rfl
theorem lb_X1_commandedTicks_10 : xm_lk kb_X1_commandedTicks 10 = some (12, kX1_commandedTicks_10) := rfl
theorem lb_X1_commandedTicks_28 : xm_lk kb_X1_commandedTicks 28 = some (43, kX1_commandedTicks_28) := rfl
theorem lb_X1_commandedTicks_62 : xm_lk kb_X1_commandedTicks 62 = some (64, kX1_commandedTicks_62) := rfl
theorem lb_X1_commandedTicks_43 : xm_lk kb_X1_commandedTicks 43 = some (46, kX1_commandedTicks_43) := rfl
theorem lb_X1_commandedTicks_46 : xm_lk kb_X1_commandedTicks 46 = none := rfl
theorem lb_X1_commandedTicks_64 : xm_lk kb_X1_commandedTicks 64 = none := rfl
theorem lb_X1_commandedTicks_80 : xm_lk kb_X1_commandedTicks 80 = none := rfl
theorem lb_X1_commandedTicks_92 : xm_lk kb_X1_commandedTicks 92 = none := rfl
theorem kc_X1_commandedTicks : xm_oks cX1_commandedTicks 1 5 0 false kb_X1_commandedTicks := (List.forall_mem_cons.mpr ⟨bk_X1_commandedTicks_0, (List.forall_mem_cons.mpr ⟨bk_X1_commandedTicks_12, (List.forall_mem_cons.mpr ⟨bk_X1_commandedTicks_49, (List.forall_mem_cons.mpr ⟨bk_X1_commandedTicks_67, (List.forall_mem_cons.mpr ⟨bk_X1_commandedTicks_83, (List.forall_mem_cons.mpr ⟨bk_X1_commandedTicks_84, (List.forall_mem_cons.mpr ⟨bk_X1_commandedTicks_90, (List.forall_mem_cons.mpr ⟨bk_X1_commandedTicks_10, (List.forall_mem_cons.mpr ⟨bk_X1_commandedTicks_28, (List.forall_mem_cons.mpr ⟨bk_X1_commandedTicks_62, (List.forall_mem_cons.mpr ⟨bk_X1_commandedTicks_43, (fun _ h => absurd h List.not_mem_nil)⟩)⟩)⟩)⟩)⟩)⟩)⟩)⟩)⟩)⟩)⟩)
def kb_X1_firstCommanded : List (Nat × Nat × List xm_I) := [(0, 4, kX1_firstCommanded_0), (4, 18, kX1_firstCommanded_4), (30, 41, kX1_firstCommanded_30), (44, 58, kX1_firstCommanded_44), (58, 61, kX1_firstCommanded_58), (61, 67, kX1_firstCommanded_61), (67, 69, kX1_firstCommanded_67), (18, 27, kX1_firstCommanded_18)]
theorem lb_X1_firstCommanded_0 : xm_lk kb_X1_firstCommanded 0 = some (4, kX1_firstCommanded_0) := rfl
theorem lb_X1_firstCommanded_4 : xm_lk kb_X1_firstCommanded 4 = some (18, kX1_firstCommanded_4) := rfl
theorem lb_X1_firstCommanded_30 : xm_lk kb_X1_firstCommanded 30 = some (41, kX1_firstCommanded_30) := rfl
theorem lb_X1_firstCommanded_44 : xm_lk kb_X1_firstCommanded 44 = some (58, kX1_firstCommanded_44) := rfl
theorem lb_X1_firstCommanded_58 : xm_lk kb_X1_firstCommanded 58 = some (61, kX1_firstCommanded_58) := rfl
theorem lb_X1_firstCommanded_61 : xm_lk kb_X1_firstCommanded 61 = some (67, kX1_firstCommanded_61) := rfl
theorem lb_X1_firstCommanded_67 : xm_lk kb_X1_firstCommanded 67 = some (69, kX1_firstCommanded_67) := rfl
theorem lb_X1_firstCommanded_18 : xm_lk kb_X1_firstCommanded 18 = some (27, kX1_firstCommanded_18) := rfl
theorem lb_X1_firstCommanded_27 : xm_lk kb_X1_firstCommanded 27 = none := rfl
theorem lb_X1_firstCommanded_41 : xm_lk kb_X1_firstCommanded 41 = none := rfl
theorem lb_X1_firstCommanded_69 : xm_lk kb_X1_firstCommanded 69 = none := rfl
theorem kc_X1_firstCommanded : xm_oks cX1_firstCommanded 1 5 0 false kb_X1_firstCommanded := (List.forall_mem_cons.mpr ⟨bk_X1_firstCommanded_0, (List.forall_mem_cons.mpr ⟨bk_X1_firstCommanded_4, (List.forall_mem_cons.mpr ⟨bk_X1_firstCommanded_30, (List.forall_mem_cons.mpr ⟨bk_X1_firstCommanded_44, (List.forall_mem_cons.mpr ⟨bk_X1_firstCommanded_58, (List.forall_mem_cons.mpr ⟨bk_X1_firstCommanded_61, (List.forall_mem_cons.mpr ⟨bk_X1_firstCommanded_67, (List.forall_mem_cons.mpr ⟨bk_X1_firstCommanded_18, (fun _ h => absurd h List.not_mem_nil)⟩)⟩)⟩)⟩)⟩)⟩)⟩)⟩)
def kb_X1_rides : List (Nat × Nat × List xm_I) := [(0, 16, kX1_rides_0), (21, 28, kX1_rides_21), (28, 29, kX1_rides_28), (29, 30, kX1_rides_29), (16, 18, kX1_rides_16)]
theorem lb_X1_rides_0 : xm_lk kb_X1_rides 0 = some (16, kX1_rides_0) := rfl
theorem lb_X1_rides_21 : xm_lk kb_X1_rides 21 = some (28, kX1_rides_21) := rfl
theorem lb_X1_rides_28 : xm_lk kb_X1_rides 28 = some (29, kX1_rides_28) := rfl
theorem lb_X1_rides_29 : xm_lk kb_X1_rides 29 = some (30, kX1_rides_29) := rfl
theorem lb_X1_rides_16 : xm_lk kb_X1_rides 16 = some (18, kX1_rides_16) := rfl
theorem lb_X1_rides_18 : xm_lk kb_X1_rides 18 = none := rfl
theorem lb_X1_rides_30 : xm_lk kb_X1_rides 30 = none := rfl
theorem kc_X1_rides : xm_oks cX1_rides 1 2 1 false kb_X1_rides := (List.forall_mem_cons.mpr ⟨bk_X1_rides_0, (List.forall_mem_cons.mpr ⟨bk_X1_rides_21, (List.forall_mem_cons.mpr ⟨bk_X1_rides_28, (List.forall_mem_cons.mpr ⟨bk_X1_rides_29, (List.forall_mem_cons.mpr ⟨bk_X1_rides_16, (fun _ h => absurd h List.not_mem_nil)⟩)⟩)⟩)⟩)⟩)
def kb_X1_stateOf : List (Nat × Nat × List xm_I) := [(0, 16, kX1_stateOf_0), (24, 25, kX1_stateOf_24), (25, 26, kX1_stateOf_25), (16, 24, kX1_stateOf_16)]
theorem lb_X1_stateOf_0 : xm_lk kb_X1_stateOf 0 = some (16, kX1_stateOf_0) := rfl
theorem lb_X1_stateOf_24 : xm_lk kb_X1_stateOf 24 = some (25, kX1_stateOf_24) := rfl
theorem lb_X1_stateOf_25 : xm_lk kb_X1_stateOf 25 = some (26, kX1_stateOf_25) := rfl
theorem lb_X1_stateOf_16 : xm_lk kb_X1_stateOf 16 = some (24, kX1_stateOf_16) := rfl
theorem lb_X1_stateOf_26 : xm_lk kb_X1_stateOf 26 = none := rfl
theorem kc_X1_stateOf : xm_oks cX1_stateOf 1 2 0 false kb_X1_stateOf := (List.forall_mem_cons.mpr ⟨bk_X1_stateOf_0, (List.forall_mem_cons.mpr ⟨bk_X1_stateOf_24, (List.forall_mem_cons.mpr ⟨bk_X1_stateOf_25, (List.forall_mem_cons.mpr ⟨bk_X1_stateOf_16, (fun _ h => absurd h List.not_mem_nil)⟩)⟩)⟩)⟩)
def kb_X2_init : List (Nat × Nat × List xm_I) := [(0, 1, kX2_init_0), (4, 16, kX2_init_4), (16, 30, kX2_init_16), (30, 44, kX2_init_30), (44, 50, kX2_init_44)]
theorem lb_X2_init_0 : xm_lk kb_X2_init 0 = some (1, kX2_init_0) := rfl
theorem lb_X2_init_4 : xm_lk kb_X2_init 4 = some (16, kX2_init_4) := rfl
theorem lb_X2_init_16 : xm_lk kb_X2_init 16 = some (30, kX2_init_16) := rfl
theorem lb_X2_init_30 : xm_lk kb_X2_init 30 = some (44, kX2_init_30) := rfl
theorem lb_X2_init_44 : xm_lk kb_X2_init 44 = some (50, kX2_init_44) := rfl
theorem lb_X2_init_1 : xm_lk kb_X2_init 1 = none := rfl
theorem lb_X2_init_50 : xm_lk kb_X2_init 50 = none := rfl
theorem kc_X2_init : xm_oks cX2_init 2 3 3 true kb_X2_init := (List.forall_mem_cons.mpr ⟨bk_X2_init_0, (List.forall_mem_cons.mpr ⟨bk_X2_init_4, (List.forall_mem_cons.mpr ⟨bk_X2_init_16, (List.forall_mem_cons.mpr ⟨bk_X2_init_30, (List.forall_mem_cons.mpr ⟨bk_X2_init_44, (fun _ h => absurd h List.not_mem_nil)⟩)⟩)⟩)⟩)⟩)
def kb_X2_read : List (Nat × Nat × List xm_I) := [(0, 7, kX2_read_0), (10, 22, kX2_read_10), (25, 37, kX2_read_25), (49, 50, kX2_read_49), (53, 54, kX2_read_53), (57, 58, kX2_read_57), (61, 62, kX2_read_61), (65, 66, kX2_read_65), (37, 46, kX2_read_37)]
theorem lb_X2_read_0 : xm_lk kb_X2_read 0 = some (7, kX2_read_0) := rfl
theorem lb_X2_read_10 : xm_lk kb_X2_read 10 = some (22, kX2_read_10) := rfl
theorem lb_X2_read_25 : xm_lk kb_X2_read 25 = some (37, kX2_read_25) := rfl
theorem lb_X2_read_49 : xm_lk kb_X2_read 49 = some (50, kX2_read_49) := rfl
theorem lb_X2_read_53 : xm_lk kb_X2_read 53 = some (54, kX2_read_53) := rfl
theorem lb_X2_read_57 : xm_lk kb_X2_read 57 = some (58, kX2_read_57) := rfl
theorem lb_X2_read_61 : xm_lk kb_X2_read 61 = some (62, kX2_read_61) := rfl
theorem lb_X2_read_65 : xm_lk kb_X2_read 65 = some (66, kX2_read_65) := rfl
theorem lb_X2_read_37 : xm_lk kb_X2_read 37 = some (46, kX2_read_37) := rfl
theorem lb_X2_read_7 : xm_lk kb_X2_read 7 = none := rfl
theorem lb_X2_read_22 : xm_lk kb_X2_read 22 = none := rfl
theorem lb_X2_read_46 : xm_lk kb_X2_read 46 = none := rfl
theorem lb_X2_read_50 : xm_lk kb_X2_read 50 = none := rfl
theorem lb_X2_read_54 : xm_lk kb_X2_read 54 = none := rfl
theorem lb_X2_read_58 : xm_lk kb_X2_read 58 = none := rfl
theorem lb_X2_read_62 : xm_lk kb_X2_read 62 = none := rfl
theorem lb_X2_read_66 : xm_lk kb_X2_read 66 = none := rfl
theorem kc_X2_read : xm_oks cX2_read 2 3 3 false kb_X2_read := (List.forall_mem_cons.mpr ⟨bk_X2_read_0, (List.forall_mem_cons.mpr ⟨bk_X2_read_10, (List.forall_mem_cons.mpr ⟨bk_X2_read_25, (List.forall_mem_cons.mpr ⟨bk_X2_read_49, (List.forall_mem_cons.mpr ⟨bk_X2_read_53, (List.forall_mem_cons.mpr ⟨bk_X2_read_57, (List.forall_mem_cons.mpr ⟨bk_X2_read_61, (List.forall_mem_cons.mpr ⟨bk_X2_read_65, (List.forall_mem_cons.mpr ⟨bk_X2_read_37, (fun _ h => absurd h List.not_mem_nil)⟩)⟩)⟩)⟩)⟩)⟩)⟩)⟩)⟩)
def kb_X2_readBelt : List (Nat × Nat × List xm_I) := [(0, 1, kX2_readBelt_0), (6, 14, kX2_readBelt_6), (17, 29, kX2_readBelt_17), (32, 48, kX2_readBelt_32), (55, 71, kX2_readBelt_55), (78, 82, kX2_readBelt_78), (85, 86, kX2_readBelt_85), (48, 52, kX2_readBelt_48), (71, 75, kX2_readBelt_71)]
theorem lb_X2_readBelt_0 : xm_lk kb_X2_readBelt 0 = some (1, kX2_readBelt_0) := rfl
theorem lb_X2_readBelt_6 : xm_lk kb_X2_readBelt 6 = some (14, kX2_readBelt_6) := rfl
theorem lb_X2_readBelt_17 : xm_lk kb_X2_readBelt 17 = some (29, kX2_readBelt_17) := rfl
theorem lb_X2_readBelt_32 : xm_lk kb_X2_readBelt 32 = some (48, kX2_readBelt_32) := rfl
theorem lb_X2_readBelt_55 : xm_lk kb_X2_readBelt 55 = some (71, kX2_readBelt_55) := rfl
theorem lb_X2_readBelt_78 : xm_lk kb_X2_readBelt 78 = some (82, kX2_readBelt_78) := rfl
theorem lb_X2_readBelt_85 : xm_lk kb_X2_readBelt 85 = some (86, kX2_readBelt_85) := rfl
theorem lb_X2_readBelt_48 : xm_lk kb_X2_readBelt 48 = some (52, kX2_readBelt_48) := rfl
theorem lb_X2_readBelt_71 : xm_lk kb_X2_readBelt 71 = some (75, kX2_readBelt_71) := rfl
theorem lb_X2_readBelt_1 : xm_lk kb_X2_readBelt 1 = none := rfl
theorem lb_X2_readBelt_14 : xm_lk kb_X2_readBelt 14 = none := rfl
theorem lb_X2_readBelt_29 : xm_lk kb_X2_readBelt 29 = none := rfl
theorem lb_X2_readBelt_52 : xm_lk kb_X2_readBelt 52 = none := rfl
theorem lb_X2_readBelt_75 : xm_lk kb_X2_readBelt 75 = none := rfl
theorem lb_X2_readBelt_82 : xm_lk kb_X2_readBelt 82 = none := rfl
theorem lb_X2_readBelt_86 : xm_lk kb_X2_readBelt 86 = none := rfl
theorem kc_X2_readBelt : xm_oks cX2_readBelt 2 1 3 false kb_X2_readBelt := (List.forall_mem_cons.mpr ⟨bk_X2_readBelt_0, (List.forall_mem_cons.mpr ⟨bk_X2_readBelt_6, (List.forall_mem_cons.mpr ⟨bk_X2_readBelt_17, (List.forall_mem_cons.mpr ⟨bk_X2_readBelt_32, (List.forall_mem_cons.mpr ⟨bk_X2_readBelt_55, (List.forall_mem_cons.mpr ⟨bk_X2_readBelt_78, (List.forall_mem_cons.mpr ⟨bk_X2_readBelt_85, (List.forall_mem_cons.mpr ⟨bk_X2_readBelt_48, (List.forall_mem_cons.mpr ⟨bk_X2_readBelt_71, (fun _ h => absurd h List.not_mem_nil)⟩)⟩)⟩)⟩)⟩)⟩)⟩)⟩)⟩)
def kb_X2_readVibrations : List (Nat × Nat × List xm_I) := [(0, 2, kX2_readVibrations_0), (2, 10, kX2_readVibrations_2), (15, 33, kX2_readVibrations_15), (37, 38, kX2_readVibrations_37), (38, 39, kX2_readVibrations_38), (42, 47, kX2_readVibrations_42), (50, 52, kX2_readVibrations_50), (55, 61, kX2_readVibrations_55), (64, 67, kX2_readVibrations_64), (70, 81, kX2_readVibrations_70), (84, 90, kX2_readVibrations_84), (90, 91, kX2_readVibrations_90), (33, 34, kX2_readVibrations_33)]
theorem lb_X2_readVibrations_0 : xm_lk kb_X2_readVibrations 0 = some (2, kX2_readVibrations_0) := rfl
theorem lb_X2_readVibrations_2 : xm_lk kb_X2_readVibrations 2 = some (10, kX2_readVibrations_2) := rfl
theorem lb_X2_readVibrations_15 : xm_lk kb_X2_readVibrations 15 = some (33, kX2_readVibrations_15) := rfl
theorem lb_X2_readVibrations_37 : xm_lk kb_X2_readVibrations 37 = some (38, kX2_readVibrations_37) := rfl
theorem lb_X2_readVibrations_38 : xm_lk kb_X2_readVibrations 38 = some (39, kX2_readVibrations_38) := rfl
theorem lb_X2_readVibrations_42 : xm_lk kb_X2_readVibrations 42 = some (47, kX2_readVibrations_42) := rfl
theorem lb_X2_readVibrations_50 : xm_lk kb_X2_readVibrations 50 = some (52, kX2_readVibrations_50) := rfl
theorem lb_X2_readVibrations_55 : xm_lk kb_X2_readVibrations 55 = some (61, kX2_readVibrations_55) := rfl
theorem lb_X2_readVibrations_64 : xm_lk kb_X2_readVibrations 64 = some (67, kX2_readVibrations_64) := rfl
theorem lb_X2_readVibrations_70 : xm_lk kb_X2_readVibrations 70 = some (81, kX2_readVibrations_70) := rfl
theorem lb_X2_readVibrations_84 : xm_lk kb_X2_readVibrations 84 = some (90, kX2_readVibrations_84) := rfl
theorem lb_X2_readVibrations_90 : xm_lk kb_X2_readVibrations 90 = some (91, kX2_readVibrations_90) := rfl
theorem lb_X2_readVibrations_33 : xm_lk kb_X2_readVibrations 33 = some (34, kX2_readVibrations_33) := rfl
theorem lb_X2_readVibrations_10 : xm_lk kb_X2_readVibrations 10 = none := rfl
theorem lb_X2_readVibrations_34 : xm_lk kb_X2_readVibrations 34 = none := rfl
theorem lb_X2_readVibrations_39 : xm_lk kb_X2_readVibrations 39 = none := rfl
theorem lb_X2_readVibrations_47 : xm_lk kb_X2_readVibrations 47 = none := rfl
theorem lb_X2_readVibrations_52 : xm_lk kb_X2_readVibrations 52 = none := rfl
theorem lb_X2_readVibrations_61 : xm_lk kb_X2_readVibrations 61 = none := rfl
theorem lb_X2_readVibrations_67 : xm_lk kb_X2_readVibrations 67 = none := rfl
theorem lb_X2_readVibrations_81 : xm_lk kb_X2_readVibrations 81 = none := rfl
theorem lb_X2_readVibrations_91 : xm_lk kb_X2_readVibrations 91 = none := rfl
theorem kc_X2_readVibrations : xm_oks cX2_readVibrations 2 5 3 false kb_X2_readVibrations := (List.forall_mem_cons.mpr ⟨bk_X2_readVibrations_0, (List.forall_mem_cons.mpr ⟨bk_X2_readVibrations_2, (List.forall_mem_cons.mpr ⟨bk_X2_readVibrations_15, (List.forall_mem_cons.mpr ⟨bk_X2_readVibrations_37, (List.forall_mem_cons.mpr ⟨bk_X2_readVibrations_38, (List.forall_mem_cons.mpr ⟨bk_X2_readVibrations_42, (List.forall_mem_cons.mpr ⟨bk_X2_readVibrations_50, (List.forall_mem_cons.mpr ⟨bk_X2_readVibrations_55, (List.forall_mem_cons.mpr ⟨bk_X2_readVibrations_64, (List.forall_mem_cons.mpr ⟨bk_X2_readVibrations_70, (List.forall_mem_cons.mpr ⟨bk_X2_readVibrations_84, (List.forall_mem_cons.mpr ⟨bk_X2_readVibrations_90, (List.forall_mem_cons.mpr ⟨bk_X2_readVibrations_33, (fun _ h => absurd h List.not_mem_nil)⟩)⟩)⟩)⟩)⟩)⟩)⟩)⟩)⟩)⟩)⟩)⟩)⟩)
def kb_X2_readPeriod : List (Nat × Nat × List xm_I) := [(0, 9, kX2_readPeriod_0), (12, 19, kX2_readPeriod_12), (22, 26, kX2_readPeriod_22), (29, 30, kX2_readPeriod_29)]
theorem lb_X2_readPeriod_0 : xm_lk kb_X2_readPeriod 0 = some (9, kX2_readPeriod_0) := rfl
theorem lb_X2_readPeriod_12 : xm_lk kb_X2_readPeriod 12 = some (19, kX2_readPeriod_12) := rfl
theorem lb_X2_readPeriod_22 : xm_lk kb_X2_readPeriod 22 = some (26, kX2_readPeriod_22) := rfl
theorem lb_X2_readPeriod_29 : xm_lk kb_X2_readPeriod 29 = some (30, kX2_readPeriod_29) := rfl
theorem lb_X2_readPeriod_9 : xm_lk kb_X2_readPeriod 9 = none := rfl
theorem lb_X2_readPeriod_19 : xm_lk kb_X2_readPeriod 19 = none := rfl
theorem lb_X2_readPeriod_26 : xm_lk kb_X2_readPeriod 26 = none := rfl
theorem lb_X2_readPeriod_30 : xm_lk kb_X2_readPeriod 30 = none := rfl
theorem kc_X2_readPeriod : xm_oks cX2_readPeriod 2 1 0 false kb_X2_readPeriod := (List.forall_mem_cons.mpr ⟨bk_X2_readPeriod_0, (List.forall_mem_cons.mpr ⟨bk_X2_readPeriod_12, (List.forall_mem_cons.mpr ⟨bk_X2_readPeriod_22, (List.forall_mem_cons.mpr ⟨bk_X2_readPeriod_29, (fun _ h => absurd h List.not_mem_nil)⟩)⟩)⟩)⟩)
def kb_X2_readGates : List (Nat × Nat × List xm_I) := [(0, 2, kX2_readGates_0), (2, 10, kX2_readGates_2), (15, 19, kX2_readGates_15), (22, 23, kX2_readGates_22), (26, 32, kX2_readGates_26), (35, 46, kX2_readGates_35), (49, 54, kX2_readGates_49), (57, 60, kX2_readGates_57), (63, 71, kX2_readGates_63), (74, 80, kX2_readGates_74), (80, 81, kX2_readGates_80)]
theorem lb_X2_readGates_0 : xm_lk kb_X2_readGates 0 = some (2, kX2_readGates_0) := rfl
theorem lb_X2_readGates_2 : xm_lk kb_X2_readGates 2 = some (10, kX2_readGates_2) := rfl
theorem lb_X2_readGates_15 : xm_lk kb_X2_readGates 15 = some (19, kX2_readGates_15) := rfl
theorem lb_X2_readGates_22 : xm_lk kb_X2_readGates 22 = some (23, kX2_readGates_22) := rfl
theorem lb_X2_readGates_26 : xm_lk kb_X2_readGates 26 = some (32, kX2_readGates_26) := rfl
theorem lb_X2_readGates_35 : xm_lk kb_X2_readGates 35 = some (46, kX2_readGates_35) := rfl
theorem lb_X2_readGates_49 : xm_lk kb_X2_readGates 49 = some (54, kX2_readGates_49) := rfl
theorem lb_X2_readGates_57 : xm_lk kb_X2_readGates 57 = some (60, kX2_readGates_57) := rfl
theorem lb_X2_readGates_63 : xm_lk kb_X2_readGates 63 = some (71, kX2_readGates_63) := rfl
theorem lb_X2_readGates_74 : xm_lk kb_X2_readGates 74 = some (80, kX2_readGates_74) := rfl
theorem lb_X2_readGates_80 : xm_lk kb_X2_readGates 80 = some (81, kX2_readGates_80) := rfl
theorem lb_X2_readGates_10 : xm_lk kb_X2_readGates 10 = none := rfl
theorem lb_X2_readGates_19 : xm_lk kb_X2_readGates 19 = none := rfl
theorem lb_X2_readGates_23 : xm_lk kb_X2_readGates 23 = none := rfl
theorem lb_X2_readGates_32 : xm_lk kb_X2_readGates 32 = none := rfl
theorem lb_X2_readGates_46 : xm_lk kb_X2_readGates 46 = none := rfl
theorem lb_X2_readGates_54 : xm_lk kb_X2_readGates 54 = none := rfl
theorem lb_X2_readGates_60 : xm_lk kb_X2_readGates 60 = none := rfl
theorem lb_X2_readGates_71 : xm_lk kb_X2_readGates 71 = none := rfl
theorem lb_X2_readGates_81 : xm_lk kb_X2_readGates 81 = none := rfl
theorem kc_X2_readGates : xm_oks cX2_readGates 2 5 3 false kb_X2_readGates := (List.forall_mem_cons.mpr ⟨bk_X2_readGates_0, (List.forall_mem_cons.mpr ⟨bk_X2_readGates_2, (List.forall_mem_cons.mpr ⟨bk_X2_readGates_15, (List.forall_mem_cons.mpr ⟨bk_X2_readGates_22, (List.forall_mem_cons.mpr ⟨bk_X2_readGates_26, (List.forall_mem_cons.mpr ⟨bk_X2_readGates_35, (List.forall_mem_cons.mpr ⟨bk_X2_readGates_49, (List.forall_mem_cons.mpr ⟨bk_X2_readGates_57, (List.forall_mem_cons.mpr ⟨bk_X2_readGates_63, (List.forall_mem_cons.mpr ⟨bk_X2_readGates_74, (List.forall_mem_cons.mpr ⟨bk_X2_readGates_80, (fun _ h => absurd h List.not_mem_nil)⟩)⟩)⟩)⟩)⟩)⟩)⟩)⟩)⟩)⟩)⟩)
def kb_X2_readKind : List (Nat × Nat × List xm_I) := [(0, 1, kX2_readKind_0), (4, 12, kX2_readKind_4), (15, 18, kX2_readKind_15), (18, 23, kX2_readKind_18), (26, 32, kX2_readKind_26), (35, 36, kX2_readKind_35), (39, 41, kX2_readKind_39)]
theorem lb_X2_readKind_0 : xm_lk kb_X2_readKind 0 = some (1, kX2_readKind_0) := rfl
theorem lb_X2_readKind_4 : xm_lk kb_X2_readKind 4 = some (12, kX2_readKind_4) := rfl
theorem lb_X2_readKind_15 : xm_lk kb_X2_readKind 15 = some (18, kX2_readKind_15) := rfl
theorem lb_X2_readKind_18 : xm_lk kb_X2_readKind 18 = some (23, kX2_readKind_18) := rfl
theorem lb_X2_readKind_26 : xm_lk kb_X2_readKind 26 = some (32, kX2_readKind_26) := rfl
theorem lb_X2_readKind_35 : xm_lk kb_X2_readKind 35 = some (36, kX2_readKind_35) := rfl
theorem lb_X2_readKind_39 : xm_lk kb_X2_readKind 39 = some (41, kX2_readKind_39) := rfl
theorem lb_X2_readKind_1 : xm_lk kb_X2_readKind 1 = none := rfl
theorem lb_X2_readKind_12 : xm_lk kb_X2_readKind 12 = none := rfl
theorem lb_X2_readKind_23 : xm_lk kb_X2_readKind 23 = none := rfl
theorem lb_X2_readKind_32 : xm_lk kb_X2_readKind 32 = none := rfl
theorem lb_X2_readKind_36 : xm_lk kb_X2_readKind 36 = none := rfl
theorem lb_X2_readKind_41 : xm_lk kb_X2_readKind 41 = none := rfl
theorem kc_X2_readKind : xm_oks cX2_readKind 2 2 0 false kb_X2_readKind := (List.forall_mem_cons.mpr ⟨bk_X2_readKind_0, (List.forall_mem_cons.mpr ⟨bk_X2_readKind_4, (List.forall_mem_cons.mpr ⟨bk_X2_readKind_15, (List.forall_mem_cons.mpr ⟨bk_X2_readKind_18, (List.forall_mem_cons.mpr ⟨bk_X2_readKind_26, (List.forall_mem_cons.mpr ⟨bk_X2_readKind_35, (List.forall_mem_cons.mpr ⟨bk_X2_readKind_39, (fun _ h => absurd h List.not_mem_nil)⟩)⟩)⟩)⟩)⟩)⟩)⟩)
def kb_X2_kindAt : List (Nat × Nat × List xm_I) := [(0, 1, kX2_kindAt_0), (6, 11, kX2_kindAt_6), (11, 12, kX2_kindAt_11), (17, 22, kX2_kindAt_17), (22, 23, kX2_kindAt_22), (28, 35, kX2_kindAt_28), (35, 36, kX2_kindAt_35), (36, 37, kX2_kindAt_36)]
theorem lb_X2_kindAt_0 : xm_lk kb_X2_kindAt 0 = some (1, kX2_kindAt_0) := rfl
theorem lb_X2_kindAt_6 : xm_lk kb_X2_kindAt 6 = some (11, kX2_kindAt_6) := rfl
theorem lb_X2_kindAt_11 : xm_lk kb_X2_kindAt 11 = some (12, kX2_kindAt_11) := rfl
theorem lb_X2_kindAt_17 : xm_lk kb_X2_kindAt 17 = some (22, kX2_kindAt_17) := rfl
theorem lb_X2_kindAt_22 : xm_lk kb_X2_kindAt 22 = some (23, kX2_kindAt_22) := rfl
theorem lb_X2_kindAt_28 : xm_lk kb_X2_kindAt 28 = some (35, kX2_kindAt_28) := rfl
theorem lb_X2_kindAt_35 : xm_lk kb_X2_kindAt 35 = some (36, kX2_kindAt_35) := rfl
theorem lb_X2_kindAt_36 : xm_lk kb_X2_kindAt 36 = some (37, kX2_kindAt_36) := rfl
theorem lb_X2_kindAt_1 : xm_lk kb_X2_kindAt 1 = none := rfl
theorem lb_X2_kindAt_12 : xm_lk kb_X2_kindAt 12 = none := rfl
theorem lb_X2_kindAt_23 : xm_lk kb_X2_kindAt 23 = none := rfl
theorem lb_X2_kindAt_37 : xm_lk kb_X2_kindAt 37 = none := rfl
theorem kc_X2_kindAt : xm_oks cX2_kindAt 2 1 0 false kb_X2_kindAt := (List.forall_mem_cons.mpr ⟨bk_X2_kindAt_0, (List.forall_mem_cons.mpr ⟨bk_X2_kindAt_6, (List.forall_mem_cons.mpr ⟨bk_X2_kindAt_11, (List.forall_mem_cons.mpr ⟨bk_X2_kindAt_17, (List.forall_mem_cons.mpr ⟨bk_X2_kindAt_22, (List.forall_mem_cons.mpr ⟨bk_X2_kindAt_28, (List.forall_mem_cons.mpr ⟨bk_X2_kindAt_35, (List.forall_mem_cons.mpr ⟨bk_X2_kindAt_36, (fun _ h => absurd h List.not_mem_nil)⟩)⟩)⟩)⟩)⟩)⟩)⟩)⟩)
def kb_X2_readSettings : List (Nat × Nat × List xm_I) := [(0, 2, kX2_readSettings_0), (2, 20, kX2_readSettings_2), (27, 35, kX2_readSettings_27), (38, 39, kX2_readSettings_38), (39, 51, kX2_readSettings_39), (55, 56, kX2_readSettings_55), (56, 68, kX2_readSettings_56), (72, 74, kX2_readSettings_72), (77, 78, kX2_readSettings_77), (81, 87, kX2_readSettings_81), (87, 88, kX2_readSettings_87), (20, 24, kX2_readSettings_20), (51, 52, kX2_readSettings_51), (68, 69, kX2_readSettings_68)]
theorem lb_X2_readSettings_0 : xm_lk kb_X2_readSettings 0 = some (2, kX2_readSettings_0) := rfl
theorem lb_X2_readSettings_2 : xm_lk kb_X2_readSettings 2 = some (20, kX2_readSettings_2) := rfl
theorem lb_X2_readSettings_27 : xm_lk kb_X2_readSettings 27 = some (35, kX2_readSettings_27) := rfl
theorem lb_X2_readSettings_38 : xm_lk kb_X2_readSettings 38 = some (39, kX2_readSettings_38) := rfl
theorem lb_X2_readSettings_39 : xm_lk kb_X2_readSettings 39 = some (51, kX2_readSettings_39) := rfl
theorem lb_X2_readSettings_55 : xm_lk kb_X2_readSettings 55 = some (56, kX2_readSettings_55) := rfl
theorem lb_X2_readSettings_56 : xm_lk kb_X2_readSettings 56 = some (68, kX2_readSettings_56) := rfl
theorem lb_X2_readSettings_72 : xm_lk kb_X2_readSettings 72 = some (74, kX2_readSettings_72) := rfl
theorem lb_X2_readSettings_77 : xm_lk kb_X2_readSettings 77 = some (78, kX2_readSettings_77) := rfl
theorem lb_X2_readSettings_81 : xm_lk kb_X2_readSettings 81 = some (87, kX2_readSettings_81) := rfl
theorem lb_X2_readSettings_87 : xm_lk kb_X2_readSettings 87 = some (88, kX2_readSettings_87) := rfl
theorem lb_X2_readSettings_20 : xm_lk kb_X2_readSettings 20 = some (24, kX2_readSettings_20) := rfl
theorem lb_X2_readSettings_51 : xm_lk kb_X2_readSettings 51 = some (52, kX2_readSettings_51) := rfl
theorem lb_X2_readSettings_68 : xm_lk kb_X2_readSettings 68 = some (69, kX2_readSettings_68) := rfl
theorem lb_X2_readSettings_24 : xm_lk kb_X2_readSettings 24 = none := rfl
theorem lb_X2_readSettings_35 : xm_lk kb_X2_readSettings 35 = none := rfl
theorem lb_X2_readSettings_52 : xm_lk kb_X2_readSettings 52 = none := rfl
theorem lb_X2_readSettings_69 : xm_lk kb_X2_readSettings 69 = none := rfl
theorem lb_X2_readSettings_74 : xm_lk kb_X2_readSettings 74 = none := rfl
theorem lb_X2_readSettings_78 : xm_lk kb_X2_readSettings 78 = none := rfl
theorem lb_X2_readSettings_88 : xm_lk kb_X2_readSettings 88 = none := rfl
theorem kc_X2_readSettings : xm_oks cX2_readSettings 2 3 3 false kb_X2_readSettings := (List.forall_mem_cons.mpr ⟨bk_X2_readSettings_0, (List.forall_mem_cons.mpr ⟨bk_X2_readSettings_2, (List.forall_mem_cons.mpr ⟨bk_X2_readSettings_27, (List.forall_mem_cons.mpr ⟨bk_X2_readSettings_38, (List.forall_mem_cons.mpr ⟨bk_X2_readSettings_39, (List.forall_mem_cons.mpr ⟨bk_X2_readSettings_55, (List.forall_mem_cons.mpr ⟨bk_X2_readSettings_56, (List.forall_mem_cons.mpr ⟨bk_X2_readSettings_72, (List.forall_mem_cons.mpr ⟨bk_X2_readSettings_77, (List.forall_mem_cons.mpr ⟨bk_X2_readSettings_81, (List.forall_mem_cons.mpr ⟨bk_X2_readSettings_87, (List.forall_mem_cons.mpr ⟨bk_X2_readSettings_20, (List.forall_mem_cons.mpr ⟨bk_X2_readSettings_51, (List.forall_mem_cons.mpr ⟨bk_X2_readSettings_68, (fun _ h => absurd h List.not_mem_nil)⟩)⟩)⟩)⟩)⟩)⟩)⟩)⟩)⟩)⟩)⟩)⟩)⟩)⟩)
def kb_X2_settingAt : List (Nat × Nat × List xm_I) := [(0, 1, kX2_settingAt_0), (6, 11, kX2_settingAt_6), (11, 12, kX2_settingAt_11), (17, 22, kX2_settingAt_17), (22, 23, kX2_settingAt_22), (28, 33, kX2_settingAt_28), (33, 34, kX2_settingAt_33), (39, 44, kX2_settingAt_39), (44, 45, kX2_settingAt_44), (50, 55, kX2_settingAt_50), (55, 56, kX2_settingAt_55), (61, 66, kX2_settingAt_61), (66, 67, kX2_settingAt_66), (72, 78, kX2_settingAt_72), (78, 79, kX2_settingAt_78), (84, 92, kX2_settingAt_84), (92, 93, kX2_settingAt_92), (93, 94, kX2_settingAt_93)]
theorem lb_X2_settingAt_0 : xm_lk kb_X2_settingAt 0 = some (1, kX2_settingAt_0) := rfl
theorem lb_X2_settingAt_6 : xm_lk kb_X2_settingAt 6 = some (11, kX2_settingAt_6) := rfl
theorem lb_X2_settingAt_11 : xm_lk kb_X2_settingAt 11 = some (12, kX2_settingAt_11) := rfl
theorem lb_X2_settingAt_17 : xm_lk kb_X2_settingAt 17 = some (22, kX2_settingAt_17) := rfl
theorem lb_X2_settingAt_22 : xm_lk kb_X2_settingAt 22 = some (23, kX2_settingAt_22) := rfl
theorem lb_X2_settingAt_28 : xm_lk kb_X2_settingAt 28 = some (33, kX2_settingAt_28) := rfl
theorem lb_X2_settingAt_33 : xm_lk kb_X2_settingAt 33 = some (34, kX2_settingAt_33) := rfl
theorem lb_X2_settingAt_39 : xm_lk kb_X2_settingAt 39 = some (44, kX2_settingAt_39) := rfl
theorem lb_X2_settingAt_44 : xm_lk kb_X2_settingAt 44 = some (45, kX2_settingAt_44) := rfl
theorem lb_X2_settingAt_50 : xm_lk kb_X2_settingAt 50 = some (55, kX2_settingAt_50) := rfl
theorem lb_X2_settingAt_55 : xm_lk kb_X2_settingAt 55 = some (56, kX2_settingAt_55) := rfl
theorem lb_X2_settingAt_61 : xm_lk kb_X2_settingAt 61 = some (66, kX2_settingAt_61) := rfl
theorem lb_X2_settingAt_66 : xm_lk kb_X2_settingAt 66 = some (67, kX2_settingAt_66) := rfl
theorem lb_X2_settingAt_72 : xm_lk kb_X2_settingAt 72 = some (78, kX2_settingAt_72) := rfl
theorem lb_X2_settingAt_78 : xm_lk kb_X2_settingAt 78 = some (79, kX2_settingAt_78) := rfl
theorem lb_X2_settingAt_84 : xm_lk kb_X2_settingAt 84 = some (92, kX2_settingAt_84) := rfl
theorem lb_X2_settingAt_92 : xm_lk kb_X2_settingAt 92 = some (93, kX2_settingAt_92) := rfl
theorem lb_X2_settingAt_93 : xm_lk kb_X2_settingAt 93 = some (94, kX2_settingAt_93) := rfl
theorem lb_X2_settingAt_1 : xm_lk kb_X2_settingAt 1 = none := rfl
theorem lb_X2_settingAt_12 : xm_lk kb_X2_settingAt 12 = none := rfl
theorem lb_X2_settingAt_23 : xm_lk kb_X2_settingAt 23 = none := rfl
theorem lb_X2_settingAt_34 : xm_lk kb_X2_settingAt 34 = none := rfl
theorem lb_X2_settingAt_45 : xm_lk kb_X2_settingAt 45 = none := rfl
theorem lb_X2_settingAt_56 : xm_lk kb_X2_settingAt 56 = none := rfl
theorem lb_X2_settingAt_67 : xm_lk kb_X2_settingAt 67 = none := rfl
theorem lb_X2_settingAt_79 : xm_lk kb_X2_settingAt 79 = none := rfl
theorem lb_X2_settingAt_94 : xm_lk kb_X2_settingAt 94 = none := rfl
theorem kc_X2_settingAt : xm_oks cX2_settingAt 2 1 0 false kb_X2_settingAt := (List.forall_mem_cons.mpr ⟨bk_X2_settingAt_0, (List.forall_mem_cons.mpr ⟨bk_X2_settingAt_6, (List.forall_mem_cons.mpr ⟨bk_X2_settingAt_11, (List.forall_mem_cons.mpr ⟨bk_X2_settingAt_17, (List.forall_mem_cons.mpr ⟨bk_X2_settingAt_22, (List.forall_mem_cons.mpr ⟨bk_X2_settingAt_28, (List.forall_mem_cons.mpr ⟨bk_X2_settingAt_33, (List.forall_mem_cons.mpr ⟨bk_X2_settingAt_39, (List.forall_mem_cons.mpr ⟨bk_X2_settingAt_44, (List.forall_mem_cons.mpr ⟨bk_X2_settingAt_50, (List.forall_mem_cons.mpr ⟨bk_X2_settingAt_55, (List.forall_mem_cons.mpr ⟨bk_X2_settingAt_61, (List.forall_mem_cons.mpr ⟨bk_X2_settingAt_66, (List.forall_mem_cons.mpr ⟨bk_X2_settingAt_72, (List.forall_mem_cons.mpr ⟨bk_X2_settingAt_78, (List.forall_mem_cons.mpr ⟨bk_X2_settingAt_84, (List.forall_mem_cons.mpr ⟨bk_X2_settingAt_92, (List.forall_mem_cons.mpr ⟨bk_X2_settingAt_93, (fun _ h => absurd h List.not_mem_nil)⟩)⟩)⟩)⟩)⟩)⟩)⟩)⟩)⟩)⟩)⟩)⟩)⟩)⟩)⟩)⟩)⟩)⟩)
def kb_X2_readSetting : List (Nat × Nat × List xm_I) := [(0, 1, kX2_readSetting_0), (44, 53, kX2_readSetting_44), (56, 74, kX2_readSetting_56), (77, 83, kX2_readSetting_77), (83, 91, kX2_readSetting_83), (94, 100, kX2_readSetting_94), (100, 101, kX2_readSetting_100), (104, 107, kX2_readSetting_104), (107, 116, kX2_readSetting_107), (119, 125, kX2_readSetting_119), (125, 133, kX2_readSetting_125), (136, 142, kX2_readSetting_136), (142, 150, kX2_readSetting_142), (153, 165, kX2_readSetting_153), (168, 174, kX2_readSetting_168), (174, 182, kX2_readSetting_174), (185, 191, kX2_readSetting_185), (191, 199, kX2_readSetting_191), (202, 205, kX2_readSetting_202), (205, 206, kX2_readSetting_205)]
theorem lb_X2_readSetting_0 : xm_lk kb_X2_readSetting 0 = some (1, kX2_readSetting_0) := rfl
theorem lb_X2_readSetting_44 : xm_lk kb_X2_readSetting 44 = some (53, kX2_readSetting_44) := rfl
theorem lb_X2_readSetting_56 : xm_lk kb_X2_readSetting 56 = some (74, kX2_readSetting_56) := rfl
theorem lb_X2_readSetting_77 : xm_lk kb_X2_readSetting 77 = some (83, kX2_readSetting_77) := rfl
theorem lb_X2_readSetting_83 : xm_lk kb_X2_readSetting 83 = some (91, kX2_readSetting_83) := rfl
theorem lb_X2_readSetting_94 : xm_lk kb_X2_readSetting 94 = some (100, kX2_readSetting_94) := rfl
theorem lb_X2_readSetting_100 : xm_lk kb_X2_readSetting 100 = some (101, kX2_readSetting_100) := rfl
theorem lb_X2_readSetting_104 : xm_lk kb_X2_readSetting 104 = some (107, kX2_readSetting_104) := rfl
theorem lb_X2_readSetting_107 : xm_lk kb_X2_readSetting 107 = some (116, kX2_readSetting_107) := rfl
theorem lb_X2_readSetting_119 : xm_lk kb_X2_readSetting 119 = some (125, kX2_readSetting_119) := rfl
theorem lb_X2_readSetting_125 : xm_lk kb_X2_readSetting 125 = some (133, kX2_readSetting_125) := rfl
theorem lb_X2_readSetting_136 : xm_lk kb_X2_readSetting 136 = some (142, kX2_readSetting_136) := rfl
theorem lb_X2_readSetting_142 : xm_lk kb_X2_readSetting 142 = some (150, kX2_readSetting_142) := rfl
theorem lb_X2_readSetting_153 : xm_lk kb_X2_readSetting 153 = some (165, kX2_readSetting_153) := rfl
theorem lb_X2_readSetting_168 : xm_lk kb_X2_readSetting 168 = some (174, kX2_readSetting_168) := rfl
theorem lb_X2_readSetting_174 : xm_lk kb_X2_readSetting 174 = some (182, kX2_readSetting_174) := rfl
theorem lb_X2_readSetting_185 : xm_lk kb_X2_readSetting 185 = some (191, kX2_readSetting_185) := rfl
theorem lb_X2_readSetting_191 : xm_lk kb_X2_readSetting 191 = some (199, kX2_readSetting_191) := rfl
theorem lb_X2_readSetting_202 : xm_lk kb_X2_readSetting 202 = some (205, kX2_readSetting_202) := rfl
theorem lb_X2_readSetting_205 : xm_lk kb_X2_readSetting 205 = some (206, kX2_readSetting_205) := rfl
theorem lb_X2_readSetting_1 : xm_lk kb_X2_readSetting 1 = none := rfl
theorem lb_X2_readSetting_53 : xm_lk kb_X2_readSetting 53 = none := rfl
theorem lb_X2_readSetting_74 : xm_lk kb_X2_readSetting 74 = none := rfl
theorem lb_X2_readSetting_91 : xm_lk kb_X2_readSetting 91 = none := rfl
theorem lb_X2_readSetting_101 : xm_lk kb_X2_readSetting 101 = none := rfl
theorem lb_X2_readSetting_116 : xm_lk kb_X2_readSetting 116 = none := rfl
theorem lb_X2_readSetting_133 : xm_lk kb_X2_readSetting 133 = none := rfl
theorem lb_X2_readSetting_150 : xm_lk kb_X2_readSetting 150 = none := rfl
theorem lb_X2_readSetting_165 : xm_lk kb_X2_readSetting 165 = none := rfl
theorem lb_X2_readSetting_182 : xm_lk kb_X2_readSetting 182 = none := rfl
theorem lb_X2_readSetting_199 : xm_lk kb_X2_readSetting 199 = none := rfl
theorem lb_X2_readSetting_206 : xm_lk kb_X2_readSetting 206 = none := rfl
theorem kc_X2_readSetting : xm_oks cX2_readSetting 2 2 3 false kb_X2_readSetting := (List.forall_mem_cons.mpr ⟨bk_X2_readSetting_0, (List.forall_mem_cons.mpr ⟨bk_X2_readSetting_44, (List.forall_mem_cons.mpr ⟨bk_X2_readSetting_56, (List.forall_mem_cons.mpr ⟨bk_X2_readSetting_77, (List.forall_mem_cons.mpr ⟨bk_X2_readSetting_83, (List.forall_mem_cons.mpr ⟨bk_X2_readSetting_94, (List.forall_mem_cons.mpr ⟨bk_X2_readSetting_100, (List.forall_mem_cons.mpr ⟨bk_X2_readSetting_104, (List.forall_mem_cons.mpr ⟨bk_X2_readSetting_107, (List.forall_mem_cons.mpr ⟨bk_X2_readSetting_119, (List.forall_mem_cons.mpr ⟨bk_X2_readSetting_125, (List.forall_mem_cons.mpr ⟨bk_X2_readSetting_136, (List.forall_mem_cons.mpr ⟨bk_X2_readSetting_142, (List.forall_mem_cons.mpr ⟨bk_X2_readSetting_153, (List.forall_mem_cons.mpr ⟨bk_X2_readSetting_168, (List.forall_mem_cons.mpr ⟨bk_X2_readSetting_174, (List.forall_mem_cons.mpr ⟨bk_X2_readSetting_185, (List.forall_mem_cons.mpr ⟨bk_X2_readSetting_191, (List.forall_mem_cons.mpr ⟨bk_X2_readSetting_202, (List.forall_mem_cons.mpr ⟨bk_X2_readSetting_205, (fun _ h => absurd h List.not_mem_nil)⟩)⟩)⟩)⟩)⟩)⟩)⟩)⟩)⟩)⟩)⟩)⟩)⟩)⟩)⟩)⟩)⟩)⟩)⟩)⟩)
def kb_X2_readNotch : List (Nat × Nat × List xm_I) := [(0, 5, kX2_readNotch_0), (10, 24, kX2_readNotch_10), (29, 34, kX2_readNotch_29), (37, 38, kX2_readNotch_37), (41, 42, kX2_readNotch_41)]
theorem lb_X2_readNotch_0 : xm_lk kb_X2_readNotch 0 = some (5, kX2_readNotch_0) := rfl
theorem lb_X2_readNotch_10 : xm_lk kb_X2_readNotch 10 = some (24, kX2_readNotch_10) := rfl
theorem lb_X2_readNotch_29 : xm_lk kb_X2_readNotch 29 = some (34, kX2_readNotch_29) := rfl
theorem lb_X2_readNotch_37 : xm_lk kb_X2_readNotch 37 = some (38, kX2_readNotch_37) := rfl
theorem lb_X2_readNotch_41 : xm_lk kb_X2_readNotch 41 = some (42, kX2_readNotch_41) := rfl
theorem lb_X2_readNotch_5 : xm_lk kb_X2_readNotch 5 = none := rfl
theorem lb_X2_readNotch_24 : xm_lk kb_X2_readNotch 24 = none := rfl
theorem lb_X2_readNotch_34 : xm_lk kb_X2_readNotch 34 = none := rfl
theorem lb_X2_readNotch_38 : xm_lk kb_X2_readNotch 38 = none := rfl
theorem lb_X2_readNotch_42 : xm_lk kb_X2_readNotch 42 = none := rfl
theorem kc_X2_readNotch : xm_oks cX2_readNotch 2 1 3 false kb_X2_readNotch := (List.forall_mem_cons.mpr ⟨bk_X2_readNotch_0, (List.forall_mem_cons.mpr ⟨bk_X2_readNotch_10, (List.forall_mem_cons.mpr ⟨bk_X2_readNotch_29, (List.forall_mem_cons.mpr ⟨bk_X2_readNotch_37, (List.forall_mem_cons.mpr ⟨bk_X2_readNotch_41, (fun _ h => absurd h List.not_mem_nil)⟩)⟩)⟩)⟩)⟩)
def kb_X2_readWord : List (Nat × Nat × List xm_I) := [(0, 2, kX2_readWord_0), (5, 10, kX2_readWord_5), (13, 14, kX2_readWord_13), (17, 18, kX2_readWord_17)]
theorem lb_X2_readWord_0 : xm_lk kb_X2_readWord 0 = some (2, kX2_readWord_0) := rfl
theorem lb_X2_readWord_5 : xm_lk kb_X2_readWord 5 = some (10, kX2_readWord_5) := rfl
theorem lb_X2_readWord_13 : xm_lk kb_X2_readWord 13 = some (14, kX2_readWord_13) := rfl
theorem lb_X2_readWord_17 : xm_lk kb_X2_readWord 17 = some (18, kX2_readWord_17) := rfl
theorem lb_X2_readWord_2 : xm_lk kb_X2_readWord 2 = none := rfl
theorem lb_X2_readWord_10 : xm_lk kb_X2_readWord 10 = none := rfl
theorem lb_X2_readWord_14 : xm_lk kb_X2_readWord 14 = none := rfl
theorem lb_X2_readWord_18 : xm_lk kb_X2_readWord 18 = none := rfl
theorem kc_X2_readWord : xm_oks cX2_readWord 2 2 3 false kb_X2_readWord := (List.forall_mem_cons.mpr ⟨bk_X2_readWord_0, (List.forall_mem_cons.mpr ⟨bk_X2_readWord_5, (List.forall_mem_cons.mpr ⟨bk_X2_readWord_13, (List.forall_mem_cons.mpr ⟨bk_X2_readWord_17, (fun _ h => absurd h List.not_mem_nil)⟩)⟩)⟩)⟩)
def kb_X2_readSemicolon : List (Nat × Nat × List xm_I) := [(0, 10, kX2_readSemicolon_0), (13, 14, kX2_readSemicolon_13), (17, 18, kX2_readSemicolon_17)]
theorem lb_X2_readSemicolon_0 : xm_lk kb_X2_readSemicolon 0 = some (10, kX2_readSemicolon_0) := rfl
theorem lb_X2_readSemicolon_13 : xm_lk kb_X2_readSemicolon 13 = some (14, kX2_readSemicolon_13) := rfl
theorem lb_X2_readSemicolon_17 : xm_lk kb_X2_readSemicolon 17 = some (18, kX2_readSemicolon_17) := rfl
theorem lb_X2_readSemicolon_10 : xm_lk kb_X2_readSemicolon 10 = none := rfl
theorem lb_X2_readSemicolon_14 : xm_lk kb_X2_readSemicolon 14 = none := rfl
theorem lb_X2_readSemicolon_18 : xm_lk kb_X2_readSemicolon 18 = none := rfl
theorem kc_X2_readSemicolon : xm_oks cX2_readSemicolon 2 1 3 false kb_X2_readSemicolon := (List.forall_mem_cons.mpr ⟨bk_X2_readSemicolon_0, (List.forall_mem_cons.mpr ⟨bk_X2_readSemicolon_13, (List.forall_mem_cons.mpr ⟨bk_X2_readSemicolon_17, (fun _ h => absurd h List.not_mem_nil)⟩)⟩)⟩)
def kb_X2_readNumber : List (Nat × Nat × List xm_I) := [(0, 12, kX2_readNumber_0), (15, 18, kX2_readNumber_15), (18, 19, kX2_readNumber_18), (22, 27, kX2_readNumber_22), (30, 34, kX2_readNumber_30), (34, 36, kX2_readNumber_34), (39, 42, kX2_readNumber_39), (42, 43, kX2_readNumber_42), (46, 47, kX2_readNumber_46), (47, 48, kX2_readNumber_47), (51, 53, kX2_readNumber_51)]
theorem lb_X2_readNumber_0 : xm_lk kb_X2_readNumber 0 = some (12, kX2_readNumber_0) := rfl
theorem lb_X2_readNumber_15 : xm_lk kb_X2_readNumber 15 = some (18, kX2_readNumber_15) := rfl
theorem lb_X2_readNumber_18 : xm_lk kb_X2_readNumber 18 = some (19, kX2_readNumber_18) := rfl
theorem lb_X2_readNumber_22 : xm_lk kb_X2_readNumber 22 = some (27, kX2_readNumber_22) := rfl
theorem lb_X2_readNumber_30 : xm_lk kb_X2_readNumber 30 = some (34, kX2_readNumber_30) := rfl
theorem lb_X2_readNumber_34 : xm_lk kb_X2_readNumber 34 = some (36, kX2_readNumber_34) := rfl
theorem lb_X2_readNumber_39 : xm_lk kb_X2_readNumber 39 = some (42, kX2_readNumber_39) := rfl
theorem lb_X2_readNumber_42 : xm_lk kb_X2_readNumber 42 = some (43, kX2_readNumber_42) := rfl
theorem lb_X2_readNumber_46 : xm_lk kb_X2_readNumber 46 = some (47, kX2_readNumber_46) := rfl
theorem lb_X2_readNumber_47 : xm_lk kb_X2_readNumber 47 = some (48, kX2_readNumber_47) := rfl
theorem lb_X2_readNumber_51 : xm_lk kb_X2_readNumber 51 = some (53, kX2_readNumber_51) := rfl
theorem lb_X2_readNumber_12 : xm_lk kb_X2_readNumber 12 = none := rfl
theorem lb_X2_readNumber_19 : xm_lk kb_X2_readNumber 19 = none := rfl
theorem lb_X2_readNumber_27 : xm_lk kb_X2_readNumber 27 = none := rfl
theorem lb_X2_readNumber_36 : xm_lk kb_X2_readNumber 36 = none := rfl
theorem lb_X2_readNumber_43 : xm_lk kb_X2_readNumber 43 = none := rfl
theorem lb_X2_readNumber_48 : xm_lk kb_X2_readNumber 48 = none := rfl
theorem lb_X2_readNumber_53 : xm_lk kb_X2_readNumber 53 = none := rfl
theorem kc_X2_readNumber : xm_oks cX2_readNumber 2 4 0 false kb_X2_readNumber := (List.forall_mem_cons.mpr ⟨bk_X2_readNumber_0, (List.forall_mem_cons.mpr ⟨bk_X2_readNumber_15, (List.forall_mem_cons.mpr ⟨bk_X2_readNumber_18, (List.forall_mem_cons.mpr ⟨bk_X2_readNumber_22, (List.forall_mem_cons.mpr ⟨bk_X2_readNumber_30, (List.forall_mem_cons.mpr ⟨bk_X2_readNumber_34, (List.forall_mem_cons.mpr ⟨bk_X2_readNumber_39, (List.forall_mem_cons.mpr ⟨bk_X2_readNumber_42, (List.forall_mem_cons.mpr ⟨bk_X2_readNumber_46, (List.forall_mem_cons.mpr ⟨bk_X2_readNumber_47, (List.forall_mem_cons.mpr ⟨bk_X2_readNumber_51, (fun _ h => absurd h List.not_mem_nil)⟩)⟩)⟩)⟩)⟩)⟩)⟩)⟩)⟩)⟩)⟩)
def kb_X2_fail : List (Nat × Nat × List xm_I) := [(0, 14, kX2_fail_0), (20, 21, kX2_fail_20), (14, 20, kX2_fail_14)]
theorem lb_X2_fail_0 : xm_lk kb_X2_fail 0 = some (14, kX2_fail_0) := rfl
theorem lb_X2_fail_20 : xm_lk kb_X2_fail 20 = some (21, kX2_fail_20) := rfl
theorem lb_X2_fail_14 : xm_lk kb_X2_fail 14 = some (20, kX2_fail_14) := rfl
theorem lb_X2_fail_21 : xm_lk kb_X2_fail 21 = none := rfl
theorem kc_X2_fail : xm_oks cX2_fail 2 2 3 false kb_X2_fail := (List.forall_mem_cons.mpr ⟨bk_X2_fail_0, (List.forall_mem_cons.mpr ⟨bk_X2_fail_20, (List.forall_mem_cons.mpr ⟨bk_X2_fail_14, (fun _ h => absurd h List.not_mem_nil)⟩)⟩)⟩)
def kb_X2_isAt : List (Nat × Nat × List xm_I) := [(0, 16, kX2_isAt_0), (28, 31, kX2_isAt_28), (31, 33, kX2_isAt_31), (33, 35, kX2_isAt_33), (35, 37, kX2_isAt_35), (40, 50, kX2_isAt_40), (53, 55, kX2_isAt_53), (58, 63, kX2_isAt_58), (63, 69, kX2_isAt_63), (69, 71, kX2_isAt_69), (16, 25, kX2_isAt_16)]
theorem lb_X2_isAt_0 : xm_lk kb_X2_isAt 0 = some (16, kX2_isAt_0) := rfl
theorem lb_X2_isAt_28 : xm_lk kb_X2_isAt 28 = some (31, kX2_isAt_28) := rfl
theorem lb_X2_isAt_31 : xm_lk kb_X2_isAt 31 = some (33, kX2_isAt_31) := rfl
theorem lb_X2_isAt_33 : xm_lk kb_X2_isAt 33 = some (35, kX2_isAt_33) := rfl
theorem lb_X2_isAt_35 : xm_lk kb_X2_isAt 35 = some (37, kX2_isAt_35) := rfl
theorem lb_X2_isAt_40 : xm_lk kb_X2_isAt 40 = some (50, kX2_isAt_40) := rfl
theorem lb_X2_isAt_53 : xm_lk kb_X2_isAt 53 = some (55, kX2_isAt_53) := rfl
theorem lb_X2_isAt_58 : xm_lk kb_X2_isAt 58 = some (63, kX2_isAt_58) := rfl
theorem lb_X2_isAt_63 : xm_lk kb_X2_isAt 63 = some (69, kX2_isAt_63) := rfl
theorem lb_X2_isAt_69 : xm_lk kb_X2_isAt 69 = some (71, kX2_isAt_69) := rfl
theorem lb_X2_isAt_16 : xm_lk kb_X2_isAt 16 = some (25, kX2_isAt_16) := rfl
theorem lb_X2_isAt_25 : xm_lk kb_X2_isAt 25 = none := rfl
theorem lb_X2_isAt_37 : xm_lk kb_X2_isAt 37 = none := rfl
theorem lb_X2_isAt_50 : xm_lk kb_X2_isAt 50 = none := rfl
theorem lb_X2_isAt_55 : xm_lk kb_X2_isAt 55 = none := rfl
theorem lb_X2_isAt_71 : xm_lk kb_X2_isAt 71 = none := rfl
theorem kc_X2_isAt : xm_oks cX2_isAt 2 3 1 false kb_X2_isAt := (List.forall_mem_cons.mpr ⟨bk_X2_isAt_0, (List.forall_mem_cons.mpr ⟨bk_X2_isAt_28, (List.forall_mem_cons.mpr ⟨bk_X2_isAt_31, (List.forall_mem_cons.mpr ⟨bk_X2_isAt_33, (List.forall_mem_cons.mpr ⟨bk_X2_isAt_35, (List.forall_mem_cons.mpr ⟨bk_X2_isAt_40, (List.forall_mem_cons.mpr ⟨bk_X2_isAt_53, (List.forall_mem_cons.mpr ⟨bk_X2_isAt_58, (List.forall_mem_cons.mpr ⟨bk_X2_isAt_63, (List.forall_mem_cons.mpr ⟨bk_X2_isAt_69, (List.forall_mem_cons.mpr ⟨bk_X2_isAt_16, (fun _ h => absurd h List.not_mem_nil)⟩)⟩)⟩)⟩)⟩)⟩)⟩)⟩)⟩)⟩)⟩)
def kb_X2_value : List (Nat × Nat × List xm_I) := [(0, 7, kX2_value_0), (7, 20, kX2_value_7), (24, 35, kX2_value_24), (35, 37, kX2_value_35), (20, 21, kX2_value_20)]
theorem lb_X2_value_0 : xm_lk kb_X2_value 0 = some (7, kX2_value_0) := rfl
theorem lb_X2_value_7 : xm_lk kb_X2_value 7 = some (20, kX2_value_7) := rfl
theorem lb_X2_value_24 : xm_lk kb_X2_value 24 = some (35, kX2_value_24) := rfl
theorem lb_X2_value_35 : xm_lk kb_X2_value 35 = some (37, kX2_value_35) := rfl
theorem lb_X2_value_20 : xm_lk kb_X2_value 20 = some (21, kX2_value_20) := rfl
theorem lb_X2_value_21 : xm_lk kb_X2_value 21 = none := rfl
theorem lb_X2_value_37 : xm_lk kb_X2_value 37 = none := rfl
theorem kc_X2_value : xm_oks cX2_value 2 3 0 false kb_X2_value := (List.forall_mem_cons.mpr ⟨bk_X2_value_0, (List.forall_mem_cons.mpr ⟨bk_X2_value_7, (List.forall_mem_cons.mpr ⟨bk_X2_value_24, (List.forall_mem_cons.mpr ⟨bk_X2_value_35, (List.forall_mem_cons.mpr ⟨bk_X2_value_20, (fun _ h => absurd h List.not_mem_nil)⟩)⟩)⟩)⟩)⟩)
def kb_X2_advance : List (Nat × Nat × List xm_I) := [(0, 8, kX2_advance_0), (8, 16, kX2_advance_8), (16, 32, kX2_advance_16), (38, 54, kX2_advance_38), (54, 70, kX2_advance_54), (81, 86, kX2_advance_81), (92, 100, kX2_advance_92), (100, 116, kX2_advance_100), (122, 138, kX2_advance_122), (138, 143, kX2_advance_138), (149, 152, kX2_advance_149), (152, 168, kX2_advance_152), (174, 190, kX2_advance_174), (190, 204, kX2_advance_190), (208, 209, kX2_advance_208), (209, 215, kX2_advance_209), (215, 221, kX2_advance_215), (224, 233, kX2_advance_224), (233, 234, kX2_advance_233), (234, 247, kX2_advance_234), (247, 248, kX2_advance_247), (70, 81, kX2_advance_70), (204, 208, kX2_advance_204)]
theorem lb_X2_advance_0 : xm_lk kb_X2_advance 0 = some (8, kX2_advance_0) := rfl
theorem lb_X2_advance_8 : xm_lk kb_X2_advance 8 = some (16, kX2_advance_8) := rfl
theorem lb_X2_advance_16 : xm_lk kb_X2_advance 16 = some (32, kX2_advance_16) := rfl
theorem lb_X2_advance_38 : xm_lk kb_X2_advance 38 = some (54, kX2_advance_38) := rfl
theorem lb_X2_advance_54 : xm_lk kb_X2_advance 54 = some (70, kX2_advance_54) := rfl
theorem lb_X2_advance_81 : xm_lk kb_X2_advance 81 = some (86, kX2_advance_81) := rfl
theorem lb_X2_advance_92 : xm_lk kb_X2_advance 92 = some (100, kX2_advance_92) := rfl
theorem lb_X2_advance_100 : xm_lk kb_X2_advance 100 = some (116, kX2_advance_100) := rfl
theorem lb_X2_advance_122 : xm_lk kb_X2_advance 122 = some (138, kX2_advance_122) := rfl
theorem lb_X2_advance_138 : xm_lk kb_X2_advance 138 = some (143, kX2_advance_138) := rfl
theorem lb_X2_advance_149 : xm_lk kb_X2_advance 149 = some (152, kX2_advance_149) := rfl
theorem lb_X2_advance_152 : xm_lk kb_X2_advance 152 = some (168, kX2_advance_152) := rfl
theorem lb_X2_advance_174 : xm_lk kb_X2_advance 174 = some (190, kX2_advance_174) := rfl
theorem lb_X2_advance_190 : xm_lk kb_X2_advance 190 = some (204, kX2_advance_190) := rfl
theorem lb_X2_advance_208 : xm_lk kb_X2_advance 208 = some (209, kX2_advance_208) := rfl
theorem lb_X2_advance_209 : xm_lk kb_X2_advance 209 = some (215, kX2_advance_209) := rfl
theorem lb_X2_advance_215 : xm_lk kb_X2_advance 215 = some (221, kX2_advance_215) := rfl
theorem lb_X2_advance_224 : xm_lk kb_X2_advance 224 = some (233, kX2_advance_224) := rfl
theorem lb_X2_advance_233 : xm_lk kb_X2_advance 233 = some (234, kX2_advance_233) := rfl
theorem lb_X2_advance_234 : xm_lk kb_X2_advance 234 = some (247, kX2_advance_234) := rfl
theorem lb_X2_advance_247 : xm_lk kb_X2_advance 247 = some (248, kX2_advance_247) := rfl
theorem lb_X2_advance_70 : xm_lk kb_X2_advance 70 = some (81, kX2_advance_70) := rfl
theorem lb_X2_advance_204 : xm_lk kb_X2_advance 204 = some (208, kX2_advance_204) := rfl
theorem lb_X2_advance_32 : xm_lk kb_X2_advance 32 = none := rfl
theorem lb_X2_advance_86 : xm_lk kb_X2_advance 86 = none := rfl
theorem lb_X2_advance_116 : xm_lk kb_X2_advance 116 = none := rfl
theorem lb_X2_advance_143 : xm_lk kb_X2_advance 143 = none := rfl
theorem lb_X2_advance_168 : xm_lk kb_X2_advance 168 = none := rfl
theorem lb_X2_advance_221 : xm_lk kb_X2_advance 221 = none := rfl
theorem lb_X2_advance_248 : xm_lk kb_X2_advance 248 = none := rfl
theorem kc_X2_advance : xm_oks cX2_advance 2 1 3 false kb_X2_advance := (List.forall_mem_cons.mpr ⟨bk_X2_advance_0, (List.forall_mem_cons.mpr ⟨bk_X2_advance_8, (List.forall_mem_cons.mpr ⟨bk_X2_advance_16, (List.forall_mem_cons.mpr ⟨bk_X2_advance_38, (List.forall_mem_cons.mpr ⟨bk_X2_advance_54, (List.forall_mem_cons.mpr ⟨bk_X2_advance_81, (List.forall_mem_cons.mpr ⟨bk_X2_advance_92, (List.forall_mem_cons.mpr ⟨bk_X2_advance_100, (List.forall_mem_cons.mpr ⟨bk_X2_advance_122, (List.forall_mem_cons.mpr ⟨bk_X2_advance_138, (List.forall_mem_cons.mpr ⟨bk_X2_advance_149, (List.forall_mem_cons.mpr ⟨bk_X2_advance_152, (List.forall_mem_cons.mpr ⟨bk_X2_advance_174, (List.forall_mem_cons.mpr ⟨bk_X2_advance_190, (List.forall_mem_cons.mpr ⟨bk_X2_advance_208, (List.forall_mem_cons.mpr ⟨bk_X2_advance_209, (List.forall_mem_cons.mpr ⟨bk_X2_advance_215, (List.forall_mem_cons.mpr ⟨bk_X2_advance_224, (List.forall_mem_cons.mpr ⟨bk_X2_advance_233, (List.forall_mem_cons.mpr ⟨bk_X2_advance_234, (List.forall_mem_cons.mpr ⟨bk_X2_advance_247, (List.forall_mem_cons.mpr ⟨bk_X2_advance_70, (List.forall_mem_cons.mpr ⟨bk_X2_advance_204, (fun _ h => absurd h List.not_mem_nil)⟩)⟩)⟩)⟩)⟩)⟩)⟩)⟩)⟩)⟩)⟩)⟩)⟩)⟩)⟩)⟩)⟩)⟩)⟩)⟩)⟩)⟩)⟩)
def kb_X2_byteAt : List (Nat × Nat × List xm_I) := [(0, 16, kX2_byteAt_0), (21, 22, kX2_byteAt_21), (22, 23, kX2_byteAt_22), (16, 21, kX2_byteAt_16)]
theorem lb_X2_byteAt_0 : xm_lk kb_X2_byteAt 0 = some (16, kX2_byteAt_0) := rfl
theorem lb_X2_byteAt_21 : xm_lk kb_X2_byteAt 21 = some (22, kX2_byteAt_21) := rfl
theorem lb_X2_byteAt_22 : xm_lk kb_X2_byteAt 22 = some (23, kX2_byteAt_22) := rfl
theorem lb_X2_byteAt_16 : xm_lk kb_X2_byteAt 16 = some (21, kX2_byteAt_16) := rfl
theorem lb_X2_byteAt_23 : xm_lk kb_X2_byteAt 23 = none := rfl
theorem kc_X2_byteAt : xm_oks cX2_byteAt 2 2 0 false kb_X2_byteAt := (List.forall_mem_cons.mpr ⟨bk_X2_byteAt_0, (List.forall_mem_cons.mpr ⟨bk_X2_byteAt_21, (List.forall_mem_cons.mpr ⟨bk_X2_byteAt_22, (List.forall_mem_cons.mpr ⟨bk_X2_byteAt_16, (fun _ h => absurd h List.not_mem_nil)⟩)⟩)⟩)⟩)
def kb_X2_isBlank : List (Nat × Nat × List xm_I) := [(0, 12, kX2_isBlank_0), (12, 16, kX2_isBlank_12), (16, 17, kX2_isBlank_16), (17, 18, kX2_isBlank_17)]
theorem lb_X2_isBlank_0 : xm_lk kb_X2_isBlank 0 = some (12, kX2_isBlank_0) := rfl
theorem lb_X2_isBlank_12 : xm_lk kb_X2_isBlank 12 = some (16, kX2_isBlank_12) := rfl
theorem lb_X2_isBlank_16 : xm_lk kb_X2_isBlank 16 = some (17, kX2_isBlank_16) := rfl
theorem lb_X2_isBlank_17 : xm_lk kb_X2_isBlank 17 = some (18, kX2_isBlank_17) := rfl
theorem lb_X2_isBlank_18 : xm_lk kb_X2_isBlank 18 = none := rfl
theorem kc_X2_isBlank : xm_oks cX2_isBlank 2 1 1 false kb_X2_isBlank := (List.forall_mem_cons.mpr ⟨bk_X2_isBlank_0, (List.forall_mem_cons.mpr ⟨bk_X2_isBlank_12, (List.forall_mem_cons.mpr ⟨bk_X2_isBlank_16, (List.forall_mem_cons.mpr ⟨bk_X2_isBlank_17, (fun _ h => absurd h List.not_mem_nil)⟩)⟩)⟩)⟩)
def kb_X2_isLetter : List (Nat × Nat × List xm_I) := [(0, 16, kX2_isLetter_0), (16, 17, kX2_isLetter_16), (17, 18, kX2_isLetter_17)]
theorem lb_X2_isLetter_0 : xm_lk kb_X2_isLetter 0 = some (16, kX2_isLetter_0) := rfl
theorem lb_X2_isLetter_16 : xm_lk kb_X2_isLetter 16 = some (17, kX2_isLetter_16) := rfl
theorem lb_X2_isLetter_17 : xm_lk kb_X2_isLetter 17 = some (18, kX2_isLetter_17) := rfl
theorem lb_X2_isLetter_18 : xm_lk kb_X2_isLetter 18 = none := rfl
theorem kc_X2_isLetter : xm_oks cX2_isLetter 2 1 1 false kb_X2_isLetter := (List.forall_mem_cons.mpr ⟨bk_X2_isLetter_0, (List.forall_mem_cons.mpr ⟨bk_X2_isLetter_16, (List.forall_mem_cons.mpr ⟨bk_X2_isLetter_17, (fun _ h => absurd h List.not_mem_nil)⟩)⟩)⟩)
def kb_X2_isDigit : List (Nat × Nat × List xm_I) := [(0, 16, kX2_isDigit_0), (16, 17, kX2_isDigit_16), (17, 18, kX2_isDigit_17)]
theorem lb_X2_isDigit_0 : xm_lk kb_X2_isDigit 0 = some (16, kX2_isDigit_0) := rfl
theorem lb_X2_isDigit_16 : xm_lk kb_X2_isDigit 16 = some (17, kX2_isDigit_16) := rfl
theorem lb_X2_isDigit_17 : xm_lk kb_X2_isDigit 17 = some (18, kX2_isDigit_17) := rfl
theorem lb_X2_isDigit_18 : xm_lk kb_X2_isDigit 18 = none := rfl
theorem kc_X2_isDigit : xm_oks cX2_isDigit 2 1 1 false kb_X2_isDigit := (List.forall_mem_cons.mpr ⟨bk_X2_isDigit_0, (List.forall_mem_cons.mpr ⟨bk_X2_isDigit_16, (List.forall_mem_cons.mpr ⟨bk_X2_isDigit_17, (fun _ h => absurd h List.not_mem_nil)⟩)⟩)⟩)
def kb_X3_init : List (Nat × Nat × List xm_I) := [(0, 1, kX3_init_0), (4, 8, kX3_init_4), (10, 16, kX3_init_10), (18, 23, kX3_init_18), (26, 27, kX3_init_26)]
theorem lb_X3_init_0 : xm_lk kb_X3_init 0 = some (1, kX3_init_0) := rfl
theorem lb_X3_init_4 : xm_lk kb_X3_init 4 = some (8, kX3_init_4) := rfl
theorem lb_X3_init_10 : xm_lk kb_X3_init 10 = some (16, kX3_init_10) := rfl
theorem lb_X3_init_18 : xm_lk kb_X3_init 18 = some (23, kX3_init_18) := rfl
theorem lb_X3_init_26 : xm_lk kb_X3_init 26 = some (27, kX3_init_26) := rfl
theorem lb_X3_init_1 : xm_lk kb_X3_init 1 = none := rfl
theorem lb_X3_init_8 : xm_lk kb_X3_init 8 = none := rfl
theorem lb_X3_init_16 : xm_lk kb_X3_init 16 = none := rfl
theorem lb_X3_init_23 : xm_lk kb_X3_init 23 = none := rfl
theorem lb_X3_init_27 : xm_lk kb_X3_init 27 = none := rfl
theorem kc_X3_init : xm_oks cX3_init 3 2 3 true kb_X3_init := (List.forall_mem_cons.mpr ⟨bk_X3_init_0, (List.forall_mem_cons.mpr ⟨bk_X3_init_4, (List.forall_mem_cons.mpr ⟨bk_X3_init_10, (List.forall_mem_cons.mpr ⟨bk_X3_init_18, (List.forall_mem_cons.mpr ⟨bk_X3_init_26, (fun _ h => absurd h List.not_mem_nil)⟩)⟩)⟩)⟩)⟩)
def kb_X3_begin : List (Nat × Nat × List xm_I) := [(0, 12, kX3_begin_0), (12, 26, kX3_begin_12), (34, 35, kX3_begin_34), (26, 34, kX3_begin_26)]
theorem lb_X3_begin_0 : xm_lk kb_X3_begin 0 = some (12, kX3_begin_0) := rfl
theorem lb_X3_begin_12 : xm_lk kb_X3_begin 12 = some (26, kX3_begin_12) := rfl
theorem lb_X3_begin_34 : xm_lk kb_X3_begin 34 = some (35, kX3_begin_34) := rfl
theorem lb_X3_begin_26 : xm_lk kb_X3_begin 26 = some (34, kX3_begin_26) := rfl
theorem lb_X3_begin_35 : xm_lk kb_X3_begin 35 = none := rfl
theorem kc_X3_begin : xm_oks cX3_begin 3 3 3 false kb_X3_begin := (List.forall_mem_cons.mpr ⟨bk_X3_begin_0, (List.forall_mem_cons.mpr ⟨bk_X3_begin_12, (List.forall_mem_cons.mpr ⟨bk_X3_begin_34, (List.forall_mem_cons.mpr ⟨bk_X3_begin_26, (fun _ h => absurd h List.not_mem_nil)⟩)⟩)⟩)⟩)
def kb_X3_worstSum : List (Nat × Nat × List xm_I) := [(0, 1, kX3_worstSum_0), (4, 9, kX3_worstSum_4), (9, 20, kX3_worstSum_9), (23, 30, kX3_worstSum_23), (33, 34, kX3_worstSum_33), (34, 41, kX3_worstSum_34)]
theorem lb_X3_worstSum_0 : xm_lk kb_X3_worstSum 0 = some (1, kX3_worstSum_0) := rfl
theorem lb_X3_worstSum_4 : xm_lk kb_X3_worstSum 4 = some (9, kX3_worstSum_4) := rfl
theorem lb_X3_worstSum_9 : xm_lk kb_X3_worstSum 9 = some (20, kX3_worstSum_9) := rfl
theorem lb_X3_worstSum_23 : xm_lk kb_X3_worstSum 23 = some (30, kX3_worstSum_23) := rfl
theorem lb_X3_worstSum_33 : xm_lk kb_X3_worstSum 33 = some (34, kX3_worstSum_33) := rfl
theorem lb_X3_worstSum_34 : xm_lk kb_X3_worstSum 34 = some (41, kX3_worstSum_34) := rfl
theorem lb_X3_worstSum_1 : xm_lk kb_X3_worstSum 1 = none := rfl
theorem lb_X3_worstSum_20 : xm_lk kb_X3_worstSum 20 = none := rfl
theorem lb_X3_worstSum_30 : xm_lk kb_X3_worstSum 30 = none := rfl
theorem lb_X3_worstSum_41 : xm_lk kb_X3_worstSum 41 = none := rfl
theorem kc_X3_worstSum : xm_oks cX3_worstSum 3 2 0 false kb_X3_worstSum := (List.forall_mem_cons.mpr ⟨bk_X3_worstSum_0, (List.forall_mem_cons.mpr ⟨bk_X3_worstSum_4, (List.forall_mem_cons.mpr ⟨bk_X3_worstSum_9, (List.forall_mem_cons.mpr ⟨bk_X3_worstSum_23, (List.forall_mem_cons.mpr ⟨bk_X3_worstSum_33, (List.forall_mem_cons.mpr ⟨bk_X3_worstSum_34, (fun _ h => absurd h List.not_mem_nil)⟩)⟩)⟩)⟩)⟩)⟩)
def kb_X3_addUp : List (Nat × Nat × List xm_I) := [(0, 8, kX3_addUp_0), (8, 17, kX3_addUp_8), (17, 31, kX3_addUp_17), (49, 57, kX3_addUp_49), (57, 63, kX3_addUp_57), (31, 43, kX3_addUp_31), (43, 46, kX3_addUp_43)]
theorem lb_X3_addUp_0 : xm_lk kb_X3_addUp 0 = some (8, kX3_addUp_0) := rfl
theorem lb_X3_addUp_8 : xm_lk kb_X3_addUp 8 = some (17, kX3_addUp_8) := rfl
theorem lb_X3_addUp_17 : xm_lk kb_X3_addUp 17 = some (31, kX3_addUp_17) := rfl
theorem lb_X3_addUp_49 : xm_lk kb_X3_addUp 49 = some (57, kX3_addUp_49) := rfl
theorem lb_X3_addUp_57 : xm_lk kb_X3_addUp 57 = some (63, kX3_addUp_57) := rfl
theorem lb_X3_addUp_31 : xm_lk kb_X3_addUp 31 = some (43, kX3_addUp_31) := rfl
theorem lb_X3_addUp_43 : xm_lk kb_X3_addUp 43 = some (46, kX3_addUp_43) := rfl
theorem lb_X3_addUp_46 : xm_lk kb_X3_addUp 46 = none := rfl
theorem lb_X3_addUp_63 : xm_lk kb_X3_addUp 63 = none := rfl
theorem kc_X3_addUp : xm_oks cX3_addUp 3 2 3 false kb_X3_addUp := (List.forall_mem_cons.mpr ⟨bk_X3_addUp_0, (List.forall_mem_cons.mpr ⟨bk_X3_addUp_8, (List.forall_mem_cons.mpr ⟨bk_X3_addUp_17, (List.forall_mem_cons.mpr ⟨bk_X3_addUp_49, (List.forall_mem_cons.mpr ⟨bk_X3_addUp_57, (List.forall_mem_cons.mpr ⟨bk_X3_addUp_31, (List.forall_mem_cons.mpr ⟨bk_X3_addUp_43, (fun _ h => absurd h List.not_mem_nil)⟩)⟩)⟩)⟩)⟩)⟩)⟩)
def kb_X3_greatestSum : List (Nat × Nat × List xm_I) := [(0, 4, kX3_greatestSum_0), (4, 18, kX3_greatestSum_4), (44, 51, kX3_greatestSum_44), (51, 53, kX3_greatestSum_51), (18, 30, kX3_greatestSum_18), (30, 38, kX3_greatestSum_30)]
theorem lb_X3_greatestSum_0 : xm_lk kb_X3_greatestSum 0 = some (4, kX3_greatestSum_0) := rfl
theorem lb_X3_greatestSum_4 : xm_lk kb_X3_greatestSum 4 = some (18, kX3_greatestSum_4) := rfl
theorem lb_X3_greatestSum_44 : xm_lk kb_X3_greatestSum 44 = some (51, kX3_greatestSum_44) := rfl
theorem lb_X3_greatestSum_51 : xm_lk kb_X3_greatestSum 51 = some (53, kX3_greatestSum_51) := rfl
theorem lb_X3_greatestSum_18 : xm_lk kb_X3_greatestSum 18 = some (30, kX3_greatestSum_18) := rfl
theorem lb_X3_greatestSum_30 : xm_lk kb_X3_greatestSum 30 = some (38, kX3_greatestSum_30) := rfl
theorem lb_X3_greatestSum_38 : xm_lk kb_X3_greatestSum 38 = none := rfl
theorem lb_X3_greatestSum_53 : xm_lk kb_X3_greatestSum 53 = none := rfl
theorem kc_X3_greatestSum : xm_oks cX3_greatestSum 3 4 0 false kb_X3_greatestSum := (List.forall_mem_cons.mpr ⟨bk_X3_greatestSum_0, (List.forall_mem_cons.mpr ⟨bk_X3_greatestSum_4, (List.forall_mem_cons.mpr ⟨bk_X3_greatestSum_44, (List.forall_mem_cons.mpr ⟨bk_X3_greatestSum_51, (List.forall_mem_cons.mpr ⟨bk_X3_greatestSum_18, (List.forall_mem_cons.mpr ⟨bk_X3_greatestSum_30, (fun _ h => absurd h List.not_mem_nil)⟩)⟩)⟩)⟩)⟩)⟩)
def kb_X4_init : List (Nat × Nat × List xm_I) := [(0, 1, kX4_init_0), (4, 5, kX4_init_4), (8, 9, kX4_init_8), (12, 17, kX4_init_12), (19, 24, kX4_init_19), (26, 31, kX4_init_26), (33, 37, kX4_init_33), (40, 41, kX4_init_40)]
theorem lb_X4_init_0 : xm_lk kb_X4_init 0 = some (1, kX4_init_0) := rfl
theorem lb_X4_init_4 : xm_lk kb_X4_init 4 = some (5, kX4_init_4) := rfl
theorem lb_X4_init_8 : xm_lk kb_X4_init 8 = some (9, kX4_init_8) := rfl
theorem lb_X4_init_12 : xm_lk kb_X4_init 12 = some (17, kX4_init_12) := rfl
theorem lb_X4_init_19 : xm_lk kb_X4_init 19 = some (24, kX4_init_19) := rfl
theorem lb_X4_init_26 : xm_lk kb_X4_init 26 = some (31, kX4_init_26) := rfl
theorem lb_X4_init_33 : xm_lk kb_X4_init 33 = some (37, kX4_init_33) := rfl
theorem lb_X4_init_40 : xm_lk kb_X4_init 40 = some (41, kX4_init_40) := rfl
theorem lb_X4_init_1 : xm_lk kb_X4_init 1 = none := rfl
theorem lb_X4_init_5 : xm_lk kb_X4_init 5 = none := rfl
theorem lb_X4_init_9 : xm_lk kb_X4_init 9 = none := rfl
theorem lb_X4_init_17 : xm_lk kb_X4_init 17 = none := rfl
theorem lb_X4_init_24 : xm_lk kb_X4_init 24 = none := rfl
theorem lb_X4_init_31 : xm_lk kb_X4_init 31 = none := rfl
theorem lb_X4_init_37 : xm_lk kb_X4_init 37 = none := rfl
theorem lb_X4_init_41 : xm_lk kb_X4_init 41 = none := rfl
theorem kc_X4_init : xm_oks cX4_init 4 1 3 true kb_X4_init := (List.forall_mem_cons.mpr ⟨bk_X4_init_0, (List.forall_mem_cons.mpr ⟨bk_X4_init_4, (List.forall_mem_cons.mpr ⟨bk_X4_init_8, (List.forall_mem_cons.mpr ⟨bk_X4_init_12, (List.forall_mem_cons.mpr ⟨bk_X4_init_19, (List.forall_mem_cons.mpr ⟨bk_X4_init_26, (List.forall_mem_cons.mpr ⟨bk_X4_init_33, (List.forall_mem_cons.mpr ⟨bk_X4_init_40, (fun _ h => absurd h List.not_mem_nil)⟩)⟩)⟩)⟩)⟩)⟩)⟩)⟩)
def kb_X4_reset : List (Nat × Nat × List xm_I) := [(0, 16, kX4_reset_0), (16, 34, kX4_reset_16), (34, 48, kX4_reset_34), (48, 63, kX4_reset_48), (63, 79, kX4_reset_63), (79, 91, kX4_reset_79), (91, 95, kX4_reset_91)]
theorem lb_X4_reset_0 : xm_lk kb_X4_reset 0 = some (16, kX4_reset_0) := rfl
theorem lb_X4_reset_16 : xm_lk kb_X4_reset 16 = some (34, kX4_reset_16) := rfl
theorem lb_X4_reset_34 : xm_lk kb_X4_reset 34 = some (48, kX4_reset_34) := rfl
theorem lb_X4_reset_48 : xm_lk kb_X4_reset 48 = some (63, kX4_reset_48) := rfl
theorem lb_X4_reset_63 : xm_lk kb_X4_reset 63 = some (79, kX4_reset_63) := rfl
theorem lb_X4_reset_79 : xm_lk kb_X4_reset 79 = some (91, kX4_reset_79) := rfl
theorem lb_X4_reset_91 : xm_lk kb_X4_reset 91 = some (95, kX4_reset_91) := rfl
theorem lb_X4_reset_95 : xm_lk kb_X4_reset 95 = none := rfl
theorem kc_X4_reset : xm_oks cX4_reset 4 1 3 false kb_X4_reset := (List.forall_mem_cons.mpr ⟨bk_X4_reset_0, (List.forall_mem_cons.mpr ⟨bk_X4_reset_16, (List.forall_mem_cons.mpr ⟨bk_X4_reset_34, (List.forall_mem_cons.mpr ⟨bk_X4_reset_48, (List.forall_mem_cons.mpr ⟨bk_X4_reset_63, (List.forall_mem_cons.mpr ⟨bk_X4_reset_79, (List.forall_mem_cons.mpr ⟨bk_X4_reset_91, (fun _ h => absurd h List.not_mem_nil)⟩)⟩)⟩)⟩)⟩)⟩)⟩)
def kb_X4_hasGate : List (Nat × Nat × List xm_I) := [(0, 16, kX4_hasGate_0), (16, 17, kX4_hasGate_16), (17, 18, kX4_hasGate_17)]
theorem lb_X4_hasGate_0 : xm_lk kb_X4_hasGate 0 = some (16, kX4_hasGate_0) := rfl
theorem lb_X4_hasGate_16 : xm_lk kb_X4_hasGate 16 = some (17, kX4_hasGate_16) := rfl
theorem lb_X4_hasGate_17 : xm_lk kb_X4_hasGate 17 = some (18, kX4_hasGate_17) := rfl
theorem lb_X4_hasGate_18 : xm_lk kb_X4_hasGate 18 = none := rfl
theorem kc_X4_hasGate : xm_oks cX4_hasGate 4 2 1 false kb_X4_hasGate := (List.forall_mem_cons.mpr ⟨bk_X4_hasGate_0, (List.forall_mem_cons.mpr ⟨bk_X4_hasGate_16, (List.forall_mem_cons.mpr ⟨bk_X4_hasGate_17, (fun _ h => absurd h List.not_mem_nil)⟩)⟩)⟩)
def kb_X4_addGate : List (Nat × Nat × List xm_I) := [(0, 9, kX4_addGate_0), (9, 23, kX4_addGate_9), (23, 37, kX4_addGate_23), (37, 49, kX4_addGate_37), (49, 50, kX4_addGate_49)]
theorem lb_X4_addGate_0 : xm_lk kb_X4_addGate 0 = some (9, kX4_addGate_0) := rfl
theorem lb_X4_addGate_9 : xm_lk kb_X4_addGate 9 = some (23, kX4_addGate_9) := rfl
theorem lb_X4_addGate_23 : xm_lk kb_X4_addGate 23 = some (37, kX4_addGate_23) := rfl
theorem lb_X4_addGate_37 : xm_lk kb_X4_addGate 37 = some (49, kX4_addGate_37) := rfl
theorem lb_X4_addGate_49 : xm_lk kb_X4_addGate 49 = some (50, kX4_addGate_49) := rfl
theorem lb_X4_addGate_50 : xm_lk kb_X4_addGate 50 = none := rfl
theorem kc_X4_addGate : xm_oks cX4_addGate 4 4 3 false kb_X4_addGate := (List.forall_mem_cons.mpr ⟨bk_X4_addGate_0, (List.forall_mem_cons.mpr ⟨bk_X4_addGate_9, (List.forall_mem_cons.mpr ⟨bk_X4_addGate_23, (List.forall_mem_cons.mpr ⟨bk_X4_addGate_37, (List.forall_mem_cons.mpr ⟨bk_X4_addGate_49, (fun _ h => absurd h List.not_mem_nil)⟩)⟩)⟩)⟩)⟩)
def kb_X4_gateFor : List (Nat × Nat × List xm_I) := [(0, 2, kX4_gateFor_0), (2, 16, kX4_gateFor_2), (22, 28, kX4_gateFor_22), (28, 30, kX4_gateFor_28), (16, 22, kX4_gateFor_16)]
theorem lb_X4_gateFor_0 : xm_lk kb_X4_gateFor 0 = some (2, kX4_gateFor_0) := rfl
theorem lb_X4_gateFor_2 : xm_lk kb_X4_gateFor 2 = some (16, kX4_gateFor_2) := rfl
theorem lb_X4_gateFor_22 : xm_lk kb_X4_gateFor 22 = some (28, kX4_gateFor_22) := rfl
theorem lb_X4_gateFor_28 : xm_lk kb_X4_gateFor 28 = some (30, kX4_gateFor_28) := rfl
theorem lb_X4_gateFor_16 : xm_lk kb_X4_gateFor 16 = some (22, kX4_gateFor_16) := rfl
theorem lb_X4_gateFor_30 : xm_lk kb_X4_gateFor 30 = none := rfl
theorem kc_X4_gateFor : xm_oks cX4_gateFor 4 3 0 false kb_X4_gateFor := (List.forall_mem_cons.mpr ⟨bk_X4_gateFor_0, (List.forall_mem_cons.mpr ⟨bk_X4_gateFor_2, (List.forall_mem_cons.mpr ⟨bk_X4_gateFor_22, (List.forall_mem_cons.mpr ⟨bk_X4_gateFor_28, (List.forall_mem_cons.mpr ⟨bk_X4_gateFor_16, (fun _ h => absurd h List.not_mem_nil)⟩)⟩)⟩)⟩)⟩)
def kb_X4_lastPosition : List (Nat × Nat × List xm_I) := [(0, 14, kX4_lastPosition_0), (14, 25, kX4_lastPosition_14), (25, 26, kX4_lastPosition_25)]
theorem lb_X4_lastPosition_0 : xm_lk kb_X4_lastPosition 0 = some (14, kX4_lastPosition_0) := rfl
theorem lb_X4_lastPosition_14 : xm_lk kb_X4_lastPosition 14 = some (25, kX4_lastPosition_14) := rfl
theorem lb_X4_lastPosition_25 : xm_lk kb_X4_lastPosition 25 = some (26, kX4_lastPosition_25) := rfl
theorem lb_X4_lastPosition_26 : xm_lk kb_X4_lastPosition 26 = none := rfl
theorem kc_X4_lastPosition : xm_oks cX4_lastPosition 4 1 0 false kb_X4_lastPosition := (List.forall_mem_cons.mpr ⟨bk_X4_lastPosition_0, (List.forall_mem_cons.mpr ⟨bk_X4_lastPosition_14, (List.forall_mem_cons.mpr ⟨bk_X4_lastPosition_25, (fun _ h => absurd h List.not_mem_nil)⟩)⟩)⟩)
def kb_X4_windowInUse : List (Nat × Nat × List xm_I) := [(0, 12, kX4_windowInUse_0), (12, 22, kX4_windowInUse_12), (25, 30, kX4_windowInUse_25), (30, 36, kX4_windowInUse_30), (36, 41, kX4_windowInUse_36)]
theorem lb_X4_windowInUse_0 : xm_lk kb_X4_windowInUse 0 = some (12, kX4_windowInUse_0) := rfl
theorem lb_X4_windowInUse_12 : xm_lk kb_X4_windowInUse 12 = some (22, kX4_windowInUse_12) := rfl
theorem lb_X4_windowInUse_25 : xm_lk kb_X4_windowInUse 25 = some (30, kX4_windowInUse_25) := rfl
theorem lb_X4_windowInUse_30 : xm_lk kb_X4_windowInUse 30 = some (36, kX4_windowInUse_30) := rfl
theorem lb_X4_windowInUse_36 : xm_lk kb_X4_windowInUse 36 = some (41, kX4_windowInUse_36) := rfl
theorem lb_X4_windowInUse_22 : xm_lk kb_X4_windowInUse 22 = none := rfl
theorem lb_X4_windowInUse_41 : xm_lk kb_X4_windowInUse 41 = none := rfl
theorem kc_X4_windowInUse : xm_oks cX4_windowInUse 4 2 0 false kb_X4_windowInUse := (List.forall_mem_cons.mpr ⟨bk_X4_windowInUse_0, (List.forall_mem_cons.mpr ⟨bk_X4_windowInUse_12, (List.forall_mem_cons.mpr ⟨bk_X4_windowInUse_25, (List.forall_mem_cons.mpr ⟨bk_X4_windowInUse_30, (List.forall_mem_cons.mpr ⟨bk_X4_windowInUse_36, (fun _ h => absurd h List.not_mem_nil)⟩)⟩)⟩)⟩)⟩)
def kb_X4_loadCellAlone : List (Nat × Nat × List xm_I) := [(0, 10, kX4_loadCellAlone_0), (13, 18, kX4_loadCellAlone_13), (21, 23, kX4_loadCellAlone_21)]
theorem lb_X4_loadCellAlone_0 : xm_lk kb_X4_loadCellAlone 0 = some (10, kX4_loadCellAlone_0) := rfl
theorem lb_X4_loadCellAlone_13 : xm_lk kb_X4_loadCellAlone 13 = some (18, kX4_loadCellAlone_13) := rfl
theorem lb_X4_loadCellAlone_21 : xm_lk kb_X4_loadCellAlone 21 = some (23, kX4_loadCellAlone_21) := rfl
theorem lb_X4_loadCellAlone_10 : xm_lk kb_X4_loadCellAlone 10 = none := rfl
theorem lb_X4_loadCellAlone_18 : xm_lk kb_X4_loadCellAlone 18 = none := rfl
theorem lb_X4_loadCellAlone_23 : xm_lk kb_X4_loadCellAlone 23 = none := rfl
theorem kc_X4_loadCellAlone : xm_oks cX4_loadCellAlone 4 2 0 false kb_X4_loadCellAlone := (List.forall_mem_cons.mpr ⟨bk_X4_loadCellAlone_0, (List.forall_mem_cons.mpr ⟨bk_X4_loadCellAlone_13, (List.forall_mem_cons.mpr ⟨bk_X4_loadCellAlone_21, (fun _ h => absurd h List.not_mem_nil)⟩)⟩)⟩)
def kb_X4_lengthOnTable : List (Nat × Nat × List xm_I) := [(0, 5, kX4_lengthOnTable_0), (8, 15, kX4_lengthOnTable_8), (18, 20, kX4_lengthOnTable_18)]
theorem lb_X4_lengthOnTable_0 : xm_lk kb_X4_lengthOnTable 0 = some (5, kX4_lengthOnTable_0) := rfl
theorem lb_X4_lengthOnTable_8 : xm_lk kb_X4_lengthOnTable 8 = some (15, kX4_lengthOnTable_8) := rfl
theorem lb_X4_lengthOnTable_18 : xm_lk kb_X4_lengthOnTable 18 = some (20, kX4_lengthOnTable_18) := rfl
theorem lb_X4_lengthOnTable_5 : xm_lk kb_X4_lengthOnTable 5 = none := rfl
theorem lb_X4_lengthOnTable_15 : xm_lk kb_X4_lengthOnTable 15 = none := rfl
theorem lb_X4_lengthOnTable_20 : xm_lk kb_X4_lengthOnTable 20 = none := rfl
theorem kc_X4_lengthOnTable : xm_oks cX4_lengthOnTable 4 3 0 false kb_X4_lengthOnTable := (List.forall_mem_cons.mpr ⟨bk_X4_lengthOnTable_0, (List.forall_mem_cons.mpr ⟨bk_X4_lengthOnTable_8, (List.forall_mem_cons.mpr ⟨bk_X4_lengthOnTable_18, (fun _ h => absurd h List.not_mem_nil)⟩)⟩)⟩)
def kb_X4_isInPart : List (Nat × Nat × List xm_I) := [(0, 12, kX4_isInPart_0), (22, 23, kX4_isInPart_22), (23, 24, kX4_isInPart_23), (12, 22, kX4_isInPart_12)]
theorem lb_X4_isInPart_0 : xm_lk kb_X4_isInPart 0 = some (12, kX4_isInPart_0) := rfl
theorem lb_X4_isInPart_22 : xm_lk kb_X4_isInPart 22 = some (23, kX4_isInPart_22) := rfl
theorem lb_X4_isInPart_23 : xm_lk kb_X4_isInPart 23 = some (24, kX4_isInPart_23) := rfl
theorem lb_X4_isInPart_12 : xm_lk kb_X4_isInPart 12 = some (22, kX4_isInPart_12) := rfl
theorem lb_X4_isInPart_24 : xm_lk kb_X4_isInPart 24 = none := rfl
theorem kc_X4_isInPart : xm_oks cX4_isInPart 4 3 1 false kb_X4_isInPart := (List.forall_mem_cons.mpr ⟨bk_X4_isInPart_0, (List.forall_mem_cons.mpr ⟨bk_X4_isInPart_22, (List.forall_mem_cons.mpr ⟨bk_X4_isInPart_23, (List.forall_mem_cons.mpr ⟨bk_X4_isInPart_12, (fun _ h => absurd h List.not_mem_nil)⟩)⟩)⟩)⟩)
def kb_X4_isAsWhole : List (Nat × Nat × List xm_I) := [(0, 12, kX4_isAsWhole_0), (22, 23, kX4_isAsWhole_22), (23, 24, kX4_isAsWhole_23), (12, 22, kX4_isAsWhole_12)]
theorem lb_X4_isAsWhole_0 : xm_lk kb_X4_isAsWhole 0 = some (12, kX4_isAsWhole_0) := rfl
theorem lb_X4_isAsWhole_22 : xm_lk kb_X4_isAsWhole 22 = some (23, kX4_isAsWhole_22) := rfl
theorem lb_X4_isAsWhole_23 : xm_lk kb_X4_isAsWhole 23 = some (24, kX4_isAsWhole_23) := rfl
theorem lb_X4_isAsWhole_12 : xm_lk kb_X4_isAsWhole 12 = some (22, kX4_isAsWhole_12) := rfl
theorem lb_X4_isAsWhole_24 : xm_lk kb_X4_isAsWhole 24 = none := rfl
theorem kc_X4_isAsWhole : xm_oks cX4_isAsWhole 4 3 1 false kb_X4_isAsWhole := (List.forall_mem_cons.mpr ⟨bk_X4_isAsWhole_0, (List.forall_mem_cons.mpr ⟨bk_X4_isAsWhole_22, (List.forall_mem_cons.mpr ⟨bk_X4_isAsWhole_23, (List.forall_mem_cons.mpr ⟨bk_X4_isAsWhole_12, (fun _ h => absurd h List.not_mem_nil)⟩)⟩)⟩)⟩)
def kb_X4_ticksFor : List (Nat × Nat × List xm_I) := [(0, 5, kX4_ticksFor_0), (8, 9, kX4_ticksFor_8)]
theorem lb_X4_ticksFor_0 : xm_lk kb_X4_ticksFor 0 = some (5, kX4_ticksFor_0) := rfl
theorem lb_X4_ticksFor_8 : xm_lk kb_X4_ticksFor 8 = some (9, kX4_ticksFor_8) := rfl
theorem lb_X4_ticksFor_5 : xm_lk kb_X4_ticksFor 5 = none := rfl
theorem lb_X4_ticksFor_9 : xm_lk kb_X4_ticksFor 9 = none := rfl
theorem kc_X4_ticksFor : xm_oks cX4_ticksFor 4 2 0 false kb_X4_ticksFor := (List.forall_mem_cons.mpr ⟨bk_X4_ticksFor_0, (List.forall_mem_cons.mpr ⟨bk_X4_ticksFor_8, (fun _ h => absurd h List.not_mem_nil)⟩)⟩)
def kb_X4_ticksAsWhole : List (Nat × Nat × List xm_I) := [(0, 10, kX4_ticksAsWhole_0), (13, 22, kX4_ticksAsWhole_13), (25, 32, kX4_ticksAsWhole_25), (35, 36, kX4_ticksAsWhole_35)]
theorem lb_X4_ticksAsWhole_0 : xm_lk kb_X4_ticksAsWhole 0 = some (10, kX4_ticksAsWhole_0) := rfl
theorem lb_X4_ticksAsWhole_13 : xm_lk kb_X4_ticksAsWhole 13 = some (22, kX4_ticksAsWhole_13) := rfl
theorem lb_X4_ticksAsWhole_25 : xm_lk kb_X4_ticksAsWhole 25 = some (32, kX4_ticksAsWhole_25) := rfl
theorem lb_X4_ticksAsWhole_35 : xm_lk kb_X4_ticksAsWhole 35 = some (36, kX4_ticksAsWhole_35) := rfl
theorem lb_X4_ticksAsWhole_10 : xm_lk kb_X4_ticksAsWhole 10 = none := rfl
theorem lb_X4_ticksAsWhole_22 : xm_lk kb_X4_ticksAsWhole 22 = none := rfl
theorem lb_X4_ticksAsWhole_32 : xm_lk kb_X4_ticksAsWhole 32 = none := rfl
theorem lb_X4_ticksAsWhole_36 : xm_lk kb_X4_ticksAsWhole 36 = none := rfl
theorem kc_X4_ticksAsWhole : xm_oks cX4_ticksAsWhole 4 4 0 false kb_X4_ticksAsWhole := (List.forall_mem_cons.mpr ⟨bk_X4_ticksAsWhole_0, (List.forall_mem_cons.mpr ⟨bk_X4_ticksAsWhole_13, (List.forall_mem_cons.mpr ⟨bk_X4_ticksAsWhole_25, (List.forall_mem_cons.mpr ⟨bk_X4_ticksAsWhole_35, (fun _ h => absurd h List.not_mem_nil)⟩)⟩)⟩)⟩)
def kb_X4_ticksInPart : List (Nat × Nat × List xm_I) := [(0, 8, kX4_ticksInPart_0), (11, 21, kX4_ticksInPart_11), (29, 36, kX4_ticksInPart_29), (39, 40, kX4_ticksInPart_39), (21, 26, kX4_ticksInPart_21)]
theorem lb_X4_ticksInPart_0 : xm_lk kb_X4_ticksInPart 0 = some (8, kX4_ticksInPart_0) := rfl
theorem lb_X4_ticksInPart_11 : xm_lk kb_X4_ticksInPart 11 = some (21, kX4_ticksInPart_11) := rfl
theorem lb_X4_ticksInPart_29 : xm_lk kb_X4_ticksInPart 29 = some (36, kX4_ticksInPart_29) := rfl
theorem lb_X4_ticksInPart_39 : xm_lk kb_X4_ticksInPart 39 = some (40, kX4_ticksInPart_39) := rfl
theorem lb_X4_ticksInPart_21 : xm_lk kb_X4_ticksInPart 21 = some (26, kX4_ticksInPart_21) := rfl
theorem lb_X4_ticksInPart_8 : xm_lk kb_X4_ticksInPart 8 = none := rfl
theorem lb_X4_ticksInPart_26 : xm_lk kb_X4_ticksInPart 26 = none := rfl
theorem lb_X4_ticksInPart_36 : xm_lk kb_X4_ticksInPart 36 = none := rfl
theorem lb_X4_ticksInPart_40 : xm_lk kb_X4_ticksInPart 40 = none := rfl
theorem kc_X4_ticksInPart : xm_oks cX4_ticksInPart 4 4 0 false kb_X4_ticksInPart := (List.forall_mem_cons.mpr ⟨bk_X4_ticksInPart_0, (List.forall_mem_cons.mpr ⟨bk_X4_ticksInPart_11, (List.forall_mem_cons.mpr ⟨bk_X4_ticksInPart_29, (List.forall_mem_cons.mpr ⟨bk_X4_ticksInPart_39, (List.forall_mem_cons.mpr ⟨bk_X4_ticksInPart_21, (fun _ h => absurd h List.not_mem_nil)⟩)⟩)⟩)⟩)⟩)
def kb_X5_init : List (Nat × Nat × List xm_I) := [(0, 1, kX5_init_0), (4, 11, kX5_init_4), (13, 18, kX5_init_13), (20, 25, kX5_init_20), (27, 31, kX5_init_27)]
theorem lb_X5_init_0 : xm_lk kb_X5_init 0 = some (1, kX5_init_0) := rfl
theorem lb_X5_init_4 : xm_lk kb_X5_init 4 = some (11, kX5_init_4) := rfl
theorem lb_X5_init_13 : xm_lk kb_X5_init 13 = some (18, kX5_init_13) := rfl
theorem lb_X5_init_20 : xm_lk kb_X5_init 20 = some (25, kX5_init_20) := rfl
theorem lb_X5_init_27 : xm_lk kb_X5_init 27 = some (31, kX5_init_27) := rfl
theorem lb_X5_init_1 : xm_lk kb_X5_init 1 = none := rfl
theorem lb_X5_init_11 : xm_lk kb_X5_init 11 = none := rfl
theorem lb_X5_init_18 : xm_lk kb_X5_init 18 = none := rfl
theorem lb_X5_init_25 : xm_lk kb_X5_init 25 = none := rfl
theorem lb_X5_init_31 : xm_lk kb_X5_init 31 = none := rfl
theorem kc_X5_init : xm_oks cX5_init 5 1 3 true kb_X5_init := (List.forall_mem_cons.mpr ⟨bk_X5_init_0, (List.forall_mem_cons.mpr ⟨bk_X5_init_4, (List.forall_mem_cons.mpr ⟨bk_X5_init_13, (List.forall_mem_cons.mpr ⟨bk_X5_init_20, (List.forall_mem_cons.mpr ⟨bk_X5_init_27, (fun _ h => absurd h List.not_mem_nil)⟩)⟩)⟩)⟩)⟩)
def kb_X5_add : List (Nat × Nat × List xm_I) := [(0, 9, kX5_add_0), (9, 23, kX5_add_9), (23, 37, kX5_add_23), (37, 49, kX5_add_37), (49, 50, kX5_add_49)]
theorem lb_X5_add_0 : xm_lk kb_X5_add 0 = some (9, kX5_add_0) := rfl
theorem lb_X5_add_9 : xm_lk kb_X5_add 9 = some (23, kX5_add_9) := rfl
theorem lb_X5_add_23 : xm_lk kb_X5_add 23 = some (37, kX5_add_23) := rfl
theorem lb_X5_add_37 : xm_lk kb_X5_add 37 = some (49, kX5_add_37) := rfl
theorem lb_X5_add_49 : xm_lk kb_X5_add 49 = some (50, kX5_add_49) := rfl
theorem lb_X5_add_50 : xm_lk kb_X5_add 50 = none := rfl
theorem kc_X5_add : xm_oks cX5_add 5 4 3 false kb_X5_add := (List.forall_mem_cons.mpr ⟨bk_X5_add_0, (List.forall_mem_cons.mpr ⟨bk_X5_add_9, (List.forall_mem_cons.mpr ⟨bk_X5_add_23, (List.forall_mem_cons.mpr ⟨bk_X5_add_37, (List.forall_mem_cons.mpr ⟨bk_X5_add_49, (fun _ h => absurd h List.not_mem_nil)⟩)⟩)⟩)⟩)⟩)
def kb_X5_valueAt : List (Nat × Nat × List xm_I) := [(0, 4, kX5_valueAt_0), (4, 18, kX5_valueAt_4), (29, 41, kX5_valueAt_29), (44, 45, kX5_valueAt_44), (45, 59, kX5_valueAt_45), (62, 69, kX5_valueAt_62), (69, 77, kX5_valueAt_69), (77, 79, kX5_valueAt_77), (18, 26, kX5_valueAt_18), (41, 44, kX5_valueAt_41), (59, 62, kX5_valueAt_59)]
theorem lb_X5_valueAt_0 : xm_lk kb_X5_valueAt 0 = some (4, kX5_valueAt_0) := rfl
theorem lb_X5_valueAt_4 : xm_lk kb_X5_valueAt 4 = some (18, kX5_valueAt_4) := rfl
theorem lb_X5_valueAt_29 : xm_lk kb_X5_valueAt 29 = some (41, kX5_valueAt_29) := rfl
theorem lb_X5_valueAt_44 : xm_lk kb_X5_valueAt 44 = some (45, kX5_valueAt_44) := rfl
theorem lb_X5_valueAt_45 : xm_lk kb_X5_valueAt 45 = some (59, kX5_valueAt_45) := rfl
theorem lb_X5_valueAt_62 : xm_lk kb_X5_valueAt 62 = some (69, kX5_valueAt_62) := rfl
theorem lb_X5_valueAt_69 : xm_lk kb_X5_valueAt 69 = some (77, kX5_valueAt_69) := rfl
theorem lb_X5_valueAt_77 : xm_lk kb_X5_valueAt 77 = some (79, kX5_valueAt_77) := rfl
theorem lb_X5_valueAt_18 : xm_lk kb_X5_valueAt 18 = some (26, kX5_valueAt_18) := rfl
theorem lb_X5_valueAt_41 : xm_lk kb_X5_valueAt 41 = some (44, kX5_valueAt_41) := rfl
theorem lb_X5_valueAt_59 : xm_lk kb_X5_valueAt 59 = some (62, kX5_valueAt_59) := rfl
theorem lb_X5_valueAt_26 : xm_lk kb_X5_valueAt 26 = none := rfl
theorem lb_X5_valueAt_79 : xm_lk kb_X5_valueAt 79 = none := rfl
theorem kc_X5_valueAt : xm_oks cX5_valueAt 5 5 0 false kb_X5_valueAt := (List.forall_mem_cons.mpr ⟨bk_X5_valueAt_0, (List.forall_mem_cons.mpr ⟨bk_X5_valueAt_4, (List.forall_mem_cons.mpr ⟨bk_X5_valueAt_29, (List.forall_mem_cons.mpr ⟨bk_X5_valueAt_44, (List.forall_mem_cons.mpr ⟨bk_X5_valueAt_45, (List.forall_mem_cons.mpr ⟨bk_X5_valueAt_62, (List.forall_mem_cons.mpr ⟨bk_X5_valueAt_69, (List.forall_mem_cons.mpr ⟨bk_X5_valueAt_77, (List.forall_mem_cons.mpr ⟨bk_X5_valueAt_18, (List.forall_mem_cons.mpr ⟨bk_X5_valueAt_41, (List.forall_mem_cons.mpr ⟨bk_X5_valueAt_59, (fun _ h => absurd h List.not_mem_nil)⟩)⟩)⟩)⟩)⟩)⟩)⟩)⟩)⟩)⟩)⟩)
def kb_X5_cancelIn : List (Nat × Nat × List xm_I) := [(0, 2, kX5_cancelIn_0), (2, 16, kX5_cancelIn_2), (20, 25, kX5_cancelIn_20), (25, 31, kX5_cancelIn_25), (31, 33, kX5_cancelIn_31), (16, 17, kX5_cancelIn_16)]
theorem lb_X5_cancelIn_0 : xm_lk kb_X5_cancelIn 0 = some (2, kX5_cancelIn_0) := rfl
theorem lb_X5_cancelIn_2 : xm_lk kb_X5_cancelIn 2 = some (16, kX5_cancelIn_2) := rfl
theorem lb_X5_cancelIn_20 : xm_lk kb_X5_cancelIn 20 = some (25, kX5_cancelIn_20) := rfl
theorem lb_X5_cancelIn_25 : xm_lk kb_X5_cancelIn 25 = some (31, kX5_cancelIn_25) := rfl
theorem lb_X5_cancelIn_31 : xm_lk kb_X5_cancelIn 31 = some (33, kX5_cancelIn_31) := rfl
theorem lb_X5_cancelIn_16 : xm_lk kb_X5_cancelIn 16 = some (17, kX5_cancelIn_16) := rfl
theorem lb_X5_cancelIn_17 : xm_lk kb_X5_cancelIn 17 = none := rfl
theorem lb_X5_cancelIn_33 : xm_lk kb_X5_cancelIn 33 = none := rfl
theorem kc_X5_cancelIn : xm_oks cX5_cancelIn 5 3 1 false kb_X5_cancelIn := (List.forall_mem_cons.mpr ⟨bk_X5_cancelIn_0, (List.forall_mem_cons.mpr ⟨bk_X5_cancelIn_2, (List.forall_mem_cons.mpr ⟨bk_X5_cancelIn_20, (List.forall_mem_cons.mpr ⟨bk_X5_cancelIn_25, (List.forall_mem_cons.mpr ⟨bk_X5_cancelIn_31, (List.forall_mem_cons.mpr ⟨bk_X5_cancelIn_16, (fun _ h => absurd h List.not_mem_nil)⟩)⟩)⟩)⟩)⟩)⟩)
def kb_X6_init : List (Nat × Nat × List xm_I) := [(0, 1, kX6_init_0), (4, 8, kX6_init_4), (10, 24, kX6_init_10), (32, 33, kX6_init_32), (36, 40, kX6_init_36), (43, 44, kX6_init_43), (47, 51, kX6_init_47), (54, 63, kX6_init_54), (66, 70, kX6_init_66), (73, 78, kX6_init_73), (81, 85, kX6_init_81), (88, 93, kX6_init_88), (96, 100, kX6_init_96), (103, 111, kX6_init_103), (114, 118, kX6_init_114), (24, 29, kX6_init_24)]
theorem lb_X6_init_0 : xm_lk kb_X6_init 0 = some (1, kX6_init_0) := rfl
theorem lb_X6_init_4 : xm_lk kb_X6_init 4 = some (8, kX6_init_4) := rfl
theorem lb_X6_init_10 : xm_lk kb_X6_init 10 = some (24, kX6_init_10) := rfl
theorem lb_X6_init_32 : xm_lk kb_X6_init 32 = some (33, kX6_init_32) := rfl
theorem lb_X6_init_36 : xm_lk kb_X6_init 36 = some (40, kX6_init_36) := rfl
theorem lb_X6_init_43 : xm_lk kb_X6_init 43 = some (44, kX6_init_43) := rfl
theorem lb_X6_init_47 : xm_lk kb_X6_init 47 = some (51, kX6_init_47) := rfl
theorem lb_X6_init_54 : xm_lk kb_X6_init 54 = some (63, kX6_init_54) := rfl
theorem lb_X6_init_66 : xm_lk kb_X6_init 66 = some (70, kX6_init_66) := rfl
theorem lb_X6_init_73 : xm_lk kb_X6_init 73 = some (78, kX6_init_73) := rfl
theorem lb_X6_init_81 : xm_lk kb_X6_init 81 = some (85, kX6_init_81) := rfl
theorem lb_X6_init_88 : xm_lk kb_X6_init 88 = some (93, kX6_init_88) := rfl
theorem lb_X6_init_96 : xm_lk kb_X6_init 96 = some (100, kX6_init_96) := rfl
theorem lb_X6_init_103 : xm_lk kb_X6_init 103 = some (111, kX6_init_103) := rfl
theorem lb_X6_init_114 : xm_lk kb_X6_init 114 = some (118, kX6_init_114) := rfl
theorem lb_X6_init_24 : xm_lk kb_X6_init 24 = some (29, kX6_init_24) := rfl
theorem lb_X6_init_1 : xm_lk kb_X6_init 1 = none := rfl
theorem lb_X6_init_8 : xm_lk kb_X6_init 8 = none := rfl
theorem lb_X6_init_29 : xm_lk kb_X6_init 29 = none := rfl
theorem lb_X6_init_33 : xm_lk kb_X6_init 33 = none := rfl
theorem lb_X6_init_40 : xm_lk kb_X6_init 40 = none := rfl
theorem lb_X6_init_44 : xm_lk kb_X6_init 44 = none := rfl
theorem lb_X6_init_51 : xm_lk kb_X6_init 51 = none := rfl
theorem lb_X6_init_63 : xm_lk kb_X6_init 63 = none := rfl
theorem lb_X6_init_70 : xm_lk kb_X6_init 70 = none := rfl
theorem lb_X6_init_78 : xm_lk kb_X6_init 78 = none := rfl
theorem lb_X6_init_85 : xm_lk kb_X6_init 85 = none := rfl
theorem lb_X6_init_93 : xm_lk kb_X6_init 93 = none := rfl
theorem lb_X6_init_100 : xm_lk kb_X6_init 100 = none := rfl
theorem lb_X6_init_111 : xm_lk kb_X6_init 111 = none := rfl
theorem lb_X6_init_118 : xm_lk kb_X6_init 118 = none := rfl
theorem kc_X6_init : xm_oks cX6_init 6 1 3 true kb_X6_init := (List.forall_mem_cons.mpr ⟨bk_X6_init_0, (List.forall_mem_cons.mpr ⟨bk_X6_init_4, (List.forall_mem_cons.mpr ⟨bk_X6_init_10, (List.forall_mem_cons.mpr ⟨bk_X6_init_32, (List.forall_mem_cons.mpr ⟨bk_X6_init_36, (List.forall_mem_cons.mpr ⟨bk_X6_init_43, (List.forall_mem_cons.mpr ⟨bk_X6_init_47, (List.forall_mem_cons.mpr ⟨bk_X6_init_54, (List.forall_mem_cons.mpr ⟨bk_X6_init_66, (List.forall_mem_cons.mpr ⟨bk_X6_init_73, (List.forall_mem_cons.mpr ⟨bk_X6_init_81, (List.forall_mem_cons.mpr ⟨bk_X6_init_88, (List.forall_mem_cons.mpr ⟨bk_X6_init_96, (List.forall_mem_cons.mpr ⟨bk_X6_init_103, (List.forall_mem_cons.mpr ⟨bk_X6_init_114, (List.forall_mem_cons.mpr ⟨bk_X6_init_24, (fun _ h => absurd h List.not_mem_nil)⟩)⟩)⟩)⟩)⟩)⟩)⟩)⟩)⟩)⟩)⟩)⟩)⟩)⟩)⟩)⟩)
def kb_X6_append : List (Nat × Nat × List xm_I) := [(0, 13, kX6_append_0), (16, 17, kX6_append_16), (21, 23, kX6_append_21), (26, 28, kX6_append_26), (31, 33, kX6_append_31), (36, 39, kX6_append_36), (42, 45, kX6_append_42), (48, 53, kX6_append_48)]
theorem lb_X6_append_0 : xm_lk kb_X6_append 0 = some (13, kX6_append_0) := rfl
theorem lb_X6_append_16 : xm_lk kb_X6_append 16 = some (17, kX6_append_16) := rfl
theorem lb_X6_append_21 : xm_lk kb_X6_append 21 = some (23, kX6_append_21) := rfl
theorem lb_X6_append_26 : xm_lk kb_X6_append 26 = some (28, kX6_append_26) := rfl
theorem lb_X6_append_31 : xm_lk kb_X6_append 31 = some (33, kX6_append_31) := rfl
theorem lb_X6_append_36 : xm_lk kb_X6_append 36 = some (39, kX6_append_36) := rfl
theorem lb_X6_append_42 : xm_lk kb_X6_append 42 = some (45, kX6_append_42) := rfl
theorem lb_X6_append_48 : xm_lk kb_X6_append 48 = some (53, kX6_append_48) := rfl
theorem lb_X6_append_13 : xm_lk kb_X6_append 13 = none := rfl
theorem lb_X6_append_17 : xm_lk kb_X6_append 17 = none := rfl
theorem lb_X6_append_23 : xm_lk kb_X6_append 23 = none := rfl
theorem lb_X6_append_28 : xm_lk kb_X6_append 28 = none := rfl
theorem lb_X6_append_33 : xm_lk kb_X6_append 33 = none := rfl
theorem lb_X6_append_39 : xm_lk kb_X6_append 39 = none := rfl
theorem lb_X6_append_45 : xm_lk kb_X6_append 45 = none := rfl
theorem lb_X6_append_53 : xm_lk kb_X6_append 53 = none := rfl
theorem kc_X6_append : xm_oks cX6_append 6 6 0 false kb_X6_append := (List.forall_mem_cons.mpr ⟨bk_X6_append_0, (List.forall_mem_cons.mpr ⟨bk_X6_append_16, (List.forall_mem_cons.mpr ⟨bk_X6_append_21, (List.forall_mem_cons.mpr ⟨bk_X6_append_26, (List.forall_mem_cons.mpr ⟨bk_X6_append_31, (List.forall_mem_cons.mpr ⟨bk_X6_append_36, (List.forall_mem_cons.mpr ⟨bk_X6_append_42, (List.forall_mem_cons.mpr ⟨bk_X6_append_48, (fun _ h => absurd h List.not_mem_nil)⟩)⟩)⟩)⟩)⟩)⟩)⟩)⟩)
def kb_X6_addBytes : List (Nat × Nat × List xm_I) := [(0, 3, kX6_addBytes_0), (3, 21, kX6_addBytes_3), (49, 50, kX6_addBytes_49), (21, 33, kX6_addBytes_21), (33, 49, kX6_addBytes_33)]
theorem lb_X6_addBytes_0 : xm_lk kb_X6_addBytes 0 = some (3, kX6_addBytes_0) := rfl
theorem lb_X6_addBytes_3 : xm_lk kb_X6_addBytes 3 = some (21, kX6_addBytes_3) := rfl
theorem lb_X6_addBytes_49 : xm_lk kb_X6_addBytes 49 = some (50, kX6_addBytes_49) := rfl
theorem lb_X6_addBytes_21 : xm_lk kb_X6_addBytes 21 = some (33, kX6_addBytes_21) := rfl
theorem lb_X6_addBytes_33 : xm_lk kb_X6_addBytes 33 = some (49, kX6_addBytes_33) := rfl
theorem lb_X6_addBytes_50 : xm_lk kb_X6_addBytes 50 = none := rfl
theorem kc_X6_addBytes : xm_oks cX6_addBytes 6 3 3 false kb_X6_addBytes := (List.forall_mem_cons.mpr ⟨bk_X6_addBytes_0, (List.forall_mem_cons.mpr ⟨bk_X6_addBytes_3, (List.forall_mem_cons.mpr ⟨bk_X6_addBytes_49, (List.forall_mem_cons.mpr ⟨bk_X6_addBytes_21, (List.forall_mem_cons.mpr ⟨bk_X6_addBytes_33, (fun _ h => absurd h List.not_mem_nil)⟩)⟩)⟩)⟩)⟩)
def kb_X6_truncate : List (Nat × Nat × List xm_I) := [(0, 12, kX6_truncate_0), (15, 16, kX6_truncate_15), (20, 30, kX6_truncate_20)]
theorem lb_X6_truncate_0 : xm_lk kb_X6_truncate 0 = some (12, kX6_truncate_0) := rfl
theorem lb_X6_truncate_15 : xm_lk kb_X6_truncate 15 = some (16, kX6_truncate_15) := rfl
theorem lb_X6_truncate_20 : xm_lk kb_X6_truncate 20 = some (30, kX6_truncate_20) := rfl
theorem lb_X6_truncate_12 : xm_lk kb_X6_truncate 12 = none := rfl
theorem lb_X6_truncate_16 : xm_lk kb_X6_truncate 16 = none := rfl
theorem lb_X6_truncate_30 : xm_lk kb_X6_truncate 30 = none := rfl
theorem kc_X6_truncate : xm_oks cX6_truncate 6 2 0 false kb_X6_truncate := (List.forall_mem_cons.mpr ⟨bk_X6_truncate_0, (List.forall_mem_cons.mpr ⟨bk_X6_truncate_15, (List.forall_mem_cons.mpr ⟨bk_X6_truncate_20, (fun _ h => absurd h List.not_mem_nil)⟩)⟩)⟩)
def kb_X6_load : List (Nat × Nat × List xm_I) := [(0, 12, kX6_load_0), (15, 31, kX6_load_15), (52, 53, kX6_load_52), (57, 71, kX6_load_57), (86, 97, kX6_load_86), (100, 108, kX6_load_100), (31, 49, kX6_load_31), (71, 83, kX6_load_71)]
theorem lb_X6_load_0 : xm_lk kb_X6_load 0 = some (12, kX6_load_0) := rfl
theorem lb_X6_load_15 : xm_lk kb_X6_load 15 = some (31, kX6_load_15) := rfl
theorem lb_X6_load_52 : xm_lk kb_X6_load 52 = some (53, kX6_load_52) := rfl
theorem lb_X6_load_57 : xm_lk kb_X6_load 57 = some (71, kX6_load_57) := rfl
theorem lb_X6_load_86 : xm_lk kb_X6_load 86 = some (97, kX6_load_86) := rfl
theorem lb_X6_load_100 : xm_lk kb_X6_load 100 = some (108, kX6_load_100) := rfl
theorem lb_X6_load_31 : xm_lk kb_X6_load 31 = some (49, kX6_load_31) := rfl
theorem lb_X6_load_71 : xm_lk kb_X6_load 71 = some (83, kX6_load_71) := rfl
theorem lb_X6_load_12 : xm_lk kb_X6_load 12 = none := rfl
theorem lb_X6_load_49 : xm_lk kb_X6_load 49 = none := rfl
theorem lb_X6_load_53 : xm_lk kb_X6_load 53 = none := rfl
theorem lb_X6_load_83 : xm_lk kb_X6_load 83 = none := rfl
theorem lb_X6_load_97 : xm_lk kb_X6_load 97 = none := rfl
theorem lb_X6_load_108 : xm_lk kb_X6_load 108 = none := rfl
theorem kc_X6_load : xm_oks cX6_load 6 2 0 false kb_X6_load := (List.forall_mem_cons.mpr ⟨bk_X6_load_0, (List.forall_mem_cons.mpr ⟨bk_X6_load_15, (List.forall_mem_cons.mpr ⟨bk_X6_load_52, (List.forall_mem_cons.mpr ⟨bk_X6_load_57, (List.forall_mem_cons.mpr ⟨bk_X6_load_86, (List.forall_mem_cons.mpr ⟨bk_X6_load_100, (List.forall_mem_cons.mpr ⟨bk_X6_load_31, (List.forall_mem_cons.mpr ⟨bk_X6_load_71, (fun _ h => absurd h List.not_mem_nil)⟩)⟩)⟩)⟩)⟩)⟩)⟩)⟩)
def kb_X6_errorCode : List (Nat × Nat × List xm_I) := [(0, 5, kX6_errorCode_0)]
theorem lb_X6_errorCode_0 : xm_lk kb_X6_errorCode 0 = some (5, kX6_errorCode_0) := rfl
theorem lb_X6_errorCode_5 : xm_lk kb_X6_errorCode 5 = none := rfl
theorem kc_X6_errorCode : xm_oks cX6_errorCode 6 1 0 false kb_X6_errorCode := (List.forall_mem_cons.mpr ⟨bk_X6_errorCode_0, (fun _ h => absurd h List.not_mem_nil)⟩)
def kb_X6_errorPosition : List (Nat × Nat × List xm_I) := [(0, 5, kX6_errorPosition_0)]
theorem lb_X6_errorPosition_0 : xm_lk kb_X6_errorPosition 0 = some (5, kX6_errorPosition_0) := rfl
theorem lb_X6_errorPosition_5 : xm_lk kb_X6_errorPosition 5 = none := rfl
theorem kc_X6_errorPosition : xm_oks cX6_errorPosition 6 1 0 false kb_X6_errorPosition := (List.forall_mem_cons.mpr ⟨bk_X6_errorPosition_0, (fun _ h => absurd h List.not_mem_nil)⟩)
def kb_X6_report : List (Nat × Nat × List xm_I) := [(0, 1, kX6_report_0), (64, 72, kX6_report_64), (72, 80, kX6_report_72), (80, 91, kX6_report_80), (91, 99, kX6_report_91), (99, 107, kX6_report_99), (107, 115, kX6_report_107), (115, 119, kX6_report_115), (122, 123, kX6_report_122), (123, 131, kX6_report_123), (131, 139, kX6_report_131), (139, 144, kX6_report_139), (147, 152, kX6_report_147), (155, 157, kX6_report_155), (157, 165, kX6_report_157), (165, 169, kX6_report_165), (172, 173, kX6_report_172), (176, 177, kX6_report_176)]
theorem lb_X6_report_0 : xm_lk kb_X6_report 0 = some (1, kX6_report_0) := rfl
theorem lb_X6_report_64 : xm_lk kb_X6_report 64 = some (72, kX6_report_64) := rfl
theorem lb_X6_report_72 : xm_lk kb_X6_report 72 = some (80, kX6_report_72) := rfl
theorem lb_X6_report_80 : xm_lk kb_X6_report 80 = some (91, kX6_report_80) := rfl
theorem lb_X6_report_91 : xm_lk kb_X6_report 91 = some (99, kX6_report_91) := rfl
theorem lb_X6_report_99 : xm_lk kb_X6_report 99 = some (107, kX6_report_99) := rfl
theorem lb_X6_report_107 : xm_lk kb_X6_report 107 = some (115, kX6_report_107) := rfl
theorem lb_X6_report_115 : xm_lk kb_X6_report 115 = some (119, kX6_report_115) := rfl
theorem lb_X6_report_122 : xm_lk kb_X6_report 122 = some (123, kX6_report_122) := rfl
theorem lb_X6_report_123 : xm_lk kb_X6_report 123 = some (131, kX6_report_123) := rfl
theorem lb_X6_report_131 : xm_lk kb_X6_report 131 = some (139, kX6_report_131) := rfl
theorem lb_X6_report_139 : xm_lk kb_X6_report 139 = some (144, kX6_report_139) := rfl
theorem lb_X6_report_147 : xm_lk kb_X6_report 147 = some (152, kX6_report_147) := rfl
theorem lb_X6_report_155 : xm_lk kb_X6_report 155 = some (157, kX6_report_155) := rfl
theorem lb_X6_report_157 : xm_lk kb_X6_report 157 = some (165, kX6_report_157) := rfl
theorem lb_X6_report_165 : xm_lk kb_X6_report 165 = some (169, kX6_report_165) := rfl
theorem lb_X6_report_172 : xm_lk kb_X6_report 172 = some (173, kX6_report_172) := rfl
theorem lb_X6_report_176 : xm_lk kb_X6_report 176 = some (177, kX6_report_176) := rfl
theorem lb_X6_report_1 : xm_lk kb_X6_report 1 = none := rfl
theorem lb_X6_report_119 : xm_lk kb_X6_report 119 = none := rfl
theorem lb_X6_report_144 : xm_lk kb_X6_report 144 = none := rfl
theorem lb_X6_report_152 : xm_lk kb_X6_report 152 = none := rfl
theorem lb_X6_report_169 : xm_lk kb_X6_report 169 = none := rfl
theorem lb_X6_report_173 : xm_lk kb_X6_report 173 = none := rfl
theorem lb_X6_report_177 : xm_lk kb_X6_report 177 = none := rfl
theorem kc_X6_report : xm_oks cX6_report 6 2 0 false kb_X6_report := (List.forall_mem_cons.mpr ⟨bk_X6_report_0, (List.forall_mem_cons.mpr ⟨bk_X6_report_64, (List.forall_mem_cons.mpr ⟨bk_X6_report_72, (List.forall_mem_cons.mpr ⟨bk_X6_report_80, (List.forall_mem_cons.mpr ⟨bk_X6_report_91, (List.forall_mem_cons.mpr ⟨bk_X6_report_99, (List.forall_mem_cons.mpr ⟨bk_X6_report_107, (List.forall_mem_cons.mpr ⟨bk_X6_report_115, (List.forall_mem_cons.mpr ⟨bk_X6_report_122, (List.forall_mem_cons.mpr ⟨bk_X6_report_123, (List.forall_mem_cons.mpr ⟨bk_X6_report_131, (List.forall_mem_cons.mpr ⟨bk_X6_report_139, (List.forall_mem_cons.mpr ⟨bk_X6_report_147, (List.forall_mem_cons.mpr ⟨bk_X6_report_155, (List.forall_mem_cons.mpr ⟨bk_X6_report_157, (List.forall_mem_cons.mpr ⟨bk_X6_report_165, (List.forall_mem_cons.mpr ⟨bk_X6_report_172, (List.forall_mem_cons.mpr ⟨bk_X6_report_176, (fun _ h => absurd h List.not_mem_nil)⟩)⟩)⟩)⟩)⟩)⟩)⟩)⟩)⟩)⟩)⟩)⟩)⟩)⟩)⟩)⟩)⟩)⟩)
def kb_X6_gate : List (Nat × Nat × List xm_I) := [(0, 5, kX6_gate_0), (8, 11, kX6_gate_8), (14, 15, kX6_gate_14), (19, 20, kX6_gate_19), (72, 82, kX6_gate_72), (82, 92, kX6_gate_82), (92, 102, kX6_gate_92), (102, 112, kX6_gate_102), (112, 122, kX6_gate_112), (122, 132, kX6_gate_122), (132, 137, kX6_gate_132), (140, 147, kX6_gate_140), (147, 148, kX6_gate_147), (148, 149, kX6_gate_148), (149, 165, kX6_gate_149), (165, 166, kX6_gate_165), (166, 167, kX6_gate_166), (167, 183, kX6_gate_167), (183, 184, kX6_gate_183), (184, 185, kX6_gate_184), (188, 189, kX6_gate_188)]
theorem lb_X6_gate_0 : xm_lk kb_X6_gate 0 = some (5, kX6_gate_0) := rfl
theorem lb_X6_gate_8 : xm_lk kb_X6_gate 8 = some (11, kX6_gate_8) := rfl
theorem lb_X6_gate_14 : xm_lk kb_X6_gate 14 = some (15, kX6_gate_14) := rfl
theorem lb_X6_gate_19 : xm_lk kb_X6_gate 19 = some (20, kX6_gate_19) := rfl
theorem lb_X6_gate_72 : xm_lk kb_X6_gate 72 = some (82, kX6_gate_72) := rfl
theorem lb_X6_gate_82 : xm_lk kb_X6_gate 82 = some (92, kX6_gate_82) := rfl
theorem lb_X6_gate_92 : xm_lk kb_X6_gate 92 = some (102, kX6_gate_92) := rfl
theorem lb_X6_gate_102 : xm_lk kb_X6_gate 102 = some (112, kX6_gate_102) := rfl
theorem lb_X6_gate_112 : xm_lk kb_X6_gate 112 = some (122, kX6_gate_112) := rfl
theorem lb_X6_gate_122 : xm_lk kb_X6_gate 122 = some (132, kX6_gate_122) := rfl
theorem lb_X6_gate_132 : xm_lk kb_X6_gate 132 = some (137, kX6_gate_132) := rfl
theorem lb_X6_gate_140 : xm_lk kb_X6_gate 140 = some (147, kX6_gate_140) := rfl
theorem lb_X6_gate_147 : xm_lk kb_X6_gate 147 = some (148, kX6_gate_147) := rfl
theorem lb_X6_gate_148 : xm_lk kb_X6_gate 148 = some (149, kX6_gate_148) := rfl
theorem lb_X6_gate_149 : xm_lk kb_X6_gate 149 = some (165, kX6_gate_149) := rfl
theorem lb_X6_gate_165 : xm_lk kb_X6_gate 165 = some (166, kX6_gate_165) := rfl
theorem lb_X6_gate_166 : xm_lk kb_X6_gate 166 = some (167, kX6_gate_166) := rfl
theorem lb_X6_gate_167 : xm_lk kb_X6_gate 167 = some (183, kX6_gate_167) := rfl
theorem lb_X6_gate_183 : xm_lk kb_X6_gate 183 = some (184, kX6_gate_183) := rfl
theorem lb_X6_gate_184 : xm_lk kb_X6_gate 184 = some (185, kX6_gate_184) := rfl
theorem lb_X6_gate_188 : xm_lk kb_X6_gate 188 = some (189, kX6_gate_188) := rfl
theorem lb_X6_gate_5 : xm_lk kb_X6_gate 5 = none := rfl
theorem lb_X6_gate_11 : xm_lk kb_X6_gate 11 = none := rfl
theorem lb_X6_gate_15 : xm_lk kb_X6_gate 15 = none := rfl
theorem lb_X6_gate_20 : xm_lk kb_X6_gate 20 = none := rfl
theorem lb_X6_gate_137 : xm_lk kb_X6_gate 137 = none := rfl
theorem lb_X6_gate_185 : xm_lk kb_X6_gate 185 = none := rfl
theorem lb_X6_gate_189 : xm_lk kb_X6_gate 189 = none := rfl
theorem kc_X6_gate : xm_oks cX6_gate 6 3 0 false kb_X6_gate := (List.forall_mem_cons.mpr ⟨bk_X6_gate_0, (List.forall_mem_cons.mpr ⟨bk_X6_gate_8, (List.forall_mem_cons.mpr ⟨bk_X6_gate_14, (List.forall_mem_cons.mpr ⟨bk_X6_gate_19, (List.forall_mem_cons.mpr ⟨bk_X6_gate_72, (List.forall_mem_cons.mpr ⟨bk_X6_gate_82, (List.forall_mem_cons.mpr ⟨bk_X6_gate_92, (List.forall_mem_cons.mpr ⟨bk_X6_gate_102, (List.forall_mem_cons.mpr ⟨bk_X6_gate_112, (List.forall_mem_cons.mpr ⟨bk_X6_gate_122, (List.forall_mem_cons.mpr ⟨bk_X6_gate_132, (List.forall_mem_cons.mpr ⟨bk_X6_gate_140, (List.forall_mem_cons.mpr ⟨bk_X6_gate_147, (List.forall_mem_cons.mpr ⟨bk_X6_gate_148, (List.forall_mem_cons.mpr ⟨bk_X6_gate_149, (List.forall_mem_cons.mpr ⟨bk_X6_gate_165, (List.forall_mem_cons.mpr ⟨bk_X6_gate_166, (List.forall_mem_cons.mpr ⟨bk_X6_gate_167, (List.forall_mem_cons.mpr ⟨bk_X6_gate_183, (List.forall_mem_cons.mpr ⟨bk_X6_gate_184, (List.forall_mem_cons.mpr ⟨bk_X6_gate_188, (fun _ h => absurd h List.not_mem_nil)⟩)⟩)⟩)⟩)⟩)⟩)⟩)⟩)⟩)⟩)⟩)⟩)⟩)⟩)⟩)⟩)⟩)⟩)⟩)⟩)⟩)
def kb_X6_put : List (Nat × Nat × List xm_I) := [(0, 13, kX6_put_0), (16, 19, kX6_put_16), (22, 23, kX6_put_22), (27, 31, kX6_put_27), (34, 37, kX6_put_34), (40, 41, kX6_put_40), (45, 51, kX6_put_45), (54, 55, kX6_put_54)]
theorem lb_X6_put_0 : xm_lk kb_X6_put 0 = some (13, kX6_put_0) := rfl
theorem lb_X6_put_16 : xm_lk kb_X6_put 16 = some (19, kX6_put_16) := rfl
theorem lb_X6_put_22 : xm_lk kb_X6_put 22 = some (23, kX6_put_22) := rfl
theorem lb_X6_put_27 : xm_lk kb_X6_put 27 = some (31, kX6_put_27) := rfl
theorem lb_X6_put_34 : xm_lk kb_X6_put 34 = some (37, kX6_put_34) := rfl
theorem lb_X6_put_40 : xm_lk kb_X6_put 40 = some (41, kX6_put_40) := rfl
theorem lb_X6_put_45 : xm_lk kb_X6_put 45 = some (51, kX6_put_45) := rfl
theorem lb_X6_put_54 : xm_lk kb_X6_put 54 = some (55, kX6_put_54) := rfl
theorem lb_X6_put_13 : xm_lk kb_X6_put 13 = none := rfl
theorem lb_X6_put_19 : xm_lk kb_X6_put 19 = none := rfl
theorem lb_X6_put_23 : xm_lk kb_X6_put 23 = none := rfl
theorem lb_X6_put_31 : xm_lk kb_X6_put 31 = none := rfl
theorem lb_X6_put_37 : xm_lk kb_X6_put 37 = none := rfl
theorem lb_X6_put_41 : xm_lk kb_X6_put 41 = none := rfl
theorem lb_X6_put_51 : xm_lk kb_X6_put 51 = none := rfl
theorem lb_X6_put_55 : xm_lk kb_X6_put 55 = none := rfl
theorem kc_X6_put : xm_oks cX6_put 6 3 0 false kb_X6_put := (List.forall_mem_cons.mpr ⟨bk_X6_put_0, (List.forall_mem_cons.mpr ⟨bk_X6_put_16, (List.forall_mem_cons.mpr ⟨bk_X6_put_22, (List.forall_mem_cons.mpr ⟨bk_X6_put_27, (List.forall_mem_cons.mpr ⟨bk_X6_put_34, (List.forall_mem_cons.mpr ⟨bk_X6_put_40, (List.forall_mem_cons.mpr ⟨bk_X6_put_45, (List.forall_mem_cons.mpr ⟨bk_X6_put_54, (fun _ h => absurd h List.not_mem_nil)⟩)⟩)⟩)⟩)⟩)⟩)⟩)⟩)
def kb_X6_step : List (Nat × Nat × List xm_I) := [(0, 12, kX6_step_0), (15, 16, kX6_step_15), (20, 35, kX6_step_20), (38, 39, kX6_step_38), (43, 53, kX6_step_43), (53, 62, kX6_step_53), (65, 71, kX6_step_65), (71, 81, kX6_step_71)]
theorem lb_X6_step_0 : xm_lk kb_X6_step 0 = some (12, kX6_step_0) := rfl
theorem lb_X6_step_15 : xm_lk kb_X6_step 15 = some (16, kX6_step_15) := rfl
theorem lb_X6_step_20 : xm_lk kb_X6_step 20 = some (35, kX6_step_20) := rfl
theorem lb_X6_step_38 : xm_lk kb_X6_step 38 = some (39, kX6_step_38) := rfl
theorem lb_X6_step_43 : xm_lk kb_X6_step 43 = some (53, kX6_step_43) := rfl
theorem lb_X6_step_53 : xm_lk kb_X6_step 53 = some (62, kX6_step_53) := rfl
theorem lb_X6_step_65 : xm_lk kb_X6_step 65 = some (71, kX6_step_65) := rfl
theorem lb_X6_step_71 : xm_lk kb_X6_step 71 = some (81, kX6_step_71) := rfl
theorem lb_X6_step_12 : xm_lk kb_X6_step 12 = none := rfl
theorem lb_X6_step_16 : xm_lk kb_X6_step 16 = none := rfl
theorem lb_X6_step_35 : xm_lk kb_X6_step 35 = none := rfl
theorem lb_X6_step_39 : xm_lk kb_X6_step 39 = none := rfl
theorem lb_X6_step_62 : xm_lk kb_X6_step 62 = none := rfl
theorem lb_X6_step_81 : xm_lk kb_X6_step 81 = none := rfl
theorem kc_X6_step : xm_oks cX6_step 6 4 0 false kb_X6_step := (List.forall_mem_cons.mpr ⟨bk_X6_step_0, (List.forall_mem_cons.mpr ⟨bk_X6_step_15, (List.forall_mem_cons.mpr ⟨bk_X6_step_20, (List.forall_mem_cons.mpr ⟨bk_X6_step_38, (List.forall_mem_cons.mpr ⟨bk_X6_step_43, (List.forall_mem_cons.mpr ⟨bk_X6_step_53, (List.forall_mem_cons.mpr ⟨bk_X6_step_65, (List.forall_mem_cons.mpr ⟨bk_X6_step_71, (fun _ h => absurd h List.not_mem_nil)⟩)⟩)⟩)⟩)⟩)⟩)⟩)⟩)
def kb_X6_jam : List (Nat × Nat × List xm_I) := [(0, 5, kX6_jam_0), (8, 11, kX6_jam_8), (14, 15, kX6_jam_14), (19, 33, kX6_jam_19), (36, 37, kX6_jam_36), (37, 49, kX6_jam_37), (33, 36, kX6_jam_33), (49, 50, kX6_jam_49)]
theorem lb_X6_jam_0 : xm_lk kb_X6_jam 0 = some (5, kX6_jam_0) := rfl
theorem lb_X6_jam_8 : xm_lk kb_X6_jam 8 = some (11, kX6_jam_8) := rfl
theorem lb_X6_jam_14 : xm_lk kb_X6_jam 14 = some (15, kX6_jam_14) := rfl
theorem lb_X6_jam_19 : xm_lk kb_X6_jam 19 = some (33, kX6_jam_19) := rfl
theorem lb_X6_jam_36 : xm_lk kb_X6_jam 36 = some (37, kX6_jam_36) := rfl
theorem lb_X6_jam_37 : xm_lk kb_X6_jam 37 = some (49, kX6_jam_37) := rfl
theorem lb_X6_jam_33 : xm_lk kb_X6_jam 33 = some (36, kX6_jam_33) := rfl
theorem lb_X6_jam_49 : xm_lk kb_X6_jam 49 = some (50, kX6_jam_49) := rfl
theorem lb_X6_jam_5 : xm_lk kb_X6_jam 5 = none := rfl
theorem lb_X6_jam_11 : xm_lk kb_X6_jam 11 = none := rfl
theorem lb_X6_jam_15 : xm_lk kb_X6_jam 15 = none := rfl
theorem lb_X6_jam_50 : xm_lk kb_X6_jam 50 = none := rfl
theorem kc_X6_jam : xm_oks cX6_jam 6 4 1 false kb_X6_jam := (List.forall_mem_cons.mpr ⟨bk_X6_jam_0, (List.forall_mem_cons.mpr ⟨bk_X6_jam_8, (List.forall_mem_cons.mpr ⟨bk_X6_jam_14, (List.forall_mem_cons.mpr ⟨bk_X6_jam_19, (List.forall_mem_cons.mpr ⟨bk_X6_jam_36, (List.forall_mem_cons.mpr ⟨bk_X6_jam_37, (List.forall_mem_cons.mpr ⟨bk_X6_jam_33, (List.forall_mem_cons.mpr ⟨bk_X6_jam_49, (fun _ h => absurd h List.not_mem_nil)⟩)⟩)⟩)⟩)⟩)⟩)⟩)⟩)
def kb_X6_sensor : List (Nat × Nat × List xm_I) := [(0, 5, kX6_sensor_0), (8, 11, kX6_sensor_8), (14, 15, kX6_sensor_14), (19, 33, kX6_sensor_19), (36, 37, kX6_sensor_36), (37, 49, kX6_sensor_37), (33, 36, kX6_sensor_33), (49, 50, kX6_sensor_49)]
theorem lb_X6_sensor_0 : xm_lk kb_X6_sensor 0 = some (5, kX6_sensor_0) := rfl
theorem lb_X6_sensor_8 : xm_lk kb_X6_sensor 8 = some (11, kX6_sensor_8) := rfl
theorem lb_X6_sensor_14 : xm_lk kb_X6_sensor 14 = some (15, kX6_sensor_14) := rfl
theorem lb_X6_sensor_19 : xm_lk kb_X6_sensor 19 = some (33, kX6_sensor_19) := rfl
theorem lb_X6_sensor_36 : xm_lk kb_X6_sensor 36 = some (37, kX6_sensor_36) := rfl
theorem lb_X6_sensor_37 : xm_lk kb_X6_sensor 37 = some (49, kX6_sensor_37) := rfl
theorem lb_X6_sensor_33 : xm_lk kb_X6_sensor 33 = some (36, kX6_sensor_33) := rfl
theorem lb_X6_sensor_49 : xm_lk kb_X6_sensor 49 = some (50, kX6_sensor_49) := rfl
theorem lb_X6_sensor_5 : xm_lk kb_X6_sensor 5 = none := rfl
theorem lb_X6_sensor_11 : xm_lk kb_X6_sensor 11 = none := rfl
theorem lb_X6_sensor_15 : xm_lk kb_X6_sensor 15 = none := rfl
theorem lb_X6_sensor_50 : xm_lk kb_X6_sensor 50 = none := rfl
theorem kc_X6_sensor : xm_oks cX6_sensor 6 4 1 false kb_X6_sensor := (List.forall_mem_cons.mpr ⟨bk_X6_sensor_0, (List.forall_mem_cons.mpr ⟨bk_X6_sensor_8, (List.forall_mem_cons.mpr ⟨bk_X6_sensor_14, (List.forall_mem_cons.mpr ⟨bk_X6_sensor_19, (List.forall_mem_cons.mpr ⟨bk_X6_sensor_36, (List.forall_mem_cons.mpr ⟨bk_X6_sensor_37, (List.forall_mem_cons.mpr ⟨bk_X6_sensor_33, (List.forall_mem_cons.mpr ⟨bk_X6_sensor_49, (fun _ h => absurd h List.not_mem_nil)⟩)⟩)⟩)⟩)⟩)⟩)⟩)⟩)
def kb_X6_setLimits : List (Nat × Nat × List xm_I) := [(0, 16, kX6_setLimits_0), (26, 27, kX6_setLimits_26), (31, 47, kX6_setLimits_31), (16, 23, kX6_setLimits_16), (47, 48, kX6_setLimits_47)]
theorem lb_X6_setLimits_0 : xm_lk kb_X6_setLimits 0 = some (16, kX6_setLimits_0) := rfl
theorem lb_X6_setLimits_26 : xm_lk kb_X6_setLimits 26 = some (27, kX6_setLimits_26) := rfl
theorem lb_X6_setLimits_31 : xm_lk kb_X6_setLimits 31 = some (47, kX6_setLimits_31) := rfl
theorem lb_X6_setLimits_16 : xm_lk kb_X6_setLimits 16 = some (23, kX6_setLimits_16) := rfl
theorem lb_X6_setLimits_47 : xm_lk kb_X6_setLimits 47 = some (48, kX6_setLimits_47) := rfl
theorem lb_X6_setLimits_23 : xm_lk kb_X6_setLimits 23 = none := rfl
theorem lb_X6_setLimits_27 : xm_lk kb_X6_setLimits 27 = none := rfl
theorem lb_X6_setLimits_48 : xm_lk kb_X6_setLimits 48 = none := rfl
theorem kc_X6_setLimits : xm_oks cX6_setLimits 6 3 3 false kb_X6_setLimits := (List.forall_mem_cons.mpr ⟨bk_X6_setLimits_0, (List.forall_mem_cons.mpr ⟨bk_X6_setLimits_26, (List.forall_mem_cons.mpr ⟨bk_X6_setLimits_31, (List.forall_mem_cons.mpr ⟨bk_X6_setLimits_16, (List.forall_mem_cons.mpr ⟨bk_X6_setLimits_47, (fun _ h => absurd h List.not_mem_nil)⟩)⟩)⟩)⟩)⟩)
def kb_X6_setTare : List (Nat × Nat × List xm_I) := [(0, 14, kX6_setTare_0), (17, 18, kX6_setTare_17), (22, 38, kX6_setTare_22), (38, 40, kX6_setTare_38)]
theorem lb_X6_setTare_0 : xm_lk kb_X6_setTare 0 = some (14, kX6_setTare_0) := rfl
theorem lb_X6_setTare_17 : xm_lk kb_X6_setTare 17 = some (18, kX6_setTare_17) := rfl
theorem lb_X6_setTare_22 : xm_lk kb_X6_setTare 22 = some (38, kX6_setTare_22) := rfl
theorem lb_X6_setTare_38 : xm_lk kb_X6_setTare 38 = some (40, kX6_setTare_38) := rfl
theorem lb_X6_setTare_14 : xm_lk kb_X6_setTare 14 = none := rfl
theorem lb_X6_setTare_18 : xm_lk kb_X6_setTare 18 = none := rfl
theorem lb_X6_setTare_40 : xm_lk kb_X6_setTare 40 = none := rfl
theorem kc_X6_setTare : xm_oks cX6_setTare 6 3 0 false kb_X6_setTare := (List.forall_mem_cons.mpr ⟨bk_X6_setTare_0, (List.forall_mem_cons.mpr ⟨bk_X6_setTare_17, (List.forall_mem_cons.mpr ⟨bk_X6_setTare_22, (List.forall_mem_cons.mpr ⟨bk_X6_setTare_38, (fun _ h => absurd h List.not_mem_nil)⟩)⟩)⟩)⟩)
def kb_X6_item : List (Nat × Nat × List xm_I) := [(0, 5, kX6_item_0), (8, 13, kX6_item_8), (16, 17, kX6_item_16), (21, 22, kX6_item_21), (76, 81, kX6_item_76), (81, 86, kX6_item_81), (86, 91, kX6_item_86), (91, 96, kX6_item_91), (96, 101, kX6_item_96), (101, 112, kX6_item_101), (112, 113, kX6_item_112), (113, 114, kX6_item_113), (114, 119, kX6_item_114), (119, 124, kX6_item_119), (124, 129, kX6_item_124), (129, 134, kX6_item_129), (137, 138, kX6_item_137)]
theorem lb_X6_item_0 : xm_lk kb_X6_item 0 = some (5, kX6_item_0) := rfl
theorem lb_X6_item_8 : xm_lk kb_X6_item 8 = some (13, kX6_item_8) := rfl
theorem lb_X6_item_16 : xm_lk kb_X6_item 16 = some (17, kX6_item_16) := rfl
theorem lb_X6_item_21 : xm_lk kb_X6_item 21 = some (22, kX6_item_21) := rfl
theorem lb_X6_item_76 : xm_lk kb_X6_item 76 = some (81, kX6_item_76) := rfl
theorem lb_X6_item_81 : xm_lk kb_X6_item 81 = some (86, kX6_item_81) := rfl
theorem lb_X6_item_86 : xm_lk kb_X6_item 86 = some (91, kX6_item_86) := rfl
theorem lb_X6_item_91 : xm_lk kb_X6_item 91 = some (96, kX6_item_91) := rfl
theorem lb_X6_item_96 : xm_lk kb_X6_item 96 = some (101, kX6_item_96) := rfl
theorem lb_X6_item_101 : xm_lk kb_X6_item 101 = some (112, kX6_item_101) := rfl
theorem lb_X6_item_112 : xm_lk kb_X6_item 112 = some (113, kX6_item_112) := rfl
theorem lb_X6_item_113 : xm_lk kb_X6_item 113 = some (114, kX6_item_113) := rfl
theorem lb_X6_item_114 : xm_lk kb_X6_item 114 = some (119, kX6_item_114) := rfl
theorem lb_X6_item_119 : xm_lk kb_X6_item 119 = some (124, kX6_item_119) := rfl
theorem lb_X6_item_124 : xm_lk kb_X6_item 124 = some (129, kX6_item_124) := rfl
theorem lb_X6_item_129 : xm_lk kb_X6_item 129 = some (134, kX6_item_129) := rfl
theorem lb_X6_item_137 : xm_lk kb_X6_item 137 = some (138, kX6_item_137) := rfl
theorem lb_X6_item_5 : xm_lk kb_X6_item 5 = none := rfl
theorem lb_X6_item_13 : xm_lk kb_X6_item 13 = none := rfl
theorem lb_X6_item_17 : xm_lk kb_X6_item 17 = none := rfl
theorem lb_X6_item_22 : xm_lk kb_X6_item 22 = none := rfl
theorem lb_X6_item_134 : xm_lk kb_X6_item 134 = none := rfl
theorem lb_X6_item_138 : xm_lk kb_X6_item 138 = none := rfl
theorem kc_X6_item : xm_oks cX6_item 6 4 0 false kb_X6_item := (List.forall_mem_cons.mpr ⟨bk_X6_item_0, (List.forall_mem_cons.mpr ⟨bk_X6_item_8, (List.forall_mem_cons.mpr ⟨bk_X6_item_16, (List.forall_mem_cons.mpr ⟨bk_X6_item_21, (List.forall_mem_cons.mpr ⟨bk_X6_item_76, (List.forall_mem_cons.mpr ⟨bk_X6_item_81, (List.forall_mem_cons.mpr ⟨bk_X6_item_86, (List.forall_mem_cons.mpr ⟨bk_X6_item_91, (List.forall_mem_cons.mpr ⟨bk_X6_item_96, (List.forall_mem_cons.mpr ⟨bk_X6_item_101, (List.forall_mem_cons.mpr ⟨bk_X6_item_112, (List.forall_mem_cons.mpr ⟨bk_X6_item_113, (List.forall_mem_cons.mpr ⟨bk_X6_item_114, (List.forall_mem_cons.mpr ⟨bk_X6_item_119, (List.forall_mem_cons.mpr ⟨bk_X6_item_124, (List.forall_mem_cons.mpr ⟨bk_X6_item_129, (List.forall_mem_cons.mpr ⟨bk_X6_item_137, (fun _ h => absurd h List.not_mem_nil)⟩)⟩)⟩)⟩)⟩)⟩)⟩)⟩)⟩)⟩)⟩)⟩)⟩)⟩)⟩)⟩)⟩)
def kb_X6_measured : List (Nat × Nat × List xm_I) := [(0, 5, kX6_measured_0), (8, 13, kX6_measured_8), (16, 17, kX6_measured_16), (21, 28, kX6_measured_21), (31, 32, kX6_measured_31), (36, 41, kX6_measured_36)]
theorem lb_X6_measured_0 : xm_lk kb_X6_measured 0 = some (5, kX6_measured_0) := rfl
theorem lb_X6_measured_8 : xm_lk kb_X6_measured 8 = some (13, kX6_measured_8) := rfl
theorem lb_X6_measured_16 : xm_lk kb_X6_measured 16 = some (17, kX6_measured_16) := rfl
theorem lb_X6_measured_21 : xm_lk kb_X6_measured 21 = some (28, kX6_measured_21) := rfl
theorem lb_X6_measured_31 : xm_lk kb_X6_measured 31 = some (32, kX6_measured_31) := rfl
theorem lb_X6_measured_36 : xm_lk kb_X6_measured 36 = some (41, kX6_measured_36) := rfl
theorem lb_X6_measured_5 : xm_lk kb_X6_measured 5 = none := rfl
theorem lb_X6_measured_13 : xm_lk kb_X6_measured 13 = none := rfl
theorem lb_X6_measured_17 : xm_lk kb_X6_measured 17 = none := rfl
theorem lb_X6_measured_28 : xm_lk kb_X6_measured 28 = none := rfl
theorem lb_X6_measured_32 : xm_lk kb_X6_measured 32 = none := rfl
theorem lb_X6_measured_41 : xm_lk kb_X6_measured 41 = none := rfl
theorem kc_X6_measured : xm_oks cX6_measured 6 3 0 false kb_X6_measured := (List.forall_mem_cons.mpr ⟨bk_X6_measured_0, (List.forall_mem_cons.mpr ⟨bk_X6_measured_8, (List.forall_mem_cons.mpr ⟨bk_X6_measured_16, (List.forall_mem_cons.mpr ⟨bk_X6_measured_21, (List.forall_mem_cons.mpr ⟨bk_X6_measured_31, (List.forall_mem_cons.mpr ⟨bk_X6_measured_36, (fun _ h => absurd h List.not_mem_nil)⟩)⟩)⟩)⟩)⟩)⟩)
def kb_X6_sampleOf : List (Nat × Nat × List xm_I) := [(0, 5, kX6_sampleOf_0), (8, 22, kX6_sampleOf_8), (28, 29, kX6_sampleOf_28), (33, 35, kX6_sampleOf_33), (38, 39, kX6_sampleOf_38), (22, 25, kX6_sampleOf_22)]
theorem lb_X6_sampleOf_0 : xm_lk kb_X6_sampleOf 0 = some (5, kX6_sampleOf_0) := rfl
theorem lb_X6_sampleOf_8 : xm_lk kb_X6_sampleOf 8 = some (22, kX6_sampleOf_8) := rfl
theorem lb_X6_sampleOf_28 : xm_lk kb_X6_sampleOf 28 = some (29, kX6_sampleOf_28) := rfl
theorem lb_X6_sampleOf_33 : xm_lk kb_X6_sampleOf 33 = some (35, kX6_sampleOf_33) := rfl
theorem lb_X6_sampleOf_38 : xm_lk kb_X6_sampleOf 38 = some (39, kX6_sampleOf_38) := rfl
theorem lb_X6_sampleOf_22 : xm_lk kb_X6_sampleOf 22 = some (25, kX6_sampleOf_22) := rfl
theorem lb_X6_sampleOf_5 : xm_lk kb_X6_sampleOf 5 = none := rfl
theorem lb_X6_sampleOf_25 : xm_lk kb_X6_sampleOf 25 = none := rfl
theorem lb_X6_sampleOf_29 : xm_lk kb_X6_sampleOf 29 = none := rfl
theorem lb_X6_sampleOf_35 : xm_lk kb_X6_sampleOf 35 = none := rfl
theorem lb_X6_sampleOf_39 : xm_lk kb_X6_sampleOf 39 = none := rfl
theorem kc_X6_sampleOf : xm_oks cX6_sampleOf 6 4 0 false kb_X6_sampleOf := (List.forall_mem_cons.mpr ⟨bk_X6_sampleOf_0, (List.forall_mem_cons.mpr ⟨bk_X6_sampleOf_8, (List.forall_mem_cons.mpr ⟨bk_X6_sampleOf_28, (List.forall_mem_cons.mpr ⟨bk_X6_sampleOf_33, (List.forall_mem_cons.mpr ⟨bk_X6_sampleOf_38, (List.forall_mem_cons.mpr ⟨bk_X6_sampleOf_22, (fun _ h => absurd h List.not_mem_nil)⟩)⟩)⟩)⟩)⟩)⟩)
def kb_X6_sample : List (Nat × Nat × List xm_I) := [(0, 10, kX6_sample_0), (13, 14, kX6_sample_13), (18, 29, kX6_sample_18), (32, 33, kX6_sample_32), (37, 42, kX6_sample_37), (45, 46, kX6_sample_45)]
theorem lb_X6_sample_0 : xm_lk kb_X6_sample 0 = some (10, kX6_sample_0) := rfl
theorem lb_X6_sample_13 : xm_lk kb_X6_sample 13 = some (14, kX6_sample_13) := rfl
theorem lb_X6_sample_18 : xm_lk kb_X6_sample 18 = some (29, kX6_sample_18) := rfl
theorem lb_X6_sample_32 : xm_lk kb_X6_sample 32 = some (33, kX6_sample_32) := rfl
theorem lb_X6_sample_37 : xm_lk kb_X6_sample 37 = some (42, kX6_sample_37) := rfl
theorem lb_X6_sample_45 : xm_lk kb_X6_sample 45 = some (46, kX6_sample_45) := rfl
theorem lb_X6_sample_10 : xm_lk kb_X6_sample 10 = none := rfl
theorem lb_X6_sample_14 : xm_lk kb_X6_sample 14 = none := rfl
theorem lb_X6_sample_29 : xm_lk kb_X6_sample 29 = none := rfl
theorem lb_X6_sample_33 : xm_lk kb_X6_sample 33 = none := rfl
theorem lb_X6_sample_42 : xm_lk kb_X6_sample 42 = none := rfl
theorem lb_X6_sample_46 : xm_lk kb_X6_sample 46 = none := rfl
theorem kc_X6_sample : xm_oks cX6_sample 6 2 0 false kb_X6_sample := (List.forall_mem_cons.mpr ⟨bk_X6_sample_0, (List.forall_mem_cons.mpr ⟨bk_X6_sample_13, (List.forall_mem_cons.mpr ⟨bk_X6_sample_18, (List.forall_mem_cons.mpr ⟨bk_X6_sample_32, (List.forall_mem_cons.mpr ⟨bk_X6_sample_37, (List.forall_mem_cons.mpr ⟨bk_X6_sample_45, (fun _ h => absurd h List.not_mem_nil)⟩)⟩)⟩)⟩)⟩)⟩)
def kb_X6_count : List (Nat × Nat × List xm_I) := [(0, 9, kX6_count_0), (12, 13, kX6_count_12), (17, 22, kX6_count_17), (25, 26, kX6_count_25)]
theorem lb_X6_count_0 : xm_lk kb_X6_count 0 = some (9, kX6_count_0) := rfl
theorem lb_X6_count_12 : xm_lk kb_X6_count 12 = some (13, kX6_count_12) := rfl
theorem lb_X6_count_17 : xm_lk kb_X6_count 17 = some (22, kX6_count_17) := rfl
theorem lb_X6_count_25 : xm_lk kb_X6_count 25 = some (26, kX6_count_25) := rfl
theorem lb_X6_count_9 : xm_lk kb_X6_count 9 = none := rfl
theorem lb_X6_count_13 : xm_lk kb_X6_count 13 = none := rfl
theorem lb_X6_count_22 : xm_lk kb_X6_count 22 = none := rfl
theorem lb_X6_count_26 : xm_lk kb_X6_count 26 = none := rfl
theorem kc_X6_count : xm_oks cX6_count 6 2 0 false kb_X6_count := (List.forall_mem_cons.mpr ⟨bk_X6_count_0, (List.forall_mem_cons.mpr ⟨bk_X6_count_12, (List.forall_mem_cons.mpr ⟨bk_X6_count_17, (List.forall_mem_cons.mpr ⟨bk_X6_count_25, (fun _ h => absurd h List.not_mem_nil)⟩)⟩)⟩)⟩)
def kb_X6_decided : List (Nat × Nat × List xm_I) := [(0, 9, kX6_decided_0), (12, 13, kX6_decided_12), (17, 22, kX6_decided_17), (25, 26, kX6_decided_25)]
theorem lb_X6_decided_0 : xm_lk kb_X6_decided 0 = some (9, kX6_decided_0) := rfl
theorem lb_X6_decided_12 : xm_lk kb_X6_decided 12 = some (13, kX6_decided_12) := rfl
theorem lb_X6_decided_17 : xm_lk kb_X6_decided 17 = some (22, kX6_decided_17) := rfl
theorem lb_X6_decided_25 : xm_lk kb_X6_decided 25 = some (26, kX6_decided_25) := rfl
theorem lb_X6_decided_9 : xm_lk kb_X6_decided 9 = none := rfl
theorem lb_X6_decided_13 : xm_lk kb_X6_decided 13 = none := rfl
theorem lb_X6_decided_22 : xm_lk kb_X6_decided 22 = none := rfl
theorem lb_X6_decided_26 : xm_lk kb_X6_decided 26 = none := rfl
theorem kc_X6_decided : xm_oks cX6_decided 6 2 0 false kb_X6_decided := (List.forall_mem_cons.mpr ⟨bk_X6_decided_0, (List.forall_mem_cons.mpr ⟨bk_X6_decided_12, (List.forall_mem_cons.mpr ⟨bk_X6_decided_17, (List.forall_mem_cons.mpr ⟨bk_X6_decided_25, (fun _ h => absurd h List.not_mem_nil)⟩)⟩)⟩)⟩)
def kb_X6_meanGood : List (Nat × Nat × List xm_I) := [(0, 5, kX6_meanGood_0), (8, 13, kX6_meanGood_8), (16, 17, kX6_meanGood_16), (21, 25, kX6_meanGood_21), (28, 31, kX6_meanGood_28), (32, 33, kX6_meanGood_32)]
theorem lb_X6_meanGood_0 : xm_lk kb_X6_meanGood 0 = some (5, kX6_meanGood_0) := rfl
theorem lb_X6_meanGood_8 : xm_lk kb_X6_meanGood 8 = some (13, kX6_meanGood_8) := rfl
theorem lb_X6_meanGood_16 : xm_lk kb_X6_meanGood 16 = some (17, kX6_meanGood_16) := rfl
theorem lb_X6_meanGood_21 : xm_lk kb_X6_meanGood 21 = some (25, kX6_meanGood_21) := rfl
theorem lb_X6_meanGood_28 : xm_lk kb_X6_meanGood 28 = some (31, kX6_meanGood_28) := rfl
theorem lb_X6_meanGood_32 : xm_lk kb_X6_meanGood 32 = some (33, kX6_meanGood_32) := rfl
theorem lb_X6_meanGood_5 : xm_lk kb_X6_meanGood 5 = none := rfl
theorem lb_X6_meanGood_13 : xm_lk kb_X6_meanGood 13 = none := rfl
theorem lb_X6_meanGood_17 : xm_lk kb_X6_meanGood 17 = none := rfl
theorem lb_X6_meanGood_25 : xm_lk kb_X6_meanGood 25 = none := rfl
theorem lb_X6_meanGood_31 : xm_lk kb_X6_meanGood 31 = none := rfl
theorem lb_X6_meanGood_33 : xm_lk kb_X6_meanGood 33 = none := rfl
theorem kc_X6_meanGood : xm_oks cX6_meanGood 6 2 4 false kb_X6_meanGood := (List.forall_mem_cons.mpr ⟨bk_X6_meanGood_0, (List.forall_mem_cons.mpr ⟨bk_X6_meanGood_8, (List.forall_mem_cons.mpr ⟨bk_X6_meanGood_16, (List.forall_mem_cons.mpr ⟨bk_X6_meanGood_21, (List.forall_mem_cons.mpr ⟨bk_X6_meanGood_28, (List.forall_mem_cons.mpr ⟨bk_X6_meanGood_32, (fun _ h => absurd h List.not_mem_nil)⟩)⟩)⟩)⟩)⟩)⟩)
def kb_X6_meanError : List (Nat × Nat × List xm_I) := [(0, 4, kX6_meanError_0), (7, 12, kX6_meanError_7), (15, 16, kX6_meanError_15), (20, 24, kX6_meanError_20), (27, 30, kX6_meanError_27), (31, 32, kX6_meanError_31)]
theorem lb_X6_meanError_0 : xm_lk kb_X6_meanError 0 = some (4, kX6_meanError_0) := rfl
theorem lb_X6_meanError_7 : xm_lk kb_X6_meanError 7 = some (12, kX6_meanError_7) := rfl
theorem lb_X6_meanError_15 : xm_lk kb_X6_meanError 15 = some (16, kX6_meanError_15) := rfl
theorem lb_X6_meanError_20 : xm_lk kb_X6_meanError 20 = some (24, kX6_meanError_20) := rfl
theorem lb_X6_meanError_27 : xm_lk kb_X6_meanError 27 = some (30, kX6_meanError_27) := rfl
theorem lb_X6_meanError_31 : xm_lk kb_X6_meanError 31 = some (32, kX6_meanError_31) := rfl
theorem lb_X6_meanError_4 : xm_lk kb_X6_meanError 4 = none := rfl
theorem lb_X6_meanError_12 : xm_lk kb_X6_meanError 12 = none := rfl
theorem lb_X6_meanError_16 : xm_lk kb_X6_meanError 16 = none := rfl
theorem lb_X6_meanError_24 : xm_lk kb_X6_meanError 24 = none := rfl
theorem lb_X6_meanError_30 : xm_lk kb_X6_meanError 30 = none := rfl
theorem lb_X6_meanError_32 : xm_lk kb_X6_meanError 32 = none := rfl
theorem kc_X6_meanError : xm_oks cX6_meanError 6 2 4 false kb_X6_meanError := (List.forall_mem_cons.mpr ⟨bk_X6_meanError_0, (List.forall_mem_cons.mpr ⟨bk_X6_meanError_7, (List.forall_mem_cons.mpr ⟨bk_X6_meanError_15, (List.forall_mem_cons.mpr ⟨bk_X6_meanError_20, (List.forall_mem_cons.mpr ⟨bk_X6_meanError_27, (List.forall_mem_cons.mpr ⟨bk_X6_meanError_31, (fun _ h => absurd h List.not_mem_nil)⟩)⟩)⟩)⟩)⟩)⟩)
def kb_X6_vibration : List (Nat × Nat × List xm_I) := [(0, 11, kX6_vibration_0), (14, 15, kX6_vibration_14), (19, 27, kX6_vibration_19), (30, 31, kX6_vibration_30)]
theorem lb_X6_vibration_0 : xm_lk kb_X6_vibration 0 = some (11, kX6_vibration_0) := rfl
theorem lb_X6_vibration_14 : xm_lk kb_X6_vibration 14 = some (15, kX6_vibration_14) := rfl
theorem lb_X6_vibration_19 : xm_lk kb_X6_vibration 19 = some (27, kX6_vibration_19) := rfl
theorem lb_X6_vibration_30 : xm_lk kb_X6_vibration 30 = some (31, kX6_vibration_30) := rfl
theorem lb_X6_vibration_11 : xm_lk kb_X6_vibration 11 = none := rfl
theorem lb_X6_vibration_15 : xm_lk kb_X6_vibration 15 = none := rfl
theorem lb_X6_vibration_27 : xm_lk kb_X6_vibration 27 = none := rfl
theorem lb_X6_vibration_31 : xm_lk kb_X6_vibration 31 = none := rfl
theorem kc_X6_vibration : xm_oks cX6_vibration 6 2 0 false kb_X6_vibration := (List.forall_mem_cons.mpr ⟨bk_X6_vibration_0, (List.forall_mem_cons.mpr ⟨bk_X6_vibration_14, (List.forall_mem_cons.mpr ⟨bk_X6_vibration_19, (List.forall_mem_cons.mpr ⟨bk_X6_vibration_30, (fun _ h => absurd h List.not_mem_nil)⟩)⟩)⟩)⟩)
def kb_X6_residue : List (Nat × Nat × List xm_I) := [(0, 1, kX6_residue_0), (4, 16, kX6_residue_4), (19, 20, kX6_residue_19), (24, 29, kX6_residue_24), (32, 35, kX6_residue_32), (38, 48, kX6_residue_38), (48, 49, kX6_residue_48), (49, 51, kX6_residue_49), (54, 55, kX6_residue_54)]
theorem lb_X6_residue_0 : xm_lk kb_X6_residue 0 = some (1, kX6_residue_0) := rfl
theorem lb_X6_residue_4 : xm_lk kb_X6_residue 4 = some (16, kX6_residue_4) := rfl
theorem lb_X6_residue_19 : xm_lk kb_X6_residue 19 = some (20, kX6_residue_19) := rfl
theorem lb_X6_residue_24 : xm_lk kb_X6_residue 24 = some (29, kX6_residue_24) := rfl
theorem lb_X6_residue_32 : xm_lk kb_X6_residue 32 = some (35, kX6_residue_32) := rfl
theorem lb_X6_residue_38 : xm_lk kb_X6_residue 38 = some (48, kX6_residue_38) := rfl
theorem lb_X6_residue_48 : xm_lk kb_X6_residue 48 = some (49, kX6_residue_48) := rfl
theorem lb_X6_residue_49 : xm_lk kb_X6_residue 49 = some (51, kX6_residue_49) := rfl
theorem lb_X6_residue_54 : xm_lk kb_X6_residue 54 = some (55, kX6_residue_54) := rfl
theorem lb_X6_residue_1 : xm_lk kb_X6_residue 1 = none := rfl
theorem lb_X6_residue_16 : xm_lk kb_X6_residue 16 = none := rfl
theorem lb_X6_residue_20 : xm_lk kb_X6_residue 20 = none := rfl
theorem lb_X6_residue_29 : xm_lk kb_X6_residue 29 = none := rfl
theorem lb_X6_residue_35 : xm_lk kb_X6_residue 35 = none := rfl
theorem lb_X6_residue_51 : xm_lk kb_X6_residue 51 = none := rfl
theorem lb_X6_residue_55 : xm_lk kb_X6_residue 55 = none := rfl
theorem kc_X6_residue : xm_oks cX6_residue 6 5 0 false kb_X6_residue := (List.forall_mem_cons.mpr ⟨bk_X6_residue_0, (List.forall_mem_cons.mpr ⟨bk_X6_residue_4, (List.forall_mem_cons.mpr ⟨bk_X6_residue_19, (List.forall_mem_cons.mpr ⟨bk_X6_residue_24, (List.forall_mem_cons.mpr ⟨bk_X6_residue_32, (List.forall_mem_cons.mpr ⟨bk_X6_residue_38, (List.forall_mem_cons.mpr ⟨bk_X6_residue_48, (List.forall_mem_cons.mpr ⟨bk_X6_residue_49, (List.forall_mem_cons.mpr ⟨bk_X6_residue_54, (fun _ h => absurd h List.not_mem_nil)⟩)⟩)⟩)⟩)⟩)⟩)⟩)⟩)⟩)
def kb_X6_bestWindow : List (Nat × Nat × List xm_I) := [(0, 1, kX6_bestWindow_0), (4, 7, kX6_bestWindow_4), (10, 11, kX6_bestWindow_10), (15, 19, kX6_bestWindow_15), (19, 29, kX6_bestWindow_19), (32, 39, kX6_bestWindow_32), (42, 49, kX6_bestWindow_42), (49, 55, kX6_bestWindow_49), (55, 57, kX6_bestWindow_55)]
theorem lb_X6_bestWindow_0 : xm_lk kb_X6_bestWindow 0 = some (1, kX6_bestWindow_0) := rfl
theorem lb_X6_bestWindow_4 : xm_lk kb_X6_bestWindow 4 = some (7, kX6_bestWindow_4) := rfl
theorem lb_X6_bestWindow_10 : xm_lk kb_X6_bestWindow 10 = some (11, kX6_bestWindow_10) := rfl
theorem lb_X6_bestWindow_15 : xm_lk kb_X6_bestWindow 15 = some (19, kX6_bestWindow_15) := rfl
theorem lb_X6_bestWindow_19 : xm_lk kb_X6_bestWindow 19 = some (29, kX6_bestWindow_19) := rfl
theorem lb_X6_bestWindow_32 : xm_lk kb_X6_bestWindow 32 = some (39, kX6_bestWindow_32) := rfl
theorem lb_X6_bestWindow_42 : xm_lk kb_X6_bestWindow 42 = some (49, kX6_bestWindow_42) := rfl
theorem lb_X6_bestWindow_49 : xm_lk kb_X6_bestWindow 49 = some (55, kX6_bestWindow_49) := rfl
theorem lb_X6_bestWindow_55 : xm_lk kb_X6_bestWindow 55 = some (57, kX6_bestWindow_55) := rfl
theorem lb_X6_bestWindow_1 : xm_lk kb_X6_bestWindow 1 = none := rfl
theorem lb_X6_bestWindow_7 : xm_lk kb_X6_bestWindow 7 = none := rfl
theorem lb_X6_bestWindow_11 : xm_lk kb_X6_bestWindow 11 = none := rfl
theorem lb_X6_bestWindow_29 : xm_lk kb_X6_bestWindow 29 = none := rfl
theorem lb_X6_bestWindow_39 : xm_lk kb_X6_bestWindow 39 = none := rfl
theorem lb_X6_bestWindow_57 : xm_lk kb_X6_bestWindow 57 = none := rfl
theorem kc_X6_bestWindow : xm_oks cX6_bestWindow 6 4 0 false kb_X6_bestWindow := (List.forall_mem_cons.mpr ⟨bk_X6_bestWindow_0, (List.forall_mem_cons.mpr ⟨bk_X6_bestWindow_4, (List.forall_mem_cons.mpr ⟨bk_X6_bestWindow_10, (List.forall_mem_cons.mpr ⟨bk_X6_bestWindow_15, (List.forall_mem_cons.mpr ⟨bk_X6_bestWindow_19, (List.forall_mem_cons.mpr ⟨bk_X6_bestWindow_32, (List.forall_mem_cons.mpr ⟨bk_X6_bestWindow_42, (List.forall_mem_cons.mpr ⟨bk_X6_bestWindow_49, (List.forall_mem_cons.mpr ⟨bk_X6_bestWindow_55, (fun _ h => absurd h List.not_mem_nil)⟩)⟩)⟩)⟩)⟩)⟩)⟩)⟩)⟩)
def kb_X6_weightWith : List (Nat × Nat × List xm_I) := [(0, 5, kX6_weightWith_0), (8, 13, kX6_weightWith_8), (16, 17, kX6_weightWith_16), (21, 22, kX6_weightWith_21), (25, 28, kX6_weightWith_25), (31, 32, kX6_weightWith_31), (36, 43, kX6_weightWith_36), (46, 47, kX6_weightWith_46), (51, 53, kX6_weightWith_51), (56, 65, kX6_weightWith_56)]
theorem lb_X6_weightWith_0 : xm_lk kb_X6_weightWith 0 = some (5, kX6_weightWith_0) := rfl
theorem lb_X6_weightWith_8 : xm_lk kb_X6_weightWith 8 = some (13, kX6_weightWith_8) := rfl
theorem lb_X6_weightWith_16 : xm_lk kb_X6_weightWith 16 = some (17, kX6_weightWith_16) := rfl
theorem lb_X6_weightWith_21 : xm_lk kb_X6_weightWith 21 = some (22, kX6_weightWith_21) := rfl
theorem lb_X6_weightWith_25 : xm_lk kb_X6_weightWith 25 = some (28, kX6_weightWith_25) := rfl
theorem lb_X6_weightWith_31 : xm_lk kb_X6_weightWith 31 = some (32, kX6_weightWith_31) := rfl
theorem lb_X6_weightWith_36 : xm_lk kb_X6_weightWith 36 = some (43, kX6_weightWith_36) := rfl
theorem lb_X6_weightWith_46 : xm_lk kb_X6_weightWith 46 = some (47, kX6_weightWith_46) := rfl
theorem lb_X6_weightWith_51 : xm_lk kb_X6_weightWith 51 = some (53, kX6_weightWith_51) := rfl
theorem lb_X6_weightWith_56 : xm_lk kb_X6_weightWith 56 = some (65, kX6_weightWith_56) := rfl
theorem lb_X6_weightWith_5 : xm_lk kb_X6_weightWith 5 = none := rfl
theorem lb_X6_weightWith_13 : xm_lk kb_X6_weightWith 13 = none := rfl
theorem lb_X6_weightWith_17 : xm_lk kb_X6_weightWith 17 = none := rfl
theorem lb_X6_weightWith_22 : xm_lk kb_X6_weightWith 22 = none := rfl
theorem lb_X6_weightWith_28 : xm_lk kb_X6_weightWith 28 = none := rfl
theorem lb_X6_weightWith_32 : xm_lk kb_X6_weightWith 32 = none := rfl
theorem lb_X6_weightWith_43 : xm_lk kb_X6_weightWith 43 = none := rfl
theorem lb_X6_weightWith_47 : xm_lk kb_X6_weightWith 47 = none := rfl
theorem lb_X6_weightWith_53 : xm_lk kb_X6_weightWith 53 = none := rfl
theorem lb_X6_weightWith_65 : xm_lk kb_X6_weightWith 65 = none := rfl
theorem kc_X6_weightWith : xm_oks cX6_weightWith 6 4 0 false kb_X6_weightWith := (List.forall_mem_cons.mpr ⟨bk_X6_weightWith_0, (List.forall_mem_cons.mpr ⟨bk_X6_weightWith_8, (List.forall_mem_cons.mpr ⟨bk_X6_weightWith_16, (List.forall_mem_cons.mpr ⟨bk_X6_weightWith_21, (List.forall_mem_cons.mpr ⟨bk_X6_weightWith_25, (List.forall_mem_cons.mpr ⟨bk_X6_weightWith_31, (List.forall_mem_cons.mpr ⟨bk_X6_weightWith_36, (List.forall_mem_cons.mpr ⟨bk_X6_weightWith_46, (List.forall_mem_cons.mpr ⟨bk_X6_weightWith_51, (List.forall_mem_cons.mpr ⟨bk_X6_weightWith_56, (fun _ h => absurd h List.not_mem_nil)⟩)⟩)⟩)⟩)⟩)⟩)⟩)⟩)⟩)⟩)
def kb_X6_samplesFor : List (Nat × Nat × List xm_I) := [(0, 1, kX6_samplesFor_0), (4, 7, kX6_samplesFor_4), (10, 11, kX6_samplesFor_10), (15, 20, kX6_samplesFor_15), (23, 24, kX6_samplesFor_23)]
theorem lb_X6_samplesFor_0 : xm_lk kb_X6_samplesFor 0 = some (1, kX6_samplesFor_0) := rfl
theorem lb_X6_samplesFor_4 : xm_lk kb_X6_samplesFor 4 = some (7, kX6_samplesFor_4) := rfl
theorem lb_X6_samplesFor_10 : xm_lk kb_X6_samplesFor 10 = some (11, kX6_samplesFor_10) := rfl
theorem lb_X6_samplesFor_15 : xm_lk kb_X6_samplesFor 15 = some (20, kX6_samplesFor_15) := rfl
theorem lb_X6_samplesFor_23 : xm_lk kb_X6_samplesFor 23 = some (24, kX6_samplesFor_23) := rfl
theorem lb_X6_samplesFor_1 : xm_lk kb_X6_samplesFor 1 = none := rfl
theorem lb_X6_samplesFor_7 : xm_lk kb_X6_samplesFor 7 = none := rfl
theorem lb_X6_samplesFor_11 : xm_lk kb_X6_samplesFor 11 = none := rfl
theorem lb_X6_samplesFor_20 : xm_lk kb_X6_samplesFor 20 = none := rfl
theorem lb_X6_samplesFor_24 : xm_lk kb_X6_samplesFor 24 = none := rfl
theorem kc_X6_samplesFor : xm_oks cX6_samplesFor 6 2 0 false kb_X6_samplesFor := (List.forall_mem_cons.mpr ⟨bk_X6_samplesFor_0, (List.forall_mem_cons.mpr ⟨bk_X6_samplesFor_4, (List.forall_mem_cons.mpr ⟨bk_X6_samplesFor_10, (List.forall_mem_cons.mpr ⟨bk_X6_samplesFor_15, (List.forall_mem_cons.mpr ⟨bk_X6_samplesFor_23, (fun _ h => absurd h List.not_mem_nil)⟩)⟩)⟩)⟩)⟩)
def kb_X6_arrival : List (Nat × Nat × List xm_I) := [(0, 5, kX6_arrival_0), (8, 18, kX6_arrival_8), (21, 24, kX6_arrival_21), (27, 28, kX6_arrival_27), (32, 33, kX6_arrival_32), (36, 52, kX6_arrival_36), (58, 59, kX6_arrival_58), (63, 77, kX6_arrival_63), (84, 85, kX6_arrival_84), (52, 55, kX6_arrival_52), (77, 81, kX6_arrival_77)]
theorem lb_X6_arrival_0 : xm_lk kb_X6_arrival 0 = some (5, kX6_arrival_0) := rfl
theorem lb_X6_arrival_8 : xm_lk kb_X6_arrival 8 = some (18, kX6_arrival_8) := rfl
theorem lb_X6_arrival_21 : xm_lk kb_X6_arrival 21 = some (24, kX6_arrival_21) := rfl
theorem lb_X6_arrival_27 : xm_lk kb_X6_arrival 27 = some (28, kX6_arrival_27) := rfl
theorem lb_X6_arrival_32 : xm_lk kb_X6_arrival 32 = some (33, kX6_arrival_32) := rfl
theorem lb_X6_arrival_36 : xm_lk kb_X6_arrival 36 = some (52, kX6_arrival_36) := rfl
theorem lb_X6_arrival_58 : xm_lk kb_X6_arrival 58 = some (59, kX6_arrival_58) := rfl
theorem lb_X6_arrival_63 : xm_lk kb_X6_arrival 63 = some (77, kX6_arrival_63) := rfl
theorem lb_X6_arrival_84 : xm_lk kb_X6_arrival 84 = some (85, kX6_arrival_84) := rfl
theorem lb_X6_arrival_52 : xm_lk kb_X6_arrival 52 = some (55, kX6_arrival_52) := rfl
theorem lb_X6_arrival_77 : xm_lk kb_X6_arrival 77 = some (81, kX6_arrival_77) := rfl
theorem lb_X6_arrival_5 : xm_lk kb_X6_arrival 5 = none := rfl
theorem lb_X6_arrival_18 : xm_lk kb_X6_arrival 18 = none := rfl
theorem lb_X6_arrival_24 : xm_lk kb_X6_arrival 24 = none := rfl
theorem lb_X6_arrival_28 : xm_lk kb_X6_arrival 28 = none := rfl
theorem lb_X6_arrival_33 : xm_lk kb_X6_arrival 33 = none := rfl
theorem lb_X6_arrival_55 : xm_lk kb_X6_arrival 55 = none := rfl
theorem lb_X6_arrival_59 : xm_lk kb_X6_arrival 59 = none := rfl
theorem lb_X6_arrival_81 : xm_lk kb_X6_arrival 81 = none := rfl
theorem lb_X6_arrival_85 : xm_lk kb_X6_arrival 85 = none := rfl
theorem kc_X6_arrival : xm_oks cX6_arrival 6 4 0 false kb_X6_arrival := (List.forall_mem_cons.mpr ⟨bk_X6_arrival_0, (List.forall_mem_cons.mpr ⟨bk_X6_arrival_8, (List.forall_mem_cons.mpr ⟨bk_X6_arrival_21, (List.forall_mem_cons.mpr ⟨bk_X6_arrival_27, (List.forall_mem_cons.mpr ⟨bk_X6_arrival_32, (List.forall_mem_cons.mpr ⟨bk_X6_arrival_36, (List.forall_mem_cons.mpr ⟨bk_X6_arrival_58, (List.forall_mem_cons.mpr ⟨bk_X6_arrival_63, (List.forall_mem_cons.mpr ⟨bk_X6_arrival_84, (List.forall_mem_cons.mpr ⟨bk_X6_arrival_52, (List.forall_mem_cons.mpr ⟨bk_X6_arrival_77, (fun _ h => absurd h List.not_mem_nil)⟩)⟩)⟩)⟩)⟩)⟩)⟩)⟩)⟩)⟩)⟩)
def kb_X6_openTicks : List (Nat × Nat × List xm_I) := [(0, 5, kX6_openTicks_0), (8, 11, kX6_openTicks_8), (14, 15, kX6_openTicks_14), (19, 24, kX6_openTicks_19), (27, 28, kX6_openTicks_27)]
theorem lb_X6_openTicks_0 : xm_lk kb_X6_openTicks 0 = some (5, kX6_openTicks_0) := rfl
theorem lb_X6_openTicks_8 : xm_lk kb_X6_openTicks 8 = some (11, kX6_openTicks_8) := rfl
theorem lb_X6_openTicks_14 : xm_lk kb_X6_openTicks 14 = some (15, kX6_openTicks_14) := rfl
theorem lb_X6_openTicks_19 : xm_lk kb_X6_openTicks 19 = some (24, kX6_openTicks_19) := rfl
theorem lb_X6_openTicks_27 : xm_lk kb_X6_openTicks 27 = some (28, kX6_openTicks_27) := rfl
theorem lb_X6_openTicks_5 : xm_lk kb_X6_openTicks 5 = none := rfl
theorem lb_X6_openTicks_11 : xm_lk kb_X6_openTicks 11 = none := rfl
theorem lb_X6_openTicks_15 : xm_lk kb_X6_openTicks 15 = none := rfl
theorem lb_X6_openTicks_24 : xm_lk kb_X6_openTicks 24 = none := rfl
theorem lb_X6_openTicks_28 : xm_lk kb_X6_openTicks 28 = none := rfl
theorem kc_X6_openTicks : xm_oks cX6_openTicks 6 2 0 false kb_X6_openTicks := (List.forall_mem_cons.mpr ⟨bk_X6_openTicks_0, (List.forall_mem_cons.mpr ⟨bk_X6_openTicks_8, (List.forall_mem_cons.mpr ⟨bk_X6_openTicks_14, (List.forall_mem_cons.mpr ⟨bk_X6_openTicks_19, (List.forall_mem_cons.mpr ⟨bk_X6_openTicks_27, (fun _ h => absurd h List.not_mem_nil)⟩)⟩)⟩)⟩)⟩)
def kb_X6_opensAt : List (Nat × Nat × List xm_I) := [(0, 5, kX6_opensAt_0), (8, 11, kX6_opensAt_8), (14, 15, kX6_opensAt_14), (19, 24, kX6_opensAt_19), (27, 33, kX6_opensAt_27), (36, 37, kX6_opensAt_36), (41, 43, kX6_opensAt_41)]
theorem lb_X6_opensAt_0 : xm_lk kb_X6_opensAt 0 = some (5, kX6_opensAt_0) := rfl
theorem lb_X6_opensAt_8 : xm_lk kb_X6_opensAt 8 = some (11, kX6_opensAt_8) := rfl
theorem lb_X6_opensAt_14 : xm_lk kb_X6_opensAt 14 = some (15, kX6_opensAt_14) := rfl
theorem lb_X6_opensAt_19 : xm_lk kb_X6_opensAt 19 = some (24, kX6_opensAt_19) := rfl
theorem lb_X6_opensAt_27 : xm_lk kb_X6_opensAt 27 = some (33, kX6_opensAt_27) := rfl
theorem lb_X6_opensAt_36 : xm_lk kb_X6_opensAt 36 = some (37, kX6_opensAt_36) := rfl
theorem lb_X6_opensAt_41 : xm_lk kb_X6_opensAt 41 = some (43, kX6_opensAt_41) := rfl
theorem lb_X6_opensAt_5 : xm_lk kb_X6_opensAt 5 = none := rfl
theorem lb_X6_opensAt_11 : xm_lk kb_X6_opensAt 11 = none := rfl
theorem lb_X6_opensAt_15 : xm_lk kb_X6_opensAt 15 = none := rfl
theorem lb_X6_opensAt_24 : xm_lk kb_X6_opensAt 24 = none := rfl
theorem lb_X6_opensAt_33 : xm_lk kb_X6_opensAt 33 = none := rfl
theorem lb_X6_opensAt_37 : xm_lk kb_X6_opensAt 37 = none := rfl
theorem lb_X6_opensAt_43 : xm_lk kb_X6_opensAt 43 = none := rfl
theorem kc_X6_opensAt : xm_oks cX6_opensAt 6 3 0 false kb_X6_opensAt := (List.forall_mem_cons.mpr ⟨bk_X6_opensAt_0, (List.forall_mem_cons.mpr ⟨bk_X6_opensAt_8, (List.forall_mem_cons.mpr ⟨bk_X6_opensAt_14, (List.forall_mem_cons.mpr ⟨bk_X6_opensAt_19, (List.forall_mem_cons.mpr ⟨bk_X6_opensAt_27, (List.forall_mem_cons.mpr ⟨bk_X6_opensAt_36, (List.forall_mem_cons.mpr ⟨bk_X6_opensAt_41, (fun _ h => absurd h List.not_mem_nil)⟩)⟩)⟩)⟩)⟩)⟩)⟩)
def kb_X6_fate : List (Nat × Nat × List xm_I) := [(0, 5, kX6_fate_0), (8, 13, kX6_fate_8), (16, 17, kX6_fate_16), (21, 22, kX6_fate_21), (25, 33, kX6_fate_25), (33, 41, kX6_fate_33), (44, 46, kX6_fate_44), (46, 58, kX6_fate_46), (61, 68, kX6_fate_61), (71, 77, kX6_fate_71), (77, 82, kX6_fate_77), (85, 86, kX6_fate_85)]
theorem lb_X6_fate_0 : xm_lk kb_X6_fate 0 = some (5, kX6_fate_0) := rfl
theorem lb_X6_fate_8 : xm_lk kb_X6_fate 8 = some (13, kX6_fate_8) := rfl
theorem lb_X6_fate_16 : xm_lk kb_X6_fate 16 = some (17, kX6_fate_16) := rfl
theorem lb_X6_fate_21 : xm_lk kb_X6_fate 21 = some (22, kX6_fate_21) := rfl
theorem lb_X6_fate_25 : xm_lk kb_X6_fate 25 = some (33, kX6_fate_25) := rfl
theorem lb_X6_fate_33 : xm_lk kb_X6_fate 33 = some (41, kX6_fate_33) := rfl
theorem lb_X6_fate_44 : xm_lk kb_X6_fate 44 = some (46, kX6_fate_44) := rfl
theorem lb_X6_fate_46 : xm_lk kb_X6_fate 46 = some (58, kX6_fate_46) := rfl
theorem lb_X6_fate_61 : xm_lk kb_X6_fate 61 = some (68, kX6_fate_61) := rfl
theorem lb_X6_fate_71 : xm_lk kb_X6_fate 71 = some (77, kX6_fate_71) := rfl
theorem lb_X6_fate_77 : xm_lk kb_X6_fate 77 = some (82, kX6_fate_77) := rfl
theorem lb_X6_fate_85 : xm_lk kb_X6_fate 85 = some (86, kX6_fate_85) := rfl
theorem lb_X6_fate_5 : xm_lk kb_X6_fate 5 = none := rfl
theorem lb_X6_fate_13 : xm_lk kb_X6_fate 13 = none := rfl
theorem lb_X6_fate_17 : xm_lk kb_X6_fate 17 = none := rfl
theorem lb_X6_fate_22 : xm_lk kb_X6_fate 22 = none := rfl
theorem lb_X6_fate_41 : xm_lk kb_X6_fate 41 = none := rfl
theorem lb_X6_fate_58 : xm_lk kb_X6_fate 58 = none := rfl
theorem lb_X6_fate_68 : xm_lk kb_X6_fate 68 = none := rfl
theorem lb_X6_fate_82 : xm_lk kb_X6_fate 82 = none := rfl
theorem lb_X6_fate_86 : xm_lk kb_X6_fate 86 = none := rfl
theorem kc_X6_fate : xm_oks cX6_fate 6 4 0 false kb_X6_fate := (List.forall_mem_cons.mpr ⟨bk_X6_fate_0, (List.forall_mem_cons.mpr ⟨bk_X6_fate_8, (List.forall_mem_cons.mpr ⟨bk_X6_fate_16, (List.forall_mem_cons.mpr ⟨bk_X6_fate_21, (List.forall_mem_cons.mpr ⟨bk_X6_fate_25, (List.forall_mem_cons.mpr ⟨bk_X6_fate_33, (List.forall_mem_cons.mpr ⟨bk_X6_fate_44, (List.forall_mem_cons.mpr ⟨bk_X6_fate_46, (List.forall_mem_cons.mpr ⟨bk_X6_fate_61, (List.forall_mem_cons.mpr ⟨bk_X6_fate_71, (List.forall_mem_cons.mpr ⟨bk_X6_fate_77, (List.forall_mem_cons.mpr ⟨bk_X6_fate_85, (fun _ h => absurd h List.not_mem_nil)⟩)⟩)⟩)⟩)⟩)⟩)⟩)⟩)⟩)⟩)⟩)⟩)
def kb_X6_spacing : List (Nat × Nat × List xm_I) := [(0, 1, kX6_spacing_0), (4, 7, kX6_spacing_4), (10, 11, kX6_spacing_10), (15, 20, kX6_spacing_15), (23, 28, kX6_spacing_23), (34, 45, kX6_spacing_34)]
theorem lb_X6_spacing_0 : xm_lk kb_X6_spacing 0 = some (1, kX6_spacing_0) := rfl
theorem lb_X6_spacing_4 : xm_lk kb_X6_spacing 4 = some (7, kX6_spacing_4) := rfl
theorem lb_X6_spacing_10 : xm_lk kb_X6_spacing 10 = some (11, kX6_spacing_10) := rfl
theorem lb_X6_spacing_15 : xm_lk kb_X6_spacing 15 = some (20, kX6_spacing_15) := rfl
theorem lb_X6_spacing_23 : xm_lk kb_X6_spacing 23 = some (28, kX6_spacing_23) := rfl
theorem lb_X6_spacing_34 : xm_lk kb_X6_spacing 34 = some (45, kX6_spacing_34) := rfl
theorem lb_X6_spacing_1 : xm_lk kb_X6_spacing 1 = none := rfl
theorem lb_X6_spacing_7 : xm_lk kb_X6_spacing 7 = none := rfl
theorem lb_X6_spacing_11 : xm_lk kb_X6_spacing 11 = none := rfl
theorem lb_X6_spacing_20 : xm_lk kb_X6_spacing 20 = none := rfl
theorem lb_X6_spacing_28 : xm_lk kb_X6_spacing 28 = none := rfl
theorem lb_X6_spacing_45 : xm_lk kb_X6_spacing 45 = none := rfl
theorem kc_X6_spacing : xm_oks cX6_spacing 6 3 0 false kb_X6_spacing := (List.forall_mem_cons.mpr ⟨bk_X6_spacing_0, (List.forall_mem_cons.mpr ⟨bk_X6_spacing_4, (List.forall_mem_cons.mpr ⟨bk_X6_spacing_10, (List.forall_mem_cons.mpr ⟨bk_X6_spacing_15, (List.forall_mem_cons.mpr ⟨bk_X6_spacing_23, (List.forall_mem_cons.mpr ⟨bk_X6_spacing_34, (fun _ h => absurd h List.not_mem_nil)⟩)⟩)⟩)⟩)⟩)⟩)
def kb_X6_isLength : List (Nat × Nat × List xm_I) := [(0, 16, kX6_isLength_0), (16, 17, kX6_isLength_16), (17, 18, kX6_isLength_17)]
theorem lb_X6_isLength_0 : xm_lk kb_X6_isLength 0 = some (16, kX6_isLength_0) := rfl
theorem lb_X6_isLength_16 : xm_lk kb_X6_isLength 16 = some (17, kX6_isLength_16) := rfl
theorem lb_X6_isLength_17 : xm_lk kb_X6_isLength 17 = some (18, kX6_isLength_17) := rfl
theorem lb_X6_isLength_18 : xm_lk kb_X6_isLength 18 = none := rfl
theorem kc_X6_isLength : xm_oks cX6_isLength 6 1 1 false kb_X6_isLength := (List.forall_mem_cons.mpr ⟨bk_X6_isLength_0, (List.forall_mem_cons.mpr ⟨bk_X6_isLength_16, (List.forall_mem_cons.mpr ⟨bk_X6_isLength_17, (fun _ h => absurd h List.not_mem_nil)⟩)⟩)⟩)
def kb_X6_isWindow : List (Nat × Nat × List xm_I) := [(0, 15, kX6_isWindow_0), (15, 16, kX6_isWindow_15), (16, 17, kX6_isWindow_16)]
theorem lb_X6_isWindow_0 : xm_lk kb_X6_isWindow 0 = some (15, kX6_isWindow_0) := rfl
theorem lb_X6_isWindow_15 : xm_lk kb_X6_isWindow 15 = some (16, kX6_isWindow_15) := rfl
theorem lb_X6_isWindow_16 : xm_lk kb_X6_isWindow 16 = some (17, kX6_isWindow_16) := rfl
theorem lb_X6_isWindow_17 : xm_lk kb_X6_isWindow 17 = none := rfl
theorem kc_X6_isWindow : xm_oks cX6_isWindow 6 1 1 false kb_X6_isWindow := (List.forall_mem_cons.mpr ⟨bk_X6_isWindow_0, (List.forall_mem_cons.mpr ⟨bk_X6_isWindow_15, (List.forall_mem_cons.mpr ⟨bk_X6_isWindow_16, (fun _ h => absurd h List.not_mem_nil)⟩)⟩)⟩)
def kb_X6_quotient : List (Nat × Nat × List xm_I) := [(0, 8, kX6_quotient_0), (8, 11, kX6_quotient_8), (11, 12, kX6_quotient_11)]
theorem lb_X6_quotient_0 : xm_lk kb_X6_quotient 0 = some (8, kX6_quotient_0) := rfl
theorem lb_X6_quotient_8 : xm_lk kb_X6_quotient 8 = some (11, kX6_quotient_8) := rfl
theorem lb_X6_quotient_11 : xm_lk kb_X6_quotient 11 = some (12, kX6_quotient_11) := rfl
theorem lb_X6_quotient_12 : xm_lk kb_X6_quotient 12 = none := rfl
theorem kc_X6_quotient : xm_oks cX6_quotient 6 2 0 false kb_X6_quotient := (List.forall_mem_cons.mpr ⟨bk_X6_quotient_0, (List.forall_mem_cons.mpr ⟨bk_X6_quotient_8, (List.forall_mem_cons.mpr ⟨bk_X6_quotient_11, (fun _ h => absurd h List.not_mem_nil)⟩)⟩)⟩)
def kb_X6_remainder : List (Nat × Nat × List xm_I) := [(0, 8, kX6_remainder_0), (8, 11, kX6_remainder_8), (11, 12, kX6_remainder_11)]
theorem lb_X6_remainder_0 : xm_lk kb_X6_remainder 0 = some (8, kX6_remainder_0) := rfl
theorem lb_X6_remainder_8 : xm_lk kb_X6_remainder 8 = some (11, kX6_remainder_8) := rfl
theorem lb_X6_remainder_11 : xm_lk kb_X6_remainder 11 = some (12, kX6_remainder_11) := rfl
theorem lb_X6_remainder_12 : xm_lk kb_X6_remainder 12 = none := rfl
theorem kc_X6_remainder : xm_oks cX6_remainder 6 2 0 false kb_X6_remainder := (List.forall_mem_cons.mpr ⟨bk_X6_remainder_0, (List.forall_mem_cons.mpr ⟨bk_X6_remainder_8, (List.forall_mem_cons.mpr ⟨bk_X6_remainder_11, (fun _ h => absurd h List.not_mem_nil)⟩)⟩)⟩)
def kb_X6_quotientUp : List (Nat × Nat × List xm_I) := [(0, 8, kX6_quotientUp_0), (8, 15, kX6_quotientUp_8), (15, 16, kX6_quotientUp_15)]
theorem lb_X6_quotientUp_0 : xm_lk kb_X6_quotientUp 0 = some (8, kX6_quotientUp_0) := rfl
theorem lb_X6_quotientUp_8 : xm_lk kb_X6_quotientUp 8 = some (15, kX6_quotientUp_8) := rfl
theorem lb_X6_quotientUp_15 : xm_lk kb_X6_quotientUp 15 = some (16, kX6_quotientUp_15) := rfl
theorem lb_X6_quotientUp_16 : xm_lk kb_X6_quotientUp 16 = none := rfl
theorem kc_X6_quotientUp : xm_oks cX6_quotientUp 6 2 0 false kb_X6_quotientUp := (List.forall_mem_cons.mpr ⟨bk_X6_quotientUp_0, (List.forall_mem_cons.mpr ⟨bk_X6_quotientUp_8, (List.forall_mem_cons.mpr ⟨bk_X6_quotientUp_15, (fun _ h => absurd h List.not_mem_nil)⟩)⟩)⟩)
def kb_X6_commonDivisor : List (Nat × Nat × List xm_I) := [(0, 7, kX6_commonDivisor_0), (7, 20, kX6_commonDivisor_7), (23, 36, kX6_commonDivisor_23), (36, 38, kX6_commonDivisor_36)]
theorem lb_X6_commonDivisor_0 : xm_lk kb_X6_commonDivisor 0 = some (7, kX6_commonDivisor_0) := rfl
theorem lb_X6_commonDivisor_7 : xm_lk kb_X6_commonDivisor 7 = some (20, kX6_commonDivisor_7) := rfl
theorem lb_X6_commonDivisor_23 : xm_lk kb_X6_commonDivisor 23 = some (36, kX6_commonDivisor_23) := rfl
theorem lb_X6_commonDivisor_36 : xm_lk kb_X6_commonDivisor 36 = some (38, kX6_commonDivisor_36) := rfl
theorem lb_X6_commonDivisor_20 : xm_lk kb_X6_commonDivisor 20 = none := rfl
theorem lb_X6_commonDivisor_38 : xm_lk kb_X6_commonDivisor 38 = none := rfl
theorem kc_X6_commonDivisor : xm_oks cX6_commonDivisor 6 6 0 false kb_X6_commonDivisor := (List.forall_mem_cons.mpr ⟨bk_X6_commonDivisor_0, (List.forall_mem_cons.mpr ⟨bk_X6_commonDivisor_7, (List.forall_mem_cons.mpr ⟨bk_X6_commonDivisor_23, (List.forall_mem_cons.mpr ⟨bk_X6_commonDivisor_36, (fun _ h => absurd h List.not_mem_nil)⟩)⟩)⟩)⟩)
def kb_X7_init : List (Nat × Nat × List xm_I) := [(0, 1, kX7_init_0), (4, 7, kX7_init_4), (9, 15, kX7_init_9), (17, 24, kX7_init_17), (26, 33, kX7_init_26), (35, 42, kX7_init_35), (44, 56, kX7_init_44), (58, 62, kX7_init_58), (65, 78, kX7_init_65), (103, 104, kX7_init_103), (78, 91, kX7_init_78), (91, 100, kX7_init_91)]
theorem lb_X7_init_0 : xm_lk kb_X7_init 0 = some (1, kX7_init_0) := rfl
theorem lb_X7_init_4 : xm_lk kb_X7_init 4 = some (7, kX7_init_4) := rfl
theorem lb_X7_init_9 : xm_lk kb_X7_init 9 = some (15, kX7_init_9) := rfl
theorem lb_X7_init_17 : xm_lk kb_X7_init 17 = some (24, kX7_init_17) := rfl
theorem lb_X7_init_26 : xm_lk kb_X7_init 26 = some (33, kX7_init_26) := rfl
theorem lb_X7_init_35 : xm_lk kb_X7_init 35 = some (42, kX7_init_35) := rfl
theorem lb_X7_init_44 : xm_lk kb_X7_init 44 = some (56, kX7_init_44) := rfl
theorem lb_X7_init_58 : xm_lk kb_X7_init 58 = some (62, kX7_init_58) := rfl
theorem lb_X7_init_65 : xm_lk kb_X7_init 65 = some (78, kX7_init_65) := rfl
theorem lb_X7_init_103 : xm_lk kb_X7_init 103 = some (104, kX7_init_103) := rfl
theorem lb_X7_init_78 : xm_lk kb_X7_init 78 = some (91, kX7_init_78) := rfl
theorem lb_X7_init_91 : xm_lk kb_X7_init 91 = some (100, kX7_init_91) := rfl
theorem lb_X7_init_1 : xm_lk kb_X7_init 1 = none := rfl
theorem lb_X7_init_7 : xm_lk kb_X7_init 7 = none := rfl
theorem lb_X7_init_15 : xm_lk kb_X7_init 15 = none := rfl
theorem lb_X7_init_24 : xm_lk kb_X7_init 24 = none := rfl
theorem lb_X7_init_33 : xm_lk kb_X7_init 33 = none := rfl
theorem lb_X7_init_42 : xm_lk kb_X7_init 42 = none := rfl
theorem lb_X7_init_56 : xm_lk kb_X7_init 56 = none := rfl
theorem lb_X7_init_62 : xm_lk kb_X7_init 62 = none := rfl
theorem lb_X7_init_100 : xm_lk kb_X7_init 100 = none := rfl
theorem lb_X7_init_104 : xm_lk kb_X7_init 104 = none := rfl
theorem kc_X7_init : xm_oks cX7_init 7 1 3 true kb_X7_init := (List.forall_mem_cons.mpr ⟨bk_X7_init_0, (List.forall_mem_cons.mpr ⟨bk_X7_init_4, (List.forall_mem_cons.mpr ⟨bk_X7_init_9, (List.forall_mem_cons.mpr ⟨bk_X7_init_17, (List.forall_mem_cons.mpr ⟨bk_X7_init_26, (List.forall_mem_cons.mpr ⟨bk_X7_init_35, (List.forall_mem_cons.mpr ⟨bk_X7_init_44, (List.forall_mem_cons.mpr ⟨bk_X7_init_58, (List.forall_mem_cons.mpr ⟨bk_X7_init_65, (List.forall_mem_cons.mpr ⟨bk_X7_init_103, (List.forall_mem_cons.mpr ⟨bk_X7_init_78, (List.forall_mem_cons.mpr ⟨bk_X7_init_91, (fun _ h => absurd h List.not_mem_nil)⟩)⟩)⟩)⟩)⟩)⟩)⟩)⟩)⟩)⟩)⟩)⟩)
def kb_X7_thrown : List (Nat × Nat × List xm_I) := [(0, 5, kX7_thrown_0)]
theorem lb_X7_thrown_0 : xm_lk kb_X7_thrown 0 = some (5, kX7_thrown_0) := rfl
theorem lb_X7_thrown_5 : xm_lk kb_X7_thrown 5 = none := rfl
theorem kc_X7_thrown : xm_oks cX7_thrown 7 1 0 false kb_X7_thrown := (List.forall_mem_cons.mpr ⟨bk_X7_thrown_0, (fun _ h => absurd h List.not_mem_nil)⟩)
def kb_X7_isIn : List (Nat × Nat × List xm_I) := [(0, 14, kX7_isIn_0), (14, 15, kX7_isIn_14), (15, 16, kX7_isIn_15)]
theorem lb_X7_isIn_0 : xm_lk kb_X7_isIn 0 = some (14, kX7_isIn_0) := rfl
theorem lb_X7_isIn_14 : xm_lk kb_X7_isIn 14 = some (15, kX7_isIn_14) := rfl
theorem lb_X7_isIn_15 : xm_lk kb_X7_isIn 15 = some (16, kX7_isIn_15) := rfl
theorem lb_X7_isIn_16 : xm_lk kb_X7_isIn 16 = none := rfl
theorem kc_X7_isIn : xm_oks cX7_isIn 7 3 1 false kb_X7_isIn := (List.forall_mem_cons.mpr ⟨bk_X7_isIn_0, (List.forall_mem_cons.mpr ⟨bk_X7_isIn_14, (List.forall_mem_cons.mpr ⟨bk_X7_isIn_15, (fun _ h => absurd h List.not_mem_nil)⟩)⟩)⟩)
def kb_X7_may : List (Nat × Nat × List xm_I) := [(0, 16, kX7_may_0), (16, 27, kX7_may_16), (27, 28, kX7_may_27), (28, 29, kX7_may_28)]
theorem lb_X7_may_0 : xm_lk kb_X7_may 0 = some (16, kX7_may_0) := rfl
theorem lb_X7_may_16 : xm_lk kb_X7_may 16 = some (27, kX7_may_16) := rfl
theorem lb_X7_may_27 : xm_lk kb_X7_may 27 = some (28, kX7_may_27) := rfl
theorem lb_X7_may_28 : xm_lk kb_X7_may 28 = some (29, kX7_may_28) := rfl
theorem lb_X7_may_29 : xm_lk kb_X7_may 29 = none := rfl
theorem kc_X7_may : xm_oks cX7_may 7 3 1 false kb_X7_may := (List.forall_mem_cons.mpr ⟨bk_X7_may_0, (List.forall_mem_cons.mpr ⟨bk_X7_may_16, (List.forall_mem_cons.mpr ⟨bk_X7_may_27, (List.forall_mem_cons.mpr ⟨bk_X7_may_28, (fun _ h => absurd h List.not_mem_nil)⟩)⟩)⟩)⟩)
def kb_X7_lesser : List (Nat × Nat × List xm_I) := [(0, 9, kX7_lesser_0), (9, 10, kX7_lesser_9), (10, 11, kX7_lesser_10)]
theorem lb_X7_lesser_0 : xm_lk kb_X7_lesser 0 = some (9, kX7_lesser_0) := rfl
theorem lb_X7_lesser_9 : xm_lk kb_X7_lesser 9 = some (10, kX7_lesser_9) := rfl
theorem lb_X7_lesser_10 : xm_lk kb_X7_lesser 10 = some (11, kX7_lesser_10) := rfl
theorem lb_X7_lesser_11 : xm_lk kb_X7_lesser 11 = none := rfl
theorem kc_X7_lesser : xm_oks cX7_lesser 7 2 0 false kb_X7_lesser := (List.forall_mem_cons.mpr ⟨bk_X7_lesser_0, (List.forall_mem_cons.mpr ⟨bk_X7_lesser_9, (List.forall_mem_cons.mpr ⟨bk_X7_lesser_10, (fun _ h => absurd h List.not_mem_nil)⟩)⟩)⟩)
def kb_X7_greater : List (Nat × Nat × List xm_I) := [(0, 9, kX7_greater_0), (9, 10, kX7_greater_9), (10, 11, kX7_greater_10)]
theorem lb_X7_greater_0 : xm_lk kb_X7_greater 0 = some (9, kX7_greater_0) := rfl
theorem lb_X7_greater_9 : xm_lk kb_X7_greater 9 = some (10, kX7_greater_9) := rfl
theorem lb_X7_greater_10 : xm_lk kb_X7_greater 10 = some (11, kX7_greater_10) := rfl
theorem lb_X7_greater_11 : xm_lk kb_X7_greater 11 = none := rfl
theorem kc_X7_greater : xm_oks cX7_greater 7 2 0 false kb_X7_greater := (List.forall_mem_cons.mpr ⟨bk_X7_greater_0, (List.forall_mem_cons.mpr ⟨bk_X7_greater_9, (List.forall_mem_cons.mpr ⟨bk_X7_greater_10, (fun _ h => absurd h List.not_mem_nil)⟩)⟩)⟩)
def kb_X7_plain : List (Nat × Nat × List xm_I) := [(0, 2, kX7_plain_0), (2, 15, kX7_plain_2), (21, 23, kX7_plain_21), (23, 36, kX7_plain_23), (44, 60, kX7_plain_44), (15, 21, kX7_plain_15), (36, 44, kX7_plain_36), (60, 74, kX7_plain_60), (74, 88, kX7_plain_74), (88, 98, kX7_plain_88)]
theorem lb_X7_plain_0 : xm_lk kb_X7_plain 0 = some (2, kX7_plain_0) := rfl
theorem lb_X7_plain_2 : xm_lk kb_X7_plain 2 = some (15, kX7_plain_2) := rfl
theorem lb_X7_plain_21 : xm_lk kb_X7_plain 21 = some (23, kX7_plain_21) := rfl
theorem lb_X7_plain_23 : xm_lk kb_X7_plain 23 = some (36, kX7_plain_23) := rfl
theorem lb_X7_plain_44 : xm_lk kb_X7_plain 44 = some (60, kX7_plain_44) := rfl
theorem lb_X7_plain_15 : xm_lk kb_X7_plain 15 = some (21, kX7_plain_15) := rfl
theorem lb_X7_plain_36 : xm_lk kb_X7_plain 36 = some (44, kX7_plain_36) := rfl
theorem lb_X7_plain_60 : xm_lk kb_X7_plain 60 = some (74, kX7_plain_60) := rfl
theorem lb_X7_plain_74 : xm_lk kb_X7_plain 74 = some (88, kX7_plain_74) := rfl
theorem lb_X7_plain_88 : xm_lk kb_X7_plain 88 = some (98, kX7_plain_88) := rfl
theorem lb_X7_plain_98 : xm_lk kb_X7_plain 98 = none := rfl
theorem kc_X7_plain : xm_oks cX7_plain 7 2 3 false kb_X7_plain := (List.forall_mem_cons.mpr ⟨bk_X7_plain_0, (List.forall_mem_cons.mpr ⟨bk_X7_plain_2, (List.forall_mem_cons.mpr ⟨bk_X7_plain_21, (List.forall_mem_cons.mpr ⟨bk_X7_plain_23, (List.forall_mem_cons.mpr ⟨bk_X7_plain_44, (List.forall_mem_cons.mpr ⟨bk_X7_plain_15, (List.forall_mem_cons.mpr ⟨bk_X7_plain_36, (List.forall_mem_cons.mpr ⟨bk_X7_plain_60, (List.forall_mem_cons.mpr ⟨bk_X7_plain_74, (List.forall_mem_cons.mpr ⟨bk_X7_plain_88, (fun _ h => absurd h List.not_mem_nil)⟩)⟩)⟩)⟩)⟩)⟩)⟩)⟩)⟩)⟩)
def kb_X7_takes : List (Nat × Nat × List xm_I) := [(0, 2, kX7_takes_0), (2, 17, kX7_takes_2), (26, 28, kX7_takes_26), (28, 42, kX7_takes_28), (48, 61, kX7_takes_48), (17, 26, kX7_takes_17), (42, 48, kX7_takes_42), (61, 74, kX7_takes_61), (74, 75, kX7_takes_74)]
theorem lb_X7_takes_0 : xm_lk kb_X7_takes 0 = some (2, kX7_takes_0) := rfl
theorem lb_X7_takes_2 : xm_lk kb_X7_takes 2 = some (17, kX7_takes_2) := rfl
theorem lb_X7_takes_26 : xm_lk kb_X7_takes 26 = some (28, kX7_takes_26) := rfl
theorem lb_X7_takes_28 : xm_lk kb_X7_takes 28 = some (42, kX7_takes_28) := rfl
theorem lb_X7_takes_48 : xm_lk kb_X7_takes 48 = some (61, kX7_takes_48) := rfl
theorem lb_X7_takes_17 : xm_lk kb_X7_takes 17 = some (26, kX7_takes_17) := rfl
theorem lb_X7_takes_42 : xm_lk kb_X7_takes 42 = some (48, kX7_takes_42) := rfl
theorem lb_X7_takes_61 : xm_lk kb_X7_takes 61 = some (74, kX7_takes_61) := rfl
theorem lb_X7_takes_74 : xm_lk kb_X7_takes 74 = some (75, kX7_takes_74) := rfl
theorem lb_X7_takes_75 : xm_lk kb_X7_takes 75 = none := rfl
theorem kc_X7_takes : xm_oks cX7_takes 7 2 3 false kb_X7_takes := (List.forall_mem_cons.mpr ⟨bk_X7_takes_0, (List.forall_mem_cons.mpr ⟨bk_X7_takes_2, (List.forall_mem_cons.mpr ⟨bk_X7_takes_26, (List.forall_mem_cons.mpr ⟨bk_X7_takes_28, (List.forall_mem_cons.mpr ⟨bk_X7_takes_48, (List.forall_mem_cons.mpr ⟨bk_X7_takes_17, (List.forall_mem_cons.mpr ⟨bk_X7_takes_42, (List.forall_mem_cons.mpr ⟨bk_X7_takes_61, (List.forall_mem_cons.mpr ⟨bk_X7_takes_74, (fun _ h => absurd h List.not_mem_nil)⟩)⟩)⟩)⟩)⟩)⟩)⟩)⟩)⟩)
def kb_X7_append : List (Nat × Nat × List xm_I) := [(0, 13, kX7_append_0), (23, 24, kX7_append_23), (24, 25, kX7_append_24), (28, 33, kX7_append_28), (33, 36, kX7_append_33), (36, 53, kX7_append_36), (53, 64, kX7_append_53), (64, 75, kX7_append_64), (75, 87, kX7_append_75), (87, 89, kX7_append_87), (89, 104, kX7_append_89), (126, 141, kX7_append_126), (13, 23, kX7_append_13), (104, 115, kX7_append_104), (141, 142, kX7_append_141), (115, 126, kX7_append_115)]
theorem lb_X7_append_0 : xm_lk kb_X7_append 0 = some (13, kX7_append_0) := rfl
theorem lb_X7_append_23 : xm_lk kb_X7_append 23 = some (24, kX7_append_23) := rfl
theorem lb_X7_append_24 : xm_lk kb_X7_append 24 = some (25, kX7_append_24) := rfl
theorem lb_X7_append_28 : xm_lk kb_X7_append 28 = some (33, kX7_append_28) := rfl
theorem lb_X7_append_33 : xm_lk kb_X7_append 33 = some (36, kX7_append_33) := rfl
theorem lb_X7_append_36 : xm_lk kb_X7_append 36 = some (53, kX7_append_36) := rfl
theorem lb_X7_append_53 : xm_lk kb_X7_append 53 = some (64, kX7_append_53) := rfl
theorem lb_X7_append_64 : xm_lk kb_X7_append 64 = some (75, kX7_append_64) := rfl
theorem lb_X7_append_75 : xm_lk kb_X7_append 75 = some (87, kX7_append_75) := rfl
theorem lb_X7_append_87 : xm_lk kb_X7_append 87 = some (89, kX7_append_87) := rfl
theorem lb_X7_append_89 : xm_lk kb_X7_append 89 = some (104, kX7_append_89) := rfl
theorem lb_X7_append_126 : xm_lk kb_X7_append 126 = some (141, kX7_append_126) := rfl
theorem lb_X7_append_13 : xm_lk kb_X7_append 13 = some (23, kX7_append_13) := rfl
theorem lb_X7_append_104 : xm_lk kb_X7_append 104 = some (115, kX7_append_104) := rfl
theorem lb_X7_append_141 : xm_lk kb_X7_append 141 = some (142, kX7_append_141) := rfl
theorem lb_X7_append_115 : xm_lk kb_X7_append 115 = some (126, kX7_append_115) := rfl
theorem lb_X7_append_25 : xm_lk kb_X7_append 25 = none := rfl
theorem lb_X7_append_142 : xm_lk kb_X7_append 142 = none := rfl
theorem kc_X7_append : xm_oks cX7_append 7 8 0 false kb_X7_append := (List.forall_mem_cons.mpr ⟨bk_X7_append_0, (List.forall_mem_cons.mpr ⟨bk_X7_append_23, (List.forall_mem_cons.mpr ⟨bk_X7_append_24, (List.forall_mem_cons.mpr ⟨bk_X7_append_28, (List.forall_mem_cons.mpr ⟨bk_X7_append_33, (List.forall_mem_cons.mpr ⟨bk_X7_append_36, (List.forall_mem_cons.mpr ⟨bk_X7_append_53, (List.forall_mem_cons.mpr ⟨bk_X7_append_64, (List.forall_mem_cons.mpr ⟨bk_X7_append_75, (List.forall_mem_cons.mpr ⟨bk_X7_append_87, (List.forall_mem_cons.mpr ⟨bk_X7_append_89, (List.forall_mem_cons.mpr ⟨bk_X7_append_126, (List.forall_mem_cons.mpr ⟨bk_X7_append_13, (List.forall_mem_cons.mpr ⟨bk_X7_append_104, (List.forall_mem_cons.mpr ⟨bk_X7_append_141, (List.forall_mem_cons.mpr ⟨bk_X7_append_115, (fun _ h => absurd h List.not_mem_nil)⟩)⟩)⟩)⟩)⟩)⟩)⟩)⟩)⟩)⟩)⟩)⟩)⟩)⟩)⟩)⟩)
def kb_X7_truncate : List (Nat × Nat × List xm_I) := [(0, 12, kX7_truncate_0), (15, 16, kX7_truncate_15), (19, 24, kX7_truncate_19), (24, 31, kX7_truncate_24)]
theorem lb_X7_truncate_0 : xm_lk kb_X7_truncate 0 = some (12, kX7_truncate_0) := rfl
theorem lb_X7_truncate_15 : xm_lk kb_X7_truncate 15 = some (16, kX7_truncate_15) := rfl
theorem lb_X7_truncate_19 : xm_lk kb_X7_truncate 19 = some (24, kX7_truncate_19) := rfl
theorem lb_X7_truncate_24 : xm_lk kb_X7_truncate 24 = some (31, kX7_truncate_24) := rfl
theorem lb_X7_truncate_12 : xm_lk kb_X7_truncate 12 = none := rfl
theorem lb_X7_truncate_16 : xm_lk kb_X7_truncate 16 = none := rfl
theorem lb_X7_truncate_31 : xm_lk kb_X7_truncate 31 = none := rfl
theorem kc_X7_truncate : xm_oks cX7_truncate 7 2 0 false kb_X7_truncate := (List.forall_mem_cons.mpr ⟨bk_X7_truncate_0, (List.forall_mem_cons.mpr ⟨bk_X7_truncate_15, (List.forall_mem_cons.mpr ⟨bk_X7_truncate_19, (List.forall_mem_cons.mpr ⟨bk_X7_truncate_24, (fun _ h => absurd h List.not_mem_nil)⟩)⟩)⟩)⟩)
def kb_X7_at : List (Nat × Nat × List xm_I) := [(0, 14, kX7_at_0), (17, 18, kX7_at_17), (18, 19, kX7_at_18), (14, 17, kX7_at_14)]
theorem lb_X7_at_0 : xm_lk kb_X7_at 0 = some (14, kX7_at_0) := rfl
theorem lb_X7_at_17 : xm_lk kb_X7_at 17 = some (18, kX7_at_17) := rfl
theorem lb_X7_at_18 : xm_lk kb_X7_at 18 = some (19, kX7_at_18) := rfl
theorem lb_X7_at_14 : xm_lk kb_X7_at 14 = some (17, kX7_at_14) := rfl
theorem lb_X7_at_19 : xm_lk kb_X7_at 19 = none := rfl
theorem kc_X7_at : xm_oks cX7_at 7 2 0 false kb_X7_at := (List.forall_mem_cons.mpr ⟨bk_X7_at_0, (List.forall_mem_cons.mpr ⟨bk_X7_at_17, (List.forall_mem_cons.mpr ⟨bk_X7_at_18, (List.forall_mem_cons.mpr ⟨bk_X7_at_14, (fun _ h => absurd h List.not_mem_nil)⟩)⟩)⟩)⟩)
def kb_X7_isLetter : List (Nat × Nat × List xm_I) := [(0, 16, kX7_isLetter_0), (16, 17, kX7_isLetter_16), (17, 18, kX7_isLetter_17)]
theorem lb_X7_isLetter_0 : xm_lk kb_X7_isLetter 0 = some (16, kX7_isLetter_0) := rfl
theorem lb_X7_isLetter_16 : xm_lk kb_X7_isLetter 16 = some (17, kX7_isLetter_16) := rfl
theorem lb_X7_isLetter_17 : xm_lk kb_X7_isLetter 17 = some (18, kX7_isLetter_17) := rfl
theorem lb_X7_isLetter_18 : xm_lk kb_X7_isLetter 18 = none := rfl
theorem kc_X7_isLetter : xm_oks cX7_isLetter 7 1 1 false kb_X7_isLetter := (List.forall_mem_cons.mpr ⟨bk_X7_isLetter_0, (List.forall_mem_cons.mpr ⟨bk_X7_isLetter_16, (List.forall_mem_cons.mpr ⟨bk_X7_isLetter_17, (fun _ h => absurd h List.not_mem_nil)⟩)⟩)⟩)
def kb_X7_isDigit : List (Nat × Nat × List xm_I) := [(0, 16, kX7_isDigit_0), (16, 17, kX7_isDigit_16), (17, 18, kX7_isDigit_17)]
theorem lb_X7_isDigit_0 : xm_lk kb_X7_isDigit 0 = some (16, kX7_isDigit_0) := rfl
theorem lb_X7_isDigit_16 : xm_lk kb_X7_isDigit 16 = some (17, kX7_isDigit_16) := rfl
theorem lb_X7_isDigit_17 : xm_lk kb_X7_isDigit 17 = some (18, kX7_isDigit_17) := rfl
theorem lb_X7_isDigit_18 : xm_lk kb_X7_isDigit 18 = none := rfl
theorem kc_X7_isDigit : xm_oks cX7_isDigit 7 1 1 false kb_X7_isDigit := (List.forall_mem_cons.mpr ⟨bk_X7_isDigit_0, (List.forall_mem_cons.mpr ⟨bk_X7_isDigit_16, (List.forall_mem_cons.mpr ⟨bk_X7_isDigit_17, (fun _ h => absurd h List.not_mem_nil)⟩)⟩)⟩)
def kb_X7_token : List (Nat × Nat × List xm_I) := [(0, 5, kX7_token_0), (8, 18, kX7_token_8), (21, 26, kX7_token_21), (26, 39, kX7_token_26), (39, 52, kX7_token_39), (55, 69, kX7_token_55), (69, 70, kX7_token_69), (73, 76, kX7_token_73), (76, 81, kX7_token_76), (87, 103, kX7_token_87), (103, 111, kX7_token_103), (111, 112, kX7_token_111), (115, 123, kX7_token_115), (123, 128, kX7_token_123), (134, 150, kX7_token_134), (166, 173, kX7_token_166), (173, 186, kX7_token_173), (186, 200, kX7_token_186), (204, 205, kX7_token_204), (205, 211, kX7_token_205), (211, 223, kX7_token_211), (232, 233, kX7_token_232), (233, 236, kX7_token_233), (236, 237, kX7_token_236), (150, 163, kX7_token_150), (200, 204, kX7_token_200), (223, 232, kX7_token_223)]
theorem lb_X7_token_0 : xm_lk kb_X7_token 0 = some (5, kX7_token_0) := rfl
theorem lb_X7_token_8 : xm_lk kb_X7_token 8 = some (18, kX7_token_8) := rfl
theorem lb_X7_token_21 : xm_lk kb_X7_token 21 = some (26, kX7_token_21) := rfl
theorem lb_X7_token_26 : xm_lk kb_X7_token 26 = some (39, kX7_token_26) := rfl
theorem lb_X7_token_39 : xm_lk kb_X7_token 39 = some (52, kX7_token_39) := rfl
theorem lb_X7_token_55 : xm_lk kb_X7_token 55 = some (69, kX7_token_55) := rfl
theorem lb_X7_token_69 : xm_lk kb_X7_token 69 = some (70, kX7_token_69) := rfl
theorem lb_X7_token_73 : xm_lk kb_X7_token 73 = some (76, kX7_token_73) := rfl
theorem lb_X7_token_76 : xm_lk kb_X7_token 76 = some (81, kX7_token_76) := rfl
theorem lb_X7_token_87 : xm_lk kb_X7_token 87 = some (103, kX7_token_87) := rfl
theorem lb_X7_token_103 : xm_lk kb_X7_token 103 = some (111, kX7_token_103) := rfl
theorem lb_X7_token_111 : xm_lk kb_X7_token 111 = some (112, kX7_token_111) := rfl
theorem lb_X7_token_115 : xm_lk kb_X7_token 115 = some (123, kX7_token_115) := rfl
theorem lb_X7_token_123 : xm_lk kb_X7_token 123 = some (128, kX7_token_123) := rfl
theorem lb_X7_token_134 : xm_lk kb_X7_token 134 = some (150, kX7_token_134) := rfl
theorem lb_X7_token_166 : xm_lk kb_X7_token 166 = some (173, kX7_token_166) := rfl
theorem lb_X7_token_173 : xm_lk kb_X7_token 173 = some (186, kX7_token_173) := rfl
theorem lb_X7_token_186 : xm_lk kb_X7_token 186 = some (200, kX7_token_186) := rfl
theorem lb_X7_token_204 : xm_lk kb_X7_token 204 = some (205, kX7_token_204) := rfl
theorem lb_X7_token_205 : xm_lk kb_X7_token 205 = some (211, kX7_token_205) := rfl
theorem lb_X7_token_211 : xm_lk kb_X7_token 211 = some (223, kX7_token_211) := rfl
theorem lb_X7_token_232 : xm_lk kb_X7_token 232 = some (233, kX7_token_232) := rfl
theorem lb_X7_token_233 : xm_lk kb_X7_token 233 = some (236, kX7_token_233) := rfl
theorem lb_X7_token_236 : xm_lk kb_X7_token 236 = some (237, kX7_token_236) := rfl
theorem lb_X7_token_150 : xm_lk kb_X7_token 150 = some (163, kX7_token_150) := rfl
theorem lb_X7_token_200 : xm_lk kb_X7_token 200 = some (204, kX7_token_200) := rfl
theorem lb_X7_token_223 : xm_lk kb_X7_token 223 = some (232, kX7_token_223) := rfl
theorem lb_X7_token_5 : xm_lk kb_X7_token 5 = none := rfl
theorem lb_X7_token_18 : xm_lk kb_X7_token 18 = none := rfl
theorem lb_X7_token_52 : xm_lk kb_X7_token 52 = none := rfl
theorem lb_X7_token_70 : xm_lk kb_X7_token 70 = none := rfl
theorem lb_X7_token_81 : xm_lk kb_X7_token 81 = none := rfl
theorem lb_X7_token_112 : xm_lk kb_X7_token 112 = none := rfl
theorem lb_X7_token_128 : xm_lk kb_X7_token 128 = none := rfl
theorem lb_X7_token_163 : xm_lk kb_X7_token 163 = none := rfl
theorem lb_X7_token_237 : xm_lk kb_X7_token 237 = none := rfl
theorem kc_X7_token : xm_oks cX7_token 7 2 3 false kb_X7_token := (List.forall_mem_cons.mpr ⟨bk_X7_token_0, (List.forall_mem_cons.mpr ⟨bk_X7_token_8, (List.forall_mem_cons.mpr ⟨bk_X7_token_21, (List.forall_mem_cons.mpr ⟨bk_X7_token_26, (List.forall_mem_cons.mpr ⟨bk_X7_token_39, (List.forall_mem_cons.mpr ⟨bk_X7_token_55, (List.forall_mem_cons.mpr ⟨bk_X7_token_69, (List.forall_mem_cons.mpr ⟨bk_X7_token_73, (List.forall_mem_cons.mpr ⟨bk_X7_token_76, (List.forall_mem_cons.mpr ⟨bk_X7_token_87, (List.forall_mem_cons.mpr ⟨bk_X7_token_103, (List.forall_mem_cons.mpr ⟨bk_X7_token_111, (List.forall_mem_cons.mpr ⟨bk_X7_token_115, (List.forall_mem_cons.mpr ⟨bk_X7_token_123, (List.forall_mem_cons.mpr ⟨bk_X7_token_134, (List.forall_mem_cons.mpr ⟨bk_X7_token_166, (List.forall_mem_cons.mpr ⟨bk_X7_token_173, (List.forall_mem_cons.mpr ⟨bk_X7_token_186, (List.forall_mem_cons.mpr ⟨bk_X7_token_204, (List.forall_mem_cons.mpr ⟨bk_X7_token_205, (List.forall_mem_cons.mpr ⟨bk_X7_token_211, (List.forall_mem_cons.mpr ⟨bk_X7_token_232, (List.forall_mem_cons.mpr ⟨bk_X7_token_233, (List.forall_mem_cons.mpr ⟨bk_X7_token_236, (List.forall_mem_cons.mpr ⟨bk_X7_token_150, (List.forall_mem_cons.mpr ⟨bk_X7_token_200, (List.forall_mem_cons.mpr ⟨bk_X7_token_223, (fun _ h => absurd h List.not_mem_nil)⟩)⟩)⟩)⟩)⟩)⟩)⟩)⟩)⟩)⟩)⟩)⟩)⟩)⟩)⟩)⟩)⟩)⟩)⟩)⟩)⟩)⟩)⟩)⟩)⟩)⟩)⟩)
def kb_X7_isWrong : List (Nat × Nat × List xm_I) := [(0, 11, kX7_isWrong_0), (11, 12, kX7_isWrong_11), (12, 13, kX7_isWrong_12)]
theorem lb_X7_isWrong_0 : xm_lk kb_X7_isWrong 0 = some (11, kX7_isWrong_0) := rfl
theorem lb_X7_isWrong_11 : xm_lk kb_X7_isWrong 11 = some (12, kX7_isWrong_11) := rfl
theorem lb_X7_isWrong_12 : xm_lk kb_X7_isWrong 12 = some (13, kX7_isWrong_12) := rfl
theorem lb_X7_isWrong_13 : xm_lk kb_X7_isWrong 13 = none := rfl
theorem kc_X7_isWrong : xm_oks cX7_isWrong 7 1 1 false kb_X7_isWrong := (List.forall_mem_cons.mpr ⟨bk_X7_isWrong_0, (List.forall_mem_cons.mpr ⟨bk_X7_isWrong_11, (List.forall_mem_cons.mpr ⟨bk_X7_isWrong_12, (fun _ h => absurd h List.not_mem_nil)⟩)⟩)⟩)
def kb_X7_fails : List (Nat × Nat × List xm_I) := [(0, 1, kX7_fails_0), (4, 8, kX7_fails_4), (8, 22, kX7_fails_8)]
theorem lb_X7_fails_0 : xm_lk kb_X7_fails 0 = some (1, kX7_fails_0) := rfl
theorem lb_X7_fails_4 : xm_lk kb_X7_fails 4 = some (8, kX7_fails_4) := rfl
theorem lb_X7_fails_8 : xm_lk kb_X7_fails 8 = some (22, kX7_fails_8) := rfl
theorem lb_X7_fails_1 : xm_lk kb_X7_fails 1 = none := rfl
theorem lb_X7_fails_22 : xm_lk kb_X7_fails 22 = none := rfl
theorem kc_X7_fails : xm_oks cX7_fails 7 2 3 false kb_X7_fails := (List.forall_mem_cons.mpr ⟨bk_X7_fails_0, (List.forall_mem_cons.mpr ⟨bk_X7_fails_4, (List.forall_mem_cons.mpr ⟨bk_X7_fails_8, (fun _ h => absurd h List.not_mem_nil)⟩)⟩)⟩)
def kb_X7_isWord : List (Nat × Nat × List xm_I) := [(0, 1, kX7_isWord_0), (4, 20, kX7_isWord_4), (28, 31, kX7_isWord_28), (31, 33, kX7_isWord_31), (33, 35, kX7_isWord_33), (35, 37, kX7_isWord_35), (40, 50, kX7_isWord_40), (53, 55, kX7_isWord_53), (58, 63, kX7_isWord_58), (63, 69, kX7_isWord_63), (69, 71, kX7_isWord_69), (20, 25, kX7_isWord_20)]
theorem lb_X7_isWord_0 : xm_lk kb_X7_isWord 0 = some (1, kX7_isWord_0) := rfl
theorem lb_X7_isWord_4 : xm_lk kb_X7_isWord 4 = some (20, kX7_isWord_4) := rfl
theorem lb_X7_isWord_28 : xm_lk kb_X7_isWord 28 = some (31, kX7_isWord_28) := rfl
theorem lb_X7_isWord_31 : xm_lk kb_X7_isWord 31 = some (33, kX7_isWord_31) := rfl
theorem lb_X7_isWord_33 : xm_lk kb_X7_isWord 33 = some (35, kX7_isWord_33) := rfl
theorem lb_X7_isWord_35 : xm_lk kb_X7_isWord 35 = some (37, kX7_isWord_35) := rfl
theorem lb_X7_isWord_40 : xm_lk kb_X7_isWord 40 = some (50, kX7_isWord_40) := rfl
theorem lb_X7_isWord_53 : xm_lk kb_X7_isWord 53 = some (55, kX7_isWord_53) := rfl
theorem lb_X7_isWord_58 : xm_lk kb_X7_isWord 58 = some (63, kX7_isWord_58) := rfl
theorem lb_X7_isWord_63 : xm_lk kb_X7_isWord 63 = some (69, kX7_isWord_63) := rfl
theorem lb_X7_isWord_69 : xm_lk kb_X7_isWord 69 = some (71, kX7_isWord_69) := rfl
theorem lb_X7_isWord_20 : xm_lk kb_X7_isWord 20 = some (25, kX7_isWord_20) := rfl
theorem lb_X7_isWord_1 : xm_lk kb_X7_isWord 1 = none := rfl
theorem lb_X7_isWord_25 : xm_lk kb_X7_isWord 25 = none := rfl
theorem lb_X7_isWord_37 : xm_lk kb_X7_isWord 37 = none := rfl
theorem lb_X7_isWord_50 : xm_lk kb_X7_isWord 50 = none := rfl
theorem lb_X7_isWord_55 : xm_lk kb_X7_isWord 55 = none := rfl
theorem lb_X7_isWord_71 : xm_lk kb_X7_isWord 71 = none := rfl
theorem kc_X7_isWord : xm_oks cX7_isWord 7 3 1 false kb_X7_isWord := (List.forall_mem_cons.mpr ⟨bk_X7_isWord_0, (List.forall_mem_cons.mpr ⟨bk_X7_isWord_4, (List.forall_mem_cons.mpr ⟨bk_X7_isWord_28, (List.forall_mem_cons.mpr ⟨bk_X7_isWord_31, (List.forall_mem_cons.mpr ⟨bk_X7_isWord_33, (List.forall_mem_cons.mpr ⟨bk_X7_isWord_35, (List.forall_mem_cons.mpr ⟨bk_X7_isWord_40, (List.forall_mem_cons.mpr ⟨bk_X7_isWord_53, (List.forall_mem_cons.mpr ⟨bk_X7_isWord_58, (List.forall_mem_cons.mpr ⟨bk_X7_isWord_63, (List.forall_mem_cons.mpr ⟨bk_X7_isWord_69, (List.forall_mem_cons.mpr ⟨bk_X7_isWord_20, (fun _ h => absurd h List.not_mem_nil)⟩)⟩)⟩)⟩)⟩)⟩)⟩)⟩)⟩)⟩)⟩)⟩)
def kb_X7_takesWord : List (Nat × Nat × List xm_I) := [(0, 2, kX7_takesWord_0), (5, 11, kX7_takesWord_5), (14, 16, kX7_takesWord_14)]
theorem lb_X7_takesWord_0 : xm_lk kb_X7_takesWord 0 = some (2, kX7_takesWord_0) := rfl
theorem lb_X7_takesWord_5 : xm_lk kb_X7_takesWord 5 = some (11, kX7_takesWord_5) := rfl
theorem lb_X7_takesWord_14 : xm_lk kb_X7_takesWord 14 = some (16, kX7_takesWord_14) := rfl
theorem lb_X7_takesWord_2 : xm_lk kb_X7_takesWord 2 = none := rfl
theorem lb_X7_takesWord_11 : xm_lk kb_X7_takesWord 11 = none := rfl
theorem lb_X7_takesWord_16 : xm_lk kb_X7_takesWord 16 = none := rfl
theorem kc_X7_takesWord : xm_oks cX7_takesWord 7 3 1 false kb_X7_takesWord := (List.forall_mem_cons.mpr ⟨bk_X7_takesWord_0, (List.forall_mem_cons.mpr ⟨bk_X7_takesWord_5, (List.forall_mem_cons.mpr ⟨bk_X7_takesWord_14, (fun _ h => absurd h List.not_mem_nil)⟩)⟩)⟩)
def kb_X7_figure : List (Nat × Nat × List xm_I) := [(0, 1, kX7_figure_0), (4, 9, kX7_figure_4), (9, 19, kX7_figure_9), (22, 25, kX7_figure_22), (25, 31, kX7_figure_25), (34, 39, kX7_figure_34), (42, 48, kX7_figure_42), (51, 55, kX7_figure_51), (58, 60, kX7_figure_58)]
theorem lb_X7_figure_0 : xm_lk kb_X7_figure 0 = some (1, kX7_figure_0) := rfl
theorem lb_X7_figure_4 : xm_lk kb_X7_figure 4 = some (9, kX7_figure_4) := rfl
theorem lb_X7_figure_9 : xm_lk kb_X7_figure 9 = some (19, kX7_figure_9) := rfl
theorem lb_X7_figure_22 : xm_lk kb_X7_figure 22 = some (25, kX7_figure_22) := rfl
theorem lb_X7_figure_25 : xm_lk kb_X7_figure 25 = some (31, kX7_figure_25) := rfl
theorem lb_X7_figure_34 : xm_lk kb_X7_figure 34 = some (39, kX7_figure_34) := rfl
theorem lb_X7_figure_42 : xm_lk kb_X7_figure 42 = some (48, kX7_figure_42) := rfl
theorem lb_X7_figure_51 : xm_lk kb_X7_figure 51 = some (55, kX7_figure_51) := rfl
theorem lb_X7_figure_58 : xm_lk kb_X7_figure 58 = some (60, kX7_figure_58) := rfl
theorem lb_X7_figure_1 : xm_lk kb_X7_figure 1 = none := rfl
theorem lb_X7_figure_19 : xm_lk kb_X7_figure 19 = none := rfl
theorem lb_X7_figure_31 : xm_lk kb_X7_figure 31 = none := rfl
theorem lb_X7_figure_39 : xm_lk kb_X7_figure 39 = none := rfl
theorem lb_X7_figure_48 : xm_lk kb_X7_figure 48 = none := rfl
theorem lb_X7_figure_55 : xm_lk kb_X7_figure 55 = none := rfl
theorem lb_X7_figure_60 : xm_lk kb_X7_figure 60 = none := rfl
theorem kc_X7_figure : xm_oks cX7_figure 7 4 0 false kb_X7_figure := (List.forall_mem_cons.mpr ⟨bk_X7_figure_0, (List.forall_mem_cons.mpr ⟨bk_X7_figure_4, (List.forall_mem_cons.mpr ⟨bk_X7_figure_9, (List.forall_mem_cons.mpr ⟨bk_X7_figure_22, (List.forall_mem_cons.mpr ⟨bk_X7_figure_25, (List.forall_mem_cons.mpr ⟨bk_X7_figure_34, (List.forall_mem_cons.mpr ⟨bk_X7_figure_42, (List.forall_mem_cons.mpr ⟨bk_X7_figure_51, (List.forall_mem_cons.mpr ⟨bk_X7_figure_58, (fun _ h => absurd h List.not_mem_nil)⟩)⟩)⟩)⟩)⟩)⟩)⟩)⟩)⟩)
def kb_X7_ends : List (Nat × Nat × List xm_I) := [(0, 10, kX7_ends_0), (13, 14, kX7_ends_13), (17, 21, kX7_ends_17), (24, 25, kX7_ends_24)]
theorem lb_X7_ends_0 : xm_lk kb_X7_ends 0 = some (10, kX7_ends_0) := rfl
theorem lb_X7_ends_13 : xm_lk kb_X7_ends 13 = some (14, kX7_ends_13) := rfl
theorem lb_X7_ends_17 : xm_lk kb_X7_ends 17 = some (21, kX7_ends_17) := rfl
theorem lb_X7_ends_24 : xm_lk kb_X7_ends 24 = some (25, kX7_ends_24) := rfl
theorem lb_X7_ends_10 : xm_lk kb_X7_ends 10 = none := rfl
theorem lb_X7_ends_14 : xm_lk kb_X7_ends 14 = none := rfl
theorem lb_X7_ends_21 : xm_lk kb_X7_ends 21 = none := rfl
theorem lb_X7_ends_25 : xm_lk kb_X7_ends 25 = none := rfl
theorem kc_X7_ends : xm_oks cX7_ends 7 1 3 false kb_X7_ends := (List.forall_mem_cons.mpr ⟨bk_X7_ends_0, (List.forall_mem_cons.mpr ⟨bk_X7_ends_13, (List.forall_mem_cons.mpr ⟨bk_X7_ends_17, (List.forall_mem_cons.mpr ⟨bk_X7_ends_24, (fun _ h => absurd h List.not_mem_nil)⟩)⟩)⟩)⟩)
def kb_X7_vibrationLine : List (Nat × Nat × List xm_I) := [(0, 12, kX7_vibrationLine_0), (15, 16, kX7_vibrationLine_15), (19, 23, kX7_vibrationLine_19), (23, 24, kX7_vibrationLine_23), (27, 38, kX7_vibrationLine_27), (52, 54, kX7_vibrationLine_52), (57, 73, kX7_vibrationLine_57), (83, 94, kX7_vibrationLine_83), (97, 107, kX7_vibrationLine_97), (120, 130, kX7_vibrationLine_120), (135, 136, kX7_vibrationLine_135), (38, 49, kX7_vibrationLine_38), (73, 80, kX7_vibrationLine_73), (107, 117, kX7_vibrationLine_107), (130, 132, kX7_vibrationLine_130)]
theorem lb_X7_vibrationLine_0 : xm_lk kb_X7_vibrationLine 0 = some (12, kX7_vibrationLine_0) := rfl
theorem lb_X7_vibrationLine_15 : xm_lk kb_X7_vibrationLine 15 = some (16, kX7_vibrationLine_15) := rfl
theorem lb_X7_vibrationLine_19 : xm_lk kb_X7_vibrationLine 19 = some (23, kX7_vibrationLine_19) := rfl
theorem lb_X7_vibrationLine_23 : xm_lk kb_X7_vibrationLine 23 = some (24, kX7_vibrationLine_23) := rfl
theorem lb_X7_vibrationLine_27 : xm_lk kb_X7_vibrationLine 27 = some (38, kX7_vibrationLine_27) := rfl
theorem lb_X7_vibrationLine_52 : xm_lk kb_X7_vibrationLine 52 = some (54, kX7_vibrationLine_52) := rfl
theorem lb_X7_vibrationLine_57 : xm_lk kb_X7_vibrationLine 57 = some (73, kX7_vibrationLine_57) := rfl
theorem lb_X7_vibrationLine_83 : xm_lk kb_X7_vibrationLine 83 = some (94, kX7_vibrationLine_83) := rfl
theorem lb_X7_vibrationLine_97 : xm_lk kb_X7_vibrationLine 97 = some (107, kX7_vibrationLine_97) := rfl
theorem lb_X7_vibrationLine_120 : xm_lk kb_X7_vibrationLine 120 = some (130, kX7_vibrationLine_120) := rfl
theorem lb_X7_vibrationLine_135 : xm_lk kb_X7_vibrationLine 135 = some (136, kX7_vibrationLine_135) := rfl
theorem lb_X7_vibrationLine_38 : xm_lk kb_X7_vibrationLine 38 = some (49, kX7_vibrationLine_38) := rfl
theorem lb_X7_vibrationLine_73 : xm_lk kb_X7_vibrationLine 73 = some (80, kX7_vibrationLine_73) := rfl
theorem lb_X7_vibrationLine_107 : xm_lk kb_X7_vibrationLine 107 = some (117, kX7_vibrationLine_107) := rfl
theorem lb_X7_vibrationLine_130 : xm_lk kb_X7_vibrationLine 130 = some (132, kX7_vibrationLine_130) := rfl
theorem lb_X7_vibrationLine_12 : xm_lk kb_X7_vibrationLine 12 = none := rfl
theorem lb_X7_vibrationLine_16 : xm_lk kb_X7_vibrationLine 16 = none := rfl
theorem lb_X7_vibrationLine_24 : xm_lk kb_X7_vibrationLine 24 = none := rfl
theorem lb_X7_vibrationLine_49 : xm_lk kb_X7_vibrationLine 49 = none := rfl
theorem lb_X7_vibrationLine_54 : xm_lk kb_X7_vibrationLine 54 = none := rfl
theorem lb_X7_vibrationLine_80 : xm_lk kb_X7_vibrationLine 80 = none := rfl
theorem lb_X7_vibrationLine_94 : xm_lk kb_X7_vibrationLine 94 = none := rfl
theorem lb_X7_vibrationLine_117 : xm_lk kb_X7_vibrationLine 117 = none := rfl
theorem lb_X7_vibrationLine_132 : xm_lk kb_X7_vibrationLine 132 = none := rfl
theorem lb_X7_vibrationLine_136 : xm_lk kb_X7_vibrationLine 136 = none := rfl
theorem kc_X7_vibrationLine : xm_oks cX7_vibrationLine 7 2 3 false kb_X7_vibrationLine := (List.forall_mem_cons.mpr ⟨bk_X7_vibrationLine_0, (List.forall_mem_cons.mpr ⟨bk_X7_vibrationLine_15, (List.forall_mem_cons.mpr ⟨bk_X7_vibrationLine_19, (List.forall_mem_cons.mpr ⟨bk_X7_vibrationLine_23, (List.forall_mem_cons.mpr ⟨bk_X7_vibrationLine_27, (List.forall_mem_cons.mpr ⟨bk_X7_vibrationLine_52, (List.forall_mem_cons.mpr ⟨bk_X7_vibrationLine_57, (List.forall_mem_cons.mpr ⟨bk_X7_vibrationLine_83, (List.forall_mem_cons.mpr ⟨bk_X7_vibrationLine_97, (List.forall_mem_cons.mpr ⟨bk_X7_vibrationLine_120, (List.forall_mem_cons.mpr ⟨bk_X7_vibrationLine_135, (List.forall_mem_cons.mpr ⟨bk_X7_vibrationLine_38, (List.forall_mem_cons.mpr ⟨bk_X7_vibrationLine_73, (List.forall_mem_cons.mpr ⟨bk_X7_vibrationLine_107, (List.forall_mem_cons.mpr ⟨bk_X7_vibrationLine_130, (fun _ h => absurd h List.not_mem_nil)⟩)⟩)⟩)⟩)⟩)⟩)⟩)⟩)⟩)⟩)⟩)⟩)⟩)⟩)⟩)
def kb_X7_kindHere : List (Nat × Nat × List xm_I) := [(0, 1, kX7_kindHere_0), (6, 13, kX7_kindHere_6), (13, 14, kX7_kindHere_13), (19, 26, kX7_kindHere_19), (26, 27, kX7_kindHere_26), (32, 39, kX7_kindHere_32), (39, 40, kX7_kindHere_39), (40, 41, kX7_kindHere_40)]
theorem lb_X7_kindHere_0 : xm_lk kb_X7_kindHere 0 = some (1, kX7_kindHere_0) := rfl
theorem lb_X7_kindHere_6 : xm_lk kb_X7_kindHere 6 = some (13, kX7_kindHere_6) := rfl
theorem lb_X7_kindHere_13 : xm_lk kb_X7_kindHere 13 = some (14, kX7_kindHere_13) := rfl
theorem lb_X7_kindHere_19 : xm_lk kb_X7_kindHere 19 = some (26, kX7_kindHere_19) := rfl
theorem lb_X7_kindHere_26 : xm_lk kb_X7_kindHere 26 = some (27, kX7_kindHere_26) := rfl
theorem lb_X7_kindHere_32 : xm_lk kb_X7_kindHere 32 = some (39, kX7_kindHere_32) := rfl
theorem lb_X7_kindHere_39 : xm_lk kb_X7_kindHere 39 = some (40, kX7_kindHere_39) := rfl
theorem lb_X7_kindHere_40 : xm_lk kb_X7_kindHere 40 = some (41, kX7_kindHere_40) := rfl
theorem lb_X7_kindHere_1 : xm_lk kb_X7_kindHere 1 = none := rfl
theorem lb_X7_kindHere_14 : xm_lk kb_X7_kindHere 14 = none := rfl
theorem lb_X7_kindHere_27 : xm_lk kb_X7_kindHere 27 = none := rfl
theorem lb_X7_kindHere_41 : xm_lk kb_X7_kindHere 41 = none := rfl
theorem kc_X7_kindHere : xm_oks cX7_kindHere 7 1 0 false kb_X7_kindHere := (List.forall_mem_cons.mpr ⟨bk_X7_kindHere_0, (List.forall_mem_cons.mpr ⟨bk_X7_kindHere_6, (List.forall_mem_cons.mpr ⟨bk_X7_kindHere_13, (List.forall_mem_cons.mpr ⟨bk_X7_kindHere_19, (List.forall_mem_cons.mpr ⟨bk_X7_kindHere_26, (List.forall_mem_cons.mpr ⟨bk_X7_kindHere_32, (List.forall_mem_cons.mpr ⟨bk_X7_kindHere_39, (List.forall_mem_cons.mpr ⟨bk_X7_kindHere_40, (fun _ h => absurd h List.not_mem_nil)⟩)⟩)⟩)⟩)⟩)⟩)⟩)⟩)
def kb_X7_gateLine : List (Nat × Nat × List xm_I) := [(0, 1, kX7_gateLine_0), (4, 5, kX7_gateLine_4), (8, 16, kX7_gateLine_8), (19, 22, kX7_gateLine_19), (22, 35, kX7_gateLine_22), (40, 41, kX7_gateLine_40), (44, 48, kX7_gateLine_44), (48, 49, kX7_gateLine_48), (52, 63, kX7_gateLine_52), (94, 102, kX7_gateLine_94), (102, 112, kX7_gateLine_102), (115, 125, kX7_gateLine_115), (130, 141, kX7_gateLine_130), (155, 156, kX7_gateLine_155), (35, 37, kX7_gateLine_35), (63, 73, kX7_gateLine_63), (125, 127, kX7_gateLine_125), (141, 151, kX7_gateLine_141), (73, 85, kX7_gateLine_73), (151, 152, kX7_gateLine_151), (85, 94, kX7_gateLine_85)]
theorem lb_X7_gateLine_0 : xm_lk kb_X7_gateLine 0 = some (1, kX7_gateLine_0) := rfl
theorem lb_X7_gateLine_4 : xm_lk kb_X7_gateLine 4 = some (5, kX7_gateLine_4) := rfl
theorem lb_X7_gateLine_8 : xm_lk kb_X7_gateLine 8 = some (16, kX7_gateLine_8) := rfl
theorem lb_X7_gateLine_19 : xm_lk kb_X7_gateLine 19 = some (22, kX7_gateLine_19) := rfl
theorem lb_X7_gateLine_22 : xm_lk kb_X7_gateLine 22 = some (35, kX7_gateLine_22) := rfl
theorem lb_X7_gateLine_40 : xm_lk kb_X7_gateLine 40 = some (41, kX7_gateLine_40) := rfl
theorem lb_X7_gateLine_44 : xm_lk kb_X7_gateLine 44 = some (48, kX7_gateLine_44) := rfl
theorem lb_X7_gateLine_48 : xm_lk kb_X7_gateLine 48 = some (49, kX7_gateLine_48) := rfl
theorem lb_X7_gateLine_52 : xm_lk kb_X7_gateLine 52 = some (63, kX7_gateLine_52) := rfl
theorem lb_X7_gateLine_94 : xm_lk kb_X7_gateLine 94 = some (102, kX7_gateLine_94) := rfl
theorem lb_X7_gateLine_102 : xm_lk kb_X7_gateLine 102 = some (112, kX7_gateLine_102) := rfl
theorem lb_X7_gateLine_115 : xm_lk kb_X7_gateLine 115 = some (125, kX7_gateLine_115) := rfl
theorem lb_X7_gateLine_130 : xm_lk kb_X7_gateLine 130 = some (141, kX7_gateLine_130) := rfl
theorem lb_X7_gateLine_155 : xm_lk kb_X7_gateLine 155 = some (156, kX7_gateLine_155) := rfl
theorem lb_X7_gateLine_35 : xm_lk kb_X7_gateLine 35 = some (37, kX7_gateLine_35) := rfl
theorem lb_X7_gateLine_63 : xm_lk kb_X7_gateLine 63 = some (73, kX7_gateLine_63) := rfl
theorem lb_X7_gateLine_125 : xm_lk kb_X7_gateLine 125 = some (127, kX7_gateLine_125) := rfl
theorem lb_X7_gateLine_141 : xm_lk kb_X7_gateLine 141 = some (151, kX7_gateLine_141) := rfl
theorem lb_X7_gateLine_73 : xm_lk kb_X7_gateLine 73 = some (85, kX7_gateLine_73) := rfl
theorem lb_X7_gateLine_151 : xm_lk kb_X7_gateLine 151 = some (152, kX7_gateLine_151) := rfl
theorem lb_X7_gateLine_85 : xm_lk kb_X7_gateLine 85 = some (94, kX7_gateLine_85) := rfl
theorem lb_X7_gateLine_1 : xm_lk kb_X7_gateLine 1 = none := rfl
theorem lb_X7_gateLine_5 : xm_lk kb_X7_gateLine 5 = none := rfl
theorem lb_X7_gateLine_16 : xm_lk kb_X7_gateLine 16 = none := rfl
theorem lb_X7_gateLine_37 : xm_lk kb_X7_gateLine 37 = none := rfl
theorem lb_X7_gateLine_41 : xm_lk kb_X7_gateLine 41 = none := rfl
theorem lb_X7_gateLine_49 : xm_lk kb_X7_gateLine 49 = none := rfl
theorem lb_X7_gateLine_112 : xm_lk kb_X7_gateLine 112 = none := rfl
theorem lb_X7_gateLine_127 : xm_lk kb_X7_gateLine 127 = none := rfl
theorem lb_X7_gateLine_152 : xm_lk kb_X7_gateLine 152 = none := rfl
theorem lb_X7_gateLine_156 : xm_lk kb_X7_gateLine 156 = none := rfl
theorem kc_X7_gateLine : xm_oks cX7_gateLine 7 4 3 false kb_X7_gateLine := (List.forall_mem_cons.mpr ⟨bk_X7_gateLine_0, (List.forall_mem_cons.mpr ⟨bk_X7_gateLine_4, (List.forall_mem_cons.mpr ⟨bk_X7_gateLine_8, (List.forall_mem_cons.mpr ⟨bk_X7_gateLine_19, (List.forall_mem_cons.mpr ⟨bk_X7_gateLine_22, (List.forall_mem_cons.mpr ⟨bk_X7_gateLine_40, (List.forall_mem_cons.mpr ⟨bk_X7_gateLine_44, (List.forall_mem_cons.mpr ⟨bk_X7_gateLine_48, (List.forall_mem_cons.mpr ⟨bk_X7_gateLine_52, (List.forall_mem_cons.mpr ⟨bk_X7_gateLine_94, (List.forall_mem_cons.mpr ⟨bk_X7_gateLine_102, (List.forall_mem_cons.mpr ⟨bk_X7_gateLine_115, (List.forall_mem_cons.mpr ⟨bk_X7_gateLine_130, (List.forall_mem_cons.mpr ⟨bk_X7_gateLine_155, (List.forall_mem_cons.mpr ⟨bk_X7_gateLine_35, (List.forall_mem_cons.mpr ⟨bk_X7_gateLine_63, (List.forall_mem_cons.mpr ⟨bk_X7_gateLine_125, (List.forall_mem_cons.mpr ⟨bk_X7_gateLine_141, (List.forall_mem_cons.mpr ⟨bk_X7_gateLine_73, (List.forall_mem_cons.mpr ⟨bk_X7_gateLine_151, (List.forall_mem_cons.mpr ⟨bk_X7_gateLine_85, (fun _ h => absurd h List.not_mem_nil)⟩)⟩)⟩)⟩)⟩)⟩)⟩)⟩)⟩)⟩)⟩)⟩)⟩)⟩)⟩)⟩)⟩)⟩)⟩)⟩)⟩)
def kb_X7_setting : List (Nat × Nat × List xm_I) := [(0, 1, kX7_setting_0), (6, 12, kX7_setting_6), (12, 13, kX7_setting_12), (18, 24, kX7_setting_18), (24, 25, kX7_setting_24), (30, 36, kX7_setting_30), (36, 37, kX7_setting_36), (42, 48, kX7_setting_42), (48, 49, kX7_setting_48), (54, 60, kX7_setting_54), (60, 61, kX7_setting_60), (66, 72, kX7_setting_66), (72, 73, kX7_setting_72), (78, 84, kX7_setting_78), (84, 85, kX7_setting_84), (90, 98, kX7_setting_90), (98, 99, kX7_setting_98), (99, 100, kX7_setting_99)]
theorem lb_X7_setting_0 : xm_lk kb_X7_setting 0 = some (1, kX7_setting_0) := rfl
theorem lb_X7_setting_6 : xm_lk kb_X7_setting 6 = some (12, kX7_setting_6) := rfl
theorem lb_X7_setting_12 : xm_lk kb_X7_setting 12 = some (13, kX7_setting_12) := rfl
theorem lb_X7_setting_18 : xm_lk kb_X7_setting 18 = some (24, kX7_setting_18) := rfl
theorem lb_X7_setting_24 : xm_lk kb_X7_setting 24 = some (25, kX7_setting_24) := rfl
theorem lb_X7_setting_30 : xm_lk kb_X7_setting 30 = some (36, kX7_setting_30) := rfl
theorem lb_X7_setting_36 : xm_lk kb_X7_setting 36 = some (37, kX7_setting_36) := rfl
theorem lb_X7_setting_42 : xm_lk kb_X7_setting 42 = some (48, kX7_setting_42) := rfl
theorem lb_X7_setting_48 : xm_lk kb_X7_setting 48 = some (49, kX7_setting_48) := rfl
theorem lb_X7_setting_54 : xm_lk kb_X7_setting 54 = some (60, kX7_setting_54) := rfl
theorem lb_X7_setting_60 : xm_lk kb_X7_setting 60 = some (61, kX7_setting_60) := rfl
theorem lb_X7_setting_66 : xm_lk kb_X7_setting 66 = some (72, kX7_setting_66) := rfl
theorem lb_X7_setting_72 : xm_lk kb_X7_setting 72 = some (73, kX7_setting_72) := rfl
theorem lb_X7_setting_78 : xm_lk kb_X7_setting 78 = some (84, kX7_setting_78) := rfl
theorem lb_X7_setting_84 : xm_lk kb_X7_setting 84 = some (85, kX7_setting_84) := rfl
theorem lb_X7_setting_90 : xm_lk kb_X7_setting 90 = some (98, kX7_setting_90) := rfl
theorem lb_X7_setting_98 : xm_lk kb_X7_setting 98 = some (99, kX7_setting_98) := rfl
theorem lb_X7_setting_99 : xm_lk kb_X7_setting 99 = some (100, kX7_setting_99) := rfl
theorem lb_X7_setting_1 : xm_lk kb_X7_setting 1 = none := rfl
theorem lb_X7_setting_13 : xm_lk kb_X7_setting 13 = none := rfl
theorem lb_X7_setting_25 : xm_lk kb_X7_setting 25 = none := rfl
theorem lb_X7_setting_37 : xm_lk kb_X7_setting 37 = none := rfl
theorem lb_X7_setting_49 : xm_lk kb_X7_setting 49 = none := rfl
theorem lb_X7_setting_61 : xm_lk kb_X7_setting 61 = none := rfl
theorem lb_X7_setting_73 : xm_lk kb_X7_setting 73 = none := rfl
theorem lb_X7_setting_85 : xm_lk kb_X7_setting 85 = none := rfl
theorem lb_X7_setting_100 : xm_lk kb_X7_setting 100 = none := rfl
theorem kc_X7_setting : xm_oks cX7_setting 7 1 0 false kb_X7_setting := (List.forall_mem_cons.mpr ⟨bk_X7_setting_0, (List.forall_mem_cons.mpr ⟨bk_X7_setting_6, (List.forall_mem_cons.mpr ⟨bk_X7_setting_12, (List.forall_mem_cons.mpr ⟨bk_X7_setting_18, (List.forall_mem_cons.mpr ⟨bk_X7_setting_24, (List.forall_mem_cons.mpr ⟨bk_X7_setting_30, (List.forall_mem_cons.mpr ⟨bk_X7_setting_36, (List.forall_mem_cons.mpr ⟨bk_X7_setting_42, (List.forall_mem_cons.mpr ⟨bk_X7_setting_48, (List.forall_mem_cons.mpr ⟨bk_X7_setting_54, (List.forall_mem_cons.mpr ⟨bk_X7_setting_60, (List.forall_mem_cons.mpr ⟨bk_X7_setting_66, (List.forall_mem_cons.mpr ⟨bk_X7_setting_72, (List.forall_mem_cons.mpr ⟨bk_X7_setting_78, (List.forall_mem_cons.mpr ⟨bk_X7_setting_84, (List.forall_mem_cons.mpr ⟨bk_X7_setting_90, (List.forall_mem_cons.mpr ⟨bk_X7_setting_98, (List.forall_mem_cons.mpr ⟨bk_X7_setting_99, (fun _ h => absurd h List.not_mem_nil)⟩)⟩)⟩)⟩)⟩)⟩)⟩)⟩)⟩)⟩)⟩)⟩)⟩)⟩)⟩)⟩)⟩)⟩)
def kb_X7_notch : List (Nat × Nat × List xm_I) := [(0, 1, kX7_notch_0), (6, 20, kX7_notch_6), (20, 21, kX7_notch_20), (26, 31, kX7_notch_26), (34, 35, kX7_notch_34)]
theorem lb_X7_notch_0 : xm_lk kb_X7_notch 0 = some (1, kX7_notch_0) := rfl
theorem lb_X7_notch_6 : xm_lk kb_X7_notch 6 = some (20, kX7_notch_6) := rfl
theorem lb_X7_notch_20 : xm_lk kb_X7_notch 20 = some (21, kX7_notch_20) := rfl
theorem lb_X7_notch_26 : xm_lk kb_X7_notch 26 = some (31, kX7_notch_26) := rfl
theorem lb_X7_notch_34 : xm_lk kb_X7_notch 34 = some (35, kX7_notch_34) := rfl
theorem lb_X7_notch_1 : xm_lk kb_X7_notch 1 = none := rfl
theorem lb_X7_notch_21 : xm_lk kb_X7_notch 21 = none := rfl
theorem lb_X7_notch_31 : xm_lk kb_X7_notch 31 = none := rfl
theorem lb_X7_notch_35 : xm_lk kb_X7_notch 35 = none := rfl
theorem kc_X7_notch : xm_oks cX7_notch 7 1 3 false kb_X7_notch := (List.forall_mem_cons.mpr ⟨bk_X7_notch_0, (List.forall_mem_cons.mpr ⟨bk_X7_notch_6, (List.forall_mem_cons.mpr ⟨bk_X7_notch_20, (List.forall_mem_cons.mpr ⟨bk_X7_notch_26, (List.forall_mem_cons.mpr ⟨bk_X7_notch_34, (fun _ h => absurd h List.not_mem_nil)⟩)⟩)⟩)⟩)⟩)
def kb_X7_value : List (Nat × Nat × List xm_I) := [(0, 1, kX7_value_0), (56, 67, kX7_value_56), (70, 84, kX7_value_70), (91, 95, kX7_value_91), (95, 96, kX7_value_95), (99, 102, kX7_value_99), (102, 112, kX7_value_102), (115, 127, kX7_value_115), (130, 134, kX7_value_130), (134, 145, kX7_value_134), (148, 152, kX7_value_148), (152, 162, kX7_value_152), (165, 169, kX7_value_165), (169, 179, kX7_value_169), (182, 186, kX7_value_182), (186, 195, kX7_value_186), (198, 199, kX7_value_198), (199, 200, kX7_value_199), (84, 88, kX7_value_84)]
theorem lb_X7_value_0 : xm_lk kb_X7_value 0 = some (1, kX7_value_0) := rfl
theorem lb_X7_value_56 : xm_lk kb_X7_value 56 = some (67, kX7_value_56) := rfl
theorem lb_X7_value_70 : xm_lk kb_X7_value 70 = some (84, kX7_value_70) := rfl
theorem lb_X7_value_91 : xm_lk kb_X7_value 91 = some (95, kX7_value_91) := rfl
theorem lb_X7_value_95 : xm_lk kb_X7_value 95 = some (96, kX7_value_95) := rfl
theorem lb_X7_value_99 : xm_lk kb_X7_value 99 = some (102, kX7_value_99) := rfl
theorem lb_X7_value_102 : xm_lk kb_X7_value 102 = some (112, kX7_value_102) := rfl
theorem lb_X7_value_115 : xm_lk kb_X7_value 115 = some (127, kX7_value_115) := rfl
theorem lb_X7_value_130 : xm_lk kb_X7_value 130 = some (134, kX7_value_130) := rfl
theorem lb_X7_value_134 : xm_lk kb_X7_value 134 = some (145, kX7_value_134) := rfl
theorem lb_X7_value_148 : xm_lk kb_X7_value 148 = some (152, kX7_value_148) := rfl
theorem lb_X7_value_152 : xm_lk kb_X7_value 152 = some (162, kX7_value_152) := rfl
theorem lb_X7_value_165 : xm_lk kb_X7_value 165 = some (169, kX7_value_165) := rfl
theorem lb_X7_value_169 : xm_lk kb_X7_value 169 = some (179, kX7_value_169) := rfl
theorem lb_X7_value_182 : xm_lk kb_X7_value 182 = some (186, kX7_value_182) := rfl
theorem lb_X7_value_186 : xm_lk kb_X7_value 186 = some (195, kX7_value_186) := rfl
theorem lb_X7_value_198 : xm_lk kb_X7_value 198 = some (199, kX7_value_198) := rfl
theorem lb_X7_value_199 : xm_lk kb_X7_value 199 = some (200, kX7_value_199) := rfl
theorem lb_X7_value_84 : xm_lk kb_X7_value 84 = some (88, kX7_value_84) := rfl
theorem lb_X7_value_1 : xm_lk kb_X7_value 1 = none := rfl
theorem lb_X7_value_67 : xm_lk kb_X7_value 67 = none := rfl
theorem lb_X7_value_88 : xm_lk kb_X7_value 88 = none := rfl
theorem lb_X7_value_96 : xm_lk kb_X7_value 96 = none := rfl
theorem lb_X7_value_112 : xm_lk kb_X7_value 112 = none := rfl
theorem lb_X7_value_127 : xm_lk kb_X7_value 127 = none := rfl
theorem lb_X7_value_145 : xm_lk kb_X7_value 145 = none := rfl
theorem lb_X7_value_162 : xm_lk kb_X7_value 162 = none := rfl
theorem lb_X7_value_179 : xm_lk kb_X7_value 179 = none := rfl
theorem lb_X7_value_195 : xm_lk kb_X7_value 195 = none := rfl
theorem lb_X7_value_200 : xm_lk kb_X7_value 200 = none := rfl
theorem kc_X7_value : xm_oks cX7_value 7 2 3 false kb_X7_value := (List.forall_mem_cons.mpr ⟨bk_X7_value_0, (List.forall_mem_cons.mpr ⟨bk_X7_value_56, (List.forall_mem_cons.mpr ⟨bk_X7_value_70, (List.forall_mem_cons.mpr ⟨bk_X7_value_91, (List.forall_mem_cons.mpr ⟨bk_X7_value_95, (List.forall_mem_cons.mpr ⟨bk_X7_value_99, (List.forall_mem_cons.mpr ⟨bk_X7_value_102, (List.forall_mem_cons.mpr ⟨bk_X7_value_115, (List.forall_mem_cons.mpr ⟨bk_X7_value_130, (List.forall_mem_cons.mpr ⟨bk_X7_value_134, (List.forall_mem_cons.mpr ⟨bk_X7_value_148, (List.forall_mem_cons.mpr ⟨bk_X7_value_152, (List.forall_mem_cons.mpr ⟨bk_X7_value_165, (List.forall_mem_cons.mpr ⟨bk_X7_value_169, (List.forall_mem_cons.mpr ⟨bk_X7_value_182, (List.forall_mem_cons.mpr ⟨bk_X7_value_186, (List.forall_mem_cons.mpr ⟨bk_X7_value_198, (List.forall_mem_cons.mpr ⟨bk_X7_value_199, (List.forall_mem_cons.mpr ⟨bk_X7_value_84, (fun _ h => absurd h List.not_mem_nil)⟩)⟩)⟩)⟩)⟩)⟩)⟩)⟩)⟩)⟩)⟩)⟩)⟩)⟩)⟩)⟩)⟩)⟩)⟩)
def kb_X7_reads : List (Nat × Nat × List xm_I) := [(0, 1, kX7_reads_0), (6, 11, kX7_reads_6), (14, 23, kX7_reads_14), (26, 37, kX7_reads_26), (40, 52, kX7_reads_40), (61, 73, kX7_reads_61), (82, 84, kX7_reads_82), (87, 88, kX7_reads_87), (93, 97, kX7_reads_93), (100, 103, kX7_reads_100), (103, 104, kX7_reads_103), (109, 113, kX7_reads_109), (116, 119, kX7_reads_116), (119, 122, kX7_reads_119), (125, 126, kX7_reads_125), (126, 136, kX7_reads_126), (145, 152, kX7_reads_145), (155, 159, kX7_reads_155), (159, 160, kX7_reads_159), (163, 165, kX7_reads_163), (168, 169, kX7_reads_168), (172, 173, kX7_reads_172), (176, 180, kX7_reads_176), (180, 189, kX7_reads_180), (192, 193, kX7_reads_192), (52, 58, kX7_reads_52), (73, 79, kX7_reads_73), (136, 142, kX7_reads_136)]
theorem lb_X7_reads_0 : xm_lk kb_X7_reads 0 = some (1, kX7_reads_0) := rfl
theorem lb_X7_reads_6 : xm_lk kb_X7_reads 6 = some (11, kX7_reads_6) := rfl
theorem lb_X7_reads_14 : xm_lk kb_X7_reads 14 = some (23, kX7_reads_14) := rfl
theorem lb_X7_reads_26 : xm_lk kb_X7_reads 26 = some (37, kX7_reads_26) := rfl
theorem lb_X7_reads_40 : xm_lk kb_X7_reads 40 = some (52, kX7_reads_40) := rfl
theorem lb_X7_reads_61 : xm_lk kb_X7_reads 61 = some (73, kX7_reads_61) := rfl
theorem lb_X7_reads_82 : xm_lk kb_X7_reads 82 = some (84, kX7_reads_82) := rfl
theorem lb_X7_reads_87 : xm_lk kb_X7_reads 87 = some (88, kX7_reads_87) := rfl
theorem lb_X7_reads_93 : xm_lk kb_X7_reads 93 = some (97, kX7_reads_93) := rfl
theorem lb_X7_reads_100 : xm_lk kb_X7_reads 100 = some (103, kX7_reads_100) := rfl
theorem lb_X7_reads_103 : xm_lk kb_X7_reads 103 = some (104, kX7_reads_103) := rfl
theorem lb_X7_reads_109 : xm_lk kb_X7_reads 109 = some (113, kX7_reads_109) := rfl
theorem lb_X7_reads_116 : xm_lk kb_X7_reads 116 = some (119, kX7_reads_116) := rfl
theorem lb_X7_reads_119 : xm_lk kb_X7_reads 119 = some (122, kX7_reads_119) := rfl
theorem lb_X7_reads_125 : xm_lk kb_X7_reads 125 = some (126, kX7_reads_125) := rfl
theorem lb_X7_reads_126 : xm_lk kb_X7_reads 126 = some (136, kX7_reads_126) := rfl
theorem lb_X7_reads_145 : xm_lk kb_X7_reads 145 = some (152, kX7_reads_145) := rfl
theorem lb_X7_reads_155 : xm_lk kb_X7_reads 155 = some (159, kX7_reads_155) := rfl
theorem lb_X7_reads_159 : xm_lk kb_X7_reads 159 = some (160, kX7_reads_159) := rfl
theorem lb_X7_reads_163 : xm_lk kb_X7_reads 163 = some (165, kX7_reads_163) := rfl
theorem lb_X7_reads_168 : xm_lk kb_X7_reads 168 = some (169, kX7_reads_168) := rfl
theorem lb_X7_reads_172 : xm_lk kb_X7_reads 172 = some (173, kX7_reads_172) := rfl
theorem lb_X7_reads_176 : xm_lk kb_X7_reads 176 = some (180, kX7_reads_176) := rfl
theorem lb_X7_reads_180 : xm_lk kb_X7_reads 180 = some (189, kX7_reads_180) := rfl
theorem lb_X7_reads_192 : xm_lk kb_X7_reads 192 = some (193, kX7_reads_192) := rfl
theorem lb_X7_reads_52 : xm_lk kb_X7_reads 52 = some (58, kX7_reads_52) := rfl
theorem lb_X7_reads_73 : xm_lk kb_X7_reads 73 = some (79, kX7_reads_73) := rfl
theorem lb_X7_reads_136 : xm_lk kb_X7_reads 136 = some (142, kX7_reads_136) := rfl
theorem lb_X7_reads_1 : xm_lk kb_X7_reads 1 = none := rfl
theorem lb_X7_reads_11 : xm_lk kb_X7_reads 11 = none := rfl
theorem lb_X7_reads_23 : xm_lk kb_X7_reads 23 = none := rfl
theorem lb_X7_reads_37 : xm_lk kb_X7_reads 37 = none := rfl
theorem lb_X7_reads_58 : xm_lk kb_X7_reads 58 = none := rfl
theorem lb_X7_reads_79 : xm_lk kb_X7_reads 79 = none := rfl
theorem lb_X7_reads_84 : xm_lk kb_X7_reads 84 = none := rfl
theorem lb_X7_reads_88 : xm_lk kb_X7_reads 88 = none := rfl
theorem lb_X7_reads_97 : xm_lk kb_X7_reads 97 = none := rfl
theorem lb_X7_reads_104 : xm_lk kb_X7_reads 104 = none := rfl
theorem lb_X7_reads_113 : xm_lk kb_X7_reads 113 = none := rfl
theorem lb_X7_reads_122 : xm_lk kb_X7_reads 122 = none := rfl
theorem lb_X7_reads_142 : xm_lk kb_X7_reads 142 = none := rfl
theorem lb_X7_reads_152 : xm_lk kb_X7_reads 152 = none := rfl
theorem lb_X7_reads_160 : xm_lk kb_X7_reads 160 = none := rfl
theorem lb_X7_reads_165 : xm_lk kb_X7_reads 165 = none := rfl
theorem lb_X7_reads_169 : xm_lk kb_X7_reads 169 = none := rfl
theorem lb_X7_reads_173 : xm_lk kb_X7_reads 173 = none := rfl
theorem lb_X7_reads_189 : xm_lk kb_X7_reads 189 = none := rfl
theorem lb_X7_reads_193 : xm_lk kb_X7_reads 193 = none := rfl
theorem kc_X7_reads : xm_oks cX7_reads 7 3 3 false kb_X7_reads := (List.forall_mem_cons.mpr ⟨bk_X7_reads_0, (List.forall_mem_cons.mpr ⟨bk_X7_reads_6, (List.forall_mem_cons.mpr ⟨bk_X7_reads_14, (List.forall_mem_cons.mpr ⟨bk_X7_reads_26, (List.forall_mem_cons.mpr ⟨bk_X7_reads_40, (List.forall_mem_cons.mpr ⟨bk_X7_reads_61, (List.forall_mem_cons.mpr ⟨bk_X7_reads_82, (List.forall_mem_cons.mpr ⟨bk_X7_reads_87, (List.forall_mem_cons.mpr ⟨bk_X7_reads_93, (List.forall_mem_cons.mpr ⟨bk_X7_reads_100, (List.forall_mem_cons.mpr ⟨bk_X7_reads_103, (List.forall_mem_cons.mpr ⟨bk_X7_reads_109, (List.forall_mem_cons.mpr ⟨bk_X7_reads_116, (List.forall_mem_cons.mpr ⟨bk_X7_reads_119, (List.forall_mem_cons.mpr ⟨bk_X7_reads_125, (List.forall_mem_cons.mpr ⟨bk_X7_reads_126, (List.forall_mem_cons.mpr ⟨bk_X7_reads_145, (List.forall_mem_cons.mpr ⟨bk_X7_reads_155, (List.forall_mem_cons.mpr ⟨bk_X7_reads_159, (List.forall_mem_cons.mpr ⟨bk_X7_reads_163, (List.forall_mem_cons.mpr ⟨bk_X7_reads_168, (List.forall_mem_cons.mpr ⟨bk_X7_reads_172, (List.forall_mem_cons.mpr ⟨bk_X7_reads_176, (List.forall_mem_cons.mpr ⟨bk_X7_reads_180, (List.forall_mem_cons.mpr ⟨bk_X7_reads_192, (List.forall_mem_cons.mpr ⟨bk_X7_reads_52, (List.forall_mem_cons.mpr ⟨bk_X7_reads_73, (List.forall_mem_cons.mpr ⟨bk_X7_reads_136, (fun _ h => absurd h List.not_mem_nil)⟩)⟩)⟩)⟩)⟩)⟩)⟩)⟩)⟩)⟩)⟩)⟩)⟩)⟩)⟩)⟩)⟩)⟩)⟩)⟩)⟩)⟩)⟩)⟩)⟩)⟩)⟩)⟩)
def kb_X7_load : List (Nat × Nat × List xm_I) := [(0, 14, kX7_load_0), (37, 38, kX7_load_37), (41, 42, kX7_load_41), (45, 47, kX7_load_45), (50, 57, kX7_load_50), (57, 58, kX7_load_57), (58, 59, kX7_load_58), (62, 67, kX7_load_62), (67, 68, kX7_load_67), (71, 78, kX7_load_71), (14, 28, kX7_load_14), (28, 34, kX7_load_28)]
theorem lb_X7_load_0 : xm_lk kb_X7_load 0 = some (14, kX7_load_0) := rfl
theorem lb_X7_load_37 : xm_lk kb_X7_load 37 = some (38, kX7_load_37) := rfl
theorem lb_X7_load_41 : xm_lk kb_X7_load 41 = some (42, kX7_load_41) := rfl
theorem lb_X7_load_45 : xm_lk kb_X7_load 45 = some (47, kX7_load_45) := rfl
theorem lb_X7_load_50 : xm_lk kb_X7_load 50 = some (57, kX7_load_50) := rfl
theorem lb_X7_load_57 : xm_lk kb_X7_load 57 = some (58, kX7_load_57) := rfl
theorem lb_X7_load_58 : xm_lk kb_X7_load 58 = some (59, kX7_load_58) := rfl
theorem lb_X7_load_62 : xm_lk kb_X7_load 62 = some (67, kX7_load_62) := rfl
theorem lb_X7_load_67 : xm_lk kb_X7_load 67 = some (68, kX7_load_67) := rfl
theorem lb_X7_load_71 : xm_lk kb_X7_load 71 = some (78, kX7_load_71) := rfl
theorem lb_X7_load_14 : xm_lk kb_X7_load 14 = some (28, kX7_load_14) := rfl
theorem lb_X7_load_28 : xm_lk kb_X7_load 28 = some (34, kX7_load_28) := rfl
theorem lb_X7_load_34 : xm_lk kb_X7_load 34 = none := rfl
theorem lb_X7_load_38 : xm_lk kb_X7_load 38 = none := rfl
theorem lb_X7_load_42 : xm_lk kb_X7_load 42 = none := rfl
theorem lb_X7_load_47 : xm_lk kb_X7_load 47 = none := rfl
theorem lb_X7_load_59 : xm_lk kb_X7_load 59 = none := rfl
theorem lb_X7_load_68 : xm_lk kb_X7_load 68 = none := rfl
theorem lb_X7_load_78 : xm_lk kb_X7_load 78 = none := rfl
theorem kc_X7_load : xm_oks cX7_load 7 1 0 false kb_X7_load := (List.forall_mem_cons.mpr ⟨bk_X7_load_0, (List.forall_mem_cons.mpr ⟨bk_X7_load_37, (List.forall_mem_cons.mpr ⟨bk_X7_load_41, (List.forall_mem_cons.mpr ⟨bk_X7_load_45, (List.forall_mem_cons.mpr ⟨bk_X7_load_50, (List.forall_mem_cons.mpr ⟨bk_X7_load_57, (List.forall_mem_cons.mpr ⟨bk_X7_load_58, (List.forall_mem_cons.mpr ⟨bk_X7_load_62, (List.forall_mem_cons.mpr ⟨bk_X7_load_67, (List.forall_mem_cons.mpr ⟨bk_X7_load_71, (List.forall_mem_cons.mpr ⟨bk_X7_load_14, (List.forall_mem_cons.mpr ⟨bk_X7_load_28, (fun _ h => absurd h List.not_mem_nil)⟩)⟩)⟩)⟩)⟩)⟩)⟩)⟩)⟩)⟩)⟩)⟩)
def kb_X7_errorCode : List (Nat × Nat × List xm_I) := [(0, 10, kX7_errorCode_0)]
theorem lb_X7_errorCode_0 : xm_lk kb_X7_errorCode 0 = some (10, kX7_errorCode_0) := rfl
theorem lb_X7_errorCode_10 : xm_lk kb_X7_errorCode 10 = none := rfl
theorem kc_X7_errorCode : xm_oks cX7_errorCode 7 1 0 false kb_X7_errorCode := (List.forall_mem_cons.mpr ⟨bk_X7_errorCode_0, (fun _ h => absurd h List.not_mem_nil)⟩)
def kb_X7_errorPosition : List (Nat × Nat × List xm_I) := [(0, 10, kX7_errorPosition_0)]
theorem lb_X7_errorPosition_0 : xm_lk kb_X7_errorPosition 0 = some (10, kX7_errorPosition_0) := rfl
theorem lb_X7_errorPosition_10 : xm_lk kb_X7_errorPosition 10 = none := rfl
theorem kc_X7_errorPosition : xm_oks cX7_errorPosition 7 1 0 false kb_X7_errorPosition := (List.forall_mem_cons.mpr ⟨bk_X7_errorPosition_0, (fun _ h => absurd h List.not_mem_nil)⟩)
def kb_X7_of : List (Nat × Nat × List xm_I) := [(0, 12, kX7_of_0), (12, 15, kX7_of_12)]
theorem lb_X7_of_0 : xm_lk kb_X7_of 0 = some (12, kX7_of_0) := rfl
theorem lb_X7_of_12 : xm_lk kb_X7_of 12 = some (15, kX7_of_12) := rfl
theorem lb_X7_of_15 : xm_lk kb_X7_of 15 = none := rfl
theorem kc_X7_of : xm_oks cX7_of 7 3 0 false kb_X7_of := (List.forall_mem_cons.mpr ⟨bk_X7_of_0, (List.forall_mem_cons.mpr ⟨bk_X7_of_12, (fun _ h => absurd h List.not_mem_nil)⟩)⟩)
def kb_X7_lays : List (Nat × Nat × List xm_I) := [(0, 12, kX7_lays_0), (12, 16, kX7_lays_12)]
theorem lb_X7_lays_0 : xm_lk kb_X7_lays 0 = some (12, kX7_lays_0) := rfl
theorem lb_X7_lays_12 : xm_lk kb_X7_lays 12 = some (16, kX7_lays_12) := rfl
theorem lb_X7_lays_16 : xm_lk kb_X7_lays 16 = none := rfl
theorem kc_X7_lays : xm_oks cX7_lays 7 4 3 false kb_X7_lays := (List.forall_mem_cons.mpr ⟨bk_X7_lays_0, (List.forall_mem_cons.mpr ⟨bk_X7_lays_12, (fun _ h => absurd h List.not_mem_nil)⟩)⟩)
def kb_X7_gateNow : List (Nat × Nat × List xm_I) := [(0, 11, kX7_gateNow_0), (11, 14, kX7_gateNow_11)]
theorem lb_X7_gateNow_0 : xm_lk kb_X7_gateNow 0 = some (11, kX7_gateNow_0) := rfl
theorem lb_X7_gateNow_11 : xm_lk kb_X7_gateNow 11 = some (14, kX7_gateNow_11) := rfl
theorem lb_X7_gateNow_14 : xm_lk kb_X7_gateNow 14 = none := rfl
theorem kc_X7_gateNow : xm_oks cX7_gateNow 7 3 0 false kb_X7_gateNow := (List.forall_mem_cons.mpr ⟨bk_X7_gateNow_0, (List.forall_mem_cons.mpr ⟨bk_X7_gateNow_11, (fun _ h => absurd h List.not_mem_nil)⟩)⟩)
def kb_X7_counts : List (Nat × Nat × List xm_I) := [(0, 11, kX7_counts_0), (11, 18, kX7_counts_11)]
theorem lb_X7_counts_0 : xm_lk kb_X7_counts 0 = some (11, kX7_counts_0) := rfl
theorem lb_X7_counts_11 : xm_lk kb_X7_counts 11 = some (18, kX7_counts_11) := rfl
theorem lb_X7_counts_18 : xm_lk kb_X7_counts 18 = none := rfl
theorem kc_X7_counts : xm_oks cX7_counts 7 3 3 false kb_X7_counts := (List.forall_mem_cons.mpr ⟨bk_X7_counts_0, (List.forall_mem_cons.mpr ⟨bk_X7_counts_11, (fun _ h => absurd h List.not_mem_nil)⟩)⟩)
def kb_X7_gateOf : List (Nat × Nat × List xm_I) := [(0, 11, kX7_gateOf_0), (11, 14, kX7_gateOf_11)]
theorem lb_X7_gateOf_0 : xm_lk kb_X7_gateOf 0 = some (11, kX7_gateOf_0) := rfl
theorem lb_X7_gateOf_11 : xm_lk kb_X7_gateOf 11 = some (14, kX7_gateOf_11) := rfl
theorem lb_X7_gateOf_14 : xm_lk kb_X7_gateOf 14 = none := rfl
theorem kc_X7_gateOf : xm_oks cX7_gateOf 7 3 0 false kb_X7_gateOf := (List.forall_mem_cons.mpr ⟨bk_X7_gateOf_0, (List.forall_mem_cons.mpr ⟨bk_X7_gateOf_11, (fun _ h => absurd h List.not_mem_nil)⟩)⟩)
def kb_X7_isGate : List (Nat × Nat × List xm_I) := [(0, 10, kX7_isGate_0), (13, 14, kX7_isGate_13)]
theorem lb_X7_isGate_0 : xm_lk kb_X7_isGate 0 = some (10, kX7_isGate_0) := rfl
theorem lb_X7_isGate_13 : xm_lk kb_X7_isGate 13 = some (14, kX7_isGate_13) := rfl
theorem lb_X7_isGate_10 : xm_lk kb_X7_isGate 10 = none := rfl
theorem lb_X7_isGate_14 : xm_lk kb_X7_isGate 14 = none := rfl
theorem kc_X7_isGate : xm_oks cX7_isGate 7 2 1 false kb_X7_isGate := (List.forall_mem_cons.mpr ⟨bk_X7_isGate_0, (List.forall_mem_cons.mpr ⟨bk_X7_isGate_13, (fun _ h => absurd h List.not_mem_nil)⟩)⟩)
def kb_X7_isItem : List (Nat × Nat × List xm_I) := [(0, 10, kX7_isItem_0), (13, 14, kX7_isItem_13)]
theorem lb_X7_isItem_0 : xm_lk kb_X7_isItem 0 = some (10, kX7_isItem_0) := rfl
theorem lb_X7_isItem_13 : xm_lk kb_X7_isItem 13 = some (14, kX7_isItem_13) := rfl
theorem lb_X7_isItem_10 : xm_lk kb_X7_isItem 10 = none := rfl
theorem lb_X7_isItem_14 : xm_lk kb_X7_isItem 14 = none := rfl
theorem kc_X7_isItem : xm_oks cX7_isItem 7 2 1 false kb_X7_isItem := (List.forall_mem_cons.mpr ⟨bk_X7_isItem_0, (List.forall_mem_cons.mpr ⟨bk_X7_isItem_13, (fun _ h => absurd h List.not_mem_nil)⟩)⟩)
def kb_X7_isOnBelt : List (Nat × Nat × List xm_I) := [(0, 3, kX7_isOnBelt_0), (6, 14, kX7_isOnBelt_6), (14, 15, kX7_isOnBelt_14), (15, 16, kX7_isOnBelt_15)]
theorem lb_X7_isOnBelt_0 : xm_lk kb_X7_isOnBelt 0 = some (3, kX7_isOnBelt_0) := rfl
theorem lb_X7_isOnBelt_6 : xm_lk kb_X7_isOnBelt 6 = some (14, kX7_isOnBelt_6) := rfl
theorem lb_X7_isOnBelt_14 : xm_lk kb_X7_isOnBelt 14 = some (15, kX7_isOnBelt_14) := rfl
theorem lb_X7_isOnBelt_15 : xm_lk kb_X7_isOnBelt 15 = some (16, kX7_isOnBelt_15) := rfl
theorem lb_X7_isOnBelt_3 : xm_lk kb_X7_isOnBelt 3 = none := rfl
theorem lb_X7_isOnBelt_16 : xm_lk kb_X7_isOnBelt 16 = none := rfl
theorem kc_X7_isOnBelt : xm_oks cX7_isOnBelt 7 2 1 false kb_X7_isOnBelt := (List.forall_mem_cons.mpr ⟨bk_X7_isOnBelt_0, (List.forall_mem_cons.mpr ⟨bk_X7_isOnBelt_6, (List.forall_mem_cons.mpr ⟨bk_X7_isOnBelt_14, (List.forall_mem_cons.mpr ⟨bk_X7_isOnBelt_15, (fun _ h => absurd h List.not_mem_nil)⟩)⟩)⟩)⟩)
def kb_X7_rear : List (Nat × Nat × List xm_I) := [(0, 3, kX7_rear_0), (6, 9, kX7_rear_6), (12, 14, kX7_rear_12)]
theorem lb_X7_rear_0 : xm_lk kb_X7_rear 0 = some (3, kX7_rear_0) := rfl
theorem lb_X7_rear_6 : xm_lk kb_X7_rear 6 = some (9, kX7_rear_6) := rfl
theorem lb_X7_rear_12 : xm_lk kb_X7_rear 12 = some (14, kX7_rear_12) := rfl
theorem lb_X7_rear_3 : xm_lk kb_X7_rear 3 = none := rfl
theorem lb_X7_rear_9 : xm_lk kb_X7_rear 9 = none := rfl
theorem lb_X7_rear_14 : xm_lk kb_X7_rear 14 = none := rfl
theorem kc_X7_rear : xm_oks cX7_rear 7 2 0 false kb_X7_rear := (List.forall_mem_cons.mpr ⟨bk_X7_rear_0, (List.forall_mem_cons.mpr ⟨bk_X7_rear_6, (List.forall_mem_cons.mpr ⟨bk_X7_rear_12, (fun _ h => absurd h List.not_mem_nil)⟩)⟩)⟩)
def kb_X7_isInPart : List (Nat × Nat × List xm_I) := [(0, 2, kX7_isInPart_0), (5, 11, kX7_isInPart_5), (14, 25, kX7_isInPart_14), (28, 41, kX7_isInPart_28), (41, 42, kX7_isInPart_41), (42, 43, kX7_isInPart_42)]
theorem lb_X7_isInPart_0 : xm_lk kb_X7_isInPart 0 = some (2, kX7_isInPart_0) := rfl
theorem lb_X7_isInPart_5 : xm_lk kb_X7_isInPart 5 = some (11, kX7_isInPart_5) := rfl
theorem lb_X7_isInPart_14 : xm_lk kb_X7_isInPart 14 = some (25, kX7_isInPart_14) := rfl
theorem lb_X7_isInPart_28 : xm_lk kb_X7_isInPart 28 = some (41, kX7_isInPart_28) := rfl
theorem lb_X7_isInPart_41 : xm_lk kb_X7_isInPart 41 = some (42, kX7_isInPart_41) := rfl
theorem lb_X7_isInPart_42 : xm_lk kb_X7_isInPart 42 = some (43, kX7_isInPart_42) := rfl
theorem lb_X7_isInPart_2 : xm_lk kb_X7_isInPart 2 = none := rfl
theorem lb_X7_isInPart_11 : xm_lk kb_X7_isInPart 11 = none := rfl
theorem lb_X7_isInPart_25 : xm_lk kb_X7_isInPart 25 = none := rfl
theorem lb_X7_isInPart_43 : xm_lk kb_X7_isInPart 43 = none := rfl
theorem kc_X7_isInPart : xm_oks cX7_isInPart 7 2 1 false kb_X7_isInPart := (List.forall_mem_cons.mpr ⟨bk_X7_isInPart_0, (List.forall_mem_cons.mpr ⟨bk_X7_isInPart_5, (List.forall_mem_cons.mpr ⟨bk_X7_isInPart_14, (List.forall_mem_cons.mpr ⟨bk_X7_isInPart_28, (List.forall_mem_cons.mpr ⟨bk_X7_isInPart_41, (List.forall_mem_cons.mpr ⟨bk_X7_isInPart_42, (fun _ h => absurd h List.not_mem_nil)⟩)⟩)⟩)⟩)⟩)⟩)
def kb_X7_isWhole : List (Nat × Nat × List xm_I) := [(0, 2, kX7_isWhole_0), (5, 10, kX7_isWhole_5), (13, 25, kX7_isWhole_13), (28, 41, kX7_isWhole_28), (41, 42, kX7_isWhole_41), (42, 43, kX7_isWhole_42)]
theorem lb_X7_isWhole_0 : xm_lk kb_X7_isWhole 0 = some (2, kX7_isWhole_0) := rfl
theorem lb_X7_isWhole_5 : xm_lk kb_X7_isWhole 5 = some (10, kX7_isWhole_5) := rfl
theorem lb_X7_isWhole_13 : xm_lk kb_X7_isWhole 13 = some (25, kX7_isWhole_13) := rfl
theorem lb_X7_isWhole_28 : xm_lk kb_X7_isWhole 28 = some (41, kX7_isWhole_28) := rfl
theorem lb_X7_isWhole_41 : xm_lk kb_X7_isWhole 41 = some (42, kX7_isWhole_41) := rfl
theorem lb_X7_isWhole_42 : xm_lk kb_X7_isWhole 42 = some (43, kX7_isWhole_42) := rfl
theorem lb_X7_isWhole_2 : xm_lk kb_X7_isWhole 2 = none := rfl
theorem lb_X7_isWhole_10 : xm_lk kb_X7_isWhole 10 = none := rfl
theorem lb_X7_isWhole_25 : xm_lk kb_X7_isWhole 25 = none := rfl
theorem lb_X7_isWhole_43 : xm_lk kb_X7_isWhole 43 = none := rfl
theorem kc_X7_isWhole : xm_oks cX7_isWhole 7 2 1 false kb_X7_isWhole := (List.forall_mem_cons.mpr ⟨bk_X7_isWhole_0, (List.forall_mem_cons.mpr ⟨bk_X7_isWhole_5, (List.forall_mem_cons.mpr ⟨bk_X7_isWhole_13, (List.forall_mem_cons.mpr ⟨bk_X7_isWhole_28, (List.forall_mem_cons.mpr ⟨bk_X7_isWhole_41, (List.forall_mem_cons.mpr ⟨bk_X7_isWhole_42, (fun _ h => absurd h List.not_mem_nil)⟩)⟩)⟩)⟩)⟩)⟩)
def kb_X7_isCommanded : List (Nat × Nat × List xm_I) := [(0, 2, kX7_isCommanded_0), (2, 14, kX7_isCommanded_2), (19, 28, kX7_isCommanded_19), (31, 39, kX7_isCommanded_31), (42, 47, kX7_isCommanded_42), (47, 53, kX7_isCommanded_47), (53, 55, kX7_isCommanded_53), (14, 16, kX7_isCommanded_14)]
theorem lb_X7_isCommanded_0 : xm_lk kb_X7_isCommanded 0 = some (2, kX7_isCommanded_0) := rfl
theorem lb_X7_isCommanded_2 : xm_lk kb_X7_isCommanded 2 = some (14, kX7_isCommanded_2) := rfl
theorem lb_X7_isCommanded_19 : xm_lk kb_X7_isCommanded 19 = some (28, kX7_isCommanded_19) := rfl
theorem lb_X7_isCommanded_31 : xm_lk kb_X7_isCommanded 31 = some (39, kX7_isCommanded_31) := rfl
theorem lb_X7_isCommanded_42 : xm_lk kb_X7_isCommanded 42 = some (47, kX7_isCommanded_42) := rfl
theorem lb_X7_isCommanded_47 : xm_lk kb_X7_isCommanded 47 = some (53, kX7_isCommanded_47) := rfl
theorem lb_X7_isCommanded_53 : xm_lk kb_X7_isCommanded 53 = some (55, kX7_isCommanded_53) := rfl
theorem lb_X7_isCommanded_14 : xm_lk kb_X7_isCommanded 14 = some (16, kX7_isCommanded_14) := rfl
theorem lb_X7_isCommanded_16 : xm_lk kb_X7_isCommanded 16 = none := rfl
theorem lb_X7_isCommanded_28 : xm_lk kb_X7_isCommanded 28 = none := rfl
theorem lb_X7_isCommanded_39 : xm_lk kb_X7_isCommanded 39 = none := rfl
theorem lb_X7_isCommanded_55 : xm_lk kb_X7_isCommanded 55 = none := rfl
theorem kc_X7_isCommanded : xm_oks cX7_isCommanded 7 4 1 false kb_X7_isCommanded := (List.forall_mem_cons.mpr ⟨bk_X7_isCommanded_0, (List.forall_mem_cons.mpr ⟨bk_X7_isCommanded_2, (List.forall_mem_cons.mpr ⟨bk_X7_isCommanded_19, (List.forall_mem_cons.mpr ⟨bk_X7_isCommanded_31, (List.forall_mem_cons.mpr ⟨bk_X7_isCommanded_42, (List.forall_mem_cons.mpr ⟨bk_X7_isCommanded_47, (List.forall_mem_cons.mpr ⟨bk_X7_isCommanded_53, (List.forall_mem_cons.mpr ⟨bk_X7_isCommanded_14, (fun _ h => absurd h List.not_mem_nil)⟩)⟩)⟩)⟩)⟩)⟩)⟩)⟩)
def kb_X7_isOpen : List (Nat × Nat × List xm_I) := [(0, 8, kX7_isOpen_0), (11, 17, kX7_isOpen_11), (20, 27, kX7_isOpen_20), (27, 28, kX7_isOpen_27), (28, 29, kX7_isOpen_28)]
theorem lb_X7_isOpen_0 : xm_lk kb_X7_isOpen 0 = some (8, kX7_isOpen_0) := rfl
theorem lb_X7_isOpen_11 : xm_lk kb_X7_isOpen 11 = some (17, kX7_isOpen_11) := rfl
theorem lb_X7_isOpen_20 : xm_lk kb_X7_isOpen 20 = some (27, kX7_isOpen_20) := rfl
theorem lb_X7_isOpen_27 : xm_lk kb_X7_isOpen 27 = some (28, kX7_isOpen_27) := rfl
theorem lb_X7_isOpen_28 : xm_lk kb_X7_isOpen 28 = some (29, kX7_isOpen_28) := rfl
theorem lb_X7_isOpen_8 : xm_lk kb_X7_isOpen 8 = none := rfl
theorem lb_X7_isOpen_17 : xm_lk kb_X7_isOpen 17 = none := rfl
theorem lb_X7_isOpen_29 : xm_lk kb_X7_isOpen 29 = none := rfl
theorem kc_X7_isOpen : xm_oks cX7_isOpen 7 2 1 false kb_X7_isOpen := (List.forall_mem_cons.mpr ⟨bk_X7_isOpen_0, (List.forall_mem_cons.mpr ⟨bk_X7_isOpen_11, (List.forall_mem_cons.mpr ⟨bk_X7_isOpen_20, (List.forall_mem_cons.mpr ⟨bk_X7_isOpen_27, (List.forall_mem_cons.mpr ⟨bk_X7_isOpen_28, (fun _ h => absurd h List.not_mem_nil)⟩)⟩)⟩)⟩)⟩)
def kb_X7_countOf : List (Nat × Nat × List xm_I) := [(0, 4, kX7_countOf_0), (4, 16, kX7_countOf_4), (21, 29, kX7_countOf_21), (29, 30, kX7_countOf_29), (30, 38, kX7_countOf_30), (38, 40, kX7_countOf_38), (16, 18, kX7_countOf_16)]
theorem lb_X7_countOf_0 : xm_lk kb_X7_countOf 0 = some (4, kX7_countOf_0) := rfl
theorem lb_X7_countOf_4 : xm_lk kb_X7_countOf 4 = some (16, kX7_countOf_4) := rfl
theorem lb_X7_countOf_21 : xm_lk kb_X7_countOf 21 = some (29, kX7_countOf_21) := rfl
theorem lb_X7_countOf_29 : xm_lk kb_X7_countOf 29 = some (30, kX7_countOf_29) := rfl
theorem lb_X7_countOf_30 : xm_lk kb_X7_countOf 30 = some (38, kX7_countOf_30) := rfl
theorem lb_X7_countOf_38 : xm_lk kb_X7_countOf 38 = some (40, kX7_countOf_38) := rfl
theorem lb_X7_countOf_16 : xm_lk kb_X7_countOf 16 = some (18, kX7_countOf_16) := rfl
theorem lb_X7_countOf_18 : xm_lk kb_X7_countOf 18 = none := rfl
theorem lb_X7_countOf_40 : xm_lk kb_X7_countOf 40 = none := rfl
theorem kc_X7_countOf : xm_oks cX7_countOf 7 4 0 false kb_X7_countOf := (List.forall_mem_cons.mpr ⟨bk_X7_countOf_0, (List.forall_mem_cons.mpr ⟨bk_X7_countOf_4, (List.forall_mem_cons.mpr ⟨bk_X7_countOf_21, (List.forall_mem_cons.mpr ⟨bk_X7_countOf_29, (List.forall_mem_cons.mpr ⟨bk_X7_countOf_30, (List.forall_mem_cons.mpr ⟨bk_X7_countOf_38, (List.forall_mem_cons.mpr ⟨bk_X7_countOf_16, (fun _ h => absurd h List.not_mem_nil)⟩)⟩)⟩)⟩)⟩)⟩)⟩)
def kb_X7_waiting : List (Nat × Nat × List xm_I) := [(0, 4, kX7_waiting_0), (4, 16, kX7_waiting_4), (22, 35, kX7_waiting_22), (35, 36, kX7_waiting_35), (36, 44, kX7_waiting_36), (44, 46, kX7_waiting_44), (16, 19, kX7_waiting_16)]
theorem lb_X7_waiting_0 : xm_lk kb_X7_waiting 0 = some (4, kX7_waiting_0) := rfl
theorem lb_X7_waiting_4 : xm_lk kb_X7_waiting 4 = some (16, kX7_waiting_4) := rfl
theorem lb_X7_waiting_22 : xm_lk kb_X7_waiting 22 = some (35, kX7_waiting_22) := rfl
theorem lb_X7_waiting_35 : xm_lk kb_X7_waiting 35 = some (36, kX7_waiting_35) := rfl
theorem lb_X7_waiting_36 : xm_lk kb_X7_waiting 36 = some (44, kX7_waiting_36) := rfl
theorem lb_X7_waiting_44 : xm_lk kb_X7_waiting 44 = some (46, kX7_waiting_44) := rfl
theorem lb_X7_waiting_16 : xm_lk kb_X7_waiting 16 = some (19, kX7_waiting_16) := rfl
theorem lb_X7_waiting_19 : xm_lk kb_X7_waiting 19 = none := rfl
theorem lb_X7_waiting_46 : xm_lk kb_X7_waiting 46 = none := rfl
theorem kc_X7_waiting : xm_oks cX7_waiting 7 3 0 false kb_X7_waiting := (List.forall_mem_cons.mpr ⟨bk_X7_waiting_0, (List.forall_mem_cons.mpr ⟨bk_X7_waiting_4, (List.forall_mem_cons.mpr ⟨bk_X7_waiting_22, (List.forall_mem_cons.mpr ⟨bk_X7_waiting_35, (List.forall_mem_cons.mpr ⟨bk_X7_waiting_36, (List.forall_mem_cons.mpr ⟨bk_X7_waiting_44, (List.forall_mem_cons.mpr ⟨bk_X7_waiting_16, (fun _ h => absurd h List.not_mem_nil)⟩)⟩)⟩)⟩)⟩)⟩)⟩)
def kb_X7_alarms : List (Nat × Nat × List xm_I) := [(0, 3, kX7_alarms_0), (6, 9, kX7_alarms_6), (12, 16, kX7_alarms_12), (19, 21, kX7_alarms_19)]
theorem lb_X7_alarms_0 : xm_lk kb_X7_alarms 0 = some (3, kX7_alarms_0) := rfl
theorem lb_X7_alarms_6 : xm_lk kb_X7_alarms 6 = some (9, kX7_alarms_6) := rfl
theorem lb_X7_alarms_12 : xm_lk kb_X7_alarms 12 = some (16, kX7_alarms_12) := rfl
theorem lb_X7_alarms_19 : xm_lk kb_X7_alarms 19 = some (21, kX7_alarms_19) := rfl
theorem lb_X7_alarms_3 : xm_lk kb_X7_alarms 3 = none := rfl
theorem lb_X7_alarms_9 : xm_lk kb_X7_alarms 9 = none := rfl
theorem lb_X7_alarms_16 : xm_lk kb_X7_alarms 16 = none := rfl
theorem lb_X7_alarms_21 : xm_lk kb_X7_alarms 21 = none := rfl
theorem kc_X7_alarms : xm_oks cX7_alarms 7 1 0 false kb_X7_alarms := (List.forall_mem_cons.mpr ⟨bk_X7_alarms_0, (List.forall_mem_cons.mpr ⟨bk_X7_alarms_6, (List.forall_mem_cons.mpr ⟨bk_X7_alarms_12, (List.forall_mem_cons.mpr ⟨bk_X7_alarms_19, (fun _ h => absurd h List.not_mem_nil)⟩)⟩)⟩)⟩)
def kb_X7_windowNow : List (Nat × Nat × List xm_I) := [(0, 16, kX7_windowNow_0), (18, 26, kX7_windowNow_18), (26, 34, kX7_windowNow_26), (34, 48, kX7_windowNow_34), (70, 71, kX7_windowNow_70), (71, 78, kX7_windowNow_71), (78, 84, kX7_windowNow_78), (84, 90, kX7_windowNow_84), (90, 98, kX7_windowNow_90), (16, 18, kX7_windowNow_16), (48, 59, kX7_windowNow_48), (59, 70, kX7_windowNow_59)]
theorem lb_X7_windowNow_0 : xm_lk kb_X7_windowNow 0 = some (16, kX7_windowNow_0) := rfl
theorem lb_X7_windowNow_18 : xm_lk kb_X7_windowNow 18 = some (26, kX7_windowNow_18) := rfl
theorem lb_X7_windowNow_26 : xm_lk kb_X7_windowNow 26 = some (34, kX7_windowNow_26) := rfl
theorem lb_X7_windowNow_34 : xm_lk kb_X7_windowNow 34 = some (48, kX7_windowNow_34) := rfl
theorem lb_X7_windowNow_70 : xm_lk kb_X7_windowNow 70 = some (71, kX7_windowNow_70) := rfl
theorem lb_X7_windowNow_71 : xm_lk kb_X7_windowNow 71 = some (78, kX7_windowNow_71) := rfl
theorem lb_X7_windowNow_78 : xm_lk kb_X7_windowNow 78 = some (84, kX7_windowNow_78) := rfl
theorem lb_X7_windowNow_84 : xm_lk kb_X7_windowNow 84 = some (90, kX7_windowNow_84) := rfl
theorem lb_X7_windowNow_90 : xm_lk kb_X7_windowNow 90 = some (98, kX7_windowNow_90) := rfl
theorem lb_X7_windowNow_16 : xm_lk kb_X7_windowNow 16 = some (18, kX7_windowNow_16) := rfl
theorem lb_X7_windowNow_48 : xm_lk kb_X7_windowNow 48 = some (59, kX7_windowNow_48) := rfl
theorem lb_X7_windowNow_59 : xm_lk kb_X7_windowNow 59 = some (70, kX7_windowNow_59) := rfl
theorem lb_X7_windowNow_98 : xm_lk kb_X7_windowNow 98 = none := rfl
theorem kc_X7_windowNow : xm_oks cX7_windowNow 7 4 0 false kb_X7_windowNow := (List.forall_mem_cons.mpr ⟨bk_X7_windowNow_0, (List.forall_mem_cons.mpr ⟨bk_X7_windowNow_18, (List.forall_mem_cons.mpr ⟨bk_X7_windowNow_26, (List.forall_mem_cons.mpr ⟨bk_X7_windowNow_34, (List.forall_mem_cons.mpr ⟨bk_X7_windowNow_70, (List.forall_mem_cons.mpr ⟨bk_X7_windowNow_71, (List.forall_mem_cons.mpr ⟨bk_X7_windowNow_78, (List.forall_mem_cons.mpr ⟨bk_X7_windowNow_84, (List.forall_mem_cons.mpr ⟨bk_X7_windowNow_90, (List.forall_mem_cons.mpr ⟨bk_X7_windowNow_16, (List.forall_mem_cons.mpr ⟨bk_X7_windowNow_48, (List.forall_mem_cons.mpr ⟨bk_X7_windowNow_59, (fun _ h => absurd h List.not_mem_nil)⟩)⟩)⟩)⟩)⟩)⟩)⟩)⟩)⟩)⟩)⟩)⟩)
def kb_X7_report : List (Nat × Nat × List xm_I) := [(0, 10, kX7_report_0), (13, 14, kX7_report_13), (17, 22, kX7_report_17), (22, 23, kX7_report_22), (80, 87, kX7_report_80), (87, 94, kX7_report_87), (94, 101, kX7_report_94), (101, 108, kX7_report_101), (108, 115, kX7_report_108), (115, 122, kX7_report_115), (122, 123, kX7_report_122), (126, 127, kX7_report_126), (127, 134, kX7_report_127), (134, 141, kX7_report_134), (141, 143, kX7_report_141), (146, 148, kX7_report_146), (151, 153, kX7_report_151), (153, 154, kX7_report_153), (157, 158, kX7_report_157), (158, 159, kX7_report_158), (162, 163, kX7_report_162)]
theorem lb_X7_report_0 : xm_lk kb_X7_report 0 = some (10, kX7_report_0) := rfl
theorem lb_X7_report_13 : xm_lk kb_X7_report 13 = some (14, kX7_report_13) := rfl
theorem lb_X7_report_17 : xm_lk kb_X7_report 17 = some (22, kX7_report_17) := rfl
theorem lb_X7_report_22 : xm_lk kb_X7_report 22 = some (23, kX7_report_22) := rfl
theorem lb_X7_report_80 : xm_lk kb_X7_report 80 = some (87, kX7_report_80) := rfl
theorem lb_X7_report_87 : xm_lk kb_X7_report 87 = some (94, kX7_report_87) := rfl
theorem lb_X7_report_94 : xm_lk kb_X7_report 94 = some (101, kX7_report_94) := rfl
theorem lb_X7_report_101 : xm_lk kb_X7_report 101 = some (108, kX7_report_101) := rfl
theorem lb_X7_report_108 : xm_lk kb_X7_report 108 = some (115, kX7_report_108) := rfl
theorem lb_X7_report_115 : xm_lk kb_X7_report 115 = some (122, kX7_report_115) := rfl
theorem lb_X7_report_122 : xm_lk kb_X7_report 122 = some (123, kX7_report_122) := rfl
theorem lb_X7_report_126 : xm_lk kb_X7_report 126 = some (127, kX7_report_126) := rfl
theorem lb_X7_report_127 : xm_lk kb_X7_report 127 = some (134, kX7_report_127) := rfl
theorem lb_X7_report_134 : xm_lk kb_X7_report 134 = some (141, kX7_report_134) := rfl
theorem lb_X7_report_141 : xm_lk kb_X7_report 141 = some (143, kX7_report_141) := rfl
theorem lb_X7_report_146 : xm_lk kb_X7_report 146 = some (148, kX7_report_146) := rfl
theorem lb_X7_report_151 : xm_lk kb_X7_report 151 = some (153, kX7_report_151) := rfl
theorem lb_X7_report_153 : xm_lk kb_X7_report 153 = some (154, kX7_report_153) := rfl
theorem lb_X7_report_157 : xm_lk kb_X7_report 157 = some (158, kX7_report_157) := rfl
theorem lb_X7_report_158 : xm_lk kb_X7_report 158 = some (159, kX7_report_158) := rfl
theorem lb_X7_report_162 : xm_lk kb_X7_report 162 = some (163, kX7_report_162) := rfl
theorem lb_X7_report_10 : xm_lk kb_X7_report 10 = none := rfl
theorem lb_X7_report_14 : xm_lk kb_X7_report 14 = none := rfl
theorem lb_X7_report_23 : xm_lk kb_X7_report 23 = none := rfl
theorem lb_X7_report_123 : xm_lk kb_X7_report 123 = none := rfl
theorem lb_X7_report_143 : xm_lk kb_X7_report 143 = none := rfl
theorem lb_X7_report_148 : xm_lk kb_X7_report 148 = none := rfl
theorem lb_X7_report_154 : xm_lk kb_X7_report 154 = none := rfl
theorem lb_X7_report_159 : xm_lk kb_X7_report 159 = none := rfl
theorem lb_X7_report_163 : xm_lk kb_X7_report 163 = none := rfl
theorem kc_X7_report : xm_oks cX7_report 7 2 0 false kb_X7_report := (List.forall_mem_cons.mpr ⟨bk_X7_report_0, (List.forall_mem_cons.mpr ⟨bk_X7_report_13, (List.forall_mem_cons.mpr ⟨bk_X7_report_17, (List.forall_mem_cons.mpr ⟨bk_X7_report_22, (List.forall_mem_cons.mpr ⟨bk_X7_report_80, (List.forall_mem_cons.mpr ⟨bk_X7_report_87, (List.forall_mem_cons.mpr ⟨bk_X7_report_94, (List.forall_mem_cons.mpr ⟨bk_X7_report_101, (List.forall_mem_cons.mpr ⟨bk_X7_report_108, (List.forall_mem_cons.mpr ⟨bk_X7_report_115, (List.forall_mem_cons.mpr ⟨bk_X7_report_122, (List.forall_mem_cons.mpr ⟨bk_X7_report_126, (List.forall_mem_cons.mpr ⟨bk_X7_report_127, (List.forall_mem_cons.mpr ⟨bk_X7_report_134, (List.forall_mem_cons.mpr ⟨bk_X7_report_141, (List.forall_mem_cons.mpr ⟨bk_X7_report_146, (List.forall_mem_cons.mpr ⟨bk_X7_report_151, (List.forall_mem_cons.mpr ⟨bk_X7_report_153, (List.forall_mem_cons.mpr ⟨bk_X7_report_157, (List.forall_mem_cons.mpr ⟨bk_X7_report_158, (List.forall_mem_cons.mpr ⟨bk_X7_report_162, (fun _ h => absurd h List.not_mem_nil)⟩)⟩)⟩)⟩)⟩)⟩)⟩)⟩)⟩)⟩)⟩)⟩)⟩)⟩)⟩)⟩)⟩)⟩)⟩)⟩)⟩)
def kb_X7_gate : List (Nat × Nat × List xm_I) := [(0, 8, kX7_gate_0), (11, 12, kX7_gate_11), (15, 23, kX7_gate_15), (26, 27, kX7_gate_26), (30, 33, kX7_gate_30), (33, 35, kX7_gate_33), (35, 36, kX7_gate_35), (64, 66, kX7_gate_64), (69, 76, kX7_gate_69), (76, 77, kX7_gate_76), (77, 78, kX7_gate_77), (78, 81, kX7_gate_78), (84, 85, kX7_gate_84), (85, 88, kX7_gate_85), (91, 92, kX7_gate_91), (92, 100, kX7_gate_92), (103, 106, kX7_gate_103), (106, 113, kX7_gate_106), (116, 117, kX7_gate_116)]
theorem lb_X7_gate_0 : xm_lk kb_X7_gate 0 = some (8, kX7_gate_0) := rfl
theorem lb_X7_gate_11 : xm_lk kb_X7_gate 11 = some (12, kX7_gate_11) := rfl
theorem lb_X7_gate_15 : xm_lk kb_X7_gate 15 = some (23, kX7_gate_15) := rfl
theorem lb_X7_gate_26 : xm_lk kb_X7_gate 26 = some (27, kX7_gate_26) := rfl
theorem lb_X7_gate_30 : xm_lk kb_X7_gate 30 = some (33, kX7_gate_30) := rfl
theorem lb_X7_gate_33 : xm_lk kb_X7_gate 33 = some (35, kX7_gate_33) := rfl
theorem lb_X7_gate_35 : xm_lk kb_X7_gate 35 = some (36, kX7_gate_35) := rfl
theorem lb_X7_gate_64 : xm_lk kb_X7_gate 64 = some (66, kX7_gate_64) := rfl
theorem lb_X7_gate_69 : xm_lk kb_X7_gate 69 = some (76, kX7_gate_69) := rfl
theorem lb_X7_gate_76 : xm_lk kb_X7_gate 76 = some (77, kX7_gate_76) := rfl
theorem lb_X7_gate_77 : xm_lk kb_X7_gate 77 = some (78, kX7_gate_77) := rfl
theorem lb_X7_gate_78 : xm_lk kb_X7_gate 78 = some (81, kX7_gate_78) := rfl
theorem lb_X7_gate_84 : xm_lk kb_X7_gate 84 = some (85, kX7_gate_84) := rfl
theorem lb_X7_gate_85 : xm_lk kb_X7_gate 85 = some (88, kX7_gate_85) := rfl
theorem lb_X7_gate_91 : xm_lk kb_X7_gate 91 = some (92, kX7_gate_91) := rfl
theorem lb_X7_gate_92 : xm_lk kb_X7_gate 92 = some (100, kX7_gate_92) := rfl
theorem lb_X7_gate_103 : xm_lk kb_X7_gate 103 = some (106, kX7_gate_103) := rfl
theorem lb_X7_gate_106 : xm_lk kb_X7_gate 106 = some (113, kX7_gate_106) := rfl
theorem lb_X7_gate_116 : xm_lk kb_X7_gate 116 = some (117, kX7_gate_116) := rfl
theorem lb_X7_gate_8 : xm_lk kb_X7_gate 8 = none := rfl
theorem lb_X7_gate_12 : xm_lk kb_X7_gate 12 = none := rfl
theorem lb_X7_gate_23 : xm_lk kb_X7_gate 23 = none := rfl
theorem lb_X7_gate_27 : xm_lk kb_X7_gate 27 = none := rfl
theorem lb_X7_gate_36 : xm_lk kb_X7_gate 36 = none := rfl
theorem lb_X7_gate_66 : xm_lk kb_X7_gate 66 = none := rfl
theorem lb_X7_gate_81 : xm_lk kb_X7_gate 81 = none := rfl
theorem lb_X7_gate_88 : xm_lk kb_X7_gate 88 = none := rfl
theorem lb_X7_gate_100 : xm_lk kb_X7_gate 100 = none := rfl
theorem lb_X7_gate_113 : xm_lk kb_X7_gate 113 = none := rfl
theorem lb_X7_gate_117 : xm_lk kb_X7_gate 117 = none := rfl
theorem kc_X7_gate : xm_oks cX7_gate 7 3 0 false kb_X7_gate := (List.forall_mem_cons.mpr ⟨bk_X7_gate_0, (List.forall_mem_cons.mpr ⟨bk_X7_gate_11, (List.forall_mem_cons.mpr ⟨bk_X7_gate_15, (List.forall_mem_cons.mpr ⟨bk_X7_gate_26, (List.forall_mem_cons.mpr ⟨bk_X7_gate_30, (List.forall_mem_cons.mpr ⟨bk_X7_gate_33, (List.forall_mem_cons.mpr ⟨bk_X7_gate_35, (List.forall_mem_cons.mpr ⟨bk_X7_gate_64, (List.forall_mem_cons.mpr ⟨bk_X7_gate_69, (List.forall_mem_cons.mpr ⟨bk_X7_gate_76, (List.forall_mem_cons.mpr ⟨bk_X7_gate_77, (List.forall_mem_cons.mpr ⟨bk_X7_gate_78, (List.forall_mem_cons.mpr ⟨bk_X7_gate_84, (List.forall_mem_cons.mpr ⟨bk_X7_gate_85, (List.forall_mem_cons.mpr ⟨bk_X7_gate_91, (List.forall_mem_cons.mpr ⟨bk_X7_gate_92, (List.forall_mem_cons.mpr ⟨bk_X7_gate_103, (List.forall_mem_cons.mpr ⟨bk_X7_gate_106, (List.forall_mem_cons.mpr ⟨bk_X7_gate_116, (fun _ h => absurd h List.not_mem_nil)⟩)⟩)⟩)⟩)⟩)⟩)⟩)⟩)⟩)⟩)⟩)⟩)⟩)⟩)⟩)⟩)⟩)⟩)⟩)
def kb_X7_put : List (Nat × Nat × List xm_I) := [(0, 11, kX7_put_0), (14, 22, kX7_put_14), (25, 32, kX7_put_25), (32, 33, kX7_put_32), (33, 34, kX7_put_33), (37, 42, kX7_put_37), (42, 54, kX7_put_42), (60, 67, kX7_put_60), (70, 73, kX7_put_70), (73, 77, kX7_put_73), (77, 78, kX7_put_77), (78, 93, kX7_put_78), (96, 97, kX7_put_96), (97, 98, kX7_put_97), (101, 106, kX7_put_101), (106, 116, kX7_put_106), (119, 131, kX7_put_119), (134, 140, kX7_put_134), (140, 144, kX7_put_140), (147, 151, kX7_put_147), (154, 159, kX7_put_154), (162, 167, kX7_put_162), (170, 175, kX7_put_170), (178, 183, kX7_put_178), (186, 188, kX7_put_186), (54, 57, kX7_put_54), (93, 96, kX7_put_93), (116, 119, kX7_put_116)]
theorem lb_X7_put_0 : xm_lk kb_X7_put 0 = some (11, kX7_put_0) := rfl
theorem lb_X7_put_14 : xm_lk kb_X7_put 14 = some (22, kX7_put_14) := rfl
theorem lb_X7_put_25 : xm_lk kb_X7_put 25 = some (32, kX7_put_25) := rfl
theorem lb_X7_put_32 : xm_lk kb_X7_put 32 = some (33, kX7_put_32) := rfl
theorem lb_X7_put_33 : xm_lk kb_X7_put 33 = some (34, kX7_put_33) := rfl
theorem lb_X7_put_37 : xm_lk kb_X7_put 37 = some (42, kX7_put_37) := rfl
theorem lb_X7_put_42 : xm_lk kb_X7_put 42 = some (54, kX7_put_42) := rfl
theorem lb_X7_put_60 : xm_lk kb_X7_put 60 = some (67, kX7_put_60) := rfl
theorem lb_X7_put_70 : xm_lk kb_X7_put 70 = some (73, kX7_put_70) := rfl
theorem lb_X7_put_73 : xm_lk kb_X7_put 73 = some (77, kX7_put_73) := rfl
theorem lb_X7_put_77 : xm_lk kb_X7_put 77 = some (78, kX7_put_77) := rfl
theorem lb_X7_put_78 : xm_lk kb_X7_put 78 = some (93, kX7_put_78) := rfl
theorem lb_X7_put_96 : xm_lk kb_X7_put 96 = some (97, kX7_put_96) := rfl
theorem lb_X7_put_97 : xm_lk kb_X7_put 97 = some (98, kX7_put_97) := rfl
theorem lb_X7_put_101 : xm_lk kb_X7_put 101 = some (106, kX7_put_101) := rfl
theorem lb_X7_put_106 : xm_lk kb_X7_put 106 = some (116, kX7_put_106) := rfl
theorem lb_X7_put_119 : xm_lk kb_X7_put 119 = some (131, kX7_put_119) := rfl
theorem lb_X7_put_134 : xm_lk kb_X7_put 134 = some (140, kX7_put_134) := rfl
theorem lb_X7_put_140 : xm_lk kb_X7_put 140 = some (144, kX7_put_140) := rfl
theorem lb_X7_put_147 : xm_lk kb_X7_put 147 = some (151, kX7_put_147) := rfl
theorem lb_X7_put_154 : xm_lk kb_X7_put 154 = some (159, kX7_put_154) := rfl
theorem lb_X7_put_162 : xm_lk kb_X7_put 162 = some (167, kX7_put_162) := rfl
theorem lb_X7_put_170 : xm_lk kb_X7_put 170 = some (175, kX7_put_170) := rfl
theorem lb_X7_put_178 : xm_lk kb_X7_put 178 = some (183, kX7_put_178) := rfl
theorem lb_X7_put_186 : xm_lk kb_X7_put 186 = some (188, kX7_put_186) := rfl
theorem lb_X7_put_54 : xm_lk kb_X7_put 54 = some (57, kX7_put_54) := rfl
theorem lb_X7_put_93 : xm_lk kb_X7_put 93 = some (96, kX7_put_93) := rfl
theorem lb_X7_put_116 : xm_lk kb_X7_put 116 = some (119, kX7_put_116) := rfl
theorem lb_X7_put_11 : xm_lk kb_X7_put 11 = none := rfl
theorem lb_X7_put_22 : xm_lk kb_X7_put 22 = none := rfl
theorem lb_X7_put_34 : xm_lk kb_X7_put 34 = none := rfl
theorem lb_X7_put_57 : xm_lk kb_X7_put 57 = none := rfl
theorem lb_X7_put_67 : xm_lk kb_X7_put 67 = none := rfl
theorem lb_X7_put_98 : xm_lk kb_X7_put 98 = none := rfl
theorem lb_X7_put_131 : xm_lk kb_X7_put 131 = none := rfl
theorem lb_X7_put_144 : xm_lk kb_X7_put 144 = none := rfl
theorem lb_X7_put_151 : xm_lk kb_X7_put 151 = none := rfl
theorem lb_X7_put_159 : xm_lk kb_X7_put 159 = none := rfl
theorem lb_X7_put_167 : xm_lk kb_X7_put 167 = none := rfl
theorem lb_X7_put_175 : xm_lk kb_X7_put 175 = none := rfl
theorem lb_X7_put_183 : xm_lk kb_X7_put 183 = none := rfl
theorem lb_X7_put_188 : xm_lk kb_X7_put 188 = none := rfl
theorem kc_X7_put : xm_oks cX7_put 7 6 0 false kb_X7_put := (List.forall_mem_cons.mpr ⟨bk_X7_put_0, (List.forall_mem_cons.mpr ⟨bk_X7_put_14, (List.forall_mem_cons.mpr ⟨bk_X7_put_25, (List.forall_mem_cons.mpr ⟨bk_X7_put_32, (List.forall_mem_cons.mpr ⟨bk_X7_put_33, (List.forall_mem_cons.mpr ⟨bk_X7_put_37, (List.forall_mem_cons.mpr ⟨bk_X7_put_42, (List.forall_mem_cons.mpr ⟨bk_X7_put_60, (List.forall_mem_cons.mpr ⟨bk_X7_put_70, (List.forall_mem_cons.mpr ⟨bk_X7_put_73, (List.forall_mem_cons.mpr ⟨bk_X7_put_77, (List.forall_mem_cons.mpr ⟨bk_X7_put_78, (List.forall_mem_cons.mpr ⟨bk_X7_put_96, (List.forall_mem_cons.mpr ⟨bk_X7_put_97, (List.forall_mem_cons.mpr ⟨bk_X7_put_101, (List.forall_mem_cons.mpr ⟨bk_X7_put_106, (List.forall_mem_cons.mpr ⟨bk_X7_put_119, (List.forall_mem_cons.mpr ⟨bk_X7_put_134, (List.forall_mem_cons.mpr ⟨bk_X7_put_140, (List.forall_mem_cons.mpr ⟨bk_X7_put_147, (List.forall_mem_cons.mpr ⟨bk_X7_put_154, (List.forall_mem_cons.mpr ⟨bk_X7_put_162, (List.forall_mem_cons.mpr ⟨bk_X7_put_170, (List.forall_mem_cons.mpr ⟨bk_X7_put_178, (List.forall_mem_cons.mpr ⟨bk_X7_put_186, (List.forall_mem_cons.mpr ⟨bk_X7_put_54, (List.forall_mem_cons.mpr ⟨bk_X7_put_93, (List.forall_mem_cons.mpr ⟨bk_X7_put_116, (fun _ h => absurd h List.not_mem_nil)⟩)⟩)⟩)⟩)⟩)⟩)⟩)⟩)⟩)⟩)⟩)⟩)⟩)⟩)⟩)⟩)⟩)⟩)⟩)⟩)⟩)⟩)⟩)⟩)⟩)⟩)⟩)⟩)
def kb_X7_shaken : List (Nat × Nat × List xm_I) := [(0, 4, kX7_shaken_0), (4, 17, kX7_shaken_4), (68, 76, kX7_shaken_68), (76, 84, kX7_shaken_76), (84, 86, kX7_shaken_84), (17, 28, kX7_shaken_17), (28, 40, kX7_shaken_28), (40, 51, kX7_shaken_40), (51, 64, kX7_shaken_51), (64, 68, kX7_shaken_64)]
theorem lb_X7_shaken_0 : xm_lk kb_X7_shaken 0 = some (4, kX7_shaken_0) := rfl
theorem lb_X7_shaken_4 : xm_lk kb_X7_shaken 4 = some (17, kX7_shaken_4) := rfl
theorem lb_X7_shaken_68 : xm_lk kb_X7_shaken 68 = some (76, kX7_shaken_68) := rfl
theorem lb_X7_shaken_76 : xm_lk kb_X7_shaken 76 = some (84, kX7_shaken_76) := rfl
theorem lb_X7_shaken_84 : xm_lk kb_X7_shaken 84 = some (86, kX7_shaken_84) := rfl
theorem lb_X7_shaken_17 : xm_lk kb_X7_shaken 17 = some (28, kX7_shaken_17) := rfl
theorem lb_X7_shaken_28 : xm_lk kb_X7_shaken 28 = some (40, kX7_shaken_28) := rfl
theorem lb_X7_shaken_40 : xm_lk kb_X7_shaken 40 = some (51, kX7_shaken_40) := rfl
theorem lb_X7_shaken_51 : xm_lk kb_X7_shaken 51 = some (64, kX7_shaken_51) := rfl
theorem lb_X7_shaken_64 : xm_lk kb_X7_shaken 64 = some (68, kX7_shaken_64) := rfl
theorem lb_X7_shaken_86 : xm_lk kb_X7_shaken 86 = none := rfl
theorem kc_X7_shaken : xm_oks cX7_shaken 7 5 0 false kb_X7_shaken := (List.forall_mem_cons.mpr ⟨bk_X7_shaken_0, (List.forall_mem_cons.mpr ⟨bk_X7_shaken_4, (List.forall_mem_cons.mpr ⟨bk_X7_shaken_68, (List.forall_mem_cons.mpr ⟨bk_X7_shaken_76, (List.forall_mem_cons.mpr ⟨bk_X7_shaken_84, (List.forall_mem_cons.mpr ⟨bk_X7_shaken_17, (List.forall_mem_cons.mpr ⟨bk_X7_shaken_28, (List.forall_mem_cons.mpr ⟨bk_X7_shaken_40, (List.forall_mem_cons.mpr ⟨bk_X7_shaken_51, (List.forall_mem_cons.mpr ⟨bk_X7_shaken_64, (fun _ h => absurd h List.not_mem_nil)⟩)⟩)⟩)⟩)⟩)⟩)⟩)⟩)⟩)⟩)
def kb_X7_sampled : List (Nat × Nat × List xm_I) := [(0, 13, kX7_sampled_0), (32, 36, kX7_sampled_32), (36, 48, kX7_sampled_36), (51, 57, kX7_sampled_51), (57, 61, kX7_sampled_57), (64, 67, kX7_sampled_64), (70, 76, kX7_sampled_70), (79, 81, kX7_sampled_79), (84, 90, kX7_sampled_84), (93, 98, kX7_sampled_93), (101, 104, kX7_sampled_101), (104, 110, kX7_sampled_104), (110, 112, kX7_sampled_110), (13, 24, kX7_sampled_13), (24, 29, kX7_sampled_24)]
theorem lb_X7_sampled_0 : xm_lk kb_X7_sampled 0 = some (13, kX7_sampled_0) := rfl
theorem lb_X7_sampled_32 : xm_lk kb_X7_sampled 32 = some (36, kX7_sampled_32) := rfl
theorem lb_X7_sampled_36 : xm_lk kb_X7_sampled 36 = some (48, kX7_sampled_36) := rfl
theorem lb_X7_sampled_51 : xm_lk kb_X7_sampled 51 = some (57, kX7_sampled_51) := rfl
theorem lb_X7_sampled_57 : xm_lk kb_X7_sampled 57 = some (61, kX7_sampled_57) := rfl
theorem lb_X7_sampled_64 : xm_lk kb_X7_sampled 64 = some (67, kX7_sampled_64) := rfl
theorem lb_X7_sampled_70 : xm_lk kb_X7_sampled 70 = some (76, kX7_sampled_70) := rfl
theorem lb_X7_sampled_79 : xm_lk kb_X7_sampled 79 = some (81, kX7_sampled_79) := rfl
theorem lb_X7_sampled_84 : xm_lk kb_X7_sampled 84 = some (90, kX7_sampled_84) := rfl
theorem lb_X7_sampled_93 : xm_lk kb_X7_sampled 93 = some (98, kX7_sampled_93) := rfl
theorem lb_X7_sampled_101 : xm_lk kb_X7_sampled 101 = some (104, kX7_sampled_101) := rfl
theorem lb_X7_sampled_104 : xm_lk kb_X7_sampled 104 = some (110, kX7_sampled_104) := rfl
theorem lb_X7_sampled_110 : xm_lk kb_X7_sampled 110 = some (112, kX7_sampled_110) := rfl
theorem lb_X7_sampled_13 : xm_lk kb_X7_sampled 13 = some (24, kX7_sampled_13) := rfl
theorem lb_X7_sampled_24 : xm_lk kb_X7_sampled 24 = some (29, kX7_sampled_24) := rfl
theorem lb_X7_sampled_29 : xm_lk kb_X7_sampled 29 = none := rfl
theorem lb_X7_sampled_48 : xm_lk kb_X7_sampled 48 = none := rfl
theorem lb_X7_sampled_61 : xm_lk kb_X7_sampled 61 = none := rfl
theorem lb_X7_sampled_67 : xm_lk kb_X7_sampled 67 = none := rfl
theorem lb_X7_sampled_76 : xm_lk kb_X7_sampled 76 = none := rfl
theorem lb_X7_sampled_81 : xm_lk kb_X7_sampled 81 = none := rfl
theorem lb_X7_sampled_90 : xm_lk kb_X7_sampled 90 = none := rfl
theorem lb_X7_sampled_98 : xm_lk kb_X7_sampled 98 = none := rfl
theorem lb_X7_sampled_112 : xm_lk kb_X7_sampled 112 = none := rfl
theorem kc_X7_sampled : xm_oks cX7_sampled 7 3 0 false kb_X7_sampled := (List.forall_mem_cons.mpr ⟨bk_X7_sampled_0, (List.forall_mem_cons.mpr ⟨bk_X7_sampled_32, (List.forall_mem_cons.mpr ⟨bk_X7_sampled_36, (List.forall_mem_cons.mpr ⟨bk_X7_sampled_51, (List.forall_mem_cons.mpr ⟨bk_X7_sampled_57, (List.forall_mem_cons.mpr ⟨bk_X7_sampled_64, (List.forall_mem_cons.mpr ⟨bk_X7_sampled_70, (List.forall_mem_cons.mpr ⟨bk_X7_sampled_79, (List.forall_mem_cons.mpr ⟨bk_X7_sampled_84, (List.forall_mem_cons.mpr ⟨bk_X7_sampled_93, (List.forall_mem_cons.mpr ⟨bk_X7_sampled_101, (List.forall_mem_cons.mpr ⟨bk_X7_sampled_104, (List.forall_mem_cons.mpr ⟨bk_X7_sampled_110, (List.forall_mem_cons.mpr ⟨bk_X7_sampled_13, (List.forall_mem_cons.mpr ⟨bk_X7_sampled_24, (fun _ h => absurd h List.not_mem_nil)⟩)⟩)⟩)⟩)⟩)⟩)⟩)⟩)⟩)⟩)⟩)⟩)⟩)⟩)⟩)
def kb_X7_inPart : List (Nat × Nat × List xm_I) := [(0, 4, kX7_inPart_0), (4, 16, kX7_inPart_4), (20, 27, kX7_inPart_20), (27, 28, kX7_inPart_27), (28, 36, kX7_inPart_28), (36, 38, kX7_inPart_36), (16, 17, kX7_inPart_16)]
theorem lb_X7_inPart_0 : xm_lk kb_X7_inPart 0 = some (4, kX7_inPart_0) := rfl
theorem lb_X7_inPart_4 : xm_lk kb_X7_inPart 4 = some (16, kX7_inPart_4) := rfl
theorem lb_X7_inPart_20 : xm_lk kb_X7_inPart 20 = some (27, kX7_inPart_20) := rfl
theorem lb_X7_inPart_27 : xm_lk kb_X7_inPart 27 = some (28, kX7_inPart_27) := rfl
theorem lb_X7_inPart_28 : xm_lk kb_X7_inPart 28 = some (36, kX7_inPart_28) := rfl
theorem lb_X7_inPart_36 : xm_lk kb_X7_inPart 36 = some (38, kX7_inPart_36) := rfl
theorem lb_X7_inPart_16 : xm_lk kb_X7_inPart 16 = some (17, kX7_inPart_16) := rfl
theorem lb_X7_inPart_17 : xm_lk kb_X7_inPart 17 = none := rfl
theorem lb_X7_inPart_38 : xm_lk kb_X7_inPart 38 = none := rfl
theorem kc_X7_inPart : xm_oks cX7_inPart 7 3 0 false kb_X7_inPart := (List.forall_mem_cons.mpr ⟨bk_X7_inPart_0, (List.forall_mem_cons.mpr ⟨bk_X7_inPart_4, (List.forall_mem_cons.mpr ⟨bk_X7_inPart_20, (List.forall_mem_cons.mpr ⟨bk_X7_inPart_27, (List.forall_mem_cons.mpr ⟨bk_X7_inPart_28, (List.forall_mem_cons.mpr ⟨bk_X7_inPart_36, (List.forall_mem_cons.mpr ⟨bk_X7_inPart_16, (fun _ h => absurd h List.not_mem_nil)⟩)⟩)⟩)⟩)⟩)⟩)⟩)
def kb_X7_gives : List (Nat × Nat × List xm_I) := [(0, 3, kX7_gives_0), (6, 19, kX7_gives_6), (19, 32, kX7_gives_19), (47, 53, kX7_gives_47), (53, 60, kX7_gives_53), (63, 69, kX7_gives_63), (72, 73, kX7_gives_72), (32, 41, kX7_gives_32)]
theorem lb_X7_gives_0 : xm_lk kb_X7_gives 0 = some (3, kX7_gives_0) := rfl
theorem lb_X7_gives_6 : xm_lk kb_X7_gives 6 = some (19, kX7_gives_6) := rfl
theorem lb_X7_gives_19 : xm_lk kb_X7_gives 19 = some (32, kX7_gives_19) := rfl
theorem lb_X7_gives_47 : xm_lk kb_X7_gives 47 = some (53, kX7_gives_47) := rfl
theorem lb_X7_gives_53 : xm_lk kb_X7_gives 53 = some (60, kX7_gives_53) := rfl
theorem lb_X7_gives_63 : xm_lk kb_X7_gives 63 = some (69, kX7_gives_63) := rfl
theorem lb_X7_gives_72 : xm_lk kb_X7_gives 72 = some (73, kX7_gives_72) := rfl
theorem lb_X7_gives_32 : xm_lk kb_X7_gives 32 = some (41, kX7_gives_32) := rfl
theorem lb_X7_gives_3 : xm_lk kb_X7_gives 3 = none := rfl
theorem lb_X7_gives_41 : xm_lk kb_X7_gives 41 = none := rfl
theorem lb_X7_gives_60 : xm_lk kb_X7_gives 60 = none := rfl
theorem lb_X7_gives_69 : xm_lk kb_X7_gives 69 = none := rfl
theorem lb_X7_gives_73 : xm_lk kb_X7_gives 73 = none := rfl
theorem kc_X7_gives : xm_oks cX7_gives 7 5 3 false kb_X7_gives := (List.forall_mem_cons.mpr ⟨bk_X7_gives_0, (List.forall_mem_cons.mpr ⟨bk_X7_gives_6, (List.forall_mem_cons.mpr ⟨bk_X7_gives_19, (List.forall_mem_cons.mpr ⟨bk_X7_gives_47, (List.forall_mem_cons.mpr ⟨bk_X7_gives_53, (List.forall_mem_cons.mpr ⟨bk_X7_gives_63, (List.forall_mem_cons.mpr ⟨bk_X7_gives_72, (List.forall_mem_cons.mpr ⟨bk_X7_gives_32, (fun _ h => absurd h List.not_mem_nil)⟩)⟩)⟩)⟩)⟩)⟩)⟩)⟩)
def kb_X7_meanOf : List (Nat × Nat × List xm_I) := [(0, 3, kX7_meanOf_0), (6, 7, kX7_meanOf_6), (10, 17, kX7_meanOf_10), (20, 24, kX7_meanOf_20), (24, 29, kX7_meanOf_24), (32, 44, kX7_meanOf_32), (47, 56, kX7_meanOf_47), (56, 67, kX7_meanOf_56), (67, 68, kX7_meanOf_67)]
theorem lb_X7_meanOf_0 : xm_lk kb_X7_meanOf 0 = some (3, kX7_meanOf_0) := rfl
theorem lb_X7_meanOf_6 : xm_lk kb_X7_meanOf 6 = some (7, kX7_meanOf_6) := rfl
theorem lb_X7_meanOf_10 : xm_lk kb_X7_meanOf 10 = some (17, kX7_meanOf_10) := rfl
theorem lb_X7_meanOf_20 : xm_lk kb_X7_meanOf 20 = some (24, kX7_meanOf_20) := rfl
theorem lb_X7_meanOf_24 : xm_lk kb_X7_meanOf 24 = some (29, kX7_meanOf_24) := rfl
theorem lb_X7_meanOf_32 : xm_lk kb_X7_meanOf 32 = some (44, kX7_meanOf_32) := rfl
theorem lb_X7_meanOf_47 : xm_lk kb_X7_meanOf 47 = some (56, kX7_meanOf_47) := rfl
theorem lb_X7_meanOf_56 : xm_lk kb_X7_meanOf 56 = some (67, kX7_meanOf_56) := rfl
theorem lb_X7_meanOf_67 : xm_lk kb_X7_meanOf 67 = some (68, kX7_meanOf_67) := rfl
theorem lb_X7_meanOf_3 : xm_lk kb_X7_meanOf 3 = none := rfl
theorem lb_X7_meanOf_7 : xm_lk kb_X7_meanOf 7 = none := rfl
theorem lb_X7_meanOf_17 : xm_lk kb_X7_meanOf 17 = none := rfl
theorem lb_X7_meanOf_29 : xm_lk kb_X7_meanOf 29 = none := rfl
theorem lb_X7_meanOf_44 : xm_lk kb_X7_meanOf 44 = none := rfl
theorem lb_X7_meanOf_68 : xm_lk kb_X7_meanOf 68 = none := rfl
theorem kc_X7_meanOf : xm_oks cX7_meanOf 7 6 0 false kb_X7_meanOf := (List.forall_mem_cons.mpr ⟨bk_X7_meanOf_0, (List.forall_mem_cons.mpr ⟨bk_X7_meanOf_6, (List.forall_mem_cons.mpr ⟨bk_X7_meanOf_10, (List.forall_mem_cons.mpr ⟨bk_X7_meanOf_20, (List.forall_mem_cons.mpr ⟨bk_X7_meanOf_24, (List.forall_mem_cons.mpr ⟨bk_X7_meanOf_32, (List.forall_mem_cons.mpr ⟨bk_X7_meanOf_47, (List.forall_mem_cons.mpr ⟨bk_X7_meanOf_56, (List.forall_mem_cons.mpr ⟨bk_X7_meanOf_67, (fun _ h => absurd h List.not_mem_nil)⟩)⟩)⟩)⟩)⟩)⟩)⟩)⟩)⟩)
def kb_X7_spreadOf : List (Nat × Nat × List xm_I) := [(0, 3, kX7_spreadOf_0), (6, 7, kX7_spreadOf_6), (10, 18, kX7_spreadOf_10), (21, 24, kX7_spreadOf_21), (27, 36, kX7_spreadOf_27), (39, 43, kX7_spreadOf_39), (43, 48, kX7_spreadOf_43), (51, 63, kX7_spreadOf_51), (69, 80, kX7_spreadOf_69), (86, 94, kX7_spreadOf_86), (94, 100, kX7_spreadOf_94)]
theorem lb_X7_spreadOf_0 : xm_lk kb_X7_spreadOf 0 = some (3, kX7_spreadOf_0) := rfl
theorem lb_X7_spreadOf_6 : xm_lk kb_X7_spreadOf 6 = some (7, kX7_spreadOf_6) := rfl
theorem lb_X7_spreadOf_10 : xm_lk kb_X7_spreadOf 10 = some (18, kX7_spreadOf_10) := rfl
theorem lb_X7_spreadOf_21 : xm_lk kb_X7_spreadOf 21 = some (24, kX7_spreadOf_21) := rfl
theorem lb_X7_spreadOf_27 : xm_lk kb_X7_spreadOf 27 = some (36, kX7_spreadOf_27) := rfl
theorem lb_X7_spreadOf_39 : xm_lk kb_X7_spreadOf 39 = some (43, kX7_spreadOf_39) := rfl
theorem lb_X7_spreadOf_43 : xm_lk kb_X7_spreadOf 43 = some (48, kX7_spreadOf_43) := rfl
theorem lb_X7_spreadOf_51 : xm_lk kb_X7_spreadOf 51 = some (63, kX7_spreadOf_51) := rfl
theorem lb_X7_spreadOf_69 : xm_lk kb_X7_spreadOf 69 = some (80, kX7_spreadOf_69) := rfl
theorem lb_X7_spreadOf_86 : xm_lk kb_X7_spreadOf 86 = some (94, kX7_spreadOf_86) := rfl
theorem lb_X7_spreadOf_94 : xm_lk kb_X7_spreadOf 94 = some (100, kX7_spreadOf_94) := rfl
theorem lb_X7_spreadOf_3 : xm_lk kb_X7_spreadOf 3 = none := rfl
theorem lb_X7_spreadOf_7 : xm_lk kb_X7_spreadOf 7 = none := rfl
theorem lb_X7_spreadOf_18 : xm_lk kb_X7_spreadOf 18 = none := rfl
theorem lb_X7_spreadOf_24 : xm_lk kb_X7_spreadOf 24 = none := rfl
theorem lb_X7_spreadOf_36 : xm_lk kb_X7_spreadOf 36 = none := rfl
theorem lb_X7_spreadOf_48 : xm_lk kb_X7_spreadOf 48 = none := rfl
theorem lb_X7_spreadOf_63 : xm_lk kb_X7_spreadOf 63 = none := rfl
theorem lb_X7_spreadOf_80 : xm_lk kb_X7_spreadOf 80 = none := rfl
theorem lb_X7_spreadOf_100 : xm_lk kb_X7_spreadOf 100 = none := rfl
theorem kc_X7_spreadOf : xm_oks cX7_spreadOf 7 7 0 false kb_X7_spreadOf := (List.forall_mem_cons.mpr ⟨bk_X7_spreadOf_0, (List.forall_mem_cons.mpr ⟨bk_X7_spreadOf_6, (List.forall_mem_cons.mpr ⟨bk_X7_spreadOf_10, (List.forall_mem_cons.mpr ⟨bk_X7_spreadOf_21, (List.forall_mem_cons.mpr ⟨bk_X7_spreadOf_27, (List.forall_mem_cons.mpr ⟨bk_X7_spreadOf_39, (List.forall_mem_cons.mpr ⟨bk_X7_spreadOf_43, (List.forall_mem_cons.mpr ⟨bk_X7_spreadOf_51, (List.forall_mem_cons.mpr ⟨bk_X7_spreadOf_69, (List.forall_mem_cons.mpr ⟨bk_X7_spreadOf_86, (List.forall_mem_cons.mpr ⟨bk_X7_spreadOf_94, (fun _ h => absurd h List.not_mem_nil)⟩)⟩)⟩)⟩)⟩)⟩)⟩)⟩)⟩)⟩)⟩)
def kb_X7_classOf : List (Nat × Nat × List xm_I) := [(0, 3, kX7_classOf_0), (6, 13, kX7_classOf_6), (16, 29, kX7_classOf_16), (32, 42, kX7_classOf_32), (42, 44, kX7_classOf_42), (44, 48, kX7_classOf_44), (51, 64, kX7_classOf_51), (64, 68, kX7_classOf_64), (71, 84, kX7_classOf_71), (84, 85, kX7_classOf_84), (85, 86, kX7_classOf_85)]
theorem lb_X7_classOf_0 : xm_lk kb_X7_classOf 0 = some (3, kX7_classOf_0) := rfl
theorem lb_X7_classOf_6 : xm_lk kb_X7_classOf 6 = some (13, kX7_classOf_6) := rfl
theorem lb_X7_classOf_16 : xm_lk kb_X7_classOf 16 = some (29, kX7_classOf_16) := rfl
theorem lb_X7_classOf_32 : xm_lk kb_X7_classOf 32 = some (42, kX7_classOf_32) := rfl
theorem lb_X7_classOf_42 : xm_lk kb_X7_classOf 42 = some (44, kX7_classOf_42) := rfl
theorem lb_X7_classOf_44 : xm_lk kb_X7_classOf 44 = some (48, kX7_classOf_44) := rfl
theorem lb_X7_classOf_51 : xm_lk kb_X7_classOf 51 = some (64, kX7_classOf_51) := rfl
theorem lb_X7_classOf_64 : xm_lk kb_X7_classOf 64 = some (68, kX7_classOf_64) := rfl
theorem lb_X7_classOf_71 : xm_lk kb_X7_classOf 71 = some (84, kX7_classOf_71) := rfl
theorem lb_X7_classOf_84 : xm_lk kb_X7_classOf 84 = some (85, kX7_classOf_84) := rfl
theorem lb_X7_classOf_85 : xm_lk kb_X7_classOf 85 = some (86, kX7_classOf_85) := rfl
theorem lb_X7_classOf_3 : xm_lk kb_X7_classOf 3 = none := rfl
theorem lb_X7_classOf_13 : xm_lk kb_X7_classOf 13 = none := rfl
theorem lb_X7_classOf_29 : xm_lk kb_X7_classOf 29 = none := rfl
theorem lb_X7_classOf_48 : xm_lk kb_X7_classOf 48 = none := rfl
theorem lb_X7_classOf_68 : xm_lk kb_X7_classOf 68 = none := rfl
theorem lb_X7_classOf_86 : xm_lk kb_X7_classOf 86 = none := rfl
theorem kc_X7_classOf : xm_oks cX7_classOf 7 3 0 false kb_X7_classOf := (List.forall_mem_cons.mpr ⟨bk_X7_classOf_0, (List.forall_mem_cons.mpr ⟨bk_X7_classOf_6, (List.forall_mem_cons.mpr ⟨bk_X7_classOf_16, (List.forall_mem_cons.mpr ⟨bk_X7_classOf_32, (List.forall_mem_cons.mpr ⟨bk_X7_classOf_42, (List.forall_mem_cons.mpr ⟨bk_X7_classOf_44, (List.forall_mem_cons.mpr ⟨bk_X7_classOf_51, (List.forall_mem_cons.mpr ⟨bk_X7_classOf_64, (List.forall_mem_cons.mpr ⟨bk_X7_classOf_71, (List.forall_mem_cons.mpr ⟨bk_X7_classOf_84, (List.forall_mem_cons.mpr ⟨bk_X7_classOf_85, (fun _ h => absurd h List.not_mem_nil)⟩)⟩)⟩)⟩)⟩)⟩)⟩)⟩)⟩)⟩)⟩)
def kb_X7_roundedUp : List (Nat × Nat × List xm_I) := [(0, 8, kX7_roundedUp_0), (8, 15, kX7_roundedUp_8), (15, 16, kX7_roundedUp_15)]
theorem lb_X7_roundedUp_0 : xm_lk kb_X7_roundedUp 0 = some (8, kX7_roundedUp_0) := rfl
theorem lb_X7_roundedUp_8 : xm_lk kb_X7_roundedUp 8 = some (15, kX7_roundedUp_8) := rfl
theorem lb_X7_roundedUp_15 : xm_lk kb_X7_roundedUp 15 = some (16, kX7_roundedUp_15) := rfl
theorem lb_X7_roundedUp_16 : xm_lk kb_X7_roundedUp 16 = none := rfl
theorem kc_X7_roundedUp : xm_oks cX7_roundedUp 7 2 0 false kb_X7_roundedUp := (List.forall_mem_cons.mpr ⟨bk_X7_roundedUp_0, (List.forall_mem_cons.mpr ⟨bk_X7_roundedUp_8, (List.forall_mem_cons.mpr ⟨bk_X7_roundedUp_15, (fun _ h => absurd h List.not_mem_nil)⟩)⟩)⟩)
def kb_X7_decides : List (Nat × Nat × List xm_I) := [(0, 1, kX7_decides_0), (4, 8, kX7_decides_4), (11, 21, kX7_decides_11), (27, 30, kX7_decides_27), (33, 39, kX7_decides_33), (42, 46, kX7_decides_42), (49, 59, kX7_decides_49), (62, 74, kX7_decides_62), (82, 89, kX7_decides_82), (89, 99, kX7_decides_89), (102, 105, kX7_decides_102), (108, 115, kX7_decides_108), (118, 131, kX7_decides_118), (140, 141, kX7_decides_140), (147, 156, kX7_decides_147), (159, 165, kX7_decides_159), (168, 169, kX7_decides_168), (172, 173, kX7_decides_172), (74, 79, kX7_decides_74), (131, 137, kX7_decides_131)]
theorem lb_X7_decides_0 : xm_lk kb_X7_decides 0 = some (1, kX7_decides_0) := rfl
theorem lb_X7_decides_4 : xm_lk kb_X7_decides 4 = some (8, kX7_decides_4) := rfl
theorem lb_X7_decides_11 : xm_lk kb_X7_decides 11 = some (21, kX7_decides_11) := rfl
theorem lb_X7_decides_27 : xm_lk kb_X7_decides 27 = some (30, kX7_decides_27) := rfl
theorem lb_X7_decides_33 : xm_lk kb_X7_decides 33 = some (39, kX7_decides_33) := rfl
theorem lb_X7_decides_42 : xm_lk kb_X7_decides 42 = some (46, kX7_decides_42) := rfl
theorem lb_X7_decides_49 : xm_lk kb_X7_decides 49 = some (59, kX7_decides_49) := rfl
theorem lb_X7_decides_62 : xm_lk kb_X7_decides 62 = some (74, kX7_decides_62) := rfl
theorem lb_X7_decides_82 : xm_lk kb_X7_decides 82 = some (89, kX7_decides_82) := rfl
theorem lb_X7_decides_89 : xm_lk kb_X7_decides 89 = some (99, kX7_decides_89) := rfl
theorem lb_X7_decides_102 : xm_lk kb_X7_decides 102 = some (105, kX7_decides_102) := rfl
theorem lb_X7_decides_108 : xm_lk kb_X7_decides 108 = some (115, kX7_decides_108) := rfl
theorem lb_X7_decides_118 : xm_lk kb_X7_decides 118 = some (131, kX7_decides_118) := rfl
theorem lb_X7_decides_140 : xm_lk kb_X7_decides 140 = some (141, kX7_decides_140) := rfl
theorem lb_X7_decides_147 : xm_lk kb_X7_decides 147 = some (156, kX7_decides_147) := rfl
theorem lb_X7_decides_159 : xm_lk kb_X7_decides 159 = some (165, kX7_decides_159) := rfl
theorem lb_X7_decides_168 : xm_lk kb_X7_decides 168 = some (169, kX7_decides_168) := rfl
theorem lb_X7_decides_172 : xm_lk kb_X7_decides 172 = some (173, kX7_decides_172) := rfl
theorem lb_X7_decides_74 : xm_lk kb_X7_decides 74 = some (79, kX7_decides_74) := rfl
theorem lb_X7_decides_131 : xm_lk kb_X7_decides 131 = some (137, kX7_decides_131) := rfl
theorem lb_X7_decides_1 : xm_lk kb_X7_decides 1 = none := rfl
theorem lb_X7_decides_8 : xm_lk kb_X7_decides 8 = none := rfl
theorem lb_X7_decides_21 : xm_lk kb_X7_decides 21 = none := rfl
theorem lb_X7_decides_30 : xm_lk kb_X7_decides 30 = none := rfl
theorem lb_X7_decides_39 : xm_lk kb_X7_decides 39 = none := rfl
theorem lb_X7_decides_46 : xm_lk kb_X7_decides 46 = none := rfl
theorem lb_X7_decides_59 : xm_lk kb_X7_decides 59 = none := rfl
theorem lb_X7_decides_79 : xm_lk kb_X7_decides 79 = none := rfl
theorem lb_X7_decides_99 : xm_lk kb_X7_decides 99 = none := rfl
theorem lb_X7_decides_105 : xm_lk kb_X7_decides 105 = none := rfl
theorem lb_X7_decides_115 : xm_lk kb_X7_decides 115 = none := rfl
theorem lb_X7_decides_137 : xm_lk kb_X7_decides 137 = none := rfl
theorem lb_X7_decides_141 : xm_lk kb_X7_decides 141 = none := rfl
theorem lb_X7_decides_156 : xm_lk kb_X7_decides 156 = none := rfl
theorem lb_X7_decides_165 : xm_lk kb_X7_decides 165 = none := rfl
theorem lb_X7_decides_169 : xm_lk kb_X7_decides 169 = none := rfl
theorem lb_X7_decides_173 : xm_lk kb_X7_decides 173 = none := rfl
theorem kc_X7_decides : xm_oks cX7_decides 7 6 3 false kb_X7_decides := (List.forall_mem_cons.mpr ⟨bk_X7_decides_0, (List.forall_mem_cons.mpr ⟨bk_X7_decides_4, (List.forall_mem_cons.mpr ⟨bk_X7_decides_11, (List.forall_mem_cons.mpr ⟨bk_X7_decides_27, (List.forall_mem_cons.mpr ⟨bk_X7_decides_33, (List.forall_mem_cons.mpr ⟨bk_X7_decides_42, (List.forall_mem_cons.mpr ⟨bk_X7_decides_49, (List.forall_mem_cons.mpr ⟨bk_X7_decides_62, (List.forall_mem_cons.mpr ⟨bk_X7_decides_82, (List.forall_mem_cons.mpr ⟨bk_X7_decides_89, (List.forall_mem_cons.mpr ⟨bk_X7_decides_102, (List.forall_mem_cons.mpr ⟨bk_X7_decides_108, (List.forall_mem_cons.mpr ⟨bk_X7_decides_118, (List.forall_mem_cons.mpr ⟨bk_X7_decides_140, (List.forall_mem_cons.mpr ⟨bk_X7_decides_147, (List.forall_mem_cons.mpr ⟨bk_X7_decides_159, (List.forall_mem_cons.mpr ⟨bk_X7_decides_168, (List.forall_mem_cons.mpr ⟨bk_X7_decides_172, (List.forall_mem_cons.mpr ⟨bk_X7_decides_74, (List.forall_mem_cons.mpr ⟨bk_X7_decides_131, (fun _ h => absurd h List.not_mem_nil)⟩)⟩)⟩)⟩)⟩)⟩)⟩)⟩)⟩)⟩)⟩)⟩)⟩)⟩)⟩)⟩)⟩)⟩)⟩)⟩)
def kb_X7_leaves : List (Nat × Nat × List xm_I) := [(0, 4, kX7_leaves_0), (7, 17, kX7_leaves_7), (20, 21, kX7_leaves_20)]
theorem lb_X7_leaves_0 : xm_lk kb_X7_leaves 0 = some (4, kX7_leaves_0) := rfl
theorem lb_X7_leaves_7 : xm_lk kb_X7_leaves 7 = some (17, kX7_leaves_7) := rfl
theorem lb_X7_leaves_20 : xm_lk kb_X7_leaves 20 = some (21, kX7_leaves_20) := rfl
theorem lb_X7_leaves_4 : xm_lk kb_X7_leaves 4 = none := rfl
theorem lb_X7_leaves_17 : xm_lk kb_X7_leaves 17 = none := rfl
theorem lb_X7_leaves_21 : xm_lk kb_X7_leaves 21 = none := rfl
theorem kc_X7_leaves : xm_oks cX7_leaves 7 3 3 false kb_X7_leaves := (List.forall_mem_cons.mpr ⟨bk_X7_leaves_0, (List.forall_mem_cons.mpr ⟨bk_X7_leaves_7, (List.forall_mem_cons.mpr ⟨bk_X7_leaves_20, (fun _ h => absurd h List.not_mem_nil)⟩)⟩)⟩)
def kb_X7_meetsGates : List (Nat × Nat × List xm_I) := [(0, 2, kX7_meetsGates_0), (2, 14, kX7_meetsGates_2), (17, 23, kX7_meetsGates_17), (26, 29, kX7_meetsGates_26), (32, 38, kX7_meetsGates_32), (41, 51, kX7_meetsGates_41), (54, 61, kX7_meetsGates_54), (61, 62, kX7_meetsGates_61), (62, 69, kX7_meetsGates_62), (72, 78, kX7_meetsGates_72), (78, 84, kX7_meetsGates_78), (87, 95, kX7_meetsGates_87), (95, 96, kX7_meetsGates_95), (99, 102, kX7_meetsGates_99), (105, 110, kX7_meetsGates_105), (113, 124, kX7_meetsGates_113), (134, 140, kX7_meetsGates_134), (140, 141, kX7_meetsGates_140), (124, 131, kX7_meetsGates_124)]
theorem lb_X7_meetsGates_0 : xm_lk kb_X7_meetsGates 0 = some (2, kX7_meetsGates_0) := rfl
theorem lb_X7_meetsGates_2 : xm_lk kb_X7_meetsGates 2 = some (14, kX7_meetsGates_2) := rfl
theorem lb_X7_meetsGates_17 : xm_lk kb_X7_meetsGates 17 = some (23, kX7_meetsGates_17) := rfl
theorem lb_X7_meetsGates_26 : xm_lk kb_X7_meetsGates 26 = some (29, kX7_meetsGates_26) := rfl
theorem lb_X7_meetsGates_32 : xm_lk kb_X7_meetsGates 32 = some (38, kX7_meetsGates_32) := rfl
theorem lb_X7_meetsGates_41 : xm_lk kb_X7_meetsGates 41 = some (51, kX7_meetsGates_41) := rfl
theorem lb_X7_meetsGates_54 : xm_lk kb_X7_meetsGates 54 = some (61, kX7_meetsGates_54) := rfl
theorem lb_X7_meetsGates_61 : xm_lk kb_X7_meetsGates 61 = some (62, kX7_meetsGates_61) := rfl
theorem lb_X7_meetsGates_62 : xm_lk kb_X7_meetsGates 62 = some (69, kX7_meetsGates_62) := rfl
theorem lb_X7_meetsGates_72 : xm_lk kb_X7_meetsGates 72 = some (78, kX7_meetsGates_72) := rfl
theorem lb_X7_meetsGates_78 : xm_lk kb_X7_meetsGates 78 = some (84, kX7_meetsGates_78) := rfl
theorem lb_X7_meetsGates_87 : xm_lk kb_X7_meetsGates 87 = some (95, kX7_meetsGates_87) := rfl
theorem lb_X7_meetsGates_95 : xm_lk kb_X7_meetsGates 95 = some (96, kX7_meetsGates_95) := rfl
theorem lb_X7_meetsGates_99 : xm_lk kb_X7_meetsGates 99 = some (102, kX7_meetsGates_99) := rfl
theorem lb_X7_meetsGates_105 : xm_lk kb_X7_meetsGates 105 = some (110, kX7_meetsGates_105) := rfl
theorem lb_X7_meetsGates_113 : xm_lk kb_X7_meetsGates 113 = some (124, kX7_meetsGates_113) := rfl
theorem lb_X7_meetsGates_134 : xm_lk kb_X7_meetsGates 134 = some (140, kX7_meetsGates_134) := rfl
theorem lb_X7_meetsGates_140 : xm_lk kb_X7_meetsGates 140 = some (141, kX7_meetsGates_140) := rfl
theorem lb_X7_meetsGates_124 : xm_lk kb_X7_meetsGates 124 = some (131, kX7_meetsGates_124) := rfl
theorem lb_X7_meetsGates_14 : xm_lk kb_X7_meetsGates 14 = none := rfl
theorem lb_X7_meetsGates_23 : xm_lk kb_X7_meetsGates 23 = none := rfl
theorem lb_X7_meetsGates_29 : xm_lk kb_X7_meetsGates 29 = none := rfl
theorem lb_X7_meetsGates_38 : xm_lk kb_X7_meetsGates 38 = none := rfl
theorem lb_X7_meetsGates_51 : xm_lk kb_X7_meetsGates 51 = none := rfl
theorem lb_X7_meetsGates_69 : xm_lk kb_X7_meetsGates 69 = none := rfl
theorem lb_X7_meetsGates_84 : xm_lk kb_X7_meetsGates 84 = none := rfl
theorem lb_X7_meetsGates_96 : xm_lk kb_X7_meetsGates 96 = none := rfl
theorem lb_X7_meetsGates_102 : xm_lk kb_X7_meetsGates 102 = none := rfl
theorem lb_X7_meetsGates_110 : xm_lk kb_X7_meetsGates 110 = none := rfl
theorem lb_X7_meetsGates_131 : xm_lk kb_X7_meetsGates 131 = none := rfl
theorem lb_X7_meetsGates_141 : xm_lk kb_X7_meetsGates 141 = none := rfl
theorem kc_X7_meetsGates : xm_oks cX7_meetsGates 7 4 3 false kb_X7_meetsGates := (List.forall_mem_cons.mpr ⟨bk_X7_meetsGates_0, (List.forall_mem_cons.mpr ⟨bk_X7_meetsGates_2, (List.forall_mem_cons.mpr ⟨bk_X7_meetsGates_17, (List.forall_mem_cons.mpr ⟨bk_X7_meetsGates_26, (List.forall_mem_cons.mpr ⟨bk_X7_meetsGates_32, (List.forall_mem_cons.mpr ⟨bk_X7_meetsGates_41, (List.forall_mem_cons.mpr ⟨bk_X7_meetsGates_54, (List.forall_mem_cons.mpr ⟨bk_X7_meetsGates_61, (List.forall_mem_cons.mpr ⟨bk_X7_meetsGates_62, (List.forall_mem_cons.mpr ⟨bk_X7_meetsGates_72, (List.forall_mem_cons.mpr ⟨bk_X7_meetsGates_78, (List.forall_mem_cons.mpr ⟨bk_X7_meetsGates_87, (List.forall_mem_cons.mpr ⟨bk_X7_meetsGates_95, (List.forall_mem_cons.mpr ⟨bk_X7_meetsGates_99, (List.forall_mem_cons.mpr ⟨bk_X7_meetsGates_105, (List.forall_mem_cons.mpr ⟨bk_X7_meetsGates_113, (List.forall_mem_cons.mpr ⟨bk_X7_meetsGates_134, (List.forall_mem_cons.mpr ⟨bk_X7_meetsGates_140, (List.forall_mem_cons.mpr ⟨bk_X7_meetsGates_124, (fun _ h => absurd h List.not_mem_nil)⟩)⟩)⟩)⟩)⟩)⟩)⟩)⟩)⟩)⟩)⟩)⟩)⟩)⟩)⟩)⟩)⟩)⟩)⟩)
def kb_X7_zeroes : List (Nat × Nat × List xm_I) := [(0, 14, kX7_zeroes_0), (20, 21, kX7_zeroes_20), (21, 36, kX7_zeroes_21), (48, 49, kX7_zeroes_48), (49, 53, kX7_zeroes_49), (53, 66, kX7_zeroes_53), (82, 95, kX7_zeroes_82), (14, 20, kX7_zeroes_14), (36, 48, kX7_zeroes_36), (66, 79, kX7_zeroes_66), (95, 98, kX7_zeroes_95), (79, 82, kX7_zeroes_79)]
theorem lb_X7_zeroes_0 : xm_lk kb_X7_zeroes 0 = some (14, kX7_zeroes_0) := rfl
theorem lb_X7_zeroes_20 : xm_lk kb_X7_zeroes 20 = some (21, kX7_zeroes_20) := rfl
theorem lb_X7_zeroes_21 : xm_lk kb_X7_zeroes 21 = some (36, kX7_zeroes_21) := rfl
theorem lb_X7_zeroes_48 : xm_lk kb_X7_zeroes 48 = some (49, kX7_zeroes_48) := rfl
theorem lb_X7_zeroes_49 : xm_lk kb_X7_zeroes 49 = some (53, kX7_zeroes_49) := rfl
theorem lb_X7_zeroes_53 : xm_lk kb_X7_zeroes 53 = some (66, kX7_zeroes_53) := rfl
theorem lb_X7_zeroes_82 : xm_lk kb_X7_zeroes 82 = some (95, kX7_zeroes_82) := rfl
theorem lb_X7_zeroes_14 : xm_lk kb_X7_zeroes 14 = some (20, kX7_zeroes_14) := rfl
theorem lb_X7_zeroes_36 : xm_lk kb_X7_zeroes 36 = some (48, kX7_zeroes_36) := rfl
theorem lb_X7_zeroes_66 : xm_lk kb_X7_zeroes 66 = some (79, kX7_zeroes_66) := rfl
theorem lb_X7_zeroes_95 : xm_lk kb_X7_zeroes 95 = some (98, kX7_zeroes_95) := rfl
theorem lb_X7_zeroes_79 : xm_lk kb_X7_zeroes 79 = some (82, kX7_zeroes_79) := rfl
theorem lb_X7_zeroes_98 : xm_lk kb_X7_zeroes 98 = none := rfl
theorem kc_X7_zeroes : xm_oks cX7_zeroes 7 4 3 false kb_X7_zeroes := (List.forall_mem_cons.mpr ⟨bk_X7_zeroes_0, (List.forall_mem_cons.mpr ⟨bk_X7_zeroes_20, (List.forall_mem_cons.mpr ⟨bk_X7_zeroes_21, (List.forall_mem_cons.mpr ⟨bk_X7_zeroes_48, (List.forall_mem_cons.mpr ⟨bk_X7_zeroes_49, (List.forall_mem_cons.mpr ⟨bk_X7_zeroes_53, (List.forall_mem_cons.mpr ⟨bk_X7_zeroes_82, (List.forall_mem_cons.mpr ⟨bk_X7_zeroes_14, (List.forall_mem_cons.mpr ⟨bk_X7_zeroes_36, (List.forall_mem_cons.mpr ⟨bk_X7_zeroes_66, (List.forall_mem_cons.mpr ⟨bk_X7_zeroes_95, (List.forall_mem_cons.mpr ⟨bk_X7_zeroes_79, (fun _ h => absurd h List.not_mem_nil)⟩)⟩)⟩)⟩)⟩)⟩)⟩)⟩)⟩)⟩)⟩)⟩)
def kb_X7_tick : List (Nat × Nat × List xm_I) := [(0, 10, kX7_tick_0), (12, 24, kX7_tick_12), (27, 36, kX7_tick_27), (39, 46, kX7_tick_39), (49, 55, kX7_tick_49), (55, 58, kX7_tick_55), (58, 71, kX7_tick_58), (88, 95, kX7_tick_88), (98, 100, kX7_tick_98), (103, 106, kX7_tick_103), (106, 118, kX7_tick_106), (121, 127, kX7_tick_121), (127, 140, kX7_tick_127), (144, 147, kX7_tick_144), (147, 151, kX7_tick_147), (154, 160, kX7_tick_154), (160, 164, kX7_tick_160), (164, 176, kX7_tick_164), (180, 186, kX7_tick_180), (189, 201, kX7_tick_189), (201, 203, kX7_tick_201), (206, 209, kX7_tick_206), (209, 215, kX7_tick_209), (215, 217, kX7_tick_215), (217, 229, kX7_tick_217), (232, 237, kX7_tick_232), (240, 246, kX7_tick_240), (246, 248, kX7_tick_246), (248, 260, kX7_tick_248), (263, 269, kX7_tick_263), (272, 284, kX7_tick_272), (290, 298, kX7_tick_290), (298, 299, kX7_tick_298), (302, 308, kX7_tick_302), (308, 317, kX7_tick_308), (317, 318, kX7_tick_317), (321, 323, kX7_tick_321), (323, 335, kX7_tick_323), (340, 352, kX7_tick_340), (357, 362, kX7_tick_357), (365, 366, kX7_tick_365), (369, 377, kX7_tick_369), (377, 378, kX7_tick_377), (381, 387, kX7_tick_381), (387, 389, kX7_tick_387), (10, 12, kX7_tick_10), (71, 82, kX7_tick_71), (140, 141, kX7_tick_140), (176, 177, kX7_tick_176), (284, 287, kX7_tick_284), (335, 337, kX7_tick_335), (352, 354, kX7_tick_352), (82, 88, kX7_tick_82)]
theorem lb_X7_tick_0 : xm_lk kb_X7_tick 0 = some (10, kX7_tick_0) := rfl
theorem lb_X7_tick_12 : xm_lk kb_X7_tick 12 = some (24, kX7_tick_12) := rfl
theorem lb_X7_tick_27 : xm_lk kb_X7_tick 27 = some (36, kX7_tick_27) := rfl
theorem lb_X7_tick_39 : xm_lk kb_X7_tick 39 = some (46, kX7_tick_39) := rfl
theorem lb_X7_tick_49 : xm_lk kb_X7_tick 49 = some (55, kX7_tick_49) := rfl
theorem lb_X7_tick_55 : xm_lk kb_X7_tick 55 = some (58, kX7_tick_55) := rfl
theorem lb_X7_tick_58 : xm_lk kb_X7_tick 58 = some (71, kX7_tick_58) := rfl
theorem lb_X7_tick_88 : xm_lk kb_X7_tick 88 = some (95, kX7_tick_88) := rfl
theorem lb_X7_tick_98 : xm_lk kb_X7_tick 98 = some (100, kX7_tick_98) := rfl
theorem lb_X7_tick_103 : xm_lk kb_X7_tick 103 = some (106, kX7_tick_103) := rfl
theorem lb_X7_tick_106 : xm_lk kb_X7_tick 106 = some (118, kX7_tick_106) := rfl
theorem lb_X7_tick_121 : xm_lk kb_X7_tick 121 = some (127, kX7_tick_121) := rfl
theorem lb_X7_tick_127 : xm_lk kb_X7_tick 127 = some (140, kX7_tick_127) := rfl
theorem lb_X7_tick_144 : xm_lk kb_X7_tick 144 = some (147, kX7_tick_144) := rfl
theorem lb_X7_tick_147 : xm_lk kb_X7_tick 147 = some (151, kX7_tick_147) := rfl
theorem lb_X7_tick_154 : xm_lk kb_X7_tick 154 = some (160, kX7_tick_154) := rfl
theorem lb_X7_tick_160 : xm_lk kb_X7_tick 160 = some (164, kX7_tick_160) := rfl
theorem lb_X7_tick_164 : xm_lk kb_X7_tick 164 = some (176, kX7_tick_164) := rfl
theorem lb_X7_tick_180 : xm_lk kb_X7_tick 180 = some (186, kX7_tick_180) := rfl
theorem lb_X7_tick_189 : xm_lk kb_X7_tick 189 = some (201, kX7_tick_189) := rfl
theorem lb_X7_tick_201 : xm_lk kb_X7_tick 201 = some (203, kX7_tick_201) := rfl
theorem lb_X7_tick_206 : xm_lk kb_X7_tick 206 = some (209, kX7_tick_206) := rfl
theorem lb_X7_tick_209 : xm_lk kb_X7_tick 209 = some (215, kX7_tick_209) := rfl
theorem lb_X7_tick_215 : xm_lk kb_X7_tick 215 = some (217, kX7_tick_215) := rfl
theorem lb_X7_tick_217 : xm_lk kb_X7_tick 217 = some (229, kX7_tick_217) := rfl
theorem lb_X7_tick_232 : xm_lk kb_X7_tick 232 = some (237, kX7_tick_232) := rfl
theorem lb_X7_tick_240 : xm_lk kb_X7_tick 240 = some (246, kX7_tick_240) := rfl
theorem lb_X7_tick_246 : xm_lk kb_X7_tick 246 = some (248, kX7_tick_246) := rfl
theorem lb_X7_tick_248 : xm_lk kb_X7_tick 248 = some (260, kX7_tick_248) := rfl
theorem lb_X7_tick_263 : xm_lk kb_X7_tick 263 = some (269, kX7_tick_263) := rfl
theorem lb_X7_tick_272 : xm_lk kb_X7_tick 272 = some (284, kX7_tick_272) := rfl
theorem lb_X7_tick_290 : xm_lk kb_X7_tick 290 = some (298, kX7_tick_290) := rfl
theorem lb_X7_tick_298 : xm_lk kb_X7_tick 298 = some (299, kX7_tick_298) := rfl
theorem lb_X7_tick_302 : xm_lk kb_X7_tick 302 = some (308, kX7_tick_302) := rfl
theorem lb_X7_tick_308 : xm_lk kb_X7_tick 308 = some (317, kX7_tick_308) := rfl
theorem lb_X7_tick_317 : xm_lk kb_X7_tick 317 = some (318, kX7_tick_317) := rfl
theorem lb_X7_tick_321 : xm_lk kb_X7_tick 321 = some (323, kX7_tick_321) := rfl
theorem lb_X7_tick_323 : xm_lk kb_X7_tick 323 = some (335, kX7_tick_323) := rfl
theorem lb_X7_tick_340 : xm_lk kb_X7_tick 340 = some (352, kX7_tick_340) := rfl
theorem lb_X7_tick_357 : xm_lk kb_X7_tick 357 = some (362, kX7_tick_357) := rfl
theorem lb_X7_tick_365 : xm_lk kb_X7_tick 365 = some (366, kX7_tick_365) := rfl
theorem lb_X7_tick_369 : xm_lk kb_X7_tick 369 = some (377, kX7_tick_369) := rfl
theorem lb_X7_tick_377 : xm_lk kb_X7_tick 377 = some (378, kX7_tick_377) := rfl
theorem lb_X7_tick_381 : xm_lk kb_X7_tick 381 = some (387, kX7_tick_381) := rfl
theorem lb_X7_tick_387 : xm_lk kb_X7_tick 387 = some (389, kX7_tick_387) := rfl
theorem lb_X7_tick_10 : xm_lk kb_X7_tick 10 = some (12, kX7_tick_10) := rfl
theorem lb_X7_tick_71 : xm_lk kb_X7_tick 71 = some (82, kX7_tick_71) := rfl
theorem lb_X7_tick_140 : xm_lk kb_X7_tick 140 = some (141, kX7_tick_140) := rfl
theorem lb_X7_tick_176 : xm_lk kb_X7_tick 176 = some (177, kX7_tick_176) := rfl
theorem lb_X7_tick_284 : xm_lk kb_X7_tick 284 = some (287, kX7_tick_284) := rfl
theorem lb_X7_tick_335 : xm_lk kb_X7_tick 335 = some (337, kX7_tick_335) := rfl
theorem lb_X7_tick_352 : xm_lk kb_X7_tick 352 = some (354, kX7_tick_352) := rfl
theorem lb_X7_tick_82 : xm_lk kb_X7_tick 82 = some (88, kX7_tick_82) := rfl
theorem lb_X7_tick_24 : xm_lk kb_X7_tick 24 = none := rfl
theorem lb_X7_tick_36 : xm_lk kb_X7_tick 36 = none := rfl
theorem lb_X7_tick_46 : xm_lk kb_X7_tick 46 = none := rfl
theorem lb_X7_tick_95 : xm_lk kb_X7_tick 95 = none := rfl
theorem lb_X7_tick_100 : xm_lk kb_X7_tick 100 = none := rfl
theorem lb_X7_tick_118 : xm_lk kb_X7_tick 118 = none := rfl
theorem lb_X7_tick_141 : xm_lk kb_X7_tick 141 = none := rfl
theorem lb_X7_tick_151 : xm_lk kb_X7_tick 151 = none := rfl
theorem lb_X7_tick_177 : xm_lk kb_X7_tick 177 = none := rfl
theorem lb_X7_tick_186 : xm_lk kb_X7_tick 186 = none := rfl
theorem lb_X7_tick_203 : xm_lk kb_X7_tick 203 = none := rfl
theorem lb_X7_tick_229 : xm_lk kb_X7_tick 229 = none := rfl
theorem lb_X7_tick_237 : xm_lk kb_X7_tick 237 = none := rfl
theorem lb_X7_tick_260 : xm_lk kb_X7_tick 260 = none := rfl
theorem lb_X7_tick_269 : xm_lk kb_X7_tick 269 = none := rfl
theorem lb_X7_tick_287 : xm_lk kb_X7_tick 287 = none := rfl
theorem lb_X7_tick_299 : xm_lk kb_X7_tick 299 = none := rfl
theorem lb_X7_tick_318 : xm_lk kb_X7_tick 318 = none := rfl
theorem lb_X7_tick_337 : xm_lk kb_X7_tick 337 = none := rfl
theorem lb_X7_tick_354 : xm_lk kb_X7_tick 354 = none := rfl
theorem lb_X7_tick_362 : xm_lk kb_X7_tick 362 = none := rfl
theorem lb_X7_tick_366 : xm_lk kb_X7_tick 366 = none := rfl
theorem lb_X7_tick_378 : xm_lk kb_X7_tick 378 = none := rfl
theorem lb_X7_tick_389 : xm_lk kb_X7_tick 389 = none := rfl
theorem kc_X7_tick : xm_oks cX7_tick 7 4 0 false kb_X7_tick := (List.forall_mem_cons.mpr ⟨bk_X7_tick_0, (List.forall_mem_cons.mpr ⟨bk_X7_tick_12, (List.forall_mem_cons.mpr ⟨bk_X7_tick_27, (List.forall_mem_cons.mpr ⟨bk_X7_tick_39, (List.forall_mem_cons.mpr ⟨bk_X7_tick_49, (List.forall_mem_cons.mpr ⟨bk_X7_tick_55, (List.forall_mem_cons.mpr ⟨bk_X7_tick_58, (List.forall_mem_cons.mpr ⟨bk_X7_tick_88, (List.forall_mem_cons.mpr ⟨bk_X7_tick_98, (List.forall_mem_cons.mpr ⟨bk_X7_tick_103, (List.forall_mem_cons.mpr ⟨bk_X7_tick_106, (List.forall_mem_cons.mpr ⟨bk_X7_tick_121, (List.forall_mem_cons.mpr ⟨bk_X7_tick_127, (List.forall_mem_cons.mpr ⟨bk_X7_tick_144, (List.forall_mem_cons.mpr ⟨bk_X7_tick_147, (List.forall_mem_cons.mpr ⟨bk_X7_tick_154, (List.forall_mem_cons.mpr ⟨bk_X7_tick_160, (List.forall_mem_cons.mpr ⟨bk_X7_tick_164, (List.forall_mem_cons.mpr ⟨bk_X7_tick_180, (List.forall_mem_cons.mpr ⟨bk_X7_tick_189, (List.forall_mem_cons.mpr ⟨bk_X7_tick_201, (List.forall_mem_cons.mpr ⟨bk_X7_tick_206, (List.forall_mem_cons.mpr ⟨bk_X7_tick_209, (List.forall_mem_cons.mpr ⟨bk_X7_tick_215, (List.forall_mem_cons.mpr ⟨bk_X7_tick_217, (List.forall_mem_cons.mpr ⟨bk_X7_tick_232, (List.forall_mem_cons.mpr ⟨bk_X7_tick_240, (List.forall_mem_cons.mpr ⟨bk_X7_tick_246, (List.forall_mem_cons.mpr ⟨bk_X7_tick_248, (List.forall_mem_cons.mpr ⟨bk_X7_tick_263, (List.forall_mem_cons.mpr ⟨bk_X7_tick_272, (List.forall_mem_cons.mpr ⟨bk_X7_tick_290, (List.forall_mem_cons.mpr ⟨bk_X7_tick_298, (List.forall_mem_cons.mpr ⟨bk_X7_tick_302, (List.forall_mem_cons.mpr ⟨bk_X7_tick_308, (List.forall_mem_cons.mpr ⟨bk_X7_tick_317, (List.forall_mem_cons.mpr ⟨bk_X7_tick_321, (List.forall_mem_cons.mpr ⟨bk_X7_tick_323, (List.forall_mem_cons.mpr ⟨bk_X7_tick_340, (List.forall_mem_cons.mpr ⟨bk_X7_tick_357, (List.forall_mem_cons.mpr ⟨bk_X7_tick_365, (List.forall_mem_cons.mpr ⟨bk_X7_tick_369, (List.forall_mem_cons.mpr ⟨bk_X7_tick_377, (List.forall_mem_cons.mpr ⟨bk_X7_tick_381, (List.forall_mem_cons.mpr ⟨bk_X7_tick_387, (List.forall_mem_cons.mpr ⟨bk_X7_tick_10, (List.forall_mem_cons.mpr ⟨bk_X7_tick_71, (List.forall_mem_cons.mpr ⟨bk_X7_tick_140, (List.forall_mem_cons.mpr ⟨bk_X7_tick_176, (List.forall_mem_cons.mpr ⟨bk_X7_tick_284, (List.forall_mem_cons.mpr ⟨bk_X7_tick_335, (List.forall_mem_cons.mpr ⟨bk_X7_tick_352, (List.forall_mem_cons.mpr ⟨bk_X7_tick_82, (fun _ h => absurd h List.not_mem_nil)⟩)⟩)⟩)⟩)⟩)⟩)⟩)⟩)⟩)⟩)⟩)⟩)⟩)⟩)⟩)⟩)⟩)⟩)⟩)⟩)⟩)⟩)⟩)⟩)⟩)⟩)⟩)⟩)⟩)⟩)⟩)⟩)⟩)⟩)⟩)⟩)⟩)⟩)⟩)⟩)⟩)⟩)⟩)⟩)⟩)⟩)⟩)⟩)⟩)⟩)⟩)⟩)⟩)
def kb_X7_step : List (Nat × Nat × List xm_I) := [(0, 11, kX7_step_0), (14, 15, kX7_step_14), (18, 30, kX7_step_18), (40, 41, kX7_step_40), (41, 42, kX7_step_41), (45, 48, kX7_step_45), (48, 50, kX7_step_48), (50, 54, kX7_step_50), (54, 61, kX7_step_54), (64, 72, kX7_step_64), (72, 74, kX7_step_72), (30, 40, kX7_step_30)]
theorem lb_X7_step_0 : xm_lk kb_X7_step 0 = some (11, kX7_step_0) := rfl
theorem lb_X7_step_14 : xm_lk kb_X7_step 14 = some (15, kX7_step_14) := rfl
theorem lb_X7_step_18 : xm_lk kb_X7_step 18 = some (30, kX7_step_18) := rfl
theorem lb_X7_step_40 : xm_lk kb_X7_step 40 = some (41, kX7_step_40) := rfl
theorem lb_X7_step_41 : xm_lk kb_X7_step 41 = some (42, kX7_step_41) := rfl
theorem lb_X7_step_45 : xm_lk kb_X7_step 45 = some (48, kX7_step_45) := rfl
theorem lb_X7_step_48 : xm_lk kb_X7_step 48 = some (50, kX7_step_48) := rfl
theorem lb_X7_step_50 : xm_lk kb_X7_step 50 = some (54, kX7_step_50) := rfl
theorem lb_X7_step_54 : xm_lk kb_X7_step 54 = some (61, kX7_step_54) := rfl
theorem lb_X7_step_64 : xm_lk kb_X7_step 64 = some (72, kX7_step_64) := rfl
theorem lb_X7_step_72 : xm_lk kb_X7_step 72 = some (74, kX7_step_72) := rfl
theorem lb_X7_step_30 : xm_lk kb_X7_step 30 = some (40, kX7_step_30) := rfl
theorem lb_X7_step_11 : xm_lk kb_X7_step 11 = none := rfl
theorem lb_X7_step_15 : xm_lk kb_X7_step 15 = none := rfl
theorem lb_X7_step_42 : xm_lk kb_X7_step 42 = none := rfl
theorem lb_X7_step_61 : xm_lk kb_X7_step 61 = none := rfl
theorem lb_X7_step_74 : xm_lk kb_X7_step 74 = none := rfl
theorem kc_X7_step : xm_oks cX7_step 7 4 0 false kb_X7_step := (List.forall_mem_cons.mpr ⟨bk_X7_step_0, (List.forall_mem_cons.mpr ⟨bk_X7_step_14, (List.forall_mem_cons.mpr ⟨bk_X7_step_18, (List.forall_mem_cons.mpr ⟨bk_X7_step_40, (List.forall_mem_cons.mpr ⟨bk_X7_step_41, (List.forall_mem_cons.mpr ⟨bk_X7_step_45, (List.forall_mem_cons.mpr ⟨bk_X7_step_48, (List.forall_mem_cons.mpr ⟨bk_X7_step_50, (List.forall_mem_cons.mpr ⟨bk_X7_step_54, (List.forall_mem_cons.mpr ⟨bk_X7_step_64, (List.forall_mem_cons.mpr ⟨bk_X7_step_72, (List.forall_mem_cons.mpr ⟨bk_X7_step_30, (fun _ h => absurd h List.not_mem_nil)⟩)⟩)⟩)⟩)⟩)⟩)⟩)⟩)⟩)⟩)⟩)⟩)
def kb_X7_changes : List (Nat × Nat × List xm_I) := [(0, 8, kX7_changes_0), (8, 9, kX7_changes_8), (9, 14, kX7_changes_9), (17, 18, kX7_changes_17), (21, 27, kX7_changes_21), (30, 35, kX7_changes_30), (35, 37, kX7_changes_35), (37, 48, kX7_changes_37), (48, 54, kX7_changes_48)]
theorem lb_X7_changes_0 : xm_lk kb_X7_changes 0 = some (8, kX7_changes_0) := rfl
theorem lb_X7_changes_8 : xm_lk kb_X7_changes 8 = some (9, kX7_changes_8) := rfl
theorem lb_X7_changes_9 : xm_lk kb_X7_changes 9 = some (14, kX7_changes_9) := rfl
theorem lb_X7_changes_17 : xm_lk kb_X7_changes 17 = some (18, kX7_changes_17) := rfl
theorem lb_X7_changes_21 : xm_lk kb_X7_changes 21 = some (27, kX7_changes_21) := rfl
theorem lb_X7_changes_30 : xm_lk kb_X7_changes 30 = some (35, kX7_changes_30) := rfl
theorem lb_X7_changes_35 : xm_lk kb_X7_changes 35 = some (37, kX7_changes_35) := rfl
theorem lb_X7_changes_37 : xm_lk kb_X7_changes 37 = some (48, kX7_changes_37) := rfl
theorem lb_X7_changes_48 : xm_lk kb_X7_changes 48 = some (54, kX7_changes_48) := rfl
theorem lb_X7_changes_14 : xm_lk kb_X7_changes 14 = none := rfl
theorem lb_X7_changes_18 : xm_lk kb_X7_changes 18 = none := rfl
theorem lb_X7_changes_27 : xm_lk kb_X7_changes 27 = none := rfl
theorem lb_X7_changes_54 : xm_lk kb_X7_changes 54 = none := rfl
theorem kc_X7_changes : xm_oks cX7_changes 7 5 1 false kb_X7_changes := (List.forall_mem_cons.mpr ⟨bk_X7_changes_0, (List.forall_mem_cons.mpr ⟨bk_X7_changes_8, (List.forall_mem_cons.mpr ⟨bk_X7_changes_9, (List.forall_mem_cons.mpr ⟨bk_X7_changes_17, (List.forall_mem_cons.mpr ⟨bk_X7_changes_21, (List.forall_mem_cons.mpr ⟨bk_X7_changes_30, (List.forall_mem_cons.mpr ⟨bk_X7_changes_35, (List.forall_mem_cons.mpr ⟨bk_X7_changes_37, (List.forall_mem_cons.mpr ⟨bk_X7_changes_48, (fun _ h => absurd h List.not_mem_nil)⟩)⟩)⟩)⟩)⟩)⟩)⟩)⟩)⟩)
def kb_X7_jam : List (Nat × Nat × List xm_I) := [(0, 9, kX7_jam_0), (12, 13, kX7_jam_12)]
theorem lb_X7_jam_0 : xm_lk kb_X7_jam 0 = some (9, kX7_jam_0) := rfl
theorem lb_X7_jam_12 : xm_lk kb_X7_jam 12 = some (13, kX7_jam_12) := rfl
theorem lb_X7_jam_9 : xm_lk kb_X7_jam 9 = none := rfl
theorem lb_X7_jam_13 : xm_lk kb_X7_jam 13 = none := rfl
theorem kc_X7_jam : xm_oks cX7_jam 7 3 1 false kb_X7_jam := (List.forall_mem_cons.mpr ⟨bk_X7_jam_0, (List.forall_mem_cons.mpr ⟨bk_X7_jam_12, (fun _ h => absurd h List.not_mem_nil)⟩)⟩)
def kb_X7_sensor : List (Nat × Nat × List xm_I) := [(0, 9, kX7_sensor_0), (12, 13, kX7_sensor_12)]
theorem lb_X7_sensor_0 : xm_lk kb_X7_sensor 0 = some (9, kX7_sensor_0) := rfl
theorem lb_X7_sensor_12 : xm_lk kb_X7_sensor 12 = some (13, kX7_sensor_12) := rfl
theorem lb_X7_sensor_9 : xm_lk kb_X7_sensor 9 = none := rfl
theorem lb_X7_sensor_13 : xm_lk kb_X7_sensor 13 = none := rfl
theorem kc_X7_sensor : xm_oks cX7_sensor 7 3 1 false kb_X7_sensor := (List.forall_mem_cons.mpr ⟨bk_X7_sensor_0, (List.forall_mem_cons.mpr ⟨bk_X7_sensor_12, (fun _ h => absurd h List.not_mem_nil)⟩)⟩)
def kb_X7_setLimits : List (Nat × Nat × List xm_I) := [(0, 11, kX7_setLimits_0), (14, 22, kX7_setLimits_14), (25, 32, kX7_setLimits_25), (32, 33, kX7_setLimits_32), (33, 34, kX7_setLimits_33), (37, 41, kX7_setLimits_37), (41, 53, kX7_setLimits_41), (53, 56, kX7_setLimits_53)]
theorem lb_X7_setLimits_0 : xm_lk kb_X7_setLimits 0 = some (11, kX7_setLimits_0) := rfl
theorem lb_X7_setLimits_14 : xm_lk kb_X7_setLimits 14 = some (22, kX7_setLimits_14) := rfl
theorem lb_X7_setLimits_25 : xm_lk kb_X7_setLimits 25 = some (32, kX7_setLimits_25) := rfl
theorem lb_X7_setLimits_32 : xm_lk kb_X7_setLimits 32 = some (33, kX7_setLimits_32) := rfl
theorem lb_X7_setLimits_33 : xm_lk kb_X7_setLimits 33 = some (34, kX7_setLimits_33) := rfl
theorem lb_X7_setLimits_37 : xm_lk kb_X7_setLimits 37 = some (41, kX7_setLimits_37) := rfl
theorem lb_X7_setLimits_41 : xm_lk kb_X7_setLimits 41 = some (53, kX7_setLimits_41) := rfl
theorem lb_X7_setLimits_53 : xm_lk kb_X7_setLimits 53 = some (56, kX7_setLimits_53) := rfl
theorem lb_X7_setLimits_11 : xm_lk kb_X7_setLimits 11 = none := rfl
theorem lb_X7_setLimits_22 : xm_lk kb_X7_setLimits 22 = none := rfl
theorem lb_X7_setLimits_34 : xm_lk kb_X7_setLimits 34 = none := rfl
theorem lb_X7_setLimits_56 : xm_lk kb_X7_setLimits 56 = none := rfl
theorem kc_X7_setLimits : xm_oks cX7_setLimits 7 3 3 false kb_X7_setLimits := (List.forall_mem_cons.mpr ⟨bk_X7_setLimits_0, (List.forall_mem_cons.mpr ⟨bk_X7_setLimits_14, (List.forall_mem_cons.mpr ⟨bk_X7_setLimits_25, (List.forall_mem_cons.mpr ⟨bk_X7_setLimits_32, (List.forall_mem_cons.mpr ⟨bk_X7_setLimits_33, (List.forall_mem_cons.mpr ⟨bk_X7_setLimits_37, (List.forall_mem_cons.mpr ⟨bk_X7_setLimits_41, (List.forall_mem_cons.mpr ⟨bk_X7_setLimits_53, (fun _ h => absurd h List.not_mem_nil)⟩)⟩)⟩)⟩)⟩)⟩)⟩)⟩)
def kb_X7_setTare : List (Nat × Nat × List xm_I) := [(0, 13, kX7_setTare_0), (16, 17, kX7_setTare_16), (20, 25, kX7_setTare_20), (25, 37, kX7_setTare_25), (37, 41, kX7_setTare_37)]
theorem lb_X7_setTare_0 : xm_lk kb_X7_setTare 0 = some (13, kX7_setTare_0) := rfl
theorem lb_X7_setTare_16 : xm_lk kb_X7_setTare 16 = some (17, kX7_setTare_16) := rfl
theorem lb_X7_setTare_20 : xm_lk kb_X7_setTare 20 = some (25, kX7_setTare_20) := rfl
theorem lb_X7_setTare_25 : xm_lk kb_X7_setTare 25 = some (37, kX7_setTare_25) := rfl
theorem lb_X7_setTare_37 : xm_lk kb_X7_setTare 37 = some (41, kX7_setTare_37) := rfl
theorem lb_X7_setTare_13 : xm_lk kb_X7_setTare 13 = none := rfl
theorem lb_X7_setTare_17 : xm_lk kb_X7_setTare 17 = none := rfl
theorem lb_X7_setTare_41 : xm_lk kb_X7_setTare 41 = none := rfl
theorem kc_X7_setTare : xm_oks cX7_setTare 7 3 0 false kb_X7_setTare := (List.forall_mem_cons.mpr ⟨bk_X7_setTare_0, (List.forall_mem_cons.mpr ⟨bk_X7_setTare_16, (List.forall_mem_cons.mpr ⟨bk_X7_setTare_20, (List.forall_mem_cons.mpr ⟨bk_X7_setTare_25, (List.forall_mem_cons.mpr ⟨bk_X7_setTare_37, (fun _ h => absurd h List.not_mem_nil)⟩)⟩)⟩)⟩)⟩)
def kb_X7_item : List (Nat × Nat × List xm_I) := [(0, 8, kX7_item_0), (11, 12, kX7_item_11), (15, 23, kX7_item_15), (26, 27, kX7_item_26), (30, 36, kX7_item_30), (39, 42, kX7_item_39), (42, 43, kX7_item_42), (43, 44, kX7_item_43)]
theorem lb_X7_item_0 : xm_lk kb_X7_item 0 = some (8, kX7_item_0) := rfl
theorem lb_X7_item_11 : xm_lk kb_X7_item 11 = some (12, kX7_item_11) := rfl
theorem lb_X7_item_15 : xm_lk kb_X7_item 15 = some (23, kX7_item_15) := rfl
theorem lb_X7_item_26 : xm_lk kb_X7_item 26 = some (27, kX7_item_26) := rfl
theorem lb_X7_item_30 : xm_lk kb_X7_item 30 = some (36, kX7_item_30) := rfl
theorem lb_X7_item_39 : xm_lk kb_X7_item 39 = some (42, kX7_item_39) := rfl
theorem lb_X7_item_42 : xm_lk kb_X7_item 42 = some (43, kX7_item_42) := rfl
theorem lb_X7_item_43 : xm_lk kb_X7_item 43 = some (44, kX7_item_43) := rfl
theorem lb_X7_item_8 : xm_lk kb_X7_item 8 = none := rfl
theorem lb_X7_item_12 : xm_lk kb_X7_item 12 = none := rfl
theorem lb_X7_item_23 : xm_lk kb_X7_item 23 = none := rfl
theorem lb_X7_item_27 : xm_lk kb_X7_item 27 = none := rfl
theorem lb_X7_item_36 : xm_lk kb_X7_item 36 = none := rfl
theorem lb_X7_item_44 : xm_lk kb_X7_item 44 = none := rfl
theorem kc_X7_item : xm_oks cX7_item 7 3 0 false kb_X7_item := (List.forall_mem_cons.mpr ⟨bk_X7_item_0, (List.forall_mem_cons.mpr ⟨bk_X7_item_11, (List.forall_mem_cons.mpr ⟨bk_X7_item_15, (List.forall_mem_cons.mpr ⟨bk_X7_item_26, (List.forall_mem_cons.mpr ⟨bk_X7_item_30, (List.forall_mem_cons.mpr ⟨bk_X7_item_39, (List.forall_mem_cons.mpr ⟨bk_X7_item_42, (List.forall_mem_cons.mpr ⟨bk_X7_item_43, (fun _ h => absurd h List.not_mem_nil)⟩)⟩)⟩)⟩)⟩)⟩)⟩)⟩)
def kb_X7_isMeasured : List (Nat × Nat × List xm_I) := [(0, 4, kX7_isMeasured_0), (7, 14, kX7_isMeasured_7), (17, 24, kX7_isMeasured_17), (24, 25, kX7_isMeasured_24), (25, 26, kX7_isMeasured_25)]
theorem lb_X7_isMeasured_0 : xm_lk kb_X7_isMeasured 0 = some (4, kX7_isMeasured_0) := rfl
theorem lb_X7_isMeasured_7 : xm_lk kb_X7_isMeasured 7 = some (14, kX7_isMeasured_7) := rfl
theorem lb_X7_isMeasured_17 : xm_lk kb_X7_isMeasured 17 = some (24, kX7_isMeasured_17) := rfl
theorem lb_X7_isMeasured_24 : xm_lk kb_X7_isMeasured 24 = some (25, kX7_isMeasured_24) := rfl
theorem lb_X7_isMeasured_25 : xm_lk kb_X7_isMeasured 25 = some (26, kX7_isMeasured_25) := rfl
theorem lb_X7_isMeasured_4 : xm_lk kb_X7_isMeasured 4 = none := rfl
theorem lb_X7_isMeasured_14 : xm_lk kb_X7_isMeasured 14 = none := rfl
theorem lb_X7_isMeasured_26 : xm_lk kb_X7_isMeasured 26 = none := rfl
theorem kc_X7_isMeasured : xm_oks cX7_isMeasured 7 2 1 false kb_X7_isMeasured := (List.forall_mem_cons.mpr ⟨bk_X7_isMeasured_0, (List.forall_mem_cons.mpr ⟨bk_X7_isMeasured_7, (List.forall_mem_cons.mpr ⟨bk_X7_isMeasured_17, (List.forall_mem_cons.mpr ⟨bk_X7_isMeasured_24, (List.forall_mem_cons.mpr ⟨bk_X7_isMeasured_25, (fun _ h => absurd h List.not_mem_nil)⟩)⟩)⟩)⟩)⟩)
def kb_X7_measured : List (Nat × Nat × List xm_I) := [(0, 8, kX7_measured_0), (11, 12, kX7_measured_11), (15, 21, kX7_measured_15), (24, 25, kX7_measured_24), (28, 35, kX7_measured_28), (38, 41, kX7_measured_38), (41, 42, kX7_measured_41), (42, 43, kX7_measured_42)]
theorem lb_X7_measured_0 : xm_lk kb_X7_measured 0 = some (8, kX7_measured_0) := rfl
theorem lb_X7_measured_11 : xm_lk kb_X7_measured 11 = some (12, kX7_measured_11) := rfl
theorem lb_X7_measured_15 : xm_lk kb_X7_measured 15 = some (21, kX7_measured_15) := rfl
theorem lb_X7_measured_24 : xm_lk kb_X7_measured 24 = some (25, kX7_measured_24) := rfl
theorem lb_X7_measured_28 : xm_lk kb_X7_measured 28 = some (35, kX7_measured_28) := rfl
theorem lb_X7_measured_38 : xm_lk kb_X7_measured 38 = some (41, kX7_measured_38) := rfl
theorem lb_X7_measured_41 : xm_lk kb_X7_measured 41 = some (42, kX7_measured_41) := rfl
theorem lb_X7_measured_42 : xm_lk kb_X7_measured 42 = some (43, kX7_measured_42) := rfl
theorem lb_X7_measured_8 : xm_lk kb_X7_measured 8 = none := rfl
theorem lb_X7_measured_12 : xm_lk kb_X7_measured 12 = none := rfl
theorem lb_X7_measured_21 : xm_lk kb_X7_measured 21 = none := rfl
theorem lb_X7_measured_25 : xm_lk kb_X7_measured 25 = none := rfl
theorem lb_X7_measured_35 : xm_lk kb_X7_measured 35 = none := rfl
theorem lb_X7_measured_43 : xm_lk kb_X7_measured 43 = none := rfl
theorem kc_X7_measured : xm_oks cX7_measured 7 2 0 false kb_X7_measured := (List.forall_mem_cons.mpr ⟨bk_X7_measured_0, (List.forall_mem_cons.mpr ⟨bk_X7_measured_11, (List.forall_mem_cons.mpr ⟨bk_X7_measured_15, (List.forall_mem_cons.mpr ⟨bk_X7_measured_24, (List.forall_mem_cons.mpr ⟨bk_X7_measured_28, (List.forall_mem_cons.mpr ⟨bk_X7_measured_38, (List.forall_mem_cons.mpr ⟨bk_X7_measured_41, (List.forall_mem_cons.mpr ⟨bk_X7_measured_42, (fun _ h => absurd h List.not_mem_nil)⟩)⟩)⟩)⟩)⟩)⟩)⟩)⟩)
def kb_X7_sampleOf : List (Nat × Nat × List xm_I) := [(0, 8, kX7_sampleOf_0), (11, 19, kX7_sampleOf_11), (22, 24, kX7_sampleOf_22), (27, 34, kX7_sampleOf_27), (34, 35, kX7_sampleOf_34), (35, 36, kX7_sampleOf_35), (39, 48, kX7_sampleOf_39), (51, 54, kX7_sampleOf_51), (54, 55, kX7_sampleOf_54), (55, 56, kX7_sampleOf_55)]
theorem lb_X7_sampleOf_0 : xm_lk kb_X7_sampleOf 0 = some (8, kX7_sampleOf_0) := rfl
theorem lb_X7_sampleOf_11 : xm_lk kb_X7_sampleOf 11 = some (19, kX7_sampleOf_11) := rfl
theorem lb_X7_sampleOf_22 : xm_lk kb_X7_sampleOf 22 = some (24, kX7_sampleOf_22) := rfl
theorem lb_X7_sampleOf_27 : xm_lk kb_X7_sampleOf 27 = some (34, kX7_sampleOf_27) := rfl
theorem lb_X7_sampleOf_34 : xm_lk kb_X7_sampleOf 34 = some (35, kX7_sampleOf_34) := rfl
theorem lb_X7_sampleOf_35 : xm_lk kb_X7_sampleOf 35 = some (36, kX7_sampleOf_35) := rfl
theorem lb_X7_sampleOf_39 : xm_lk kb_X7_sampleOf 39 = some (48, kX7_sampleOf_39) := rfl
theorem lb_X7_sampleOf_51 : xm_lk kb_X7_sampleOf 51 = some (54, kX7_sampleOf_51) := rfl
theorem lb_X7_sampleOf_54 : xm_lk kb_X7_sampleOf 54 = some (55, kX7_sampleOf_54) := rfl
theorem lb_X7_sampleOf_55 : xm_lk kb_X7_sampleOf 55 = some (56, kX7_sampleOf_55) := rfl
theorem lb_X7_sampleOf_8 : xm_lk kb_X7_sampleOf 8 = none := rfl
theorem lb_X7_sampleOf_19 : xm_lk kb_X7_sampleOf 19 = none := rfl
theorem lb_X7_sampleOf_24 : xm_lk kb_X7_sampleOf 24 = none := rfl
theorem lb_X7_sampleOf_36 : xm_lk kb_X7_sampleOf 36 = none := rfl
theorem lb_X7_sampleOf_48 : xm_lk kb_X7_sampleOf 48 = none := rfl
theorem lb_X7_sampleOf_56 : xm_lk kb_X7_sampleOf 56 = none := rfl
theorem kc_X7_sampleOf : xm_oks cX7_sampleOf 7 3 0 false kb_X7_sampleOf := (List.forall_mem_cons.mpr ⟨bk_X7_sampleOf_0, (List.forall_mem_cons.mpr ⟨bk_X7_sampleOf_11, (List.forall_mem_cons.mpr ⟨bk_X7_sampleOf_22, (List.forall_mem_cons.mpr ⟨bk_X7_sampleOf_27, (List.forall_mem_cons.mpr ⟨bk_X7_sampleOf_34, (List.forall_mem_cons.mpr ⟨bk_X7_sampleOf_35, (List.forall_mem_cons.mpr ⟨bk_X7_sampleOf_39, (List.forall_mem_cons.mpr ⟨bk_X7_sampleOf_51, (List.forall_mem_cons.mpr ⟨bk_X7_sampleOf_54, (List.forall_mem_cons.mpr ⟨bk_X7_sampleOf_55, (fun _ h => absurd h List.not_mem_nil)⟩)⟩)⟩)⟩)⟩)⟩)⟩)⟩)⟩)⟩)
def kb_X7_sample : List (Nat × Nat × List xm_I) := [(0, 10, kX7_sample_0), (13, 14, kX7_sample_13), (17, 31, kX7_sample_17), (35, 36, kX7_sample_35), (36, 37, kX7_sample_36), (40, 55, kX7_sample_40), (55, 56, kX7_sample_55), (56, 57, kX7_sample_56), (31, 35, kX7_sample_31)]
theorem lb_X7_sample_0 : xm_lk kb_X7_sample 0 = some (10, kX7_sample_0) := rfl
theorem lb_X7_sample_13 : xm_lk kb_X7_sample 13 = some (14, kX7_sample_13) := rfl
theorem lb_X7_sample_17 : xm_lk kb_X7_sample 17 = some (31, kX7_sample_17) := rfl
theorem lb_X7_sample_35 : xm_lk kb_X7_sample 35 = some (36, kX7_sample_35) := rfl
theorem lb_X7_sample_36 : xm_lk kb_X7_sample 36 = some (37, kX7_sample_36) := rfl
theorem lb_X7_sample_40 : xm_lk kb_X7_sample 40 = some (55, kX7_sample_40) := rfl
theorem lb_X7_sample_55 : xm_lk kb_X7_sample 55 = some (56, kX7_sample_55) := rfl
theorem lb_X7_sample_56 : xm_lk kb_X7_sample 56 = some (57, kX7_sample_56) := rfl
theorem lb_X7_sample_31 : xm_lk kb_X7_sample 31 = some (35, kX7_sample_31) := rfl
theorem lb_X7_sample_10 : xm_lk kb_X7_sample 10 = none := rfl
theorem lb_X7_sample_14 : xm_lk kb_X7_sample 14 = none := rfl
theorem lb_X7_sample_37 : xm_lk kb_X7_sample 37 = none := rfl
theorem lb_X7_sample_57 : xm_lk kb_X7_sample 57 = none := rfl
theorem kc_X7_sample : xm_oks cX7_sample 7 2 0 false kb_X7_sample := (List.forall_mem_cons.mpr ⟨bk_X7_sample_0, (List.forall_mem_cons.mpr ⟨bk_X7_sample_13, (List.forall_mem_cons.mpr ⟨bk_X7_sample_17, (List.forall_mem_cons.mpr ⟨bk_X7_sample_35, (List.forall_mem_cons.mpr ⟨bk_X7_sample_36, (List.forall_mem_cons.mpr ⟨bk_X7_sample_40, (List.forall_mem_cons.mpr ⟨bk_X7_sample_55, (List.forall_mem_cons.mpr ⟨bk_X7_sample_56, (List.forall_mem_cons.mpr ⟨bk_X7_sample_31, (fun _ h => absurd h List.not_mem_nil)⟩)⟩)⟩)⟩)⟩)⟩)⟩)⟩)⟩)
def kb_X7_count : List (Nat × Nat × List xm_I) := [(0, 9, kX7_count_0), (12, 13, kX7_count_12), (16, 21, kX7_count_16), (24, 27, kX7_count_24), (27, 28, kX7_count_27), (28, 29, kX7_count_28)]
theorem lb_X7_count_0 : xm_lk kb_X7_count 0 = some (9, kX7_count_0) := rfl
theorem lb_X7_count_12 : xm_lk kb_X7_count 12 = some (13, kX7_count_12) := rfl
theorem lb_X7_count_16 : xm_lk kb_X7_count 16 = some (21, kX7_count_16) := rfl
theorem lb_X7_count_24 : xm_lk kb_X7_count 24 = some (27, kX7_count_24) := rfl
theorem lb_X7_count_27 : xm_lk kb_X7_count 27 = some (28, kX7_count_27) := rfl
theorem lb_X7_count_28 : xm_lk kb_X7_count 28 = some (29, kX7_count_28) := rfl
theorem lb_X7_count_9 : xm_lk kb_X7_count 9 = none := rfl
theorem lb_X7_count_13 : xm_lk kb_X7_count 13 = none := rfl
theorem lb_X7_count_21 : xm_lk kb_X7_count 21 = none := rfl
theorem lb_X7_count_29 : xm_lk kb_X7_count 29 = none := rfl
theorem kc_X7_count : xm_oks cX7_count 7 2 0 false kb_X7_count := (List.forall_mem_cons.mpr ⟨bk_X7_count_0, (List.forall_mem_cons.mpr ⟨bk_X7_count_12, (List.forall_mem_cons.mpr ⟨bk_X7_count_16, (List.forall_mem_cons.mpr ⟨bk_X7_count_24, (List.forall_mem_cons.mpr ⟨bk_X7_count_27, (List.forall_mem_cons.mpr ⟨bk_X7_count_28, (fun _ h => absurd h List.not_mem_nil)⟩)⟩)⟩)⟩)⟩)⟩)
def kb_X7_decided : List (Nat × Nat × List xm_I) := [(0, 9, kX7_decided_0), (12, 13, kX7_decided_12), (16, 21, kX7_decided_16), (21, 25, kX7_decided_21), (25, 37, kX7_decided_25), (43, 51, kX7_decided_43), (51, 52, kX7_decided_51), (52, 60, kX7_decided_52), (60, 62, kX7_decided_60), (37, 40, kX7_decided_37)]
theorem lb_X7_decided_0 : xm_lk kb_X7_decided 0 = some (9, kX7_decided_0) := rfl
theorem lb_X7_decided_12 : xm_lk kb_X7_decided 12 = some (13, kX7_decided_12) := rfl
theorem lb_X7_decided_16 : xm_lk kb_X7_decided 16 = some (21, kX7_decided_16) := rfl
theorem lb_X7_decided_21 : xm_lk kb_X7_decided 21 = some (25, kX7_decided_21) := rfl
theorem lb_X7_decided_25 : xm_lk kb_X7_decided 25 = some (37, kX7_decided_25) := rfl
theorem lb_X7_decided_43 : xm_lk kb_X7_decided 43 = some (51, kX7_decided_43) := rfl
theorem lb_X7_decided_51 : xm_lk kb_X7_decided 51 = some (52, kX7_decided_51) := rfl
theorem lb_X7_decided_52 : xm_lk kb_X7_decided 52 = some (60, kX7_decided_52) := rfl
theorem lb_X7_decided_60 : xm_lk kb_X7_decided 60 = some (62, kX7_decided_60) := rfl
theorem lb_X7_decided_37 : xm_lk kb_X7_decided 37 = some (40, kX7_decided_37) := rfl
theorem lb_X7_decided_9 : xm_lk kb_X7_decided 9 = none := rfl
theorem lb_X7_decided_13 : xm_lk kb_X7_decided 13 = none := rfl
theorem lb_X7_decided_40 : xm_lk kb_X7_decided 40 = none := rfl
theorem lb_X7_decided_62 : xm_lk kb_X7_decided 62 = none := rfl
theorem kc_X7_decided : xm_oks cX7_decided 7 4 0 false kb_X7_decided := (List.forall_mem_cons.mpr ⟨bk_X7_decided_0, (List.forall_mem_cons.mpr ⟨bk_X7_decided_12, (List.forall_mem_cons.mpr ⟨bk_X7_decided_16, (List.forall_mem_cons.mpr ⟨bk_X7_decided_21, (List.forall_mem_cons.mpr ⟨bk_X7_decided_25, (List.forall_mem_cons.mpr ⟨bk_X7_decided_43, (List.forall_mem_cons.mpr ⟨bk_X7_decided_51, (List.forall_mem_cons.mpr ⟨bk_X7_decided_52, (List.forall_mem_cons.mpr ⟨bk_X7_decided_60, (List.forall_mem_cons.mpr ⟨bk_X7_decided_37, (fun _ h => absurd h List.not_mem_nil)⟩)⟩)⟩)⟩)⟩)⟩)⟩)⟩)⟩)⟩)
def kb_X7_meanGood : List (Nat × Nat × List xm_I) := [(0, 10, kX7_meanGood_0), (11, 23, kX7_meanGood_11), (28, 35, kX7_meanGood_28), (35, 43, kX7_meanGood_35), (46, 48, kX7_meanGood_46), (48, 54, kX7_meanGood_48), (54, 63, kX7_meanGood_54), (63, 64, kX7_meanGood_63), (64, 65, kX7_meanGood_64), (68, 75, kX7_meanGood_68), (76, 79, kX7_meanGood_76), (80, 81, kX7_meanGood_80), (10, 11, kX7_meanGood_10), (23, 25, kX7_meanGood_23)]
theorem lb_X7_meanGood_0 : xm_lk kb_X7_meanGood 0 = some (10, kX7_meanGood_0) := rfl
theorem lb_X7_meanGood_11 : xm_lk kb_X7_meanGood 11 = some (23, kX7_meanGood_11) := rfl
theorem lb_X7_meanGood_28 : xm_lk kb_X7_meanGood 28 = some (35, kX7_meanGood_28) := rfl
theorem lb_X7_meanGood_35 : xm_lk kb_X7_meanGood 35 = some (43, kX7_meanGood_35) := rfl
theorem lb_X7_meanGood_46 : xm_lk kb_X7_meanGood 46 = some (48, kX7_meanGood_46) := rfl
theorem lb_X7_meanGood_48 : xm_lk kb_X7_meanGood 48 = some (54, kX7_meanGood_48) := rfl
theorem lb_X7_meanGood_54 : xm_lk kb_X7_meanGood 54 = some (63, kX7_meanGood_54) := rfl
theorem lb_X7_meanGood_63 : xm_lk kb_X7_meanGood 63 = some (64, kX7_meanGood_63) := rfl
theorem lb_X7_meanGood_64 : xm_lk kb_X7_meanGood 64 = some (65, kX7_meanGood_64) := rfl
theorem lb_X7_meanGood_68 : xm_lk kb_X7_meanGood 68 = some (75, kX7_meanGood_68) := rfl
theorem lb_X7_meanGood_76 : xm_lk kb_X7_meanGood 76 = some (79, kX7_meanGood_76) := rfl
theorem lb_X7_meanGood_80 : xm_lk kb_X7_meanGood 80 = some (81, kX7_meanGood_80) := rfl
theorem lb_X7_meanGood_10 : xm_lk kb_X7_meanGood 10 = some (11, kX7_meanGood_10) := rfl
theorem lb_X7_meanGood_23 : xm_lk kb_X7_meanGood 23 = some (25, kX7_meanGood_23) := rfl
theorem lb_X7_meanGood_25 : xm_lk kb_X7_meanGood 25 = none := rfl
theorem lb_X7_meanGood_43 : xm_lk kb_X7_meanGood 43 = none := rfl
theorem lb_X7_meanGood_65 : xm_lk kb_X7_meanGood 65 = none := rfl
theorem lb_X7_meanGood_75 : xm_lk kb_X7_meanGood 75 = none := rfl
theorem lb_X7_meanGood_79 : xm_lk kb_X7_meanGood 79 = none := rfl
theorem lb_X7_meanGood_81 : xm_lk kb_X7_meanGood 81 = none := rfl
theorem kc_X7_meanGood : xm_oks cX7_meanGood 7 4 4 false kb_X7_meanGood := (List.forall_mem_cons.mpr ⟨bk_X7_meanGood_0, (List.forall_mem_cons.mpr ⟨bk_X7_meanGood_11, (List.forall_mem_cons.mpr ⟨bk_X7_meanGood_28, (List.forall_mem_cons.mpr ⟨bk_X7_meanGood_35, (List.forall_mem_cons.mpr ⟨bk_X7_meanGood_46, (List.forall_mem_cons.mpr ⟨bk_X7_meanGood_48, (List.forall_mem_cons.mpr ⟨bk_X7_meanGood_54, (List.forall_mem_cons.mpr ⟨bk_X7_meanGood_63, (List.forall_mem_cons.mpr ⟨bk_X7_meanGood_64, (List.forall_mem_cons.mpr ⟨bk_X7_meanGood_68, (List.forall_mem_cons.mpr ⟨bk_X7_meanGood_76, (List.forall_mem_cons.mpr ⟨bk_X7_meanGood_80, (List.forall_mem_cons.mpr ⟨bk_X7_meanGood_10, (List.forall_mem_cons.mpr ⟨bk_X7_meanGood_23, (fun _ h => absurd h List.not_mem_nil)⟩)⟩)⟩)⟩)⟩)⟩)⟩)⟩)⟩)⟩)⟩)⟩)⟩)⟩)
def kb_X7_meanError : List (Nat × Nat × List xm_I) := [(0, 10, kX7_meanError_0), (11, 23, kX7_meanError_11), (26, 32, kX7_meanError_26), (32, 36, kX7_meanError_32), (39, 42, kX7_meanError_39), (45, 60, kX7_meanError_45), (63, 65, kX7_meanError_63), (65, 67, kX7_meanError_65), (67, 73, kX7_meanError_67), (73, 82, kX7_meanError_73), (82, 83, kX7_meanError_82), (83, 84, kX7_meanError_83), (87, 94, kX7_meanError_87), (95, 98, kX7_meanError_95), (99, 100, kX7_meanError_99), (10, 11, kX7_meanError_10), (60, 63, kX7_meanError_60)]
theorem lb_X7_meanError_0 : xm_lk kb_X7_meanError 0 = some (10, kX7_meanError_0) := rfl
theorem lb_X7_meanError_11 : xm_lk kb_X7_meanError 11 = some (23, kX7_meanError_11) := rfl
theorem lb_X7_meanError_26 : xm_lk kb_X7_meanError 26 = some (32, kX7_meanError_26) := rfl
theorem lb_X7_meanError_32 : xm_lk kb_X7_meanError 32 = some (36, kX7_meanError_32) := rfl
theorem lb_X7_meanError_39 : xm_lk kb_X7_meanError 39 = some (42, kX7_meanError_39) := rfl
theorem lb_X7_meanError_45 : xm_lk kb_X7_meanError 45 = some (60, kX7_meanError_45) := rfl
theorem lb_X7_meanError_63 : xm_lk kb_X7_meanError 63 = some (65, kX7_meanError_63) := rfl
theorem lb_X7_meanError_65 : xm_lk kb_X7_meanError 65 = some (67, kX7_meanError_65) := rfl
theorem lb_X7_meanError_67 : xm_lk kb_X7_meanError 67 = some (73, kX7_meanError_67) := rfl
theorem lb_X7_meanError_73 : xm_lk kb_X7_meanError 73 = some (82, kX7_meanError_73) := rfl
theorem lb_X7_meanError_82 : xm_lk kb_X7_meanError 82 = some (83, kX7_meanError_82) := rfl
theorem lb_X7_meanError_83 : xm_lk kb_X7_meanError 83 = some (84, kX7_meanError_83) := rfl
theorem lb_X7_meanError_87 : xm_lk kb_X7_meanError 87 = some (94, kX7_meanError_87) := rfl
theorem lb_X7_meanError_95 : xm_lk kb_X7_meanError 95 = some (98, kX7_meanError_95) := rfl
theorem lb_X7_meanError_99 : xm_lk kb_X7_meanError 99 = some (100, kX7_meanError_99) := rfl
theorem lb_X7_meanError_10 : xm_lk kb_X7_meanError 10 = some (11, kX7_meanError_10) := rfl
theorem lb_X7_meanError_60 : xm_lk kb_X7_meanError 60 = some (63, kX7_meanError_60) := rfl
theorem lb_X7_meanError_23 : xm_lk kb_X7_meanError 23 = none := rfl
theorem lb_X7_meanError_36 : xm_lk kb_X7_meanError 36 = none := rfl
theorem lb_X7_meanError_42 : xm_lk kb_X7_meanError 42 = none := rfl
theorem lb_X7_meanError_84 : xm_lk kb_X7_meanError 84 = none := rfl
theorem lb_X7_meanError_94 : xm_lk kb_X7_meanError 94 = none := rfl
theorem lb_X7_meanError_98 : xm_lk kb_X7_meanError 98 = none := rfl
theorem lb_X7_meanError_100 : xm_lk kb_X7_meanError 100 = none := rfl
theorem kc_X7_meanError : xm_oks cX7_meanError 7 5 4 false kb_X7_meanError := (List.forall_mem_cons.mpr ⟨bk_X7_meanError_0, (List.forall_mem_cons.mpr ⟨bk_X7_meanError_11, (List.forall_mem_cons.mpr ⟨bk_X7_meanError_26, (List.forall_mem_cons.mpr ⟨bk_X7_meanError_32, (List.forall_mem_cons.mpr ⟨bk_X7_meanError_39, (List.forall_mem_cons.mpr ⟨bk_X7_meanError_45, (List.forall_mem_cons.mpr ⟨bk_X7_meanError_63, (List.forall_mem_cons.mpr ⟨bk_X7_meanError_65, (List.forall_mem_cons.mpr ⟨bk_X7_meanError_67, (List.forall_mem_cons.mpr ⟨bk_X7_meanError_73, (List.forall_mem_cons.mpr ⟨bk_X7_meanError_82, (List.forall_mem_cons.mpr ⟨bk_X7_meanError_83, (List.forall_mem_cons.mpr ⟨bk_X7_meanError_87, (List.forall_mem_cons.mpr ⟨bk_X7_meanError_95, (List.forall_mem_cons.mpr ⟨bk_X7_meanError_99, (List.forall_mem_cons.mpr ⟨bk_X7_meanError_10, (List.forall_mem_cons.mpr ⟨bk_X7_meanError_60, (fun _ h => absurd h List.not_mem_nil)⟩)⟩)⟩)⟩)⟩)⟩)⟩)⟩)⟩)⟩)⟩)⟩)⟩)⟩)⟩)⟩)⟩)
def kb_X7_vibration : List (Nat × Nat × List xm_I) := [(0, 11, kX7_vibration_0), (14, 15, kX7_vibration_14), (18, 23, kX7_vibration_18), (26, 29, kX7_vibration_26), (29, 30, kX7_vibration_29), (30, 31, kX7_vibration_30)]
theorem lb_X7_vibration_0 : xm_lk kb_X7_vibration 0 = some (11, kX7_vibration_0) := rfl
theorem lb_X7_vibration_14 : xm_lk kb_X7_vibration 14 = some (15, kX7_vibration_14) := rfl
theorem lb_X7_vibration_18 : xm_lk kb_X7_vibration 18 = some (23, kX7_vibration_18) := rfl
theorem lb_X7_vibration_26 : xm_lk kb_X7_vibration 26 = some (29, kX7_vibration_26) := rfl
theorem lb_X7_vibration_29 : xm_lk kb_X7_vibration 29 = some (30, kX7_vibration_29) := rfl
theorem lb_X7_vibration_30 : xm_lk kb_X7_vibration 30 = some (31, kX7_vibration_30) := rfl
theorem lb_X7_vibration_11 : xm_lk kb_X7_vibration 11 = none := rfl
theorem lb_X7_vibration_15 : xm_lk kb_X7_vibration 15 = none := rfl
theorem lb_X7_vibration_23 : xm_lk kb_X7_vibration 23 = none := rfl
theorem lb_X7_vibration_31 : xm_lk kb_X7_vibration 31 = none := rfl
theorem kc_X7_vibration : xm_oks cX7_vibration 7 2 0 false kb_X7_vibration := (List.forall_mem_cons.mpr ⟨bk_X7_vibration_0, (List.forall_mem_cons.mpr ⟨bk_X7_vibration_14, (List.forall_mem_cons.mpr ⟨bk_X7_vibration_18, (List.forall_mem_cons.mpr ⟨bk_X7_vibration_26, (List.forall_mem_cons.mpr ⟨bk_X7_vibration_29, (List.forall_mem_cons.mpr ⟨bk_X7_vibration_30, (fun _ h => absurd h List.not_mem_nil)⟩)⟩)⟩)⟩)⟩)⟩)
def kb_X7_laysSwings : List (Nat × Nat × List xm_I) := [(0, 2, kX7_laysSwings_0), (2, 16, kX7_laysSwings_2), (19, 26, kX7_laysSwings_19), (26, 27, kX7_laysSwings_26)]
theorem lb_X7_laysSwings_0 : xm_lk kb_X7_laysSwings 0 = some (2, kX7_laysSwings_0) := rfl
theorem lb_X7_laysSwings_2 : xm_lk kb_X7_laysSwings 2 = some (16, kX7_laysSwings_2) := rfl
theorem lb_X7_laysSwings_19 : xm_lk kb_X7_laysSwings 19 = some (26, kX7_laysSwings_19) := rfl
theorem lb_X7_laysSwings_26 : xm_lk kb_X7_laysSwings 26 = some (27, kX7_laysSwings_26) := rfl
theorem lb_X7_laysSwings_16 : xm_lk kb_X7_laysSwings 16 = none := rfl
theorem lb_X7_laysSwings_27 : xm_lk kb_X7_laysSwings 27 = none := rfl
theorem kc_X7_laysSwings : xm_oks cX7_laysSwings 7 2 3 false kb_X7_laysSwings := (List.forall_mem_cons.mpr ⟨bk_X7_laysSwings_0, (List.forall_mem_cons.mpr ⟨bk_X7_laysSwings_2, (List.forall_mem_cons.mpr ⟨bk_X7_laysSwings_19, (List.forall_mem_cons.mpr ⟨bk_X7_laysSwings_26, (fun _ h => absurd h List.not_mem_nil)⟩)⟩)⟩)⟩)
def kb_X7_worstOf : List (Nat × Nat × List xm_I) := [(0, 4, kX7_worstOf_0), (4, 16, kX7_worstOf_4), (24, 29, kX7_worstOf_24), (29, 44, kX7_worstOf_29), (47, 48, kX7_worstOf_47), (51, 62, kX7_worstOf_51), (78, 80, kX7_worstOf_78), (16, 24, kX7_worstOf_16), (44, 47, kX7_worstOf_44), (62, 75, kX7_worstOf_62), (75, 78, kX7_worstOf_75)]
theorem lb_X7_worstOf_0 : xm_lk kb_X7_worstOf 0 = some (4, kX7_worstOf_0) := rfl
theorem lb_X7_worstOf_4 : xm_lk kb_X7_worstOf 4 = some (16, kX7_worstOf_4) := rfl
theorem lb_X7_worstOf_24 : xm_lk kb_X7_worstOf 24 = some (29, kX7_worstOf_24) := rfl
theorem lb_X7_worstOf_29 : xm_lk kb_X7_worstOf 29 = some (44, kX7_worstOf_29) := rfl
theorem lb_X7_worstOf_47 : xm_lk kb_X7_worstOf 47 = some (48, kX7_worstOf_47) := rfl
theorem lb_X7_worstOf_51 : xm_lk kb_X7_worstOf 51 = some (62, kX7_worstOf_51) := rfl
theorem lb_X7_worstOf_78 : xm_lk kb_X7_worstOf 78 = some (80, kX7_worstOf_78) := rfl
theorem lb_X7_worstOf_16 : xm_lk kb_X7_worstOf 16 = some (24, kX7_worstOf_16) := rfl
theorem lb_X7_worstOf_44 : xm_lk kb_X7_worstOf 44 = some (47, kX7_worstOf_44) := rfl
theorem lb_X7_worstOf_62 : xm_lk kb_X7_worstOf 62 = some (75, kX7_worstOf_62) := rfl
theorem lb_X7_worstOf_75 : xm_lk kb_X7_worstOf 75 = some (78, kX7_worstOf_75) := rfl
theorem lb_X7_worstOf_48 : xm_lk kb_X7_worstOf 48 = none := rfl
theorem lb_X7_worstOf_80 : xm_lk kb_X7_worstOf 80 = none := rfl
theorem kc_X7_worstOf : xm_oks cX7_worstOf 7 5 0 false kb_X7_worstOf := (List.forall_mem_cons.mpr ⟨bk_X7_worstOf_0, (List.forall_mem_cons.mpr ⟨bk_X7_worstOf_4, (List.forall_mem_cons.mpr ⟨bk_X7_worstOf_24, (List.forall_mem_cons.mpr ⟨bk_X7_worstOf_29, (List.forall_mem_cons.mpr ⟨bk_X7_worstOf_47, (List.forall_mem_cons.mpr ⟨bk_X7_worstOf_51, (List.forall_mem_cons.mpr ⟨bk_X7_worstOf_78, (List.forall_mem_cons.mpr ⟨bk_X7_worstOf_16, (List.forall_mem_cons.mpr ⟨bk_X7_worstOf_44, (List.forall_mem_cons.mpr ⟨bk_X7_worstOf_62, (List.forall_mem_cons.mpr ⟨bk_X7_worstOf_75, (fun _ h => absurd h List.not_mem_nil)⟩)⟩)⟩)⟩)⟩)⟩)⟩)⟩)⟩)⟩)⟩)
def kb_X7_common : List (Nat × Nat × List xm_I) := [(0, 4, kX7_common_0), (4, 15, kX7_common_4), (21, 23, kX7_common_21), (15, 21, kX7_common_15)]
theorem lb_X7_common_0 : xm_lk kb_X7_common 0 = some (4, kX7_common_0) := rfl
theorem lb_X7_common_4 : xm_lk kb_X7_common 4 = some (15, kX7_common_4) := rfl
theorem lb_X7_common_21 : xm_lk kb_X7_common 21 = some (23, kX7_common_21) := rfl
theorem lb_X7_common_15 : xm_lk kb_X7_common 15 = some (21, kX7_common_15) := rfl
theorem lb_X7_common_23 : xm_lk kb_X7_common 23 = none := rfl
theorem kc_X7_common : xm_oks cX7_common 7 5 0 false kb_X7_common := (List.forall_mem_cons.mpr ⟨bk_X7_common_0, (List.forall_mem_cons.mpr ⟨bk_X7_common_4, (List.forall_mem_cons.mpr ⟨bk_X7_common_21, (List.forall_mem_cons.mpr ⟨bk_X7_common_15, (fun _ h => absurd h List.not_mem_nil)⟩)⟩)⟩)⟩)
def kb_X7_residue : List (Nat × Nat × List xm_I) := [(0, 10, kX7_residue_0), (13, 19, kX7_residue_13), (22, 29, kX7_residue_22), (29, 30, kX7_residue_29), (30, 31, kX7_residue_30), (34, 39, kX7_residue_34), (39, 40, kX7_residue_39), (43, 45, kX7_residue_43), (48, 57, kX7_residue_48), (57, 58, kX7_residue_57), (58, 60, kX7_residue_58), (63, 65, kX7_residue_63)]
theorem lb_X7_residue_0 : xm_lk kb_X7_residue 0 = some (10, kX7_residue_0) := rfl
theorem lb_X7_residue_13 : xm_lk kb_X7_residue 13 = some (19, kX7_residue_13) := rfl
theorem lb_X7_residue_22 : xm_lk kb_X7_residue 22 = some (29, kX7_residue_22) := rfl
theorem lb_X7_residue_29 : xm_lk kb_X7_residue 29 = some (30, kX7_residue_29) := rfl
theorem lb_X7_residue_30 : xm_lk kb_X7_residue 30 = some (31, kX7_residue_30) := rfl
theorem lb_X7_residue_34 : xm_lk kb_X7_residue 34 = some (39, kX7_residue_34) := rfl
theorem lb_X7_residue_39 : xm_lk kb_X7_residue 39 = some (40, kX7_residue_39) := rfl
theorem lb_X7_residue_43 : xm_lk kb_X7_residue 43 = some (45, kX7_residue_43) := rfl
theorem lb_X7_residue_48 : xm_lk kb_X7_residue 48 = some (57, kX7_residue_48) := rfl
theorem lb_X7_residue_57 : xm_lk kb_X7_residue 57 = some (58, kX7_residue_57) := rfl
theorem lb_X7_residue_58 : xm_lk kb_X7_residue 58 = some (60, kX7_residue_58) := rfl
theorem lb_X7_residue_63 : xm_lk kb_X7_residue 63 = some (65, kX7_residue_63) := rfl
theorem lb_X7_residue_10 : xm_lk kb_X7_residue 10 = none := rfl
theorem lb_X7_residue_19 : xm_lk kb_X7_residue 19 = none := rfl
theorem lb_X7_residue_31 : xm_lk kb_X7_residue 31 = none := rfl
theorem lb_X7_residue_40 : xm_lk kb_X7_residue 40 = none := rfl
theorem lb_X7_residue_45 : xm_lk kb_X7_residue 45 = none := rfl
theorem lb_X7_residue_60 : xm_lk kb_X7_residue 60 = none := rfl
theorem lb_X7_residue_65 : xm_lk kb_X7_residue 65 = none := rfl
theorem kc_X7_residue : xm_oks cX7_residue 7 4 0 false kb_X7_residue := (List.forall_mem_cons.mpr ⟨bk_X7_residue_0, (List.forall_mem_cons.mpr ⟨bk_X7_residue_13, (List.forall_mem_cons.mpr ⟨bk_X7_residue_22, (List.forall_mem_cons.mpr ⟨bk_X7_residue_29, (List.forall_mem_cons.mpr ⟨bk_X7_residue_30, (List.forall_mem_cons.mpr ⟨bk_X7_residue_34, (List.forall_mem_cons.mpr ⟨bk_X7_residue_39, (List.forall_mem_cons.mpr ⟨bk_X7_residue_43, (List.forall_mem_cons.mpr ⟨bk_X7_residue_48, (List.forall_mem_cons.mpr ⟨bk_X7_residue_57, (List.forall_mem_cons.mpr ⟨bk_X7_residue_58, (List.forall_mem_cons.mpr ⟨bk_X7_residue_63, (fun _ h => absurd h List.not_mem_nil)⟩)⟩)⟩)⟩)⟩)⟩)⟩)⟩)⟩)⟩)⟩)⟩)
def kb_X7_bestWindow : List (Nat × Nat × List xm_I) := [(0, 10, kX7_bestWindow_0), (13, 14, kX7_bestWindow_13), (17, 22, kX7_bestWindow_17), (22, 23, kX7_bestWindow_22), (26, 30, kX7_bestWindow_26), (33, 37, kX7_bestWindow_33), (37, 46, kX7_bestWindow_37), (49, 62, kX7_bestWindow_49), (65, 71, kX7_bestWindow_65), (71, 77, kX7_bestWindow_71), (77, 79, kX7_bestWindow_77), (62, 65, kX7_bestWindow_62)]
theorem lb_X7_bestWindow_0 : xm_lk kb_X7_bestWindow 0 = some (10, kX7_bestWindow_0) := rfl
theorem lb_X7_bestWindow_13 : xm_lk kb_X7_bestWindow 13 = some (14, kX7_bestWindow_13) := rfl
theorem lb_X7_bestWindow_17 : xm_lk kb_X7_bestWindow 17 = some (22, kX7_bestWindow_17) := rfl
theorem lb_X7_bestWindow_22 : xm_lk kb_X7_bestWindow 22 = some (23, kX7_bestWindow_22) := rfl
theorem lb_X7_bestWindow_26 : xm_lk kb_X7_bestWindow 26 = some (30, kX7_bestWindow_26) := rfl
theorem lb_X7_bestWindow_33 : xm_lk kb_X7_bestWindow 33 = some (37, kX7_bestWindow_33) := rfl
theorem lb_X7_bestWindow_37 : xm_lk kb_X7_bestWindow 37 = some (46, kX7_bestWindow_37) := rfl
theorem lb_X7_bestWindow_49 : xm_lk kb_X7_bestWindow 49 = some (62, kX7_bestWindow_49) := rfl
theorem lb_X7_bestWindow_65 : xm_lk kb_X7_bestWindow 65 = some (71, kX7_bestWindow_65) := rfl
theorem lb_X7_bestWindow_71 : xm_lk kb_X7_bestWindow 71 = some (77, kX7_bestWindow_71) := rfl
theorem lb_X7_bestWindow_77 : xm_lk kb_X7_bestWindow 77 = some (79, kX7_bestWindow_77) := rfl
theorem lb_X7_bestWindow_62 : xm_lk kb_X7_bestWindow 62 = some (65, kX7_bestWindow_62) := rfl
theorem lb_X7_bestWindow_10 : xm_lk kb_X7_bestWindow 10 = none := rfl
theorem lb_X7_bestWindow_14 : xm_lk kb_X7_bestWindow 14 = none := rfl
theorem lb_X7_bestWindow_23 : xm_lk kb_X7_bestWindow 23 = none := rfl
theorem lb_X7_bestWindow_30 : xm_lk kb_X7_bestWindow 30 = none := rfl
theorem lb_X7_bestWindow_46 : xm_lk kb_X7_bestWindow 46 = none := rfl
theorem lb_X7_bestWindow_79 : xm_lk kb_X7_bestWindow 79 = none := rfl
theorem kc_X7_bestWindow : xm_oks cX7_bestWindow 7 6 0 false kb_X7_bestWindow := (List.forall_mem_cons.mpr ⟨bk_X7_bestWindow_0, (List.forall_mem_cons.mpr ⟨bk_X7_bestWindow_13, (List.forall_mem_cons.mpr ⟨bk_X7_bestWindow_17, (List.forall_mem_cons.mpr ⟨bk_X7_bestWindow_22, (List.forall_mem_cons.mpr ⟨bk_X7_bestWindow_26, (List.forall_mem_cons.mpr ⟨bk_X7_bestWindow_33, (List.forall_mem_cons.mpr ⟨bk_X7_bestWindow_37, (List.forall_mem_cons.mpr ⟨bk_X7_bestWindow_49, (List.forall_mem_cons.mpr ⟨bk_X7_bestWindow_65, (List.forall_mem_cons.mpr ⟨bk_X7_bestWindow_71, (List.forall_mem_cons.mpr ⟨bk_X7_bestWindow_77, (List.forall_mem_cons.mpr ⟨bk_X7_bestWindow_62, (fun _ h => absurd h List.not_mem_nil)⟩)⟩)⟩)⟩)⟩)⟩)⟩)⟩)⟩)⟩)⟩)⟩)
def kb_X7_weightWith : List (Nat × Nat × List xm_I) := [(0, 8, kX7_weightWith_0), (11, 12, kX7_weightWith_11), (15, 23, kX7_weightWith_15), (26, 27, kX7_weightWith_26), (30, 37, kX7_weightWith_30), (40, 47, kX7_weightWith_40), (47, 48, kX7_weightWith_47), (48, 49, kX7_weightWith_48), (52, 58, kX7_weightWith_52), (61, 64, kX7_weightWith_61), (64, 65, kX7_weightWith_64), (65, 66, kX7_weightWith_65)]
theorem lb_X7_weightWith_0 : xm_lk kb_X7_weightWith 0 = some (8, kX7_weightWith_0) := rfl
theorem lb_X7_weightWith_11 : xm_lk kb_X7_weightWith 11 = some (12, kX7_weightWith_11) := rfl
theorem lb_X7_weightWith_15 : xm_lk kb_X7_weightWith 15 = some (23, kX7_weightWith_15) := rfl
theorem lb_X7_weightWith_26 : xm_lk kb_X7_weightWith 26 = some (27, kX7_weightWith_26) := rfl
theorem lb_X7_weightWith_30 : xm_lk kb_X7_weightWith 30 = some (37, kX7_weightWith_30) := rfl
theorem lb_X7_weightWith_40 : xm_lk kb_X7_weightWith 40 = some (47, kX7_weightWith_40) := rfl
theorem lb_X7_weightWith_47 : xm_lk kb_X7_weightWith 47 = some (48, kX7_weightWith_47) := rfl
theorem lb_X7_weightWith_48 : xm_lk kb_X7_weightWith 48 = some (49, kX7_weightWith_48) := rfl
theorem lb_X7_weightWith_52 : xm_lk kb_X7_weightWith 52 = some (58, kX7_weightWith_52) := rfl
theorem lb_X7_weightWith_61 : xm_lk kb_X7_weightWith 61 = some (64, kX7_weightWith_61) := rfl
theorem lb_X7_weightWith_64 : xm_lk kb_X7_weightWith 64 = some (65, kX7_weightWith_64) := rfl
theorem lb_X7_weightWith_65 : xm_lk kb_X7_weightWith 65 = some (66, kX7_weightWith_65) := rfl
theorem lb_X7_weightWith_8 : xm_lk kb_X7_weightWith 8 = none := rfl
theorem lb_X7_weightWith_12 : xm_lk kb_X7_weightWith 12 = none := rfl
theorem lb_X7_weightWith_23 : xm_lk kb_X7_weightWith 23 = none := rfl
theorem lb_X7_weightWith_27 : xm_lk kb_X7_weightWith 27 = none := rfl
theorem lb_X7_weightWith_37 : xm_lk kb_X7_weightWith 37 = none := rfl
theorem lb_X7_weightWith_49 : xm_lk kb_X7_weightWith 49 = none := rfl
theorem lb_X7_weightWith_58 : xm_lk kb_X7_weightWith 58 = none := rfl
theorem lb_X7_weightWith_66 : xm_lk kb_X7_weightWith 66 = none := rfl
theorem kc_X7_weightWith : xm_oks cX7_weightWith 7 3 0 false kb_X7_weightWith := (List.forall_mem_cons.mpr ⟨bk_X7_weightWith_0, (List.forall_mem_cons.mpr ⟨bk_X7_weightWith_11, (List.forall_mem_cons.mpr ⟨bk_X7_weightWith_15, (List.forall_mem_cons.mpr ⟨bk_X7_weightWith_26, (List.forall_mem_cons.mpr ⟨bk_X7_weightWith_30, (List.forall_mem_cons.mpr ⟨bk_X7_weightWith_40, (List.forall_mem_cons.mpr ⟨bk_X7_weightWith_47, (List.forall_mem_cons.mpr ⟨bk_X7_weightWith_48, (List.forall_mem_cons.mpr ⟨bk_X7_weightWith_52, (List.forall_mem_cons.mpr ⟨bk_X7_weightWith_61, (List.forall_mem_cons.mpr ⟨bk_X7_weightWith_64, (List.forall_mem_cons.mpr ⟨bk_X7_weightWith_65, (fun _ h => absurd h List.not_mem_nil)⟩)⟩)⟩)⟩)⟩)⟩)⟩)⟩)⟩)⟩)⟩)⟩)
def kb_X7_samplesFor : List (Nat × Nat × List xm_I) := [(0, 11, kX7_samplesFor_0), (14, 15, kX7_samplesFor_14), (18, 23, kX7_samplesFor_18), (23, 32, kX7_samplesFor_23), (32, 44, kX7_samplesFor_32), (59, 60, kX7_samplesFor_59), (60, 70, kX7_samplesFor_60), (74, 76, kX7_samplesFor_74), (44, 56, kX7_samplesFor_44), (70, 74, kX7_samplesFor_70), (56, 59, kX7_samplesFor_56)]
theorem lb_X7_samplesFor_0 : xm_lk kb_X7_samplesFor 0 = some (11, kX7_samplesFor_0) := rfl
theorem lb_X7_samplesFor_14 : xm_lk kb_X7_samplesFor 14 = some (15, kX7_samplesFor_14) := rfl
theorem lb_X7_samplesFor_18 : xm_lk kb_X7_samplesFor 18 = some (23, kX7_samplesFor_18) := rfl
theorem lb_X7_samplesFor_23 : xm_lk kb_X7_samplesFor 23 = some (32, kX7_samplesFor_23) := rfl
theorem lb_X7_samplesFor_32 : xm_lk kb_X7_samplesFor 32 = some (44, kX7_samplesFor_32) := rfl
theorem lb_X7_samplesFor_59 : xm_lk kb_X7_samplesFor 59 = some (60, kX7_samplesFor_59) := rfl
theorem lb_X7_samplesFor_60 : xm_lk kb_X7_samplesFor 60 = some (70, kX7_samplesFor_60) := rfl
theorem lb_X7_samplesFor_74 : xm_lk kb_X7_samplesFor 74 = some (76, kX7_samplesFor_74) := rfl
theorem lb_X7_samplesFor_44 : xm_lk kb_X7_samplesFor 44 = some (56, kX7_samplesFor_44) := rfl
theorem lb_X7_samplesFor_70 : xm_lk kb_X7_samplesFor 70 = some (74, kX7_samplesFor_70) := rfl
theorem lb_X7_samplesFor_56 : xm_lk kb_X7_samplesFor 56 = some (59, kX7_samplesFor_56) := rfl
theorem lb_X7_samplesFor_11 : xm_lk kb_X7_samplesFor 11 = none := rfl
theorem lb_X7_samplesFor_15 : xm_lk kb_X7_samplesFor 15 = none := rfl
theorem lb_X7_samplesFor_76 : xm_lk kb_X7_samplesFor 76 = none := rfl
theorem kc_X7_samplesFor : xm_oks cX7_samplesFor 7 4 0 false kb_X7_samplesFor := (List.forall_mem_cons.mpr ⟨bk_X7_samplesFor_0, (List.forall_mem_cons.mpr ⟨bk_X7_samplesFor_14, (List.forall_mem_cons.mpr ⟨bk_X7_samplesFor_18, (List.forall_mem_cons.mpr ⟨bk_X7_samplesFor_23, (List.forall_mem_cons.mpr ⟨bk_X7_samplesFor_32, (List.forall_mem_cons.mpr ⟨bk_X7_samplesFor_59, (List.forall_mem_cons.mpr ⟨bk_X7_samplesFor_60, (List.forall_mem_cons.mpr ⟨bk_X7_samplesFor_74, (List.forall_mem_cons.mpr ⟨bk_X7_samplesFor_44, (List.forall_mem_cons.mpr ⟨bk_X7_samplesFor_70, (List.forall_mem_cons.mpr ⟨bk_X7_samplesFor_56, (fun _ h => absurd h List.not_mem_nil)⟩)⟩)⟩)⟩)⟩)⟩)⟩)⟩)⟩)⟩)⟩)
def kb_X7_arrival : List (Nat × Nat × List xm_I) := [(0, 8, kX7_arrival_0), (11, 16, kX7_arrival_11), (19, 26, kX7_arrival_19), (26, 27, kX7_arrival_26), (27, 28, kX7_arrival_27), (31, 37, kX7_arrival_31), (40, 46, kX7_arrival_40), (49, 52, kX7_arrival_49), (55, 62, kX7_arrival_55), (62, 63, kX7_arrival_62), (63, 64, kX7_arrival_63), (67, 70, kX7_arrival_67), (70, 72, kX7_arrival_70), (72, 75, kX7_arrival_72), (78, 81, kX7_arrival_78), (84, 91, kX7_arrival_84), (94, 95, kX7_arrival_94)]
theorem lb_X7_arrival_0 : xm_lk kb_X7_arrival 0 = some (8, kX7_arrival_0) := rfl
theorem lb_X7_arrival_11 : xm_lk kb_X7_arrival 11 = some (16, kX7_arrival_11) := rfl
theorem lb_X7_arrival_19 : xm_lk kb_X7_arrival 19 = some (26, kX7_arrival_19) := rfl
theorem lb_X7_arrival_26 : xm_lk kb_X7_arrival 26 = some (27, kX7_arrival_26) := rfl
theorem lb_X7_arrival_27 : xm_lk kb_X7_arrival 27 = some (28, kX7_arrival_27) := rfl
theorem lb_X7_arrival_31 : xm_lk kb_X7_arrival 31 = some (37, kX7_arrival_31) := rfl
theorem lb_X7_arrival_40 : xm_lk kb_X7_arrival 40 = some (46, kX7_arrival_40) := rfl
theorem lb_X7_arrival_49 : xm_lk kb_X7_arrival 49 = some (52, kX7_arrival_49) := rfl
theorem lb_X7_arrival_55 : xm_lk kb_X7_arrival 55 = some (62, kX7_arrival_55) := rfl
theorem lb_X7_arrival_62 : xm_lk kb_X7_arrival 62 = some (63, kX7_arrival_62) := rfl
theorem lb_X7_arrival_63 : xm_lk kb_X7_arrival 63 = some (64, kX7_arrival_63) := rfl
theorem lb_X7_arrival_67 : xm_lk kb_X7_arrival 67 = some (70, kX7_arrival_67) := rfl
theorem lb_X7_arrival_70 : xm_lk kb_X7_arrival 70 = some (72, kX7_arrival_70) := rfl
theorem lb_X7_arrival_72 : xm_lk kb_X7_arrival 72 = some (75, kX7_arrival_72) := rfl
theorem lb_X7_arrival_78 : xm_lk kb_X7_arrival 78 = some (81, kX7_arrival_78) := rfl
theorem lb_X7_arrival_84 : xm_lk kb_X7_arrival 84 = some (91, kX7_arrival_84) := rfl
theorem lb_X7_arrival_94 : xm_lk kb_X7_arrival 94 = some (95, kX7_arrival_94) := rfl
theorem lb_X7_arrival_8 : xm_lk kb_X7_arrival 8 = none := rfl
theorem lb_X7_arrival_16 : xm_lk kb_X7_arrival 16 = none := rfl
theorem lb_X7_arrival_28 : xm_lk kb_X7_arrival 28 = none := rfl
theorem lb_X7_arrival_37 : xm_lk kb_X7_arrival 37 = none := rfl
theorem lb_X7_arrival_46 : xm_lk kb_X7_arrival 46 = none := rfl
theorem lb_X7_arrival_52 : xm_lk kb_X7_arrival 52 = none := rfl
theorem lb_X7_arrival_64 : xm_lk kb_X7_arrival 64 = none := rfl
theorem lb_X7_arrival_75 : xm_lk kb_X7_arrival 75 = none := rfl
theorem lb_X7_arrival_81 : xm_lk kb_X7_arrival 81 = none := rfl
theorem lb_X7_arrival_91 : xm_lk kb_X7_arrival 91 = none := rfl
theorem lb_X7_arrival_95 : xm_lk kb_X7_arrival 95 = none := rfl
theorem kc_X7_arrival : xm_oks cX7_arrival 7 3 0 false kb_X7_arrival := (List.forall_mem_cons.mpr ⟨bk_X7_arrival_0, (List.forall_mem_cons.mpr ⟨bk_X7_arrival_11, (List.forall_mem_cons.mpr ⟨bk_X7_arrival_19, (List.forall_mem_cons.mpr ⟨bk_X7_arrival_26, (List.forall_mem_cons.mpr ⟨bk_X7_arrival_27, (List.forall_mem_cons.mpr ⟨bk_X7_arrival_31, (List.forall_mem_cons.mpr ⟨bk_X7_arrival_40, (List.forall_mem_cons.mpr ⟨bk_X7_arrival_49, (List.forall_mem_cons.mpr ⟨bk_X7_arrival_55, (List.forall_mem_cons.mpr ⟨bk_X7_arrival_62, (List.forall_mem_cons.mpr ⟨bk_X7_arrival_63, (List.forall_mem_cons.mpr ⟨bk_X7_arrival_67, (List.forall_mem_cons.mpr ⟨bk_X7_arrival_70, (List.forall_mem_cons.mpr ⟨bk_X7_arrival_72, (List.forall_mem_cons.mpr ⟨bk_X7_arrival_78, (List.forall_mem_cons.mpr ⟨bk_X7_arrival_84, (List.forall_mem_cons.mpr ⟨bk_X7_arrival_94, (fun _ h => absurd h List.not_mem_nil)⟩)⟩)⟩)⟩)⟩)⟩)⟩)⟩)⟩)⟩)⟩)⟩)⟩)⟩)⟩)⟩)⟩)
def kb_X7_lastCommanded : List (Nat × Nat × List xm_I) := [(0, 9, kX7_lastCommanded_0), (9, 21, kX7_lastCommanded_9), (30, 37, kX7_lastCommanded_30), (37, 39, kX7_lastCommanded_37), (21, 24, kX7_lastCommanded_21)]
theorem lb_X7_lastCommanded_0 : xm_lk kb_X7_lastCommanded 0 = some (9, kX7_lastCommanded_0) := rfl
theorem lb_X7_lastCommanded_9 : xm_lk kb_X7_lastCommanded 9 = some (21, kX7_lastCommanded_9) := rfl
theorem lb_X7_lastCommanded_30 : xm_lk kb_X7_lastCommanded 30 = some (37, kX7_lastCommanded_30) := rfl
theorem lb_X7_lastCommanded_37 : xm_lk kb_X7_lastCommanded 37 = some (39, kX7_lastCommanded_37) := rfl
theorem lb_X7_lastCommanded_21 : xm_lk kb_X7_lastCommanded 21 = some (24, kX7_lastCommanded_21) := rfl
theorem lb_X7_lastCommanded_24 : xm_lk kb_X7_lastCommanded 24 = none := rfl
theorem lb_X7_lastCommanded_39 : xm_lk kb_X7_lastCommanded 39 = none := rfl
theorem kc_X7_lastCommanded : xm_oks cX7_lastCommanded 7 3 0 false kb_X7_lastCommanded := (List.forall_mem_cons.mpr ⟨bk_X7_lastCommanded_0, (List.forall_mem_cons.mpr ⟨bk_X7_lastCommanded_9, (List.forall_mem_cons.mpr ⟨bk_X7_lastCommanded_30, (List.forall_mem_cons.mpr ⟨bk_X7_lastCommanded_37, (List.forall_mem_cons.mpr ⟨bk_X7_lastCommanded_21, (fun _ h => absurd h List.not_mem_nil)⟩)⟩)⟩)⟩)⟩)
def kb_X7_openTicks : List (Nat × Nat × List xm_I) := [(0, 8, kX7_openTicks_0), (11, 12, kX7_openTicks_11), (15, 20, kX7_openTicks_15), (20, 30, kX7_openTicks_20), (31, 33, kX7_openTicks_31), (36, 43, kX7_openTicks_36), (46, 53, kX7_openTicks_46), (53, 54, kX7_openTicks_53), (54, 62, kX7_openTicks_54), (62, 64, kX7_openTicks_62), (30, 31, kX7_openTicks_30)]
theorem lb_X7_openTicks_0 : xm_lk kb_X7_openTicks 0 = some (8, kX7_openTicks_0) := rfl
theorem lb_X7_openTicks_11 : xm_lk kb_X7_openTicks 11 = some (12, kX7_openTicks_11) := rfl
theorem lb_X7_openTicks_15 : xm_lk kb_X7_openTicks 15 = some (20, kX7_openTicks_15) := rfl
theorem lb_X7_openTicks_20 : xm_lk kb_X7_openTicks 20 = some (30, kX7_openTicks_20) := rfl
theorem lb_X7_openTicks_31 : xm_lk kb_X7_openTicks 31 = some (33, kX7_openTicks_31) := rfl
theorem lb_X7_openTicks_36 : xm_lk kb_X7_openTicks 36 = some (43, kX7_openTicks_36) := rfl
theorem lb_X7_openTicks_46 : xm_lk kb_X7_openTicks 46 = some (53, kX7_openTicks_46) := rfl
theorem lb_X7_openTicks_53 : xm_lk kb_X7_openTicks 53 = some (54, kX7_openTicks_53) := rfl
theorem lb_X7_openTicks_54 : xm_lk kb_X7_openTicks 54 = some (62, kX7_openTicks_54) := rfl
theorem lb_X7_openTicks_62 : xm_lk kb_X7_openTicks 62 = some (64, kX7_openTicks_62) := rfl
theorem lb_X7_openTicks_30 : xm_lk kb_X7_openTicks 30 = some (31, kX7_openTicks_30) := rfl
theorem lb_X7_openTicks_8 : xm_lk kb_X7_openTicks 8 = none := rfl
theorem lb_X7_openTicks_12 : xm_lk kb_X7_openTicks 12 = none := rfl
theorem lb_X7_openTicks_33 : xm_lk kb_X7_openTicks 33 = none := rfl
theorem lb_X7_openTicks_43 : xm_lk kb_X7_openTicks 43 = none := rfl
theorem lb_X7_openTicks_64 : xm_lk kb_X7_openTicks 64 = none := rfl
theorem kc_X7_openTicks : xm_oks cX7_openTicks 7 4 0 false kb_X7_openTicks := (List.forall_mem_cons.mpr ⟨bk_X7_openTicks_0, (List.forall_mem_cons.mpr ⟨bk_X7_openTicks_11, (List.forall_mem_cons.mpr ⟨bk_X7_openTicks_15, (List.forall_mem_cons.mpr ⟨bk_X7_openTicks_20, (List.forall_mem_cons.mpr ⟨bk_X7_openTicks_31, (List.forall_mem_cons.mpr ⟨bk_X7_openTicks_36, (List.forall_mem_cons.mpr ⟨bk_X7_openTicks_46, (List.forall_mem_cons.mpr ⟨bk_X7_openTicks_53, (List.forall_mem_cons.mpr ⟨bk_X7_openTicks_54, (List.forall_mem_cons.mpr ⟨bk_X7_openTicks_62, (List.forall_mem_cons.mpr ⟨bk_X7_openTicks_30, (fun _ h => absurd h List.not_mem_nil)⟩)⟩)⟩)⟩)⟩)⟩)⟩)⟩)⟩)⟩)⟩)
def kb_X7_opensAt : List (Nat × Nat × List xm_I) := [(0, 8, kX7_opensAt_0), (11, 12, kX7_opensAt_11), (15, 20, kX7_opensAt_15), (20, 30, kX7_opensAt_20), (33, 34, kX7_opensAt_33), (34, 42, kX7_opensAt_34), (45, 54, kX7_opensAt_45), (54, 64, kX7_opensAt_54), (64, 65, kX7_opensAt_64), (65, 66, kX7_opensAt_65), (69, 76, kX7_opensAt_69), (76, 77, kX7_opensAt_76), (77, 78, kX7_opensAt_77)]
theorem lb_X7_opensAt_0 : xm_lk kb_X7_opensAt 0 = some (8, kX7_opensAt_0) := rfl
theorem lb_X7_opensAt_11 : xm_lk kb_X7_opensAt 11 = some (12, kX7_opensAt_11) := rfl
theorem lb_X7_opensAt_15 : xm_lk kb_X7_opensAt 15 = some (20, kX7_opensAt_15) := rfl
theorem lb_X7_opensAt_20 : xm_lk kb_X7_opensAt 20 = some (30, kX7_opensAt_20) := rfl
theorem lb_X7_opensAt_33 : xm_lk kb_X7_opensAt 33 = some (34, kX7_opensAt_33) := rfl
theorem lb_X7_opensAt_34 : xm_lk kb_X7_opensAt 34 = some (42, kX7_opensAt_34) := rfl
theorem lb_X7_opensAt_45 : xm_lk kb_X7_opensAt 45 = some (54, kX7_opensAt_45) := rfl
theorem lb_X7_opensAt_54 : xm_lk kb_X7_opensAt 54 = some (64, kX7_opensAt_54) := rfl
theorem lb_X7_opensAt_64 : xm_lk kb_X7_opensAt 64 = some (65, kX7_opensAt_64) := rfl
theorem lb_X7_opensAt_65 : xm_lk kb_X7_opensAt 65 = some (66, kX7_opensAt_65) := rfl
theorem lb_X7_opensAt_69 : xm_lk kb_X7_opensAt 69 = some (76, kX7_opensAt_69) := rfl
theorem lb_X7_opensAt_76 : xm_lk kb_X7_opensAt 76 = some (77, kX7_opensAt_76) := rfl
theorem lb_X7_opensAt_77 : xm_lk kb_X7_opensAt 77 = some (78, kX7_opensAt_77) := rfl
theorem lb_X7_opensAt_8 : xm_lk kb_X7_opensAt 8 = none := rfl
theorem lb_X7_opensAt_12 : xm_lk kb_X7_opensAt 12 = none := rfl
theorem lb_X7_opensAt_30 : xm_lk kb_X7_opensAt 30 = none := rfl
theorem lb_X7_opensAt_42 : xm_lk kb_X7_opensAt 42 = none := rfl
theorem lb_X7_opensAt_66 : xm_lk kb_X7_opensAt 66 = none := rfl
theorem lb_X7_opensAt_78 : xm_lk kb_X7_opensAt 78 = none := rfl
theorem kc_X7_opensAt : xm_oks cX7_opensAt 7 4 0 false kb_X7_opensAt := (List.forall_mem_cons.mpr ⟨bk_X7_opensAt_0, (List.forall_mem_cons.mpr ⟨bk_X7_opensAt_11, (List.forall_mem_cons.mpr ⟨bk_X7_opensAt_15, (List.forall_mem_cons.mpr ⟨bk_X7_opensAt_20, (List.forall_mem_cons.mpr ⟨bk_X7_opensAt_33, (List.forall_mem_cons.mpr ⟨bk_X7_opensAt_34, (List.forall_mem_cons.mpr ⟨bk_X7_opensAt_45, (List.forall_mem_cons.mpr ⟨bk_X7_opensAt_54, (List.forall_mem_cons.mpr ⟨bk_X7_opensAt_64, (List.forall_mem_cons.mpr ⟨bk_X7_opensAt_65, (List.forall_mem_cons.mpr ⟨bk_X7_opensAt_69, (List.forall_mem_cons.mpr ⟨bk_X7_opensAt_76, (List.forall_mem_cons.mpr ⟨bk_X7_opensAt_77, (fun _ h => absurd h List.not_mem_nil)⟩)⟩)⟩)⟩)⟩)⟩)⟩)⟩)⟩)⟩)⟩)⟩)⟩)
def kb_X7_fate : List (Nat × Nat × List xm_I) := [(0, 8, kX7_fate_0), (11, 12, kX7_fate_11), (15, 20, kX7_fate_15), (20, 22, kX7_fate_20), (22, 38, kX7_fate_22), (47, 49, kX7_fate_47), (49, 51, kX7_fate_49), (54, 59, kX7_fate_54), (62, 67, kX7_fate_62), (67, 70, kX7_fate_67), (73, 77, kX7_fate_73), (77, 95, kX7_fate_77), (105, 107, kX7_fate_105), (38, 47, kX7_fate_38), (95, 105, kX7_fate_95)]
theorem lb_X7_fate_0 : xm_lk kb_X7_fate 0 = some (8, kX7_fate_0) := rfl
theorem lb_X7_fate_11 : xm_lk kb_X7_fate 11 = some (12, kX7_fate_11) := rfl
theorem lb_X7_fate_15 : xm_lk kb_X7_fate 15 = some (20, kX7_fate_15) := rfl
theorem lb_X7_fate_20 : xm_lk kb_X7_fate 20 = some (22, kX7_fate_20) := rfl
theorem lb_X7_fate_22 : xm_lk kb_X7_fate 22 = some (38, kX7_fate_22) := rfl
theorem lb_X7_fate_47 : xm_lk kb_X7_fate 47 = some (49, kX7_fate_47) := rfl
theorem lb_X7_fate_49 : xm_lk kb_X7_fate 49 = some (51, kX7_fate_49) := rfl
theorem lb_X7_fate_54 : xm_lk kb_X7_fate 54 = some (59, kX7_fate_54) := rfl
theorem lb_X7_fate_62 : xm_lk kb_X7_fate 62 = some (67, kX7_fate_62) := rfl
theorem lb_X7_fate_67 : xm_lk kb_X7_fate 67 = some (70, kX7_fate_67) := rfl
theorem lb_X7_fate_73 : xm_lk kb_X7_fate 73 = some (77, kX7_fate_73) := rfl
theorem lb_X7_fate_77 : xm_lk kb_X7_fate 77 = some (95, kX7_fate_77) := rfl
theorem lb_X7_fate_105 : xm_lk kb_X7_fate 105 = some (107, kX7_fate_105) := rfl
theorem lb_X7_fate_38 : xm_lk kb_X7_fate 38 = some (47, kX7_fate_38) := rfl
theorem lb_X7_fate_95 : xm_lk kb_X7_fate 95 = some (105, kX7_fate_95) := rfl
theorem lb_X7_fate_8 : xm_lk kb_X7_fate 8 = none := rfl
theorem lb_X7_fate_12 : xm_lk kb_X7_fate 12 = none := rfl
theorem lb_X7_fate_51 : xm_lk kb_X7_fate 51 = none := rfl
theorem lb_X7_fate_59 : xm_lk kb_X7_fate 59 = none := rfl
theorem lb_X7_fate_70 : xm_lk kb_X7_fate 70 = none := rfl
theorem lb_X7_fate_107 : xm_lk kb_X7_fate 107 = none := rfl
theorem kc_X7_fate : xm_oks cX7_fate 7 5 0 false kb_X7_fate := (List.forall_mem_cons.mpr ⟨bk_X7_fate_0, (List.forall_mem_cons.mpr ⟨bk_X7_fate_11, (List.forall_mem_cons.mpr ⟨bk_X7_fate_15, (List.forall_mem_cons.mpr ⟨bk_X7_fate_20, (List.forall_mem_cons.mpr ⟨bk_X7_fate_22, (List.forall_mem_cons.mpr ⟨bk_X7_fate_47, (List.forall_mem_cons.mpr ⟨bk_X7_fate_49, (List.forall_mem_cons.mpr ⟨bk_X7_fate_54, (List.forall_mem_cons.mpr ⟨bk_X7_fate_62, (List.forall_mem_cons.mpr ⟨bk_X7_fate_67, (List.forall_mem_cons.mpr ⟨bk_X7_fate_73, (List.forall_mem_cons.mpr ⟨bk_X7_fate_77, (List.forall_mem_cons.mpr ⟨bk_X7_fate_105, (List.forall_mem_cons.mpr ⟨bk_X7_fate_38, (List.forall_mem_cons.mpr ⟨bk_X7_fate_95, (fun _ h => absurd h List.not_mem_nil)⟩)⟩)⟩)⟩)⟩)⟩)⟩)⟩)⟩)⟩)⟩)⟩)⟩)⟩)⟩)
def kb_X7_spacing : List (Nat × Nat × List xm_I) := [(0, 11, kX7_spacing_0), (14, 15, kX7_spacing_14), (18, 23, kX7_spacing_18), (23, 35, kX7_spacing_23), (49, 50, kX7_spacing_49), (50, 60, kX7_spacing_50), (77, 86, kX7_spacing_77), (35, 45, kX7_spacing_35), (60, 74, kX7_spacing_60), (45, 46, kX7_spacing_45), (74, 77, kX7_spacing_74)]
theorem lb_X7_spacing_0 : xm_lk kb_X7_spacing 0 = some (11, kX7_spacing_0) := rfl
theorem lb_X7_spacing_14 : xm_lk kb_X7_spacing 14 = some (15, kX7_spacing_14) := rfl
theorem lb_X7_spacing_18 : xm_lk kb_X7_spacing 18 = some (23, kX7_spacing_18) := rfl
theorem lb_X7_spacing_23 : xm_lk kb_X7_spacing 23 = some (35, kX7_spacing_23) := rfl
theorem lb_X7_spacing_49 : xm_lk kb_X7_spacing 49 = some (50, kX7_spacing_49) := rfl
theorem lb_X7_spacing_50 : xm_lk kb_X7_spacing 50 = some (60, kX7_spacing_50) := rfl
theorem lb_X7_spacing_77 : xm_lk kb_X7_spacing 77 = some (86, kX7_spacing_77) := rfl
theorem lb_X7_spacing_35 : xm_lk kb_X7_spacing 35 = some (45, kX7_spacing_35) := rfl
theorem lb_X7_spacing_60 : xm_lk kb_X7_spacing 60 = some (74, kX7_spacing_60) := rfl
theorem lb_X7_spacing_45 : xm_lk kb_X7_spacing 45 = some (46, kX7_spacing_45) := rfl
theorem lb_X7_spacing_74 : xm_lk kb_X7_spacing 74 = some (77, kX7_spacing_74) := rfl
theorem lb_X7_spacing_11 : xm_lk kb_X7_spacing 11 = none := rfl
theorem lb_X7_spacing_15 : xm_lk kb_X7_spacing 15 = none := rfl
theorem lb_X7_spacing_46 : xm_lk kb_X7_spacing 46 = none := rfl
theorem lb_X7_spacing_86 : xm_lk kb_X7_spacing 86 = none := rfl
theorem kc_X7_spacing : xm_oks cX7_spacing 7 4 0 false kb_X7_spacing := (List.forall_mem_cons.mpr ⟨bk_X7_spacing_0, (List.forall_mem_cons.mpr ⟨bk_X7_spacing_14, (List.forall_mem_cons.mpr ⟨bk_X7_spacing_18, (List.forall_mem_cons.mpr ⟨bk_X7_spacing_23, (List.forall_mem_cons.mpr ⟨bk_X7_spacing_49, (List.forall_mem_cons.mpr ⟨bk_X7_spacing_50, (List.forall_mem_cons.mpr ⟨bk_X7_spacing_77, (List.forall_mem_cons.mpr ⟨bk_X7_spacing_35, (List.forall_mem_cons.mpr ⟨bk_X7_spacing_60, (List.forall_mem_cons.mpr ⟨bk_X7_spacing_45, (List.forall_mem_cons.mpr ⟨bk_X7_spacing_74, (fun _ h => absurd h List.not_mem_nil)⟩)⟩)⟩)⟩)⟩)⟩)⟩)⟩)⟩)⟩)⟩)

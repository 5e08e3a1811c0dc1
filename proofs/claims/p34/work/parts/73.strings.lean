/-! STRINGS: what is known of the literals; String.length, String.charAt -/
def sx_tx : List String := ["belt", "vibration", "gate", "under", "over", "unsteady", "limits", "window", "notch", "steady", "least", "drift", "zero", "confirm", "on", "off"]
def sx_by : List (List Int32) := [[98, 101, 108, 116], [118, 105, 98, 114, 97, 116, 105, 111, 110], [103, 97, 116, 101], [117, 110, 100, 101, 114], [111, 118, 101, 114], [117, 110, 115, 116, 101, 97, 100, 121], [108, 105, 109, 105, 116, 115], [119, 105, 110, 100, 111, 119], [110, 111, 116, 99, 104], [115, 116, 101, 97, 100, 121], [108, 101, 97, 115, 116], [100, 114, 105, 102, 116], [122, 101, 114, 111], [99, 111, 110, 102, 105, 114, 109], [111, 110], [111, 102, 102]]
def sx_k : List Nat := [67, 91, 121, 139, 141, 143, 151, 153, 155, 157, 159, 161, 163, 165, 192, 198, 147, 149, 154, 113, 115, 117, 122, 124, 126, 128, 130, 132, 134, 136, 138, 143]
def sx_own (i : Nat) : Nat := if i < 16 then 2 else 7
/-- literal i's length, its byte at j -/
def sx_n (i : Nat) : Nat := (sx_by.getD (i % 16) []).length
def sx_c (i j : Nat) : Int32 := (sx_by.getD (i % 16) []).getD j 0
theorem sx_n_b (i : Nat) : sx_n i ≤ 9 := by
  have h : ∀ k, k < 16 → (sx_by.getD k []).length ≤ 9 := by decide
  exact h _ (Nat.mod_lt _ (by decide))
theorem sx_ok {i j : Nat} (hj : j < sx_n i) : ((sx_c i j &&& 255).toUInt32 % 65536).toInt32 = sx_c i j ∧ narrow .char (.int (sx_c i j)) = .int (sx_c i j) ∧ 97 ≤ (sx_c i j).toInt ∧ (sx_c i j).toInt ≤ 122 := by
  have h : ∀ k, k < 16 → ∀ j, j < (sx_by.getD k []).length → (((sx_by.getD k []).getD j 0 &&& 255).toUInt32 % 65536).toInt32 = (sx_by.getD k []).getD j 0 ∧ narrow .char (.int ((sx_by.getD k []).getD j 0)) = .int ((sx_by.getD k []).getD j 0) ∧ 97 ≤ ((sx_by.getD k []).getD j 0).toInt ∧ ((sx_by.getD k []).getD j 0).toInt ≤ 122 := by decide +kernel
  exact h _ (Nat.mod_lt _ (by decide)) j hj
def xs1 (E : xm_E) (i : Nat) (U : State) : Prop := vk_R (xm_C (sx_own i)) (sx_k.getD i 0) (sx_tx.getD (i % 16) "") (E.2.1 (1001 + i)) U ∧ va_O RJ0 (E.2.1 (1001 + i)) (fun q => E.2.2.1 ≤ q) U U.heap ∧ va_OF RJ0 "coder" "B" (.int 0) (E.2.1 (1001 + i)) (fun q => E.2.2.1 ≤ q) U U.heap ∧ va_OF RJ0 "value" "[B" (.ref (E.2.1 (1101 + i))) (E.2.1 (1001 + i)) (fun q => E.2.2.1 ≤ q) U U.heap ∧ va_T .byte (E.2.1 (1101 + i)) (sx_n i) (fun j => .int (sx_c i j)) (fun q => E.2.2.1 ≤ q) U U.heap
/-- all that is known of them below ours -/
def xst (E : xm_E) (U : State) : Prop := (∀ i, i < 16 → xs1 E i U) ∧ va_Z RJ0 "COMPACT_STRINGS" "Z" (.int 1) (fun q => E.2.2.1 ≤ q) U U.heap ∧ ∃ q : Value, (q = .null ∨ q = .ref 1200) ∧ va_Z RJ3 "SIOOBE_FORMATTER" "Ljava/util/function/BiFunction;" (xm_gv E.2.1 q) (fun q => E.2.2.1 ≤ q) U U.heap
theorem sj_ok : ∀ w ∈ [Cond.fieldLink RJ0 9 RJ0 "value" "[B", Cond.fieldLink RJ0 15 RJ0 "coder" "B", Cond.fieldLink RJ0 38 RJ0 "COMPACT_STRINGS" "Z", Cond.fieldLink RJ0 1053 RJ3 "SIOOBE_FORMATTER" "Ljava/util/function/BiFunction;"], w ∈ lw_tb := wq_of _ [979, 980, 631, 712] (by decide +kernel) (by decide +kernel)
section SJX
variable {E : xm_E} {p : Program} {l : Launch} {e : Env} {R : Room} {s : State} {m : MethodId} {args : Array Value} {below : List Frame} {meth : Method} {c : Code} {own nL ce sl pc : Nat} {cc : ByteArray} {Q : State → Prop} {L S : List Value} {M : xm_M}
theorem sj_S {H : Heap} {locs : List Loc} (hF : xm_F E s H locs) : va_S (fun q => E.2.2.1 ≤ q) s.heap H locs := ⟨hF.1, fun q _ hb => hF.2.1 q (Or.inl (by omega)), fun z hz => by have h := hF.2.2 z hz; unfold xm_o at h; show E.2.2.1 ≤ _; omega⟩
theorem st_ldc (X : xm_X E own nL cc p s m args meth c) (hst : ∀ U, E.2.2.2.1 U → xst E U) {i k : Nat} (hi : i < 16) (ho : own = sx_own i) (hk : sx_k.getD i 0 = k) (hd : decode cc pc = .ok (.ldc k, 2)) (h : xm_Rn E p l e R s m args below meth c nL ce sl Q (pc + 2) L (.ref (1001 + i) :: S) M) : xm_Rn E p l e R s m args below meth c nL ce sl Q pc L S M := fun H locs ls hW hF hl => by
  have h1 := ((hst s X.2.2.2.2.2.2.2.2.1).1 i hi).1
  rw [← ho, hk] at h1
  exact va_ldcS X.1 X.2.1 X.2.2.2.1 h1 hd (h H locs ls hW hF hl)
theorem st_sval (X : xm_X E 10 nL cc p s m args meth c) (hst : ∀ U, E.2.2.2.1 U → xst E U) {i : Nat} (hi : i < 16) (hd : decode cc pc = .ok (.getfield 9, 3)) (h : xm_Rn E p l e R s m args below meth c nL ce sl Q (pc + 3) L (.ref (1101 + i) :: S) M) : xm_Rn E p l e R s m args below meth c nL ce sl Q pc L (.ref (1001 + i) :: S) M := fun H locs ls hW hF hl =>
  vk_getf X.1 X.2.1 ((hst s X.2.2.2.2.2.2.2.2.1).1 i hi).2.2.2.1 (sj_S hF) X.2.2.2.1 (X.2.2.2.2.1 _ (wq_at sj_ok 0 rfl)) (fun _ h => h) hd (h H locs ls hW hF hl)
theorem st_scod (X : xm_X E 10 nL cc p s m args meth c) (hst : ∀ U, E.2.2.2.1 U → xst E U) {i : Nat} (hi : i < 16) (hd : decode cc pc = .ok (.getfield 15, 3)) (h : xm_Rn E p l e R s m args below meth c nL ce sl Q (pc + 3) L (.int 0 :: S) M) : xm_Rn E p l e R s m args below meth c nL ce sl Q pc L (.ref (1001 + i) :: S) M := fun H locs ls hW hF hl =>
  vk_getf X.1 X.2.1 ((hst s X.2.2.2.2.2.2.2.2.1).1 i hi).2.2.1 (sj_S hF) X.2.2.2.1 (X.2.2.2.2.1 _ (wq_at sj_ok 1 rfl)) (fun _ h => h) hd (h H locs ls hW hF hl)
theorem st_scs (X : xm_X E 10 nL cc p s m args meth c) (hst : ∀ U, E.2.2.2.1 U → xst E U) (hd : decode cc pc = .ok (.getstatic 38, 3)) (h : xm_Rn E p l e R s m args below meth c nL ce sl Q (pc + 3) L (.int 1 :: S) M) : xm_Rn E p l e R s m args below meth c nL ce sl Q pc L S M := fun H locs ls hW hF hl =>
  va_gets X.1 X.2.1 (hst s X.2.2.2.2.2.2.2.2.1).2.1 (sj_S hF) X.2.2.2.1 (X.2.2.2.2.1 _ (wq_at sj_ok 2 rfl)) (fun _ h => h) hd (h H locs ls hW hF hl)
theorem st_sfm (X : xm_X E 10 nL cc p s m args meth c) (hst : ∀ U, E.2.2.2.1 U → xst E U) (hd : decode cc pc = .ok (.getstatic 1053, 3)) (h : ∀ q : Value, (q = .null ∨ q = .ref 1200) → xm_Rn E p l e R s m args below meth c nL ce sl Q (pc + 3) L (q :: S) M) : xm_Rn E p l e R s m args below meth c nL ce sl Q pc L S M := fun H locs ls hW hF hl => by
  obtain ⟨-, -, q, h3, h4⟩ := hst s X.2.2.2.2.2.2.2.2.1
  exact va_gets X.1 X.2.1 h4 (sj_S hF) X.2.2.2.1 (X.2.2.2.2.1 _ (wq_at sj_ok 3 rfl)) (fun _ h => h) hd (h q h3 H locs ls hW hF hl)
theorem st_slen2 (X : xm_X E own nL cc p s m args meth c) (hst : ∀ U, E.2.2.2.1 U → xst E U) {i : Nat} (hi : i < 16) (hd : decode cc pc = .ok (.arraylength, 1)) (h : xm_Rn E p l e R s m args below meth c nL ce sl Q (pc + 1) L (.int (nI (sx_n i)) :: S) M) : xm_Rn E p l e R s m args below meth c nL ce sl Q pc L (.ref (1101 + i) :: S) M := fun H locs ls hW hF hl =>
  va_tlen X.1 X.2.1 ((hst s X.2.2.2.2.2.2.2.2.1).1 i hi).2.2.2.2 (sj_S hF) rfl hd (h H locs ls hW hF hl)
theorem st_sbal (X : xm_X E own nL cc p s m args meth c) (hst : ∀ U, E.2.2.2.1 U → xst E U) {i j : Nat} (hi : i < 16) (hj : j < sx_n i) (hj2 : j < 2 ^ 31) (hd : decode cc pc = .ok (.baload, 1)) (h : xm_Rn E p l e R s m args below meth c nL ce sl Q (pc + 1) L (.int (sx_c i j) :: S) M) : xm_Rn E p l e R s m args below meth c nL ce sl Q pc L (.int (nI j) :: .ref (1101 + i) :: S) M := fun H locs ls hW hF hl =>
  va_tb X.1 X.2.1 ((hst s X.2.2.2.2.2.2.2.2.1).1 i hi).2.2.2.2 (sj_S hF) (vp_in_nI hj (Nat.lt_of_le_of_lt (sx_n_b i) (by decide))) (by show Value.int (sx_c i (nI j).toNatClampNeg) = _; rw [cl_n hj2]; rfl) hd (h H locs ls hW hF hl)
theorem st_pop (X : xm_X E own nL cc p s m args meth c) {v : Value} (hv : v.category = 1) (hd : decode cc pc = .ok (.pop, 1)) (h : xm_Rn E p l e R s m args below meth c nL ce sl Q (pc + 1) L S M) : xm_Rn E p l e R s m args below meth c nL ce sl Q pc L (v :: S) M := fun H locs ls hW hF hl => lv_pop X.1 X.2.1 hd (by rw [xm_gv_cat]; exact hv) (h H locs ls hW hF hl)
theorem st_i2c (X : xm_X E own nL cc p s m args meth c) {x v : Int32} (hv : (x.toUInt32 % 65536).toInt32 = v) (hd : decode cc pc = .ok (.i2c, 1)) (h : xm_Rn E p l e R s m args below meth c nL ce sl Q (pc + 1) L (.int v :: S) M) : xm_Rn E p l e R s m args below meth c nL ce sl Q pc L (.int x :: S) M := fun H locs ls hW hF hl => lv_i2c X.1 X.2.1 hd hv (h H locs ls hW hF hl)
end SJX
/-- what is fixed of a method of the JDK's -/
def xm_moJ (mt : xm_T4) (own n : Nat) (st : Bool) : Prop := plainName mt.1.cls = true ∧ mt.1.cls = xm_C own ∧ mt.2.2.1 ≤ 11 ∧ (mt.1.cls ≠ "java/lang/invoke/MethodHandle" ∧ mt.1.cls ≠ "java/lang/invoke/VarHandle" ∧ (parseMethodDescriptor mt.1.desc).map (fun d => d.parameters.length) = some n) ∧ Cond.code mt.1 mt.2.1 mt.2.2.1 mt.2.2.2 ∈ lw_tb ∧ Cond.initialized mt.1.cls ∈ lw_tb ∧ (st = true → Cond.static mt.1 ∈ lw_tb) ∧ (st = false → Cond.instanceMethod mt.1 ∈ lw_tb ∧ Cond.selects mt.1.cls mt.1 mt.1 ∈ lw_tb)
def xm_YJ (E : xm_E) (own nL : Nat) (cc : ByteArray) (D mc ms : Nat) (Z : xm_Z) : Prop := xm_X E own nL cc Z.1 Z.2.2.2.2.1 Z.2.2.2.2.2.1 Z.2.2.2.2.2.2.1 Z.2.2.2.2.2.2.2.2.1 Z.2.2.2.2.2.2.2.2.2 ∧ D ≤ Z.2.2.2.1.frames ∧ 30 * D ≤ Z.2.2.2.1.locals ∧ mc ≤ Z.2.2.2.1.cells ∧ ms ≤ Z.2.2.2.1.slots
theorem xm_Y.j {E : xm_E} {own nL rt D mc ms : Nat} {cc : ByteArray} {ini : Bool} {Z : xm_Z} (h : xm_Y E own nL cc rt ini D mc ms Z) : xm_YJ E own nL cc D mc ms Z := ⟨h.1, h.2.2.2⟩
theorem xm_metJ {E : xm_E} {l : Launch} {mt : xm_T4} {own n d : Nat} {st : Bool} {As : List Value} {M : xm_M} {r : Option Value → xm_M → Prop} (hm : xm_moJ mt own n st) (hA : ∀ v ∈ As, v.category = 1 ∧ xm_j v = false) (hn : As.length ≤ mt.2.2.1)
    (body : ∀ Z : xm_Z, Z.2.1 = l → xm_YJ E own mt.2.2.1 mt.2.1 d 0 0 Z → Z.2.2.2.2.2.2.2.2.1.sig.returnType = mt.2.2.2 → xm_Go E Z mt.2.2.1 0 0 r 0 0 0 (As ++ List.replicate (mt.2.2.1 - As.length) (.retAddr 0)) [] M) : xm_Met E l mt d 0 0 As M r := by
  refine Met.ofW (cc := mt.2.1) (maxL := mt.2.2.1) (ret := mt.2.2.2) hm.1 rfl ?_
  intro p e s m args below meth c s₁ B hml hv
  obtain ⟨rfl, hW, hK, hO, hxt, hsz⟩ := hv
  have hts := atoms_spec (ws := xm_ws mt) B.pre
  have hl := lv_entry (As.map (xm_gv E.2.1)) (n := mt.2.2.1) (by rw [xm_sl_len As hA]; exact hn)
  rw [lg_entry_eq]
  generalize (lg_sl (As.map (xm_gv E.2.1)) ++ List.replicate (mt.2.2.1 - (lg_sl (As.map (xm_gv E.2.1))).length) Slot.unset).toArray = ls at hl ⊢
  refine body (p, l, e, xm_rm d 0 0, s, m, _, below, meth, c) rfl ⟨⟨B.exec, B.bytes, hml, ?_, fun w hw => hts w (List.mem_cons_of_mem _ hw), hK, B.notSynchronized, hO, hxt, hsz⟩, Nat.le_refl _, Nat.le_refl _, Nat.le_refl _, Nat.le_refl _⟩ B.returns s.heap [] ls hW ⟨Nat.le_refl _, fun _ _ => rfl, fun z hz => by cases hz⟩ ?_
  · rw [← hm.2.1]; exact findClass_of_methodNamed B.named
  · show lv_has ls mt.2.2.1 (xm_e E.2.1 0 _)
    rw [xm_e_args _ As 0 hA]
    exact hl
section SJC
variable {E : xm_E} {Z : xm_Z} {own nL D mc ms ce sl pc : Nat} {cc : ByteArray} {r r1 : Option Value → xm_M → Prop} {L S : List Value} {M : xm_M}
theorem xm_retJ (hY : xm_YJ E own nL cc D mc ms Z) {ty : FieldType} {v : Int32} (hr : Z.2.2.2.2.2.2.2.2.1.sig.returnType = some ty) (hn : narrow ty (.int v) = .int v) (hd : decode cc pc = .ok (.ireturn, 1)) (h : r (some (.int v)) M) : xm_Go E Z nL mc ms r mc ms pc L [.int v] M := fun H locs ls hW hF hl =>
  W.zret hY.1.1 hY.1.2.1 hr hn (fun t ht _ => xm_qend (v := some (.int _)) h ht hW hF) hF.2.2 hd hY.1.2.2.2.2.2.2.1
theorem xm_retvJ (hY : xm_YJ E own nL cc D mc ms Z) (hr : Z.2.2.2.2.2.2.2.2.1.sig.returnType = none) (hd : decode cc pc = .ok (.return_, 1)) (h : r none M) : xm_Go E Z nL mc ms r mc ms pc L [] M := fun H locs ls hW hF hl =>
  W.vret hY.1.1 hY.1.2.1 hr (fun t ht _ => xm_qend (v := none) h ht hW hF) hF.2.2 hd hY.1.2.2.2.2.2.2.1
/-- a call of a method of String's on a literal -/
theorem xm_callVJ (hY : xm_YJ E own nL cc D mc ms Z) (hst : ∀ U, E.2.2.2.1 U → xst E U) {mt : xm_T4} {n d cp i : Nat} {As : List Value} (hi : i < 16) (hd : decode cc pc = .ok (.invokevirtual cp, 3)) (hl : Cond.methodLink (xm_C own) cp mt.1 ∈ lw_tb) (hm : xm_moJ mt 10 n false) (hs : xm_Met E Z.2.1 mt d 0 0 (.ref (1001 + i) :: As) M r1) (hn : As.length = n) (hD : d + 1 ≤ D) (hf : ce ≤ mc ∧ sl ≤ ms) (hS : (S.map fun v => v.category).sum ≤ 8)
    (k : ∀ v M1, r1 v M1 → xm_Go E Z nL mc ms r ce sl (pc + 3) L (v.toList ++ S) M1) : xm_Go E Z nL mc ms r ce sl pc L (As.reverse ++ .ref (1001 + i) :: S) M := by
  intro H locs ls hW hF hl0
  obtain ⟨X, hR1, hR2, hR3, hR4⟩ := hY
  obtain ⟨hx, hbc, hml, hown, hts, hK, hlocks, hO, hxt, hsz⟩ := id X
  obtain ⟨cell, hc, hcv, hcc, -⟩ := (((hst _ hxt).1 i hi).2.1).kept (sj_S hF).2.1
  have hcl : Z.2.2.2.2.1.vm.findClass mt.1.cls = some cell.cls := by
    rw [hm.2.1]
    exact hcc
  have hG : GoodIn lw_tb (wsV (xm_C own) cp mt.1.cls mt.1 (xm_ws mt)) := xm_good (fun w hw => by
    simp only [wsV, xm_ws, List.cons_append, List.nil_append, List.mem_cons] at hw
    rcases hw with rfl | rfl | rfl | rfl | rfl | hw
    · exact hl
    · exact (hm.2.2.2.2.2.2.2 rfl).1
    · exact (hm.2.2.2.2.2.2.2 rfl).2
    · exact hm.2.2.2.2.2.1
    · exact hm.2.2.2.2.1
    · exact hw)
  have hnl := hm.2.2.1
  have hrun := va_runV (As := As.map (xm_gv E.2.1)) (rest := S.map (xm_gv E.2.1)) (g := F0 Z.2.2.2.2.2.1 pc ls ((As.reverse ++ .ref (1001 + i) :: S).map (xm_gv E.2.1))) (cells := ce) (slots := sl) (H := H) (locs := locs) (l := Z.2.1) (e := Z.2.2.1) (R := Z.2.2.2.1) (below := Z.2.2.2.2.2.2.2.1) (meth := Z.2.2.2.2.2.2.2.2.1) ⟨hx, hbc, hml, hown, hts⟩ hs
    (cwV n hts hG rfl rfl rfl ⟨rfl, hm.2.2.2.1⟩ ⟨by show d + 1 ≤ _; omega, by show 8 + (mt.2.2.1 + 11) + 30 * d ≤ _; omega⟩)
    ⟨xm_blind, ⟨cell, hc, hcv, hcl⟩, fun U hU hv => xm_pre X hW hF U hU hv⟩ rfl (by rw [List.length_map]; exact hn) hl0.1 (by simp [xm_gv, List.map_reverse]) (lv_room (by rw [xm_cats]; exact hS)) hd ⟨by omega, by omega⟩
  refine xm_back hrun hF (fun v M1 H1 locs1 h1 hW1 hF1 => ?_)
  have h9 := k v M1 h1 H1 locs1 ls hW1 hF1 hl0
  rw [List.map_append] at h9
  cases v <;> exact h9
theorem xm_callSJ (hY : xm_YJ E own nL cc D mc ms Z) {mt : xm_T4} {ci n d cp : Nat} {As : List Value} (hd : decode cc pc = .ok (.invokestatic cp, 3)) (hl : Cond.methodLink (xm_C own) cp mt.1 ∈ lw_tb) (hm : xm_moJ mt ci n true) (hs : xm_Met E Z.2.1 mt d 0 0 As M r1) (hn : As.length = n) (hD : d + 1 ≤ D) (hf : ce ≤ mc ∧ sl ≤ ms) (hS : (S.map fun v => v.category).sum ≤ 8)
    (k : ∀ v M1, r1 v M1 → xm_Go E Z nL mc ms r ce sl (pc + 3) L (v.toList ++ S) M1) : xm_Go E Z nL mc ms r ce sl pc L (As.reverse ++ S) M := by
  intro H locs ls hW hF hl0
  obtain ⟨X, hR1, hR2, hR3, hR4⟩ := hY
  obtain ⟨hx, hbc, hml, hown, hts, hK, hlocks, hO, hxt, hsz⟩ := id X
  have hG : GoodIn lw_tb (va_wsS (xm_C own) cp mt.1 (xm_ws mt)) := xm_good (fun w hw => by
    simp only [va_wsS, xm_ws, List.cons_append, List.nil_append, List.mem_cons] at hw
    rcases hw with rfl | rfl | rfl | rfl | hw
    · exact hl
    · exact hm.2.2.2.2.2.2.1 rfl
    · exact hm.2.2.2.2.2.1
    · exact hm.2.2.2.2.1
    · exact hw)
  have hnl := hm.2.2.1
  have hrun := va_runS (As := As.map (xm_gv E.2.1)) (rest := S.map (xm_gv E.2.1)) (g := F0 Z.2.2.2.2.2.1 pc ls ((As.reverse ++ S).map (xm_gv E.2.1))) (cells := ce) (slots := sl) (H := H) (locs := locs) (l := Z.2.1) (e := Z.2.2.1) (R := Z.2.2.2.1) (below := Z.2.2.2.2.2.2.2.1) (meth := Z.2.2.2.2.2.2.2.2.1) ⟨hx, hbc, hml, hown, hts⟩ hs
    (va_cwS n hts hG rfl rfl rfl hm.2.2.2.1 ⟨by show d + 1 ≤ _; omega, by show 8 + (mt.2.2.1 + 11) + 30 * d ≤ _; omega⟩)
    ⟨xm_blind, fun U hU hv => xm_pre X hW hF U hU hv⟩ rfl (by rw [List.length_map]; exact hn) hl0.1 (by simp [List.map_reverse]) (lv_room (by rw [xm_cats]; exact hS)) hd ⟨by omega, by omega⟩
  refine xm_back hrun hF (fun v M1 H1 locs1 h1 hW1 hF1 => ?_)
  have h9 := k v M1 h1 H1 locs1 ls hW1 hF1 hl0
  rw [List.map_append] at h9
  cases v <;> exact h9
end SJC
theorem sj_w : ∀ w ∈ [Cond.initialized RJ0, .initialized RJ1, .initialized RJ3, .code yJ0_length_8abf5 cJ0_length_8abf5 1 (some .int), .instanceMethod yJ0_length_8abf5, .selects RJ0 yJ0_length_8abf5 yJ0_length_8abf5, .code yJ0_coder_7d493 cJ0_coder_7d493 1 (some .byte), .instanceMethod yJ0_coder_7d493, .selects RJ0 yJ0_coder_7d493 yJ0_coder_7d493, .code yJ0_charAt_5068e cJ0_charAt_5068e 2 (some .char), .instanceMethod yJ0_charAt_5068e, .selects RJ0 yJ0_charAt_5068e yJ0_charAt_5068e, .code yJ0_isLatin1_aae02 cJ0_isLatin1_aae02 1 (some .boolean), .instanceMethod yJ0_isLatin1_aae02, .selects RJ0 yJ0_isLatin1_aae02 yJ0_isLatin1_aae02, .code yJ1_charAt_3b067 cJ1_charAt_3b067 2 (some .char), .static yJ1_charAt_3b067, .code yJ0_checkIndex_df160 cJ0_checkIndex_df160 2 none, .static yJ0_checkIndex_df160, .code yJ3_checkIndex_8e157 cJ3_checkIndex_8e157 3 (some .int), .static yJ3_checkIndex_8e157, .methodLink RJ0 335 yJ0_coder_7d493, .methodLink RJ0 492 yJ0_isLatin1_aae02, .methodLink RJ0 495 yJ1_charAt_3b067, .methodLink RJ1 9 yJ0_checkIndex_df160, .methodLink RJ0 1059 yJ3_checkIndex_8e157], w ∈ lw_tb := wq_of _ [58, 65, 64, 626, 624, 625, 630, 628, 629, 1066, 1064, 1065, 1070, 1068, 1069, 1073, 1072, 815, 814, 818, 817, 627, 1067, 1071, 1074, 816] (by decide +kernel) (by decide +kernel)
abbrev mt_J0_length : xm_T4 := (yJ0_length_8abf5, cJ0_length_8abf5, 1, some .int)
abbrev mt_J0_coder : xm_T4 := (yJ0_coder_7d493, cJ0_coder_7d493, 1, some .byte)
abbrev mt_J0_charAt : xm_T4 := (yJ0_charAt_5068e, cJ0_charAt_5068e, 2, some .char)
abbrev mt_J0_isLatin1 : xm_T4 := (yJ0_isLatin1_aae02, cJ0_isLatin1_aae02, 1, some .boolean)
abbrev mt_J1_charAt : xm_T4 := (yJ1_charAt_3b067, cJ1_charAt_3b067, 2, some .char)
abbrev mt_J0_checkIndex : xm_T4 := (yJ0_checkIndex_df160, cJ0_checkIndex_df160, 2, none)
abbrev mt_J3_checkIndex : xm_T4 := (yJ3_checkIndex_8e157, cJ3_checkIndex_8e157, 3, some .int)
theorem mo_J0_length : xm_moJ mt_J0_length 10 0 false := ⟨by decide +kernel, rfl, by decide, ⟨by decide +kernel, by decide +kernel, by decide +kernel⟩, wq_at sj_w 3 rfl, wq_at sj_w 0 rfl, (fun h => by cases h), fun _ => ⟨wq_at sj_w 4 rfl, wq_at sj_w 5 rfl⟩⟩
theorem mo_J0_coder : xm_moJ mt_J0_coder 10 0 false := ⟨by decide +kernel, rfl, by decide, ⟨by decide +kernel, by decide +kernel, by decide +kernel⟩, wq_at sj_w 6 rfl, wq_at sj_w 0 rfl, (fun h => by cases h), fun _ => ⟨wq_at sj_w 7 rfl, wq_at sj_w 8 rfl⟩⟩
theorem mo_J0_charAt : xm_moJ mt_J0_charAt 10 1 false := ⟨by decide +kernel, rfl, by decide, ⟨by decide +kernel, by decide +kernel, by decide +kernel⟩, wq_at sj_w 9 rfl, wq_at sj_w 0 rfl, (fun h => by cases h), fun _ => ⟨wq_at sj_w 10 rfl, wq_at sj_w 11 rfl⟩⟩
theorem mo_J0_isLatin1 : xm_moJ mt_J0_isLatin1 10 0 false := ⟨by decide +kernel, rfl, by decide, ⟨by decide +kernel, by decide +kernel, by decide +kernel⟩, wq_at sj_w 12 rfl, wq_at sj_w 0 rfl, (fun h => by cases h), fun _ => ⟨wq_at sj_w 13 rfl, wq_at sj_w 14 rfl⟩⟩
theorem mo_J1_charAt : xm_moJ mt_J1_charAt 11 2 true := ⟨by decide +kernel, rfl, by decide, ⟨by decide +kernel, by decide +kernel, by decide +kernel⟩, wq_at sj_w 15 rfl, wq_at sj_w 1 rfl, fun _ => wq_at sj_w 16 rfl, (fun h => by cases h)⟩
theorem mo_J0_checkIndex : xm_moJ mt_J0_checkIndex 10 2 true := ⟨by decide +kernel, rfl, by decide, ⟨by decide +kernel, by decide +kernel, by decide +kernel⟩, wq_at sj_w 17 rfl, wq_at sj_w 0 rfl, fun _ => wq_at sj_w 18 rfl, (fun h => by cases h)⟩
theorem mo_J3_checkIndex : xm_moJ mt_J3_checkIndex 12 3 true := ⟨by decide +kernel, rfl, by decide, ⟨by decide +kernel, by decide +kernel, by decide +kernel⟩, wq_at sj_w 19 rfl, wq_at sj_w 2 rfl, fun _ => wq_at sj_w 20 rfl, (fun h => by cases h)⟩
section SJM
variable {E : xm_E} {l : Launch} {M : xm_M} {i j : Nat}
theorem sp_J0_coder (hst : ∀ U, E.2.2.2.1 U → xst E U) (hi : i < 16) : xm_Met E l mt_J0_coder 0 0 0 [.ref (1001 + i)] M (fun v M1 => v = some (.int 0) ∧ M1 = M) := by
  refine xm_metJ mo_J0_coder (by simp [xm_j, Value.category]) (Nat.le_of_ble_eq_true rfl) (fun Z hl hY hr => ?_)
  refine st_scs hY.1 hst (by decide +kernel) ?_
  refine st_if hY.1 (q := .eq) (off := 10) (tgt := 13) (by decide +kernel) (by decide) (fun h => absurd h (by show ¬ ((1 : Int32) = 0); decide)) (fun _ => ?_)
  refine st_aload_n hY.1 (n := 0) (x := 1001 + i) (by decide +kernel) rfl ?_
  refine st_scod hY.1 hst hi (by decide +kernel) ?_
  refine st_goto hY.1 (off := 4) (tgt := 14) (by decide +kernel) (by decide) ?_
  exact xm_retJ hY hr (by decide) (by decide +kernel) ⟨rfl, rfl⟩
theorem sp_J0_isLatin1 (hst : ∀ U, E.2.2.2.1 U → xst E U) (hi : i < 16) : xm_Met E l mt_J0_isLatin1 0 0 0 [.ref (1001 + i)] M (fun v M1 => v = some (.int 1) ∧ M1 = M) := by
  refine xm_metJ mo_J0_isLatin1 (by simp [xm_j, Value.category]) (Nat.le_of_ble_eq_true rfl) (fun Z hl hY hr => ?_)
  refine st_scs hY.1 hst (by decide +kernel) ?_
  refine st_if hY.1 (q := .eq) (off := 14) (tgt := 17) (by decide +kernel) (by decide) (fun h => absurd h (by show ¬ ((1 : Int32) = 0); decide)) (fun _ => ?_)
  refine st_aload_n hY.1 (n := 0) (x := 1001 + i) (by decide +kernel) rfl ?_
  refine st_scod hY.1 hst hi (by decide +kernel) ?_
  refine st_if hY.1 (q := .ne) (off := 7) (tgt := 17) (by decide +kernel) (by decide) (fun h => absurd h (by show ¬ ¬ ((0 : Int32) = 0); decide)) (fun _ => ?_)
  refine st_iconst hY.1 (n := 1) (by decide +kernel) ?_
  refine st_goto hY.1 (off := 4) (tgt := 18) (by decide +kernel) (by decide) ?_
  exact xm_retJ hY hr (by decide) (by decide +kernel) ⟨rfl, rfl⟩
theorem sp_J0_length (hst : ∀ U, E.2.2.2.1 U → xst E U) (hi : i < 16) : xm_Met E l mt_J0_length 1 0 0 [.ref (1001 + i)] M (fun v M1 => v = some (.int (nI (sx_n i))) ∧ M1 = M) := by
  refine xm_metJ mo_J0_length (by simp [xm_j, Value.category]) (Nat.le_of_ble_eq_true rfl) (fun Z hl hY hr => ?_)
  refine st_aload_n hY.1 (n := 0) (x := 1001 + i) (by decide +kernel) rfl ?_
  refine st_sval hY.1 hst hi (by decide +kernel) ?_
  refine st_slen2 hY.1 hst hi (by decide +kernel) ?_
  refine st_aload_n hY.1 (n := 0) (x := 1001 + i) (by decide +kernel) rfl ?_
  refine xm_callVJ (cp := 335) (As := []) (S := [.int (nI (sx_n i))]) hY hst hi (by decide +kernel) (wq_at sj_w 21 rfl) mo_J0_coder (sp_J0_coder hst hi) rfl (by decide) ⟨by decide, by decide⟩ (by simp [Value.category]) (fun v M1 h => ?_)
  obtain ⟨rfl, rfl⟩ := h
  refine st_ishr hY.1 (by decide +kernel) ?_
  have e : ∀ n, n ≤ 9 → nI n >>> ((0 : Int32) &&& 31) = nI n := by decide +kernel
  rw [e _ (sx_n_b i)]
  exact xm_retJ hY hr rfl (by decide +kernel) ⟨rfl, rfl⟩
theorem sp_J3_checkIndex {n : Nat} {q : Value} (hq : q = .null ∨ q = .ref 1200) (hj : j < n) (hn : n < 2 ^ 31) : xm_Met E l mt_J3_checkIndex 0 0 0 [.int (nI j), .int (nI n), q] M (fun v M1 => v = some (.int (nI j)) ∧ M1 = M) := by
  have hjp : ¬ (nI j < 0) := nI_pos (by omega)
  have hjn : nI j < nI n := nI_lt hj (by omega)
  refine xm_metJ mo_J3_checkIndex (by rcases hq with rfl | rfl <;> simp [xm_j, Value.category]) (Nat.le_of_ble_eq_true rfl) (fun Z hl hY hr => ?_)
  refine st_iload_n hY.1 (n := 0) (x := nI j) (by decide +kernel) rfl ?_
  refine st_if hY.1 (q := .lt) (off := 8) (tgt := 9) (by decide +kernel) (by decide) (fun h => absurd h hjp) (fun _ => ?_)
  refine st_iload_n hY.1 (n := 0) (x := nI j) (by decide +kernel) rfl ?_
  refine st_iload_n hY.1 (n := 1) (x := nI n) (by decide +kernel) rfl ?_
  refine st_icmp hY.1 (q := .lt) (off := 10) (tgt := 16) (by decide +kernel) (by decide) (fun _ => ?_) (fun h => absurd hjn h)
  refine st_iload_n hY.1 (n := 0) (x := nI j) (by decide +kernel) rfl ?_
  exact xm_retJ hY hr rfl (by decide +kernel) ⟨rfl, rfl⟩
theorem sp_J0_checkIndex (hst : ∀ U, E.2.2.2.1 U → xst E U) {n : Nat} (hj : j < n) (hn : n < 2 ^ 31) : xm_Met E l mt_J0_checkIndex 1 0 0 [.int (nI j), .int (nI n)] M (fun v M1 => v = none ∧ M1 = M) := by
  refine xm_metJ mo_J0_checkIndex (by simp [xm_j, Value.category]) (Nat.le_of_ble_eq_true rfl) (fun Z hl hY hr => ?_)
  refine st_iload_n hY.1 (n := 0) (x := nI j) (by decide +kernel) rfl ?_
  refine st_iload_n hY.1 (n := 1) (x := nI n) (by decide +kernel) rfl ?_
  refine st_sfm hY.1 hst (by decide +kernel) (fun q hq => ?_)
  refine xm_callSJ (cp := 1059) (As := [.int (nI j), .int (nI n), q]) (S := []) hY (by decide +kernel) (wq_at sj_w 25 rfl) mo_J3_checkIndex (sp_J3_checkIndex hq hj hn) rfl (by decide) ⟨by decide, by decide⟩ (by simp) (fun v M1 h => ?_)
  obtain ⟨rfl, rfl⟩ := h
  refine st_pop (v := .int (nI j)) hY.1 rfl (by decide +kernel) ?_
  exact xm_retvJ hY hr (by decide +kernel) ⟨rfl, rfl⟩
theorem sp_J1_charAt (hst : ∀ U, E.2.2.2.1 U → xst E U) (hi : i < 16) (hj : j < sx_n i) : xm_Met E l mt_J1_charAt 2 0 0 [.ref (1101 + i), .int (nI j)] M (fun v M1 => v = some (.int (sx_c i j)) ∧ M1 = M) := by
  have hb := sx_n_b i
  obtain ⟨c1, c2, -⟩ := sx_ok hj
  refine xm_metJ mo_J1_charAt (by simp [xm_j, Value.category]) (Nat.le_of_ble_eq_true rfl) (fun Z hl hY hr => ?_)
  refine st_iload_n hY.1 (n := 1) (x := nI j) (by decide +kernel) rfl ?_
  refine st_aload_n hY.1 (n := 0) (x := 1101 + i) (by decide +kernel) rfl ?_
  refine st_slen2 hY.1 hst hi (by decide +kernel) ?_
  refine xm_callSJ (cp := 9) (As := [.int (nI j), .int (nI (sx_n i))]) (S := []) hY (by decide +kernel) (wq_at sj_w 24 rfl) mo_J0_checkIndex (sp_J0_checkIndex hst hj (by omega)) rfl (by decide) ⟨by decide, by decide⟩ (by simp) (fun v M1 h => ?_)
  obtain ⟨rfl, rfl⟩ := h
  refine st_aload_n hY.1 (n := 0) (x := 1101 + i) (by decide +kernel) rfl ?_
  refine st_iload_n hY.1 (n := 1) (x := nI j) (by decide +kernel) rfl ?_
  refine st_sbal hY.1 hst hi hj (by omega) (by decide +kernel) ?_
  refine st_sipush hY.1 (n := 255) (by decide +kernel) ?_
  refine st_iand hY.1 (by decide +kernel) ?_
  refine st_i2c (v := sx_c i j) hY.1 c1 (by decide +kernel) ?_
  exact xm_retJ hY hr c2 (by decide +kernel) ⟨rfl, rfl⟩
theorem sp_J0_charAt (hst : ∀ U, E.2.2.2.1 U → xst E U) (hi : i < 16) (hj : j < sx_n i) : xm_Met E l mt_J0_charAt 3 0 0 [.ref (1001 + i), .int (nI j)] M (fun v M1 => v = some (.int (sx_c i j)) ∧ M1 = M) := by
  obtain ⟨c1, c2, -⟩ := sx_ok hj
  refine xm_metJ mo_J0_charAt (by simp [xm_j, Value.category]) (Nat.le_of_ble_eq_true rfl) (fun Z hl hY hr => ?_)
  refine st_aload_n hY.1 (n := 0) (x := 1001 + i) (by decide +kernel) rfl ?_
  refine xm_callVJ (cp := 492) (As := []) (S := []) hY hst hi (by decide +kernel) (wq_at sj_w 22 rfl) mo_J0_isLatin1 (sp_J0_isLatin1 hst hi) rfl (by decide) ⟨by decide, by decide⟩ (by simp) (fun v M1 h => ?_)
  obtain ⟨rfl, rfl⟩ := h
  refine st_if hY.1 (q := .eq) (off := 12) (tgt := 16) (by decide +kernel) (by decide) (fun h => absurd h (by show ¬ ((1 : Int32) = 0); decide)) (fun _ => ?_)
  refine st_aload_n hY.1 (n := 0) (x := 1001 + i) (by decide +kernel) rfl ?_
  refine st_sval hY.1 hst hi (by decide +kernel) ?_
  refine st_iload_n hY.1 (n := 1) (x := nI j) (by decide +kernel) rfl ?_
  refine xm_callSJ (cp := 495) (As := [.ref (1101 + i), .int (nI j)]) (S := []) hY (by decide +kernel) (wq_at sj_w 23 rfl) mo_J1_charAt (sp_J1_charAt hst hi hj) rfl (by decide) ⟨by decide, by decide⟩ (by simp) (fun v M1 h => ?_)
  obtain ⟨rfl, rfl⟩ := h
  exact xm_retJ hY hr c2 (by decide +kernel) ⟨rfl, rfl⟩
end SJM

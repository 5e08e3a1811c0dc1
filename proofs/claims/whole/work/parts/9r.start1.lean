/-! THE START: strings, throws, classes -/
def fl1c : List Cond := flatC (Jvm.Cond.and given_1 narrow_1)
def sx_pb : List Nat := [55, 63, 76, 84, 93, 101, 113, 123, 133, 142, 152, 161, 170, 178, 189, 195, 202, 211, 225, 234, 244, 253, 266, 277, 288, 298, 309, 319, 329, 338, 350, 357]
def sx_tm (i : Nat) : Term := .string (xm_C (sx_own i)) (sx_k.getD i 0)
abbrev sx_vl (i : Nat) : Term := .field (sx_tm i) RJ0 "value" "[B"
def sx_w4 (i : Nat) : List Cond := [.exactly (sx_tm i) RJ0, .eq (.field (sx_tm i) RJ0 "coder" "B") (.int 0), .arrayOf (sx_vl i) .byte, .eq (.length (sx_vl i)) (.int (Int32.ofNat (sx_n i)))]
def sx_we (i : Nat) : List Cond := (List.range (sx_n i)).map (fun j => .eq (.elem (sx_vl i) (.int (Int32.ofNat j))) (.int (sx_c i j)))
set_option maxRecDepth 20000 in
theorem sx_wok : (List.range 32).all (fun i => decide ((fl1c.drop (sx_pb.getD i 0)).take (4 + sx_n i) = sx_w4 i ++ sx_we i)) = true := by decide +kernel
theorem sx_in {i : Nat} (hi : i < 32) : ∀ w ∈ sx_w4 i ++ sx_we i, w ∈ fl1c := fun w hw => by
  have h := of_decide_eq_true (List.all_eq_true.mp sx_wok i (List.mem_range.mpr hi))
  rw [← h] at hw
  exact List.mem_of_mem_drop (List.mem_of_mem_take hw)
def sx_sp : List Nat := [640, 717, 730, 739, 740, 741, 762, 763, 764, 765, 766, 767, 768, 769, 778, 779, 1361, 1388, 1393, 1402, 1403, 1404, 1409, 1410, 1411, 1412, 1413, 1414, 1415, 1416, 1425, 1426]
set_option maxRecDepth 20000 in
theorem sx_sok : (List.range 32).all (fun i => decide (lw_tbl[sx_sp.getD i 0]? = some (Cond.stringRef (xm_C (sx_own i)) (sx_k.getD i 0) (sx_tx.getD (i % 16) "")))) = true := by decide +kernel
theorem sx_ref {i : Nat} (hi : i < 32) : Cond.stringRef (xm_C (sx_own i)) (sx_k.getD i 0) (sx_tx.getD (i % 16) "") ∈ lw_tbl :=
  List.mem_of_getElem? (of_decide_eq_true (List.all_eq_true.mp sx_sok i (List.mem_range.mpr hi)))
theorem st_str {args : Array Value} {s : State} {A : Nat → Prop} (hts : ∀ w ∈ lw_tbl, w.before args s = true) (hfl : ∀ w ∈ fl1c, w.before args s = true) (hA : ∀ a : Nat, a < s.heap.size → ¬ A a) : ∃ f : Nat → Nat × Nat, ∀ i, i < 32 → vk_R (xm_C (sx_own i)) (sx_k.getD i 0) (sx_tx.getD (i % 16) "") (f i).1 s ∧ va_O RJ0 (f i).1 A s s.heap ∧ va_OF RJ0 "coder" "B" (.int 0) (f i).1 A s s.heap ∧ va_OF RJ0 "value" "[B" (.ref (f i).2) (f i).1 A s s.heap ∧ va_T .byte (f i).2 (sx_n i) (fun j => .int (sx_c i j)) A s s.heap := by
  have h0 : ∀ i : Nat, ∃ q : Nat × Nat, i < 32 → vk_R (xm_C (sx_own i)) (sx_k.getD i 0) (sx_tx.getD (i % 16) "") q.1 s ∧ va_O RJ0 q.1 A s s.heap ∧ va_OF RJ0 "coder" "B" (.int 0) q.1 A s s.heap ∧ va_OF RJ0 "value" "[B" (.ref q.2) q.1 A s s.heap ∧ va_T .byte q.2 (sx_n i) (fun j => .int (sx_c i j)) A s s.heap := by
    intro i
    by_cases hi : i < 32
    · have w0 := hfl _ (sx_in hi (.exactly (sx_tm i) RJ0) (List.mem_append_left _ List.mem_cons_self))
      have w1 := hfl _ (sx_in hi (.eq (.field (sx_tm i) RJ0 "coder" "B") (.int 0)) (List.mem_append_left _ (List.mem_cons_of_mem _ List.mem_cons_self)))
      have w2 := hfl _ (sx_in hi (.arrayOf (sx_vl i) .byte) (List.mem_append_left _ (List.mem_cons_of_mem _ (List.mem_cons_of_mem _ List.mem_cons_self))))
      have w3 := hfl _ (sx_in hi (.eq (.length (sx_vl i)) (.int (Int32.ofNat (sx_n i)))) (List.mem_append_left _ (List.mem_cons_of_mem _ (List.mem_cons_of_mem _ (List.mem_cons_of_mem _ List.mem_cons_self)))))
      have w4 : ∀ j, j < sx_n i → (Cond.eq (.elem (sx_vl i) (.int (Int32.ofNat j))) (.int (sx_c i j))).before args s = true := fun j hj => hfl _ (sx_in hi _ (List.mem_append_right _ (List.mem_map.mpr ⟨j, List.mem_range.mpr hj, rfl⟩)))
      obtain ⟨a, c, cA, kA, q1, q2, q3, q4, q5, q6, -⟩ := Cond.exactly_spec (args := args) (first := s) (o := none) (s := s) (idx := []) (t := sx_tm i) (cls := RJ0) w0
      obtain ⟨t, ht, hT⟩ := va_Tof (f := fun j => .int (sx_c i j)) (A := A) (Nat.lt_of_le_of_lt (sx_n_b i) (by decide)) w2 (va_eqt w3) (fun j hj => va_eqt (w4 j hj)) hA
      have e1 : (Term.string (xm_C (sx_own i)) (sx_k.getD i 0)).eval args s none [] s = some (.ref a) := q1
      exact ⟨(a, t), fun _ => ⟨vk_R.of (A := args) (hts _ (sx_ref hi)) e1, ⟨cA, q3, q5, by rw [q6]; exact q2, hA a (Array.getElem?_eq_some_iff.mp q3).1⟩, vk_OFof q1 (va_eqt w1) hA, vk_OFof q1 ht hA, hT⟩⟩
    · exact ⟨(0, 0), fun h => absurd h hi⟩
  obtain ⟨f, hf⟩ := Classical.axiomOfChoice h0
  exact ⟨f, hf⟩
def wsl : List Cond := [.castable "java/lang/IllegalStateException" "java/lang/IllegalStateException", .instanceMethod ⟨"java/lang/IllegalStateException", "<init>", "()V"⟩, .code ⟨"java/lang/IllegalStateException", "<init>", "()V"⟩ prog_15_method_1_code 1 none, .castable "java/lang/IndexOutOfBoundsException" "java/lang/IndexOutOfBoundsException", .instanceMethod ⟨"java/lang/IndexOutOfBoundsException", "<init>", "()V"⟩, .code ⟨"java/lang/IndexOutOfBoundsException", "<init>", "()V"⟩ prog_16_method_1_code 1 none, .castable "java/lang/IllegalArgumentException" "java/lang/IllegalArgumentException", .instanceMethod ⟨"java/lang/IllegalArgumentException", "<init>", "()V"⟩, .code ⟨"java/lang/IllegalArgumentException", "<init>", "()V"⟩ prog_14_method_1_code 1 none, .castable "java/util/NoSuchElementException" "java/util/NoSuchElementException", .instanceMethod ⟨"java/util/NoSuchElementException", "<init>", "()V"⟩, .code ⟨"java/util/NoSuchElementException", "<init>", "()V"⟩ prog_26_method_1_code 1 none, .declares ⟨"java/lang/RuntimeException", "<init>", "()V"⟩, .declares ⟨"java/lang/Exception", "<init>", "()V"⟩, .declares ⟨"java/lang/Throwable", "<init>", "()V"⟩, .laysStatic Bundle.tN "UNASSIGNED_STACK" Bundle.steD, .laysStatic Bundle.tN "SUPPRESSED_SENTINEL" Bundle.listD, .initialized Bundle.tN, .laysStatic RJ0 "COMPACT_STRINGS" "Z", .initialized RJ0, .laysStatic RJ3 "SIOOBE_FORMATTER" "Ljava/util/function/BiFunction;", .initialized RJ3, .arrayOver (.object RX0)]
set_option maxRecDepth 20000 in
theorem wsl_ok : [514, 555, 556, 590, 598, 599, 782, 790, 791, 1049, 1057, 1058, 515, 517, 519, 539, 541, 97, 658, 103, 674, 105, 285].map (fun i => lw_tbl[i]?) = wsl.map some := by decide +kernel
theorem wsl_in : ∀ w ∈ wsl, w ∈ lw_tbl := fun w hw => by
  have h1 : some w ∈ [514, 555, 556, 590, 598, 599, 782, 790, 791, 1049, 1057, 1058, 515, 517, 519, 539, 541, 97, 658, 103, 674, 105, 285].map (fun i => lw_tbl[i]?) := by rw [wsl_ok]; exact List.mem_map_of_mem hw
  obtain ⟨i, -, hi⟩ := List.mem_map.mp h1
  exact List.mem_of_getElem? hi
theorem ws_c0 : Cond.castable "java/lang/IllegalStateException" "java/lang/IllegalStateException" ∈ lw_tbl := wsl_in _ (List.mem_of_getElem? (i := 0) rfl)
theorem ws_m0 : Cond.instanceMethod ⟨"java/lang/IllegalStateException", "<init>", "()V"⟩ ∈ lw_tbl := wsl_in _ (List.mem_of_getElem? (i := 1) rfl)
theorem ws_k0 : Cond.code ⟨"java/lang/IllegalStateException", "<init>", "()V"⟩ prog_15_method_1_code 1 none ∈ lw_tbl := wsl_in _ (List.mem_of_getElem? (i := 2) rfl)
theorem ws_c1 : Cond.castable "java/lang/IndexOutOfBoundsException" "java/lang/IndexOutOfBoundsException" ∈ lw_tbl := wsl_in _ (List.mem_of_getElem? (i := 3) rfl)
theorem ws_m1 : Cond.instanceMethod ⟨"java/lang/IndexOutOfBoundsException", "<init>", "()V"⟩ ∈ lw_tbl := wsl_in _ (List.mem_of_getElem? (i := 4) rfl)
theorem ws_k1 : Cond.code ⟨"java/lang/IndexOutOfBoundsException", "<init>", "()V"⟩ prog_16_method_1_code 1 none ∈ lw_tbl := wsl_in _ (List.mem_of_getElem? (i := 5) rfl)
theorem ws_c2 : Cond.castable "java/lang/IllegalArgumentException" "java/lang/IllegalArgumentException" ∈ lw_tbl := wsl_in _ (List.mem_of_getElem? (i := 6) rfl)
theorem ws_m2 : Cond.instanceMethod ⟨"java/lang/IllegalArgumentException", "<init>", "()V"⟩ ∈ lw_tbl := wsl_in _ (List.mem_of_getElem? (i := 7) rfl)
theorem ws_k2 : Cond.code ⟨"java/lang/IllegalArgumentException", "<init>", "()V"⟩ prog_14_method_1_code 1 none ∈ lw_tbl := wsl_in _ (List.mem_of_getElem? (i := 8) rfl)
theorem ws_c3 : Cond.castable "java/util/NoSuchElementException" "java/util/NoSuchElementException" ∈ lw_tbl := wsl_in _ (List.mem_of_getElem? (i := 9) rfl)
theorem ws_m3 : Cond.instanceMethod ⟨"java/util/NoSuchElementException", "<init>", "()V"⟩ ∈ lw_tbl := wsl_in _ (List.mem_of_getElem? (i := 10) rfl)
theorem ws_k3 : Cond.code ⟨"java/util/NoSuchElementException", "<init>", "()V"⟩ prog_26_method_1_code 1 none ∈ lw_tbl := wsl_in _ (List.mem_of_getElem? (i := 11) rfl)
theorem ws_d0 : Cond.declares ⟨"java/lang/RuntimeException", "<init>", "()V"⟩ ∈ lw_tbl := wsl_in _ (List.mem_of_getElem? (i := 12) rfl)
theorem ws_d1 : Cond.declares ⟨"java/lang/Exception", "<init>", "()V"⟩ ∈ lw_tbl := wsl_in _ (List.mem_of_getElem? (i := 13) rfl)
theorem ws_d2 : Cond.declares ⟨"java/lang/Throwable", "<init>", "()V"⟩ ∈ lw_tbl := wsl_in _ (List.mem_of_getElem? (i := 14) rfl)
theorem ws_lu : Cond.laysStatic Bundle.tN "UNASSIGNED_STACK" Bundle.steD ∈ lw_tbl := wsl_in _ (List.mem_of_getElem? (i := 15) rfl)
theorem ws_ls : Cond.laysStatic Bundle.tN "SUPPRESSED_SENTINEL" Bundle.listD ∈ lw_tbl := wsl_in _ (List.mem_of_getElem? (i := 16) rfl)
theorem ws_it : Cond.initialized Bundle.tN ∈ lw_tbl := wsl_in _ (List.mem_of_getElem? (i := 17) rfl)
theorem ws_lc : Cond.laysStatic RJ0 "COMPACT_STRINGS" "Z" ∈ lw_tbl := wsl_in _ (List.mem_of_getElem? (i := 18) rfl)
theorem ws_i0 : Cond.initialized RJ0 ∈ lw_tbl := wsl_in _ (List.mem_of_getElem? (i := 19) rfl)
theorem ws_lf : Cond.laysStatic RJ3 "SIOOBE_FORMATTER" "Ljava/util/function/BiFunction;" ∈ lw_tbl := wsl_in _ (List.mem_of_getElem? (i := 20) rfl)
theorem ws_i3 : Cond.initialized RJ3 ∈ lw_tbl := wsl_in _ (List.mem_of_getElem? (i := 21) rfl)
theorem ws_ao : Cond.arrayOver (.object RX0) ∈ lw_tbl := wsl_in _ (List.mem_of_getElem? (i := 22) rfl)

theorem wf_u : Cond.isRef (.static Bundle.tN "UNASSIGNED_STACK" Bundle.steD) ∈ fl1c := List.mem_of_getElem? (i := 4) (by decide +kernel)
theorem wf_s : Cond.isRef (.static Bundle.tN "SUPPRESSED_SENTINEL" Bundle.listD) ∈ fl1c := List.mem_of_getElem? (i := 5) (by decide +kernel)
theorem wf_c : Cond.eq (.static RJ0 "COMPACT_STRINGS" "Z") (.int 1) ∈ fl1c := List.mem_of_getElem? (i := 6) (by decide +kernel)
theorem wf_f : Cond.isRef (.static RJ3 "SIOOBE_FORMATTER" "Ljava/util/function/BiFunction;") ∈ fl1c := List.mem_of_getElem? (i := 7) (by decide +kernel)

theorem decl_of {args : Array Value} {s : State} {x : MethodName} {cc : ByteArray} {n : Nat} {r : Option FieldType} (h1 : (Cond.instanceMethod x).before args s = true) (h2 : (Cond.code x cc n r).before args s = true) : (Cond.declares x).before args s = true := by
  obtain ⟨m, meth, a1, a2, a3, -⟩ := Cond.instanceMethod_spec h1
  obtain ⟨meth2, c, b1, -, -, -, -, -, -, b8⟩ := Cond.code_spec a1 h2
  cases a2.symm.trans b1
  simp [Cond.before, Cond.holds, Cond.value, a1, a2, a3, b8]
set_option maxRecDepth 20000 in
theorem nc_ok : xq_st.all (fun C => xq_st.all (fun T => decide (C = T) || decide (Cond.not (.castable C T) ∈ fl1c))) = true := by decide +kernel
theorem st_xl {args : Array Value} {s : State} (hts : ∀ w ∈ lw_tbl, w.before args s = true) (hfl : ∀ w ∈ fl1c, w.before args s = true) : xl s.heap.size s := by
  have hA : ∀ a : Nat, a < s.heap.size → ¬ (fun q : Nat => s.heap.size ≤ q) a := fun a ha h => by
    have h : s.heap.size ≤ a := h
    omega
  refine ⟨⟨fun C hC w hw => ?_, vx_Zqof (hts _ ws_lu) (hts _ ws_it) (hfl _ wf_u) hA, vx_Zqof (hts _ ws_ls) (hts _ ws_it) (hfl _ wf_s) hA⟩, fun C hC T hT hne => ?_⟩
  · simp only [xq_bad, List.mem_cons, List.not_mem_nil, or_false] at hw
    simp only [xq_st, List.mem_cons, List.not_mem_nil, or_false] at hC
    rcases hw with rfl | rfl | rfl | rfl | rfl
    · rcases hC with rfl | rfl | rfl | rfl
      · exact va_Nw.of rfl (hts _ ws_c0)
      · exact va_Nw.of rfl (hts _ ws_c1)
      · exact va_Nw.of rfl (hts _ ws_c2)
      · exact va_Nw.of rfl (hts _ ws_c3)
    · rcases hC with rfl | rfl | rfl | rfl
      · exact va_Nw.of rfl (decl_of (hts _ ws_m0) (hts _ ws_k0))
      · exact va_Nw.of rfl (decl_of (hts _ ws_m1) (hts _ ws_k1))
      · exact va_Nw.of rfl (decl_of (hts _ ws_m2) (hts _ ws_k2))
      · exact va_Nw.of rfl (decl_of (hts _ ws_m3) (hts _ ws_k3))
    · exact va_Nw.of rfl (hts _ ws_d0)
    · exact va_Nw.of rfl (hts _ ws_d1)
    · exact va_Nw.of rfl (hts _ ws_d2)
  · have h1 := List.all_eq_true.mp (List.all_eq_true.mp nc_ok C hC) T hT
    simp only [Bool.or_eq_true, decide_eq_true_eq] at h1
    rcases h1 with h1 | h1
    · exact absurd h1 hne
    · exact va_Nc.of (hfl _ h1)
theorem wi_n {ci : Nat} (h : ci < 8) : Cond.instantiable (xm_C ci) (xm_N ci) ∈ lw_tb := by
  rcases (by omega : ci = 0 ∨ ci = 1 ∨ ci = 2 ∨ ci = 3 ∨ ci = 4 ∨ ci = 5 ∨ ci = 6 ∨ ci = 7) with rfl | rfl | rfl | rfl | rfl | rfl | rfl | rfl
  · exact wi_n0
  · exact wi_n1
  · exact wi_n2
  · exact wi_n3
  · exact wi_n4
  · exact wi_n5
  · exact wi_n6
  · exact wi_n7
theorem st_ra {args : Array Value} {s : State} {ty : FieldType} (h : (Cond.arrayClass ty).before args s = true) : ∃ c : ClassId, ArrOfT s c ty ∧ s.vm.findClass ("[" ++ ty.toString) = some c := by
  obtain ⟨c, k, comp, h1, h2, h3⟩ := Cond.arrayClass_spec h
  exact ⟨c, fun n z => ⟨fun k h => (by cases h), k, h2, comp, h3⟩, h1⟩
theorem st_K {args : Array Value} {s : State} (hts : ∀ w ∈ lw_tbl, w.before args s = true) : ∃ D : va_G, ∀ E : xm_E, E.1 = D → xm_K E s := by
  have htb : ∀ w ∈ lw_tb, w.before args s = true := fun w hw => hts w (lw_tb_in w hw)
  have h0 : ∀ ci : Nat, ∃ q : ClassId × (Nat → Nat), ci < 8 → u_Kn s (xm_C ci) (xm_T ci) (xm_N ci) q.1 q.2 := fun ci => by
    by_cases h : ci < 8
    · obtain ⟨c, i, hk⟩ := u_known (C := xm_C ci) (T := xm_T ci) (N := xm_N ci) htb (xm_in h) (htb _ (wi_n h))
      exact ⟨(c, i), fun _ => hk⟩
    · exact ⟨(0, fun _ => 0), fun q => absurd q h⟩
  obtain ⟨f, hf⟩ := Classical.axiomOfChoice h0
  obtain ⟨c10, a10, b10⟩ := st_ra (htb _ wi_ai)
  obtain ⟨c11, a11, b11⟩ := st_ra (htb _ wi_ab)
  obtain ⟨c13, a13, b13⟩ := st_ra (htb _ wi_al)
  obtain ⟨c14, a14, b14⟩ := st_ra (htb _ wi_ad)
  obtain ⟨comp, c12, k12, g1, -, g2, g3, g4⟩ := Cond.arrayOver_spec (hts _ ws_ao)
  refine ⟨(fun k => if k < 8 then (f k).1 else if k = 10 then c10 else if k = 11 then c11 else if k = 12 then c12 else if k = 13 then c13 else c14, fun k => (f k).2), fun E hE => ⟨⟨fun k q hq => ?_, fun k q hq => ?_⟩, fun q hq => ?_⟩⟩
  · rw [hE]
    have hk : k < 8 := (List.getElem?_eq_some_iff.mp hq).1
    have e := xm_cl hk
    rw [e] at hq
    cases hq
    show u_Kn s (xm_C k) (xm_T k) (xm_N k) (if k < 8 then (f k).1 else _) (f k).2
    rw [if_pos hk]
    exact hf k hk
  · have hk : k < 5 := (List.getElem?_eq_some_iff.mp hq).1
    have e : xm_tys E = [(c10, .int), (c11, .boolean), (c12, .object "CheckWeigher$Item"), (c13, .long), (c14, .double)] := by
      unfold xm_tys
      rw [hE]
      rfl
    rw [e] at hq
    rcases (by omega : k = 0 ∨ k = 1 ∨ k = 2 ∨ k = 3 ∨ k = 4) with rfl | rfl | rfl | rfl | rfl
    · cases hq
      exact ⟨a10, b10⟩
    · cases hq
      exact ⟨a11, b11⟩
    · cases hq
      exact ⟨fun n z => ⟨fun k h => (by cases h), k12, g2, comp, g3⟩, k12, comp, g2, g3, g1, g4⟩
    · cases hq
      exact ⟨a13, b13⟩
    · cases hq
      exact ⟨a14, b14⟩
  · have h1 : some (nw_w q) ∈ [954, 287, 919, 1147, 126, 900, 974, 813].map (fun i => lw_tbl[i]?) := by
      rw [nw_ok, List.map_map]
      exact List.mem_map.mpr ⟨q, hq, rfl⟩
    obtain ⟨i, -, hi⟩ := List.mem_map.mp h1
    exact va_Nw.of rfl (hts _ (List.mem_of_getElem? hi))

/-! CODE of the law's helpers: words, blocks -/
def wl_0 : List Cond := [.initialized RL, .codeWith yL_append cL_append 8 (some .int) [(0, 16, 19, 13)], .static yL_append, .classLink RL 13 "java/lang/IllegalStateException", .codeWith yL_truncate cL_truncate 4 (some .int) [(0, 9, 12, 19)], .static yL_truncate, .classLink RL 19 "java/lang/IndexOutOfBoundsException", .codeWith yL_load cL_load 3 (some .int) [(0, 8, 11, 25)], .static yL_load, .classLink RL 25 "java/lang/IllegalArgumentException", .codeWith yL_report cL_report 4 (some .int) [(0, 9, 12, 25)], .static yL_report, .codeWith yL_gate cL_gate 5 (some .int) [(0, 10, 13, 19), (0, 10, 17, 25)], .static yL_gate, .codeWith yL_put cL_put 5 (some .int) [(0, 10, 13, 25), (0, 10, 17, 13)], .static yL_put, .codeWith yL_step cL_step 4 (some .int) [(0, 9, 12, 25), (0, 9, 15, 13)], .static yL_step, .codeWith yL_jam cL_jam 5 (some .int) [(0, 17, 20, 19)], .static yL_jam, .codeWith yL_sensor cL_sensor 5 (some .int) [(0, 17, 20, 19)], .static yL_sensor, .codeWith yL_setLimits cL_setLimits 4 (some .int) [(0, 6, 9, 25)], .static yL_setLimits, .codeWith yL_setTare cL_setTare 4 (some .int) [(0, 9, 12, 25)], .static yL_setTare, .codeWith yL_item cL_item 5 (some .int) [(0, 10, 13, 19), (0, 10, 17, 25)], .static yL_item, .codeWith yL_measured cL_measured 4 (some .int) [(0, 9, 12, 19), (0, 9, 15, 60)], .static yL_measured]
set_option maxRecDepth 20000 in
theorem wl_0_ok : ∀ w ∈ wl_0, w ∈ lw_tb := wq_of _ [88, 506, 505, 507, 582, 581, 583, 605, 604, 606, 800, 799, 826, 825, 849, 848, 879, 878, 1005, 1004, 1012, 1011, 1019, 1018, 1026, 1025, 1033, 1032, 1041, 1040] (by decide +kernel) (by decide +kernel)
def wl_1 : List Cond := [.classLink RL 60 "java/util/NoSuchElementException", .codeWith yL_sampleOf cL_sampleOf 5 (some .int) [(0, 10, 13, 19)], .static yL_sampleOf, .codeWith yL_sample cL_sample 4 (some .int) [(0, 9, 12, 25), (0, 9, 15, 60)], .static yL_sample, .codeWith yL_count cL_count 4 (some .int) [(0, 9, 12, 25)], .static yL_count, .codeWith yL_decided cL_decided 4 (some .int) [(0, 9, 12, 25)], .static yL_decided, .codeWith yL_meanGood cL_meanGood 3 (some .int) [(0, 7, 10, 60)], .static yL_meanGood, .codeWith yL_meanError cL_meanError 3 (some .int) [(0, 7, 10, 60)], .static yL_meanError, .codeWith yL_vibration cL_vibration 4 (some .int) [(0, 9, 12, 25)], .static yL_vibration, .codeWith yL_residue cL_residue 5 (some .int) [(0, 10, 13, 25)], .static yL_residue, .codeWith yL_bestWindow cL_bestWindow 4 (some .int) [(0, 9, 12, 25)], .static yL_bestWindow, .codeWith yL_weightWith cL_weightWith 5 (some .int) [(0, 10, 13, 19), (0, 10, 17, 25), (0, 10, 21, 60)], .static yL_weightWith, .codeWith yL_samplesFor cL_samplesFor 4 (some .int) [(0, 9, 12, 25)], .static yL_samplesFor, .codeWith yL_arrival cL_arrival 5 (some .int) [(0, 10, 13, 19), (0, 10, 17, 60)], .static yL_arrival, .codeWith yL_openTicks cL_openTicks 4 (some .int) [(0, 9, 12, 19)], .static yL_openTicks, .codeWith yL_opensAt cL_opensAt 4 (some .int) [(0, 9, 12, 19), (0, 9, 15, 60)], .static yL_opensAt, .codeWith yL_fate cL_fate 4 (some .int) [(0, 9, 12, 19)]]
set_option maxRecDepth 20000 in
theorem wl_1_ok : ∀ w ∈ wl_1, w ∈ lw_tb := wq_of _ [1042, 1064, 1063, 1072, 1071, 1080, 1079, 1087, 1086, 1098, 1097, 1109, 1108, 1127, 1126, 1135, 1134, 1166, 1165, 1173, 1172, 1181, 1180, 1192, 1191, 1201, 1200, 1212, 1211, 1223] (by decide +kernel) (by decide +kernel)
def wl_2 : List Cond := [.static yL_fate, .codeWith yL_spacing cL_spacing 4 (some .int) [(0, 9, 12, 25)], .static yL_spacing]
set_option maxRecDepth 20000 in
theorem wl_2_ok : ∀ w ∈ wl_2, w ∈ lw_tb := wq_of _ [1222, 1250, 1249] (by decide +kernel) (by decide +kernel)
abbrev mt_L_append : xm_hT := (yL_append, cL_append, 8, [(0, 16, 19, 13)])
theorem ho_L_append : xm_ho mt_L_append 7 := ⟨by decide +kernel, rfl, by decide, ⟨by decide +kernel, by decide +kernel, by decide +kernel⟩, (wq_at wl_0_ok 1 rfl), (wq_at wl_0_ok 0 rfl), (wq_at wl_0_ok 2 rfl)⟩
theorem lc_13 : Cond.classLink (xm_C 8) 13 "java/lang/IllegalStateException" ∈ lw_tb := (wq_at wl_0_ok 3 rfl)
def kL_append_0 : List xm_I := [(.aload 0, 6, 0, 0, 0), (.sipush 0, 0, 0, 0, 0), (.aload 0, 0, 0, 0, 0), (.iload 0, 1, 0, 0, 0), (.iload 0, 2, 0, 0, 0), (.iload 0, 3, 0, 0, 0), (.iload 0, 4, 0, 0, 0), (.iload 0, 5, 0, 0, 0)]
theorem bk_L_append_0 : xm_okb cL_append 8 8 0 false 11 0 kL_append_0 = true := by decide +kernel
def kL_append_14 : List xm_I := [(.i2l, 0, 0, 0, 0), (.lastore, 0, 0, 0, 0), (.goto 0, 23, 0, 0, 0)]
theorem bk_L_append_14 : xm_okb cL_append 8 8 0 false 19 14 kL_append_14 = true := by decide +kernel
def kL_append_19 : List xm_I := [(.astore 0, 7, 0, 0, 0), (.sipush 0, 0, 0, 0, 1), (.ireturn, 0, 0, 0, 0)]
theorem bk_L_append_19 : xm_okb cL_append 8 8 0 false 23 19 kL_append_19 = true := by decide +kernel
def kL_append_23 : List xm_I := [(.sipush 0, 0, 0, 0, 0), (.ireturn, 0, 0, 0, 0)]
theorem bk_L_append_23 : xm_okb cL_append 8 8 0 false 25 23 kL_append_23 = true := by decide +kernel
def kb_L_append : List (Nat × Nat × List xm_I) := [(0, 11, kL_append_0), (14, 19, kL_append_14), (19, 23, kL_append_19), (23, 25, kL_append_23)]
theorem lb_L_append_0 : xm_lk kb_L_append 0 = some (11, kL_append_0) := rfl
theorem lb_L_append_14 : xm_lk kb_L_append 14 = some (19, kL_append_14) := rfl
theorem lb_L_append_19 : xm_lk kb_L_append 19 = some (23, kL_append_19) := rfl
theorem lb_L_append_23 : xm_lk kb_L_append 23 = some (25, kL_append_23) := rfl
theorem lb_L_append_11 : xm_lk kb_L_append 11 = none := rfl
theorem lb_L_append_25 : xm_lk kb_L_append 25 = none := rfl
theorem kc_L_append : xm_oks cL_append 8 8 0 false kb_L_append := (List.forall_mem_cons.mpr ⟨bk_L_append_0, (List.forall_mem_cons.mpr ⟨bk_L_append_14, (List.forall_mem_cons.mpr ⟨bk_L_append_19, (List.forall_mem_cons.mpr ⟨bk_L_append_23, (fun _ h => absurd h List.not_mem_nil)⟩)⟩)⟩)⟩)
abbrev mt_L_truncate : xm_hT := (yL_truncate, cL_truncate, 4, [(0, 9, 12, 19)])
theorem ho_L_truncate : xm_ho mt_L_truncate 3 := ⟨by decide +kernel, rfl, by decide, ⟨by decide +kernel, by decide +kernel, by decide +kernel⟩, (wq_at wl_0_ok 4 rfl), (wq_at wl_0_ok 0 rfl), (wq_at wl_0_ok 5 rfl)⟩
theorem lc_19 : Cond.classLink (xm_C 8) 19 "java/lang/IndexOutOfBoundsException" ∈ lw_tb := (wq_at wl_0_ok 6 rfl)
def kL_truncate_0 : List xm_I := [(.aload 0, 2, 0, 0, 0), (.sipush 0, 0, 0, 0, 0), (.aload 0, 0, 0, 0, 0), (.iload 0, 1, 0, 0, 0)]
theorem bk_L_truncate_0 : xm_okb cL_truncate 8 4 0 false 4 0 kL_truncate_0 = true := by decide +kernel
def kL_truncate_7 : List xm_I := [(.i2l, 0, 0, 0, 0), (.lastore, 0, 0, 0, 0), (.goto 0, 15, 0, 0, 0)]
theorem bk_L_truncate_7 : xm_okb cL_truncate 8 4 0 false 12 7 kL_truncate_7 = true := by decide +kernel
def kL_truncate_12 : List xm_I := [(.astore 0, 3, 0, 0, 0), (.sipush 0, 0, 0, 0, 1), (.ireturn, 0, 0, 0, 0)]
theorem bk_L_truncate_12 : xm_okb cL_truncate 8 4 0 false 15 12 kL_truncate_12 = true := by decide +kernel
def kL_truncate_15 : List xm_I := [(.sipush 0, 0, 0, 0, 0), (.ireturn, 0, 0, 0, 0)]
theorem bk_L_truncate_15 : xm_okb cL_truncate 8 4 0 false 17 15 kL_truncate_15 = true := by decide +kernel
def kb_L_truncate : List (Nat × Nat × List xm_I) := [(0, 4, kL_truncate_0), (7, 12, kL_truncate_7), (12, 15, kL_truncate_12), (15, 17, kL_truncate_15)]
theorem lb_L_truncate_0 : xm_lk kb_L_truncate 0 = some (4, kL_truncate_0) := rfl
theorem lb_L_truncate_7 : xm_lk kb_L_truncate 7 = some (12, kL_truncate_7) := rfl
theorem lb_L_truncate_12 : xm_lk kb_L_truncate 12 = some (15, kL_truncate_12) := rfl
theorem lb_L_truncate_15 : xm_lk kb_L_truncate 15 = some (17, kL_truncate_15) := rfl
theorem lb_L_truncate_4 : xm_lk kb_L_truncate 4 = none := rfl
theorem lb_L_truncate_17 : xm_lk kb_L_truncate 17 = none := rfl
theorem kc_L_truncate : xm_oks cL_truncate 8 4 0 false kb_L_truncate := (List.forall_mem_cons.mpr ⟨bk_L_truncate_0, (List.forall_mem_cons.mpr ⟨bk_L_truncate_7, (List.forall_mem_cons.mpr ⟨bk_L_truncate_12, (List.forall_mem_cons.mpr ⟨bk_L_truncate_15, (fun _ h => absurd h List.not_mem_nil)⟩)⟩)⟩)⟩)
abbrev mt_L_load : xm_hT := (yL_load, cL_load, 3, [(0, 8, 11, 25)])
theorem ho_L_load : xm_ho mt_L_load 2 := ⟨by decide +kernel, rfl, by decide, ⟨by decide +kernel, by decide +kernel, by decide +kernel⟩, (wq_at wl_0_ok 7 rfl), (wq_at wl_0_ok 0 rfl), (wq_at wl_0_ok 8 rfl)⟩
theorem lc_25 : Cond.classLink (xm_C 8) 25 "java/lang/IllegalArgumentException" ∈ lw_tb := (wq_at wl_0_ok 9 rfl)
def kL_load_0 : List xm_I := [(.aload 0, 1, 0, 0, 0), (.sipush 0, 0, 0, 0, 0), (.aload 0, 0, 0, 0, 0)]
theorem bk_L_load_0 : xm_okb cL_load 8 3 0 false 3 0 kL_load_0 = true := by decide +kernel
def kL_load_6 : List xm_I := [(.i2l, 0, 0, 0, 0), (.lastore, 0, 0, 0, 0), (.goto 0, 14, 0, 0, 0)]
theorem bk_L_load_6 : xm_okb cL_load 8 3 0 false 11 6 kL_load_6 = true := by decide +kernel
def kL_load_11 : List xm_I := [(.astore 0, 2, 0, 0, 0), (.sipush 0, 0, 0, 0, 1), (.ireturn, 0, 0, 0, 0)]
theorem bk_L_load_11 : xm_okb cL_load 8 3 0 false 14 11 kL_load_11 = true := by decide +kernel
def kL_load_14 : List xm_I := [(.sipush 0, 0, 0, 0, 0), (.ireturn, 0, 0, 0, 0)]
theorem bk_L_load_14 : xm_okb cL_load 8 3 0 false 16 14 kL_load_14 = true := by decide +kernel
def kb_L_load : List (Nat × Nat × List xm_I) := [(0, 3, kL_load_0), (6, 11, kL_load_6), (11, 14, kL_load_11), (14, 16, kL_load_14)]
theorem lb_L_load_0 : xm_lk kb_L_load 0 = some (3, kL_load_0) := rfl
theorem lb_L_load_6 : xm_lk kb_L_load 6 = some (11, kL_load_6) := rfl
theorem lb_L_load_11 : xm_lk kb_L_load 11 = some (14, kL_load_11) := rfl
theorem lb_L_load_14 : xm_lk kb_L_load 14 = some (16, kL_load_14) := rfl
theorem lb_L_load_3 : xm_lk kb_L_load 3 = none := rfl
theorem lb_L_load_16 : xm_lk kb_L_load 16 = none := rfl
theorem kc_L_load : xm_oks cL_load 8 3 0 false kb_L_load := (List.forall_mem_cons.mpr ⟨bk_L_load_0, (List.forall_mem_cons.mpr ⟨bk_L_load_6, (List.forall_mem_cons.mpr ⟨bk_L_load_11, (List.forall_mem_cons.mpr ⟨bk_L_load_14, (fun _ h => absurd h List.not_mem_nil)⟩)⟩)⟩)⟩)
abbrev mt_L_report : xm_hT := (yL_report, cL_report, 4, [(0, 9, 12, 25)])
theorem ho_L_report : xm_ho mt_L_report 3 := ⟨by decide +kernel, rfl, by decide, ⟨by decide +kernel, by decide +kernel, by decide +kernel⟩, (wq_at wl_0_ok 10 rfl), (wq_at wl_0_ok 0 rfl), (wq_at wl_0_ok 11 rfl)⟩
def kL_report_0 : List xm_I := [(.aload 0, 2, 0, 0, 0), (.sipush 0, 0, 0, 0, 0), (.aload 0, 0, 0, 0, 0), (.iload 0, 1, 0, 0, 0)]
theorem bk_L_report_0 : xm_okb cL_report 8 4 0 false 4 0 kL_report_0 = true := by decide +kernel
def kL_report_7 : List xm_I := [(.i2l, 0, 0, 0, 0), (.lastore, 0, 0, 0, 0), (.goto 0, 15, 0, 0, 0)]
theorem bk_L_report_7 : xm_okb cL_report 8 4 0 false 12 7 kL_report_7 = true := by decide +kernel
def kL_report_12 : List xm_I := [(.astore 0, 3, 0, 0, 0), (.sipush 0, 0, 0, 0, 1), (.ireturn, 0, 0, 0, 0)]
theorem bk_L_report_12 : xm_okb cL_report 8 4 0 false 15 12 kL_report_12 = true := by decide +kernel
def kL_report_15 : List xm_I := [(.sipush 0, 0, 0, 0, 0), (.ireturn, 0, 0, 0, 0)]
theorem bk_L_report_15 : xm_okb cL_report 8 4 0 false 17 15 kL_report_15 = true := by decide +kernel
def kb_L_report : List (Nat × Nat × List xm_I) := [(0, 4, kL_report_0), (7, 12, kL_report_7), (12, 15, kL_report_12), (15, 17, kL_report_15)]
theorem lb_L_report_0 : xm_lk kb_L_report 0 = some (4, kL_report_0) := rfl
theorem lb_L_report_7 : xm_lk kb_L_report 7 = some (12, kL_report_7) := rfl
theorem lb_L_report_12 : xm_lk kb_L_report 12 = some (15, kL_report_12) := rfl
theorem lb_L_report_15 : xm_lk kb_L_report 15 = some (17, kL_report_15) := rfl
theorem lb_L_report_4 : xm_lk kb_L_report 4 = none := rfl
theorem lb_L_report_17 : xm_lk kb_L_report 17 = none := rfl
theorem kc_L_report : xm_oks cL_report 8 4 0 false kb_L_report := (List.forall_mem_cons.mpr ⟨bk_L_report_0, (List.forall_mem_cons.mpr ⟨bk_L_report_7, (List.forall_mem_cons.mpr ⟨bk_L_report_12, (List.forall_mem_cons.mpr ⟨bk_L_report_15, (fun _ h => absurd h List.not_mem_nil)⟩)⟩)⟩)⟩)
abbrev mt_L_gate : xm_hT := (yL_gate, cL_gate, 5, [(0, 10, 13, 19), (0, 10, 17, 25)])
theorem ho_L_gate : xm_ho mt_L_gate 4 := ⟨by decide +kernel, rfl, by decide, ⟨by decide +kernel, by decide +kernel, by decide +kernel⟩, (wq_at wl_0_ok 12 rfl), (wq_at wl_0_ok 0 rfl), (wq_at wl_0_ok 13 rfl)⟩
def kL_gate_0 : List xm_I := [(.aload 0, 3, 0, 0, 0), (.sipush 0, 0, 0, 0, 0), (.aload 0, 0, 0, 0, 0), (.iload 0, 1, 0, 0, 0), (.iload 0, 2, 0, 0, 0)]
theorem bk_L_gate_0 : xm_okb cL_gate 8 5 0 false 5 0 kL_gate_0 = true := by decide +kernel
def kL_gate_8 : List xm_I := [(.i2l, 0, 0, 0, 0), (.lastore, 0, 0, 0, 0), (.goto 0, 21, 0, 0, 0)]
theorem bk_L_gate_8 : xm_okb cL_gate 8 5 0 false 13 8 kL_gate_8 = true := by decide +kernel
def kL_gate_13 : List xm_I := [(.astore 0, 4, 0, 0, 0), (.sipush 0, 0, 0, 0, 1), (.ireturn, 0, 0, 0, 0)]
theorem bk_L_gate_13 : xm_okb cL_gate 8 5 0 false 17 13 kL_gate_13 = true := by decide +kernel
def kL_gate_17 : List xm_I := [(.astore 0, 4, 0, 0, 0), (.sipush 0, 0, 0, 0, 2), (.ireturn, 0, 0, 0, 0)]
theorem bk_L_gate_17 : xm_okb cL_gate 8 5 0 false 21 17 kL_gate_17 = true := by decide +kernel
def kL_gate_21 : List xm_I := [(.sipush 0, 0, 0, 0, 0), (.ireturn, 0, 0, 0, 0)]
theorem bk_L_gate_21 : xm_okb cL_gate 8 5 0 false 23 21 kL_gate_21 = true := by decide +kernel
def kb_L_gate : List (Nat × Nat × List xm_I) := [(0, 5, kL_gate_0), (8, 13, kL_gate_8), (13, 17, kL_gate_13), (17, 21, kL_gate_17), (21, 23, kL_gate_21)]
theorem lb_L_gate_0 : xm_lk kb_L_gate 0 = some (5, kL_gate_0) := rfl
theorem lb_L_gate_8 : xm_lk kb_L_gate 8 = some (13, kL_gate_8) := rfl
theorem lb_L_gate_13 : xm_lk kb_L_gate 13 = some (17, kL_gate_13) := rfl
theorem lb_L_gate_17 : xm_lk kb_L_gate 17 = some (21, kL_gate_17) := rfl
theorem lb_L_gate_21 : xm_lk kb_L_gate 21 = some (23, kL_gate_21) := rfl
theorem lb_L_gate_5 : xm_lk kb_L_gate 5 = none := rfl
theorem lb_L_gate_23 : xm_lk kb_L_gate 23 = none := rfl
theorem kc_L_gate : xm_oks cL_gate 8 5 0 false kb_L_gate := (List.forall_mem_cons.mpr ⟨bk_L_gate_0, (List.forall_mem_cons.mpr ⟨bk_L_gate_8, (List.forall_mem_cons.mpr ⟨bk_L_gate_13, (List.forall_mem_cons.mpr ⟨bk_L_gate_17, (List.forall_mem_cons.mpr ⟨bk_L_gate_21, (fun _ h => absurd h List.not_mem_nil)⟩)⟩)⟩)⟩)⟩)
abbrev mt_L_put : xm_hT := (yL_put, cL_put, 5, [(0, 10, 13, 25), (0, 10, 17, 13)])
theorem ho_L_put : xm_ho mt_L_put 4 := ⟨by decide +kernel, rfl, by decide, ⟨by decide +kernel, by decide +kernel, by decide +kernel⟩, (wq_at wl_0_ok 14 rfl), (wq_at wl_0_ok 0 rfl), (wq_at wl_0_ok 15 rfl)⟩
def kL_put_0 : List xm_I := [(.aload 0, 3, 0, 0, 0), (.sipush 0, 0, 0, 0, 0), (.aload 0, 0, 0, 0, 0), (.iload 0, 1, 0, 0, 0), (.iload 0, 2, 0, 0, 0)]
theorem bk_L_put_0 : xm_okb cL_put 8 5 0 false 5 0 kL_put_0 = true := by decide +kernel
def kL_put_8 : List xm_I := [(.i2l, 0, 0, 0, 0), (.lastore, 0, 0, 0, 0), (.goto 0, 21, 0, 0, 0)]
theorem bk_L_put_8 : xm_okb cL_put 8 5 0 false 13 8 kL_put_8 = true := by decide +kernel
def kL_put_13 : List xm_I := [(.astore 0, 4, 0, 0, 0), (.sipush 0, 0, 0, 0, 1), (.ireturn, 0, 0, 0, 0)]
theorem bk_L_put_13 : xm_okb cL_put 8 5 0 false 17 13 kL_put_13 = true := by decide +kernel
def kL_put_17 : List xm_I := [(.astore 0, 4, 0, 0, 0), (.sipush 0, 0, 0, 0, 2), (.ireturn, 0, 0, 0, 0)]
theorem bk_L_put_17 : xm_okb cL_put 8 5 0 false 21 17 kL_put_17 = true := by decide +kernel
def kL_put_21 : List xm_I := [(.sipush 0, 0, 0, 0, 0), (.ireturn, 0, 0, 0, 0)]
theorem bk_L_put_21 : xm_okb cL_put 8 5 0 false 23 21 kL_put_21 = true := by decide +kernel
def kb_L_put : List (Nat × Nat × List xm_I) := [(0, 5, kL_put_0), (8, 13, kL_put_8), (13, 17, kL_put_13), (17, 21, kL_put_17), (21, 23, kL_put_21)]
theorem lb_L_put_0 : xm_lk kb_L_put 0 = some (5, kL_put_0) := rfl
theorem lb_L_put_8 : xm_lk kb_L_put 8 = some (13, kL_put_8) := rfl
theorem lb_L_put_13 : xm_lk kb_L_put 13 = some (17, kL_put_13) := rfl
theorem lb_L_put_17 : xm_lk kb_L_put 17 = some (21, kL_put_17) := rfl
theorem lb_L_put_21 : xm_lk kb_L_put 21 = some (23, kL_put_21) := rfl
theorem lb_L_put_5 : xm_lk kb_L_put 5 = none := rfl
theorem lb_L_put_23 : xm_lk kb_L_put 23 = none := rfl
theorem kc_L_put : xm_oks cL_put 8 5 0 false kb_L_put := (List.forall_mem_cons.mpr ⟨bk_L_put_0, (List.forall_mem_cons.mpr ⟨bk_L_put_8, (List.forall_mem_cons.mpr ⟨bk_L_put_13, (List.forall_mem_cons.mpr ⟨bk_L_put_17, (List.forall_mem_cons.mpr ⟨bk_L_put_21, (fun _ h => absurd h List.not_mem_nil)⟩)⟩)⟩)⟩)⟩)
abbrev mt_L_step : xm_hT := (yL_step, cL_step, 4, [(0, 9, 12, 25), (0, 9, 15, 13)])
theorem ho_L_step : xm_ho mt_L_step 3 := ⟨by decide +kernel, rfl, by decide, ⟨by decide +kernel, by decide +kernel, by decide +kernel⟩, (wq_at wl_0_ok 16 rfl), (wq_at wl_0_ok 0 rfl), (wq_at wl_0_ok 17 rfl)⟩
def kL_step_0 : List xm_I := [(.aload 0, 2, 0, 0, 0), (.sipush 0, 0, 0, 0, 0), (.aload 0, 0, 0, 0, 0), (.iload 0, 1, 0, 0, 0)]
theorem bk_L_step_0 : xm_okb cL_step 8 4 0 false 4 0 kL_step_0 = true := by decide +kernel
def kL_step_7 : List xm_I := [(.i2l, 0, 0, 0, 0), (.lastore, 0, 0, 0, 0), (.goto 0, 18, 0, 0, 0)]
theorem bk_L_step_7 : xm_okb cL_step 8 4 0 false 12 7 kL_step_7 = true := by decide +kernel
def kL_step_12 : List xm_I := [(.astore 0, 3, 0, 0, 0), (.sipush 0, 0, 0, 0, 1), (.ireturn, 0, 0, 0, 0)]
theorem bk_L_step_12 : xm_okb cL_step 8 4 0 false 15 12 kL_step_12 = true := by decide +kernel
def kL_step_15 : List xm_I := [(.astore 0, 3, 0, 0, 0), (.sipush 0, 0, 0, 0, 2), (.ireturn, 0, 0, 0, 0)]
theorem bk_L_step_15 : xm_okb cL_step 8 4 0 false 18 15 kL_step_15 = true := by decide +kernel
def kL_step_18 : List xm_I := [(.sipush 0, 0, 0, 0, 0), (.ireturn, 0, 0, 0, 0)]
theorem bk_L_step_18 : xm_okb cL_step 8 4 0 false 20 18 kL_step_18 = true := by decide +kernel
def kb_L_step : List (Nat × Nat × List xm_I) := [(0, 4, kL_step_0), (7, 12, kL_step_7), (12, 15, kL_step_12), (15, 18, kL_step_15), (18, 20, kL_step_18)]
theorem lb_L_step_0 : xm_lk kb_L_step 0 = some (4, kL_step_0) := rfl
theorem lb_L_step_7 : xm_lk kb_L_step 7 = some (12, kL_step_7) := rfl
theorem lb_L_step_12 : xm_lk kb_L_step 12 = some (15, kL_step_12) := rfl
theorem lb_L_step_15 : xm_lk kb_L_step 15 = some (18, kL_step_15) := rfl
theorem lb_L_step_18 : xm_lk kb_L_step 18 = some (20, kL_step_18) := rfl
theorem lb_L_step_4 : xm_lk kb_L_step 4 = none := rfl
theorem lb_L_step_20 : xm_lk kb_L_step 20 = none := rfl
theorem kc_L_step : xm_oks cL_step 8 4 0 false kb_L_step := (List.forall_mem_cons.mpr ⟨bk_L_step_0, (List.forall_mem_cons.mpr ⟨bk_L_step_7, (List.forall_mem_cons.mpr ⟨bk_L_step_12, (List.forall_mem_cons.mpr ⟨bk_L_step_15, (List.forall_mem_cons.mpr ⟨bk_L_step_18, (fun _ h => absurd h List.not_mem_nil)⟩)⟩)⟩)⟩)⟩)
abbrev mt_L_jam : xm_hT := (yL_jam, cL_jam, 5, [(0, 17, 20, 19)])
theorem ho_L_jam : xm_ho mt_L_jam 4 := ⟨by decide +kernel, rfl, by decide, ⟨by decide +kernel, by decide +kernel, by decide +kernel⟩, (wq_at wl_0_ok 18 rfl), (wq_at wl_0_ok 0 rfl), (wq_at wl_0_ok 19 rfl)⟩
def kL_jam_0 : List xm_I := [(.aload 0, 3, 0, 0, 0), (.sipush 0, 0, 0, 0, 0), (.aload 0, 0, 0, 0, 0), (.iload 0, 1, 0, 0, 0), (.iload 0, 2, 0, 0, 0)]
theorem bk_L_jam_0 : xm_okb cL_jam 8 5 0 false 5 0 kL_jam_0 = true := by decide +kernel
def kL_jam_8 : List xm_I := [(.ifCond .eq 0, 15, 0, 0, 0), (.lconst 0, 1, 0, 0, 0), (.goto 0, 16, 0, 0, 0)]
theorem bk_L_jam_8 : xm_okb cL_jam 8 5 0 false 15 8 kL_jam_8 = true := by decide +kernel
def kL_jam_15 : List xm_I := [(.lconst 0, 0, 0, 0, 0)]
theorem bk_L_jam_15 : xm_okb cL_jam 8 5 0 false 16 15 kL_jam_15 = true := by decide +kernel
def kL_jam_16 : List xm_I := [(.lastore, 0, 0, 0, 0), (.goto 0, 24, 0, 0, 0)]
theorem bk_L_jam_16 : xm_okb cL_jam 8 5 0 false 20 16 kL_jam_16 = true := by decide +kernel
def kL_jam_20 : List xm_I := [(.astore 0, 4, 0, 0, 0), (.sipush 0, 0, 0, 0, 1), (.ireturn, 0, 0, 0, 0)]
theorem bk_L_jam_20 : xm_okb cL_jam 8 5 0 false 24 20 kL_jam_20 = true := by decide +kernel
def kL_jam_24 : List xm_I := [(.sipush 0, 0, 0, 0, 0), (.ireturn, 0, 0, 0, 0)]
theorem bk_L_jam_24 : xm_okb cL_jam 8 5 0 false 26 24 kL_jam_24 = true := by decide +kernel
def kb_L_jam : List (Nat × Nat × List xm_I) := [(0, 5, kL_jam_0), (8, 15, kL_jam_8), (15, 16, kL_jam_15), (16, 20, kL_jam_16), (20, 24, kL_jam_20), (24, 26, kL_jam_24)]
theorem lb_L_jam_0 : xm_lk kb_L_jam 0 = some (5, kL_jam_0) := rfl
theorem lb_L_jam_8 : xm_lk kb_L_jam 8 = some (15, kL_jam_8) := rfl
theorem lb_L_jam_15 : xm_lk kb_L_jam 15 = some (16, kL_jam_15) := rfl
theorem lb_L_jam_16 : xm_lk kb_L_jam 16 = some (20, kL_jam_16) := rfl
theorem lb_L_jam_20 : xm_lk kb_L_jam 20 = some (24, kL_jam_20) := rfl
theorem lb_L_jam_24 : xm_lk kb_L_jam 24 = some (26, kL_jam_24) := rfl
theorem lb_L_jam_5 : xm_lk kb_L_jam 5 = none := rfl
theorem lb_L_jam_26 : xm_lk kb_L_jam 26 = none := rfl
theorem kc_L_jam : xm_oks cL_jam 8 5 0 false kb_L_jam := (List.forall_mem_cons.mpr ⟨bk_L_jam_0, (List.forall_mem_cons.mpr ⟨bk_L_jam_8, (List.forall_mem_cons.mpr ⟨bk_L_jam_15, (List.forall_mem_cons.mpr ⟨bk_L_jam_16, (List.forall_mem_cons.mpr ⟨bk_L_jam_20, (List.forall_mem_cons.mpr ⟨bk_L_jam_24, (fun _ h => absurd h List.not_mem_nil)⟩)⟩)⟩)⟩)⟩)⟩)
abbrev mt_L_sensor : xm_hT := (yL_sensor, cL_sensor, 5, [(0, 17, 20, 19)])
theorem ho_L_sensor : xm_ho mt_L_sensor 4 := ⟨by decide +kernel, rfl, by decide, ⟨by decide +kernel, by decide +kernel, by decide +kernel⟩, (wq_at wl_0_ok 20 rfl), (wq_at wl_0_ok 0 rfl), (wq_at wl_0_ok 21 rfl)⟩
def kL_sensor_0 : List xm_I := [(.aload 0, 3, 0, 0, 0), (.sipush 0, 0, 0, 0, 0), (.aload 0, 0, 0, 0, 0), (.iload 0, 1, 0, 0, 0), (.iload 0, 2, 0, 0, 0)]
theorem bk_L_sensor_0 : xm_okb cL_sensor 8 5 0 false 5 0 kL_sensor_0 = true := by decide +kernel
def kL_sensor_8 : List xm_I := [(.ifCond .eq 0, 15, 0, 0, 0), (.lconst 0, 1, 0, 0, 0), (.goto 0, 16, 0, 0, 0)]
theorem bk_L_sensor_8 : xm_okb cL_sensor 8 5 0 false 15 8 kL_sensor_8 = true := by decide +kernel
def kL_sensor_15 : List xm_I := [(.lconst 0, 0, 0, 0, 0)]
theorem bk_L_sensor_15 : xm_okb cL_sensor 8 5 0 false 16 15 kL_sensor_15 = true := by decide +kernel
def kL_sensor_16 : List xm_I := [(.lastore, 0, 0, 0, 0), (.goto 0, 24, 0, 0, 0)]
theorem bk_L_sensor_16 : xm_okb cL_sensor 8 5 0 false 20 16 kL_sensor_16 = true := by decide +kernel
def kL_sensor_20 : List xm_I := [(.astore 0, 4, 0, 0, 0), (.sipush 0, 0, 0, 0, 1), (.ireturn, 0, 0, 0, 0)]
theorem bk_L_sensor_20 : xm_okb cL_sensor 8 5 0 false 24 20 kL_sensor_20 = true := by decide +kernel
def kL_sensor_24 : List xm_I := [(.sipush 0, 0, 0, 0, 0), (.ireturn, 0, 0, 0, 0)]
theorem bk_L_sensor_24 : xm_okb cL_sensor 8 5 0 false 26 24 kL_sensor_24 = true := by decide +kernel
def kb_L_sensor : List (Nat × Nat × List xm_I) := [(0, 5, kL_sensor_0), (8, 15, kL_sensor_8), (15, 16, kL_sensor_15), (16, 20, kL_sensor_16), (20, 24, kL_sensor_20), (24, 26, kL_sensor_24)]
theorem lb_L_sensor_0 : xm_lk kb_L_sensor 0 = some (5, kL_sensor_0) := rfl
theorem lb_L_sensor_8 : xm_lk kb_L_sensor 8 = some (15, kL_sensor_8) := rfl
theorem lb_L_sensor_15 : xm_lk kb_L_sensor 15 = some (16, kL_sensor_15) := rfl
theorem lb_L_sensor_16 : xm_lk kb_L_sensor 16 = some (20, kL_sensor_16) := rfl
theorem lb_L_sensor_20 : xm_lk kb_L_sensor 20 = some (24, kL_sensor_20) := rfl
theorem lb_L_sensor_24 : xm_lk kb_L_sensor 24 = some (26, kL_sensor_24) := rfl
theorem lb_L_sensor_5 : xm_lk kb_L_sensor 5 = none := rfl
theorem lb_L_sensor_26 : xm_lk kb_L_sensor 26 = none := rfl
theorem kc_L_sensor : xm_oks cL_sensor 8 5 0 false kb_L_sensor := (List.forall_mem_cons.mpr ⟨bk_L_sensor_0, (List.forall_mem_cons.mpr ⟨bk_L_sensor_8, (List.forall_mem_cons.mpr ⟨bk_L_sensor_15, (List.forall_mem_cons.mpr ⟨bk_L_sensor_16, (List.forall_mem_cons.mpr ⟨bk_L_sensor_20, (List.forall_mem_cons.mpr ⟨bk_L_sensor_24, (fun _ h => absurd h List.not_mem_nil)⟩)⟩)⟩)⟩)⟩)⟩)
abbrev mt_L_setLimits : xm_hT := (yL_setLimits, cL_setLimits, 4, [(0, 6, 9, 25)])
theorem ho_L_setLimits : xm_ho mt_L_setLimits 3 := ⟨by decide +kernel, rfl, by decide, ⟨by decide +kernel, by decide +kernel, by decide +kernel⟩, (wq_at wl_0_ok 22 rfl), (wq_at wl_0_ok 0 rfl), (wq_at wl_0_ok 23 rfl)⟩
def kL_setLimits_0 : List xm_I := [(.aload 0, 0, 0, 0, 0), (.iload 0, 1, 0, 0, 0), (.iload 0, 2, 0, 0, 0)]
theorem bk_L_setLimits_0 : xm_okb cL_setLimits 8 4 0 false 3 0 kL_setLimits_0 = true := by decide +kernel
def kL_setLimits_6 : List xm_I := [(.goto 0, 12, 0, 0, 0)]
theorem bk_L_setLimits_6 : xm_okb cL_setLimits 8 4 0 false 9 6 kL_setLimits_6 = true := by decide +kernel
def kL_setLimits_9 : List xm_I := [(.astore 0, 3, 0, 0, 0), (.sipush 0, 0, 0, 0, 1), (.ireturn, 0, 0, 0, 0)]
theorem bk_L_setLimits_9 : xm_okb cL_setLimits 8 4 0 false 12 9 kL_setLimits_9 = true := by decide +kernel
def kL_setLimits_12 : List xm_I := [(.sipush 0, 0, 0, 0, 0), (.ireturn, 0, 0, 0, 0)]
theorem bk_L_setLimits_12 : xm_okb cL_setLimits 8 4 0 false 14 12 kL_setLimits_12 = true := by decide +kernel
def kb_L_setLimits : List (Nat × Nat × List xm_I) := [(0, 3, kL_setLimits_0), (6, 9, kL_setLimits_6), (9, 12, kL_setLimits_9), (12, 14, kL_setLimits_12)]
theorem lb_L_setLimits_0 : xm_lk kb_L_setLimits 0 = some (3, kL_setLimits_0) := rfl
theorem lb_L_setLimits_6 : xm_lk kb_L_setLimits 6 = some (9, kL_setLimits_6) := rfl
theorem lb_L_setLimits_9 : xm_lk kb_L_setLimits 9 = some (12, kL_setLimits_9) := rfl
theorem lb_L_setLimits_12 : xm_lk kb_L_setLimits 12 = some (14, kL_setLimits_12) := rfl
theorem lb_L_setLimits_3 : xm_lk kb_L_setLimits 3 = none := rfl
theorem lb_L_setLimits_14 : xm_lk kb_L_setLimits 14 = none := rfl
theorem kc_L_setLimits : xm_oks cL_setLimits 8 4 0 false kb_L_setLimits := (List.forall_mem_cons.mpr ⟨bk_L_setLimits_0, (List.forall_mem_cons.mpr ⟨bk_L_setLimits_6, (List.forall_mem_cons.mpr ⟨bk_L_setLimits_9, (List.forall_mem_cons.mpr ⟨bk_L_setLimits_12, (fun _ h => absurd h List.not_mem_nil)⟩)⟩)⟩)⟩)
abbrev mt_L_setTare : xm_hT := (yL_setTare, cL_setTare, 4, [(0, 9, 12, 25)])
theorem ho_L_setTare : xm_ho mt_L_setTare 3 := ⟨by decide +kernel, rfl, by decide, ⟨by decide +kernel, by decide +kernel, by decide +kernel⟩, (wq_at wl_0_ok 24 rfl), (wq_at wl_0_ok 0 rfl), (wq_at wl_0_ok 25 rfl)⟩
def kL_setTare_0 : List xm_I := [(.aload 0, 2, 0, 0, 0), (.sipush 0, 0, 0, 0, 0), (.aload 0, 0, 0, 0, 0), (.iload 0, 1, 0, 0, 0)]
theorem bk_L_setTare_0 : xm_okb cL_setTare 8 4 0 false 4 0 kL_setTare_0 = true := by decide +kernel
def kL_setTare_7 : List xm_I := [(.i2l, 0, 0, 0, 0), (.lastore, 0, 0, 0, 0), (.goto 0, 15, 0, 0, 0)]
theorem bk_L_setTare_7 : xm_okb cL_setTare 8 4 0 false 12 7 kL_setTare_7 = true := by decide +kernel
def kL_setTare_12 : List xm_I := [(.astore 0, 3, 0, 0, 0), (.sipush 0, 0, 0, 0, 1), (.ireturn, 0, 0, 0, 0)]
theorem bk_L_setTare_12 : xm_okb cL_setTare 8 4 0 false 15 12 kL_setTare_12 = true := by decide +kernel
def kL_setTare_15 : List xm_I := [(.sipush 0, 0, 0, 0, 0), (.ireturn, 0, 0, 0, 0)]
theorem bk_L_setTare_15 : xm_okb cL_setTare 8 4 0 false 17 15 kL_setTare_15 = true := by decide +kernel
def kb_L_setTare : List (Nat × Nat × List xm_I) := [(0, 4, kL_setTare_0), (7, 12, kL_setTare_7), (12, 15, kL_setTare_12), (15, 17, kL_setTare_15)]
theorem lb_L_setTare_0 : xm_lk kb_L_setTare 0 = some (4, kL_setTare_0) := rfl
theorem lb_L_setTare_7 : xm_lk kb_L_setTare 7 = some (12, kL_setTare_7) := rfl
theorem lb_L_setTare_12 : xm_lk kb_L_setTare 12 = some (15, kL_setTare_12) := rfl
theorem lb_L_setTare_15 : xm_lk kb_L_setTare 15 = some (17, kL_setTare_15) := rfl
theorem lb_L_setTare_4 : xm_lk kb_L_setTare 4 = none := rfl
theorem lb_L_setTare_17 : xm_lk kb_L_setTare 17 = none := rfl
theorem kc_L_setTare : xm_oks cL_setTare 8 4 0 false kb_L_setTare := (List.forall_mem_cons.mpr ⟨bk_L_setTare_0, (List.forall_mem_cons.mpr ⟨bk_L_setTare_7, (List.forall_mem_cons.mpr ⟨bk_L_setTare_12, (List.forall_mem_cons.mpr ⟨bk_L_setTare_15, (fun _ h => absurd h List.not_mem_nil)⟩)⟩)⟩)⟩)
abbrev mt_L_item : xm_hT := (yL_item, cL_item, 5, [(0, 10, 13, 19), (0, 10, 17, 25)])
theorem ho_L_item : xm_ho mt_L_item 4 := ⟨by decide +kernel, rfl, by decide, ⟨by decide +kernel, by decide +kernel, by decide +kernel⟩, (wq_at wl_0_ok 26 rfl), (wq_at wl_0_ok 0 rfl), (wq_at wl_0_ok 27 rfl)⟩
def kL_item_0 : List xm_I := [(.aload 0, 3, 0, 0, 0), (.sipush 0, 0, 0, 0, 0), (.aload 0, 0, 0, 0, 0), (.iload 0, 1, 0, 0, 0), (.iload 0, 2, 0, 0, 0)]
theorem bk_L_item_0 : xm_okb cL_item 8 5 0 false 5 0 kL_item_0 = true := by decide +kernel
def kL_item_8 : List xm_I := [(.i2l, 0, 0, 0, 0), (.lastore, 0, 0, 0, 0), (.goto 0, 21, 0, 0, 0)]
theorem bk_L_item_8 : xm_okb cL_item 8 5 0 false 13 8 kL_item_8 = true := by decide +kernel
def kL_item_13 : List xm_I := [(.astore 0, 4, 0, 0, 0), (.sipush 0, 0, 0, 0, 1), (.ireturn, 0, 0, 0, 0)]
theorem bk_L_item_13 : xm_okb cL_item 8 5 0 false 17 13 kL_item_13 = true := by decide +kernel
def kL_item_17 : List xm_I := [(.astore 0, 4, 0, 0, 0), (.sipush 0, 0, 0, 0, 2), (.ireturn, 0, 0, 0, 0)]
theorem bk_L_item_17 : xm_okb cL_item 8 5 0 false 21 17 kL_item_17 = true := by decide +kernel
def kL_item_21 : List xm_I := [(.sipush 0, 0, 0, 0, 0), (.ireturn, 0, 0, 0, 0)]
theorem bk_L_item_21 : xm_okb cL_item 8 5 0 false 23 21 kL_item_21 = true := by decide +kernel
def kb_L_item : List (Nat × Nat × List xm_I) := [(0, 5, kL_item_0), (8, 13, kL_item_8), (13, 17, kL_item_13), (17, 21, kL_item_17), (21, 23, kL_item_21)]
theorem lb_L_item_0 : xm_lk kb_L_item 0 = some (5, kL_item_0) := rfl
theorem lb_L_item_8 : xm_lk kb_L_item 8 = some (13, kL_item_8) := rfl
theorem lb_L_item_13 : xm_lk kb_L_item 13 = some (17, kL_item_13) := rfl
theorem lb_L_item_17 : xm_lk kb_L_item 17 = some (21, kL_item_17) := rfl
theorem lb_L_item_21 : xm_lk kb_L_item 21 = some (23, kL_item_21) := rfl
theorem lb_L_item_5 : xm_lk kb_L_item 5 = none := rfl
theorem lb_L_item_23 : xm_lk kb_L_item 23 = none := rfl
theorem kc_L_item : xm_oks cL_item 8 5 0 false kb_L_item := (List.forall_mem_cons.mpr ⟨bk_L_item_0, (List.forall_mem_cons.mpr ⟨bk_L_item_8, (List.forall_mem_cons.mpr ⟨bk_L_item_13, (List.forall_mem_cons.mpr ⟨bk_L_item_17, (List.forall_mem_cons.mpr ⟨bk_L_item_21, (fun _ h => absurd h List.not_mem_nil)⟩)⟩)⟩)⟩)⟩)
abbrev mt_L_measured : xm_hT := (yL_measured, cL_measured, 4, [(0, 9, 12, 19), (0, 9, 15, 60)])
theorem ho_L_measured : xm_ho mt_L_measured 3 := ⟨by decide +kernel, rfl, by decide, ⟨by decide +kernel, by decide +kernel, by decide +kernel⟩, (wq_at wl_0_ok 28 rfl), (wq_at wl_0_ok 0 rfl), (wq_at wl_0_ok 29 rfl)⟩
theorem lc_60 : Cond.classLink (xm_C 8) 60 "java/util/NoSuchElementException" ∈ lw_tb := (wq_at wl_1_ok 0 rfl)
def kL_measured_0 : List xm_I := [(.aload 0, 2, 0, 0, 0), (.sipush 0, 0, 0, 0, 0), (.aload 0, 0, 0, 0, 0), (.iload 0, 1, 0, 0, 0)]
theorem bk_L_measured_0 : xm_okb cL_measured 8 4 0 false 4 0 kL_measured_0 = true := by decide +kernel
def kL_measured_7 : List xm_I := [(.i2l, 0, 0, 0, 0), (.lastore, 0, 0, 0, 0), (.goto 0, 18, 0, 0, 0)]
theorem bk_L_measured_7 : xm_okb cL_measured 8 4 0 false 12 7 kL_measured_7 = true := by decide +kernel
def kL_measured_12 : List xm_I := [(.astore 0, 3, 0, 0, 0), (.sipush 0, 0, 0, 0, 1), (.ireturn, 0, 0, 0, 0)]
theorem bk_L_measured_12 : xm_okb cL_measured 8 4 0 false 15 12 kL_measured_12 = true := by decide +kernel
def kL_measured_15 : List xm_I := [(.astore 0, 3, 0, 0, 0), (.sipush 0, 0, 0, 0, 2), (.ireturn, 0, 0, 0, 0)]
theorem bk_L_measured_15 : xm_okb cL_measured 8 4 0 false 18 15 kL_measured_15 = true := by decide +kernel
def kL_measured_18 : List xm_I := [(.sipush 0, 0, 0, 0, 0), (.ireturn, 0, 0, 0, 0)]
theorem bk_L_measured_18 : xm_okb cL_measured 8 4 0 false 20 18 kL_measured_18 = true := by decide +kernel
def kb_L_measured : List (Nat × Nat × List xm_I) := [(0, 4, kL_measured_0), (7, 12, kL_measured_7), (12, 15, kL_measured_12), (15, 18, kL_measured_15), (18, 20, kL_measured_18)]
theorem lb_L_measured_0 : xm_lk kb_L_measured 0 = some (4, kL_measured_0) := rfl
theorem lb_L_measured_7 : xm_lk kb_L_measured 7 = some (12, kL_measured_7) := rfl
theorem lb_L_measured_12 : xm_lk kb_L_measured 12 = some (15, kL_measured_12) := rfl
theorem lb_L_measured_15 : xm_lk kb_L_measured 15 = some (18, kL_measured_15) := rfl
theorem lb_L_measured_18 : xm_lk kb_L_measured 18 = some (20, kL_measured_18) := rfl
theorem lb_L_measured_4 : xm_lk kb_L_measured 4 = none := rfl
theorem lb_L_measured_20 : xm_lk kb_L_measured 20 = none := rfl
theorem kc_L_measured : xm_oks cL_measured 8 4 0 false kb_L_measured := (List.forall_mem_cons.mpr ⟨bk_L_measured_0, (List.forall_mem_cons.mpr ⟨bk_L_measured_7, (List.forall_mem_cons.mpr ⟨bk_L_measured_12, (List.forall_mem_cons.mpr ⟨bk_L_measured_15, (List.forall_mem_cons.mpr ⟨bk_L_measured_18, (fun _ h => absurd h List.not_mem_nil)⟩)⟩)⟩)⟩)⟩)
abbrev mt_L_sampleOf : xm_hT := (yL_sampleOf, cL_sampleOf, 5, [(0, 10, 13, 19)])
theorem ho_L_sampleOf : xm_ho mt_L_sampleOf 4 := ⟨by decide +kernel, rfl, by decide, ⟨by decide +kernel, by decide +kernel, by decide +kernel⟩, (wq_at wl_1_ok 1 rfl), (wq_at wl_0_ok 0 rfl), (wq_at wl_1_ok 2 rfl)⟩
def kL_sampleOf_0 : List xm_I := [(.aload 0, 3, 0, 0, 0), (.sipush 0, 0, 0, 0, 0), (.aload 0, 0, 0, 0, 0), (.iload 0, 1, 0, 0, 0), (.iload 0, 2, 0, 0, 0)]
theorem bk_L_sampleOf_0 : xm_okb cL_sampleOf 8 5 0 false 5 0 kL_sampleOf_0 = true := by decide +kernel
def kL_sampleOf_8 : List xm_I := [(.i2l, 0, 0, 0, 0), (.lastore, 0, 0, 0, 0), (.goto 0, 17, 0, 0, 0)]
theorem bk_L_sampleOf_8 : xm_okb cL_sampleOf 8 5 0 false 13 8 kL_sampleOf_8 = true := by decide +kernel
def kL_sampleOf_13 : List xm_I := [(.astore 0, 4, 0, 0, 0), (.sipush 0, 0, 0, 0, 1), (.ireturn, 0, 0, 0, 0)]
theorem bk_L_sampleOf_13 : xm_okb cL_sampleOf 8 5 0 false 17 13 kL_sampleOf_13 = true := by decide +kernel
def kL_sampleOf_17 : List xm_I := [(.sipush 0, 0, 0, 0, 0), (.ireturn, 0, 0, 0, 0)]
theorem bk_L_sampleOf_17 : xm_okb cL_sampleOf 8 5 0 false 19 17 kL_sampleOf_17 = true := by decide +kernel
def kb_L_sampleOf : List (Nat × Nat × List xm_I) := [(0, 5, kL_sampleOf_0), (8, 13, kL_sampleOf_8), (13, 17, kL_sampleOf_13), (17, 19, kL_sampleOf_17)]
theorem lb_L_sampleOf_0 : xm_lk kb_L_sampleOf 0 = some (5, kL_sampleOf_0) := rfl
theorem lb_L_sampleOf_8 : xm_lk kb_L_sampleOf 8 = some (13, kL_sampleOf_8) := rfl
theorem lb_L_sampleOf_13 : xm_lk kb_L_sampleOf 13 = some (17, kL_sampleOf_13) := rfl
theorem lb_L_sampleOf_17 : xm_lk kb_L_sampleOf 17 = some (19, kL_sampleOf_17) := rfl
theorem lb_L_sampleOf_5 : xm_lk kb_L_sampleOf 5 = none := rfl
theorem lb_L_sampleOf_19 : xm_lk kb_L_sampleOf 19 = none := rfl
theorem kc_L_sampleOf : xm_oks cL_sampleOf 8 5 0 false kb_L_sampleOf := (List.forall_mem_cons.mpr ⟨bk_L_sampleOf_0, (List.forall_mem_cons.mpr ⟨bk_L_sampleOf_8, (List.forall_mem_cons.mpr ⟨bk_L_sampleOf_13, (List.forall_mem_cons.mpr ⟨bk_L_sampleOf_17, (fun _ h => absurd h List.not_mem_nil)⟩)⟩)⟩)⟩)
abbrev mt_L_sample : xm_hT := (yL_sample, cL_sample, 4, [(0, 9, 12, 25), (0, 9, 15, 60)])
theorem ho_L_sample : xm_ho mt_L_sample 3 := ⟨by decide +kernel, rfl, by decide, ⟨by decide +kernel, by decide +kernel, by decide +kernel⟩, (wq_at wl_1_ok 3 rfl), (wq_at wl_0_ok 0 rfl), (wq_at wl_1_ok 4 rfl)⟩
def kL_sample_0 : List xm_I := [(.aload 0, 2, 0, 0, 0), (.sipush 0, 0, 0, 0, 0), (.aload 0, 0, 0, 0, 0), (.iload 0, 1, 0, 0, 0)]
theorem bk_L_sample_0 : xm_okb cL_sample 8 4 0 false 4 0 kL_sample_0 = true := by decide +kernel
def kL_sample_7 : List xm_I := [(.i2l, 0, 0, 0, 0), (.lastore, 0, 0, 0, 0), (.goto 0, 18, 0, 0, 0)]
theorem bk_L_sample_7 : xm_okb cL_sample 8 4 0 false 12 7 kL_sample_7 = true := by decide +kernel
def kL_sample_12 : List xm_I := [(.astore 0, 3, 0, 0, 0), (.sipush 0, 0, 0, 0, 1), (.ireturn, 0, 0, 0, 0)]
theorem bk_L_sample_12 : xm_okb cL_sample 8 4 0 false 15 12 kL_sample_12 = true := by decide +kernel
def kL_sample_15 : List xm_I := [(.astore 0, 3, 0, 0, 0), (.sipush 0, 0, 0, 0, 2), (.ireturn, 0, 0, 0, 0)]
theorem bk_L_sample_15 : xm_okb cL_sample 8 4 0 false 18 15 kL_sample_15 = true := by decide +kernel
def kL_sample_18 : List xm_I := [(.sipush 0, 0, 0, 0, 0), (.ireturn, 0, 0, 0, 0)]
theorem bk_L_sample_18 : xm_okb cL_sample 8 4 0 false 20 18 kL_sample_18 = true := by decide +kernel
def kb_L_sample : List (Nat × Nat × List xm_I) := [(0, 4, kL_sample_0), (7, 12, kL_sample_7), (12, 15, kL_sample_12), (15, 18, kL_sample_15), (18, 20, kL_sample_18)]
theorem lb_L_sample_0 : xm_lk kb_L_sample 0 = some (4, kL_sample_0) := rfl
theorem lb_L_sample_7 : xm_lk kb_L_sample 7 = some (12, kL_sample_7) := rfl
theorem lb_L_sample_12 : xm_lk kb_L_sample 12 = some (15, kL_sample_12) := rfl
theorem lb_L_sample_15 : xm_lk kb_L_sample 15 = some (18, kL_sample_15) := rfl
theorem lb_L_sample_18 : xm_lk kb_L_sample 18 = some (20, kL_sample_18) := rfl
theorem lb_L_sample_4 : xm_lk kb_L_sample 4 = none := rfl
theorem lb_L_sample_20 : xm_lk kb_L_sample 20 = none := rfl
theorem kc_L_sample : xm_oks cL_sample 8 4 0 false kb_L_sample := (List.forall_mem_cons.mpr ⟨bk_L_sample_0, (List.forall_mem_cons.mpr ⟨bk_L_sample_7, (List.forall_mem_cons.mpr ⟨bk_L_sample_12, (List.forall_mem_cons.mpr ⟨bk_L_sample_15, (List.forall_mem_cons.mpr ⟨bk_L_sample_18, (fun _ h => absurd h List.not_mem_nil)⟩)⟩)⟩)⟩)⟩)
abbrev mt_L_count : xm_hT := (yL_count, cL_count, 4, [(0, 9, 12, 25)])
theorem ho_L_count : xm_ho mt_L_count 3 := ⟨by decide +kernel, rfl, by decide, ⟨by decide +kernel, by decide +kernel, by decide +kernel⟩, (wq_at wl_1_ok 5 rfl), (wq_at wl_0_ok 0 rfl), (wq_at wl_1_ok 6 rfl)⟩
def kL_count_0 : List xm_I := [(.aload 0, 2, 0, 0, 0), (.sipush 0, 0, 0, 0, 0), (.aload 0, 0, 0, 0, 0), (.iload 0, 1, 0, 0, 0)]
theorem bk_L_count_0 : xm_okb cL_count 8 4 0 false 4 0 kL_count_0 = true := by decide +kernel
def kL_count_7 : List xm_I := [(.i2l, 0, 0, 0, 0), (.lastore, 0, 0, 0, 0), (.goto 0, 15, 0, 0, 0)]
theorem bk_L_count_7 : xm_okb cL_count 8 4 0 false 12 7 kL_count_7 = true := by decide +kernel
def kL_count_12 : List xm_I := [(.astore 0, 3, 0, 0, 0), (.sipush 0, 0, 0, 0, 1), (.ireturn, 0, 0, 0, 0)]
theorem bk_L_count_12 : xm_okb cL_count 8 4 0 false 15 12 kL_count_12 = true := by decide +kernel
def kL_count_15 : List xm_I := [(.sipush 0, 0, 0, 0, 0), (.ireturn, 0, 0, 0, 0)]
theorem bk_L_count_15 : xm_okb cL_count 8 4 0 false 17 15 kL_count_15 = true := by decide +kernel
def kb_L_count : List (Nat × Nat × List xm_I) := [(0, 4, kL_count_0), (7, 12, kL_count_7), (12, 15, kL_count_12), (15, 17, kL_count_15)]
theorem lb_L_count_0 : xm_lk kb_L_count 0 = some (4, kL_count_0) := rfl
theorem lb_L_count_7 : xm_lk kb_L_count 7 = some (12, kL_count_7) := rfl
theorem lb_L_count_12 : xm_lk kb_L_count 12 = some (15, kL_count_12) := rfl
theorem lb_L_count_15 : xm_lk kb_L_count 15 = some (17, kL_count_15) := rfl
theorem lb_L_count_4 : xm_lk kb_L_count 4 = none := rfl
theorem lb_L_count_17 : xm_lk kb_L_count 17 = none := rfl
theorem kc_L_count : xm_oks cL_count 8 4 0 false kb_L_count := (List.forall_mem_cons.mpr ⟨bk_L_count_0, (List.forall_mem_cons.mpr ⟨bk_L_count_7, (List.forall_mem_cons.mpr ⟨bk_L_count_12, (List.forall_mem_cons.mpr ⟨bk_L_count_15, (fun _ h => absurd h List.not_mem_nil)⟩)⟩)⟩)⟩)
abbrev mt_L_decided : xm_hT := (yL_decided, cL_decided, 4, [(0, 9, 12, 25)])
theorem ho_L_decided : xm_ho mt_L_decided 3 := ⟨by decide +kernel, rfl, by decide, ⟨by decide +kernel, by decide +kernel, by decide +kernel⟩, (wq_at wl_1_ok 7 rfl), (wq_at wl_0_ok 0 rfl), (wq_at wl_1_ok 8 rfl)⟩
def kL_decided_0 : List xm_I := [(.aload 0, 2, 0, 0, 0), (.sipush 0, 0, 0, 0, 0), (.aload 0, 0, 0, 0, 0), (.iload 0, 1, 0, 0, 0)]
theorem bk_L_decided_0 : xm_okb cL_decided 8 4 0 false 4 0 kL_decided_0 = true := by decide +kernel
def kL_decided_7 : List xm_I := [(.i2l, 0, 0, 0, 0), (.lastore, 0, 0, 0, 0), (.goto 0, 15, 0, 0, 0)]
theorem bk_L_decided_7 : xm_okb cL_decided 8 4 0 false 12 7 kL_decided_7 = true := by decide +kernel
def kL_decided_12 : List xm_I := [(.astore 0, 3, 0, 0, 0), (.sipush 0, 0, 0, 0, 1), (.ireturn, 0, 0, 0, 0)]
theorem bk_L_decided_12 : xm_okb cL_decided 8 4 0 false 15 12 kL_decided_12 = true := by decide +kernel
def kL_decided_15 : List xm_I := [(.sipush 0, 0, 0, 0, 0), (.ireturn, 0, 0, 0, 0)]
theorem bk_L_decided_15 : xm_okb cL_decided 8 4 0 false 17 15 kL_decided_15 = true := by decide +kernel
def kb_L_decided : List (Nat × Nat × List xm_I) := [(0, 4, kL_decided_0), (7, 12, kL_decided_7), (12, 15, kL_decided_12), (15, 17, kL_decided_15)]
theorem lb_L_decided_0 : xm_lk kb_L_decided 0 = some (4, kL_decided_0) := rfl
theorem lb_L_decided_7 : xm_lk kb_L_decided 7 = some (12, kL_decided_7) := rfl
theorem lb_L_decided_12 : xm_lk kb_L_decided 12 = some (15, kL_decided_12) := rfl
theorem lb_L_decided_15 : xm_lk kb_L_decided 15 = some (17, kL_decided_15) := rfl
theorem lb_L_decided_4 : xm_lk kb_L_decided 4 = none := rfl
theorem lb_L_decided_17 : xm_lk kb_L_decided 17 = none := rfl
theorem kc_L_decided : xm_oks cL_decided 8 4 0 false kb_L_decided := (List.forall_mem_cons.mpr ⟨bk_L_decided_0, (List.forall_mem_cons.mpr ⟨bk_L_decided_7, (List.forall_mem_cons.mpr ⟨bk_L_decided_12, (List.forall_mem_cons.mpr ⟨bk_L_decided_15, (fun _ h => absurd h List.not_mem_nil)⟩)⟩)⟩)⟩)
abbrev mt_L_meanGood : xm_hT := (yL_meanGood, cL_meanGood, 3, [(0, 7, 10, 60)])
theorem ho_L_meanGood : xm_ho mt_L_meanGood 2 := ⟨by decide +kernel, rfl, by decide, ⟨by decide +kernel, by decide +kernel, by decide +kernel⟩, (wq_at wl_1_ok 9 rfl), (wq_at wl_0_ok 0 rfl), (wq_at wl_1_ok 10 rfl)⟩
def kL_meanGood_0 : List xm_I := [(.aload 0, 1, 0, 0, 0), (.sipush 0, 0, 0, 0, 0), (.aload 0, 0, 0, 0, 0)]
theorem bk_L_meanGood_0 : xm_okb cL_meanGood 8 3 0 false 3 0 kL_meanGood_0 = true := by decide +kernel
def kL_meanGood_6 : List xm_I := [(.dastore, 0, 0, 0, 0), (.goto 0, 13, 0, 0, 0)]
theorem bk_L_meanGood_6 : xm_okb cL_meanGood 8 3 0 false 10 6 kL_meanGood_6 = true := by decide +kernel
def kL_meanGood_10 : List xm_I := [(.astore 0, 2, 0, 0, 0), (.sipush 0, 0, 0, 0, 1), (.ireturn, 0, 0, 0, 0)]
theorem bk_L_meanGood_10 : xm_okb cL_meanGood 8 3 0 false 13 10 kL_meanGood_10 = true := by decide +kernel
def kL_meanGood_13 : List xm_I := [(.sipush 0, 0, 0, 0, 0), (.ireturn, 0, 0, 0, 0)]
theorem bk_L_meanGood_13 : xm_okb cL_meanGood 8 3 0 false 15 13 kL_meanGood_13 = true := by decide +kernel
def kb_L_meanGood : List (Nat × Nat × List xm_I) := [(0, 3, kL_meanGood_0), (6, 10, kL_meanGood_6), (10, 13, kL_meanGood_10), (13, 15, kL_meanGood_13)]
theorem lb_L_meanGood_0 : xm_lk kb_L_meanGood 0 = some (3, kL_meanGood_0) := rfl
theorem lb_L_meanGood_6 : xm_lk kb_L_meanGood 6 = some (10, kL_meanGood_6) := rfl
theorem lb_L_meanGood_10 : xm_lk kb_L_meanGood 10 = some (13, kL_meanGood_10) := rfl
theorem lb_L_meanGood_13 : xm_lk kb_L_meanGood 13 = some (15, kL_meanGood_13) := rfl
theorem lb_L_meanGood_3 : xm_lk kb_L_meanGood 3 = none := rfl
theorem lb_L_meanGood_15 : xm_lk kb_L_meanGood 15 = none := rfl
theorem kc_L_meanGood : xm_oks cL_meanGood 8 3 0 false kb_L_meanGood := (List.forall_mem_cons.mpr ⟨bk_L_meanGood_0, (List.forall_mem_cons.mpr ⟨bk_L_meanGood_6, (List.forall_mem_cons.mpr ⟨bk_L_meanGood_10, (List.forall_mem_cons.mpr ⟨bk_L_meanGood_13, (fun _ h => absurd h List.not_mem_nil)⟩)⟩)⟩)⟩)
abbrev mt_L_meanError : xm_hT := (yL_meanError, cL_meanError, 3, [(0, 7, 10, 60)])
theorem ho_L_meanError : xm_ho mt_L_meanError 2 := ⟨by decide +kernel, rfl, by decide, ⟨by decide +kernel, by decide +kernel, by decide +kernel⟩, (wq_at wl_1_ok 11 rfl), (wq_at wl_0_ok 0 rfl), (wq_at wl_1_ok 12 rfl)⟩
def kL_meanError_0 : List xm_I := [(.aload 0, 1, 0, 0, 0), (.sipush 0, 0, 0, 0, 0), (.aload 0, 0, 0, 0, 0)]
theorem bk_L_meanError_0 : xm_okb cL_meanError 8 3 0 false 3 0 kL_meanError_0 = true := by decide +kernel
def kL_meanError_6 : List xm_I := [(.dastore, 0, 0, 0, 0), (.goto 0, 13, 0, 0, 0)]
theorem bk_L_meanError_6 : xm_okb cL_meanError 8 3 0 false 10 6 kL_meanError_6 = true := by decide +kernel
def kL_meanError_10 : List xm_I := [(.astore 0, 2, 0, 0, 0), (.sipush 0, 0, 0, 0, 1), (.ireturn, 0, 0, 0, 0)]
theorem bk_L_meanError_10 : xm_okb cL_meanError 8 3 0 false 13 10 kL_meanError_10 = true := by decide +kernel
def kL_meanError_13 : List xm_I := [(.sipush 0, 0, 0, 0, 0), (.ireturn, 0, 0, 0, 0)]
theorem bk_L_meanError_13 : xm_okb cL_meanError 8 3 0 false 15 13 kL_meanError_13 = true := by decide +kernel
def kb_L_meanError : List (Nat × Nat × List xm_I) := [(0, 3, kL_meanError_0), (6, 10, kL_meanError_6), (10, 13, kL_meanError_10), (13, 15, kL_meanError_13)]
theorem lb_L_meanError_0 : xm_lk kb_L_meanError 0 = some (3, kL_meanError_0) := rfl
theorem lb_L_meanError_6 : xm_lk kb_L_meanError 6 = some (10, kL_meanError_6) := rfl
theorem lb_L_meanError_10 : xm_lk kb_L_meanError 10 = some (13, kL_meanError_10) := rfl
theorem lb_L_meanError_13 : xm_lk kb_L_meanError 13 = some (15, kL_meanError_13) := rfl
theorem lb_L_meanError_3 : xm_lk kb_L_meanError 3 = none := rfl
theorem lb_L_meanError_15 : xm_lk kb_L_meanError 15 = none := rfl
theorem kc_L_meanError : xm_oks cL_meanError 8 3 0 false kb_L_meanError := (List.forall_mem_cons.mpr ⟨bk_L_meanError_0, (List.forall_mem_cons.mpr ⟨bk_L_meanError_6, (List.forall_mem_cons.mpr ⟨bk_L_meanError_10, (List.forall_mem_cons.mpr ⟨bk_L_meanError_13, (fun _ h => absurd h List.not_mem_nil)⟩)⟩)⟩)⟩)
abbrev mt_L_vibration : xm_hT := (yL_vibration, cL_vibration, 4, [(0, 9, 12, 25)])
theorem ho_L_vibration : xm_ho mt_L_vibration 3 := ⟨by decide +kernel, rfl, by decide, ⟨by decide +kernel, by decide +kernel, by decide +kernel⟩, (wq_at wl_1_ok 13 rfl), (wq_at wl_0_ok 0 rfl), (wq_at wl_1_ok 14 rfl)⟩
def kL_vibration_0 : List xm_I := [(.aload 0, 2, 0, 0, 0), (.sipush 0, 0, 0, 0, 0), (.aload 0, 0, 0, 0, 0), (.iload 0, 1, 0, 0, 0)]
theorem bk_L_vibration_0 : xm_okb cL_vibration 8 4 0 false 4 0 kL_vibration_0 = true := by decide +kernel
def kL_vibration_7 : List xm_I := [(.i2l, 0, 0, 0, 0), (.lastore, 0, 0, 0, 0), (.goto 0, 15, 0, 0, 0)]
theorem bk_L_vibration_7 : xm_okb cL_vibration 8 4 0 false 12 7 kL_vibration_7 = true := by decide +kernel
def kL_vibration_12 : List xm_I := [(.astore 0, 3, 0, 0, 0), (.sipush 0, 0, 0, 0, 1), (.ireturn, 0, 0, 0, 0)]
theorem bk_L_vibration_12 : xm_okb cL_vibration 8 4 0 false 15 12 kL_vibration_12 = true := by decide +kernel
def kL_vibration_15 : List xm_I := [(.sipush 0, 0, 0, 0, 0), (.ireturn, 0, 0, 0, 0)]
theorem bk_L_vibration_15 : xm_okb cL_vibration 8 4 0 false 17 15 kL_vibration_15 = true := by decide +kernel
def kb_L_vibration : List (Nat × Nat × List xm_I) := [(0, 4, kL_vibration_0), (7, 12, kL_vibration_7), (12, 15, kL_vibration_12), (15, 17, kL_vibration_15)]
theorem lb_L_vibration_0 : xm_lk kb_L_vibration 0 = some (4, kL_vibration_0) := rfl
theorem lb_L_vibration_7 : xm_lk kb_L_vibration 7 = some (12, kL_vibration_7) := rfl
theorem lb_L_vibration_12 : xm_lk kb_L_vibration 12 = some (15, kL_vibration_12) := rfl
theorem lb_L_vibration_15 : xm_lk kb_L_vibration 15 = some (17, kL_vibration_15) := rfl
theorem lb_L_vibration_4 : xm_lk kb_L_vibration 4 = none := rfl
theorem lb_L_vibration_17 : xm_lk kb_L_vibration 17 = none := rfl
theorem kc_L_vibration : xm_oks cL_vibration 8 4 0 false kb_L_vibration := (List.forall_mem_cons.mpr ⟨bk_L_vibration_0, (List.forall_mem_cons.mpr ⟨bk_L_vibration_7, (List.forall_mem_cons.mpr ⟨bk_L_vibration_12, (List.forall_mem_cons.mpr ⟨bk_L_vibration_15, (fun _ h => absurd h List.not_mem_nil)⟩)⟩)⟩)⟩)
abbrev mt_L_residue : xm_hT := (yL_residue, cL_residue, 5, [(0, 10, 13, 25)])
theorem ho_L_residue : xm_ho mt_L_residue 4 := ⟨by decide +kernel, rfl, by decide, ⟨by decide +kernel, by decide +kernel, by decide +kernel⟩, (wq_at wl_1_ok 15 rfl), (wq_at wl_0_ok 0 rfl), (wq_at wl_1_ok 16 rfl)⟩
def kL_residue_0 : List xm_I := [(.aload 0, 3, 0, 0, 0), (.sipush 0, 0, 0, 0, 0), (.aload 0, 0, 0, 0, 0), (.iload 0, 1, 0, 0, 0), (.iload 0, 2, 0, 0, 0)]
theorem bk_L_residue_0 : xm_okb cL_residue 8 5 0 false 5 0 kL_residue_0 = true := by decide +kernel
def kL_residue_8 : List xm_I := [(.i2l, 0, 0, 0, 0), (.lastore, 0, 0, 0, 0), (.goto 0, 17, 0, 0, 0)]
theorem bk_L_residue_8 : xm_okb cL_residue 8 5 0 false 13 8 kL_residue_8 = true := by decide +kernel
def kL_residue_13 : List xm_I := [(.astore 0, 4, 0, 0, 0), (.sipush 0, 0, 0, 0, 1), (.ireturn, 0, 0, 0, 0)]
theorem bk_L_residue_13 : xm_okb cL_residue 8 5 0 false 17 13 kL_residue_13 = true := by decide +kernel
def kL_residue_17 : List xm_I := [(.sipush 0, 0, 0, 0, 0), (.ireturn, 0, 0, 0, 0)]
theorem bk_L_residue_17 : xm_okb cL_residue 8 5 0 false 19 17 kL_residue_17 = true := by decide +kernel
def kb_L_residue : List (Nat × Nat × List xm_I) := [(0, 5, kL_residue_0), (8, 13, kL_residue_8), (13, 17, kL_residue_13), (17, 19, kL_residue_17)]
theorem lb_L_residue_0 : xm_lk kb_L_residue 0 = some (5, kL_residue_0) := rfl
theorem lb_L_residue_8 : xm_lk kb_L_residue 8 = some (13, kL_residue_8) := rfl
theorem lb_L_residue_13 : xm_lk kb_L_residue 13 = some (17, kL_residue_13) := rfl
theorem lb_L_residue_17 : xm_lk kb_L_residue 17 = some (19, kL_residue_17) := rfl
theorem lb_L_residue_5 : xm_lk kb_L_residue 5 = none := rfl
theorem lb_L_residue_19 : xm_lk kb_L_residue 19 = none := rfl
theorem kc_L_residue : xm_oks cL_residue 8 5 0 false kb_L_residue := (List.forall_mem_cons.mpr ⟨bk_L_residue_0, (List.forall_mem_cons.mpr ⟨bk_L_residue_8, (List.forall_mem_cons.mpr ⟨bk_L_residue_13, (List.forall_mem_cons.mpr ⟨bk_L_residue_17, (fun _ h => absurd h List.not_mem_nil)⟩)⟩)⟩)⟩)
abbrev mt_L_bestWindow : xm_hT := (yL_bestWindow, cL_bestWindow, 4, [(0, 9, 12, 25)])
theorem ho_L_bestWindow : xm_ho mt_L_bestWindow 3 := ⟨by decide +kernel, rfl, by decide, ⟨by decide +kernel, by decide +kernel, by decide +kernel⟩, (wq_at wl_1_ok 17 rfl), (wq_at wl_0_ok 0 rfl), (wq_at wl_1_ok 18 rfl)⟩
def kL_bestWindow_0 : List xm_I := [(.aload 0, 2, 0, 0, 0), (.sipush 0, 0, 0, 0, 0), (.aload 0, 0, 0, 0, 0), (.iload 0, 1, 0, 0, 0)]
theorem bk_L_bestWindow_0 : xm_okb cL_bestWindow 8 4 0 false 4 0 kL_bestWindow_0 = true := by decide +kernel
def kL_bestWindow_7 : List xm_I := [(.i2l, 0, 0, 0, 0), (.lastore, 0, 0, 0, 0), (.goto 0, 15, 0, 0, 0)]
theorem bk_L_bestWindow_7 : xm_okb cL_bestWindow 8 4 0 false 12 7 kL_bestWindow_7 = true := by decide +kernel
def kL_bestWindow_12 : List xm_I := [(.astore 0, 3, 0, 0, 0), (.sipush 0, 0, 0, 0, 1), (.ireturn, 0, 0, 0, 0)]
theorem bk_L_bestWindow_12 : xm_okb cL_bestWindow 8 4 0 false 15 12 kL_bestWindow_12 = true := by decide +kernel
def kL_bestWindow_15 : List xm_I := [(.sipush 0, 0, 0, 0, 0), (.ireturn, 0, 0, 0, 0)]
theorem bk_L_bestWindow_15 : xm_okb cL_bestWindow 8 4 0 false 17 15 kL_bestWindow_15 = true := by decide +kernel
def kb_L_bestWindow : List (Nat × Nat × List xm_I) := [(0, 4, kL_bestWindow_0), (7, 12, kL_bestWindow_7), (12, 15, kL_bestWindow_12), (15, 17, kL_bestWindow_15)]
theorem lb_L_bestWindow_0 : xm_lk kb_L_bestWindow 0 = some (4, kL_bestWindow_0) := rfl
theorem lb_L_bestWindow_7 : xm_lk kb_L_bestWindow 7 = some (12, kL_bestWindow_7) := rfl
theorem lb_L_bestWindow_12 : xm_lk kb_L_bestWindow 12 = some (15, kL_bestWindow_12) := rfl
theorem lb_L_bestWindow_15 : xm_lk kb_L_bestWindow 15 = some (17, kL_bestWindow_15) := rfl
theorem lb_L_bestWindow_4 : xm_lk kb_L_bestWindow 4 = none := rfl
theorem lb_L_bestWindow_17 : xm_lk kb_L_bestWindow 17 = none := rfl
theorem kc_L_bestWindow : xm_oks cL_bestWindow 8 4 0 false kb_L_bestWindow := (List.forall_mem_cons.mpr ⟨bk_L_bestWindow_0, (List.forall_mem_cons.mpr ⟨bk_L_bestWindow_7, (List.forall_mem_cons.mpr ⟨bk_L_bestWindow_12, (List.forall_mem_cons.mpr ⟨bk_L_bestWindow_15, (fun _ h => absurd h List.not_mem_nil)⟩)⟩)⟩)⟩)
abbrev mt_L_weightWith : xm_hT := (yL_weightWith, cL_weightWith, 5, [(0, 10, 13, 19), (0, 10, 17, 25), (0, 10, 21, 60)])
theorem ho_L_weightWith : xm_ho mt_L_weightWith 4 := ⟨by decide +kernel, rfl, by decide, ⟨by decide +kernel, by decide +kernel, by decide +kernel⟩, (wq_at wl_1_ok 19 rfl), (wq_at wl_0_ok 0 rfl), (wq_at wl_1_ok 20 rfl)⟩
def kL_weightWith_0 : List xm_I := [(.aload 0, 3, 0, 0, 0), (.sipush 0, 0, 0, 0, 0), (.aload 0, 0, 0, 0, 0), (.iload 0, 1, 0, 0, 0), (.iload 0, 2, 0, 0, 0)]
theorem bk_L_weightWith_0 : xm_okb cL_weightWith 8 5 0 false 5 0 kL_weightWith_0 = true := by decide +kernel
def kL_weightWith_8 : List xm_I := [(.i2l, 0, 0, 0, 0), (.lastore, 0, 0, 0, 0), (.goto 0, 25, 0, 0, 0)]
theorem bk_L_weightWith_8 : xm_okb cL_weightWith 8 5 0 false 13 8 kL_weightWith_8 = true := by decide +kernel
def kL_weightWith_13 : List xm_I := [(.astore 0, 4, 0, 0, 0), (.sipush 0, 0, 0, 0, 1), (.ireturn, 0, 0, 0, 0)]
theorem bk_L_weightWith_13 : xm_okb cL_weightWith 8 5 0 false 17 13 kL_weightWith_13 = true := by decide +kernel
def kL_weightWith_17 : List xm_I := [(.astore 0, 4, 0, 0, 0), (.sipush 0, 0, 0, 0, 2), (.ireturn, 0, 0, 0, 0)]
theorem bk_L_weightWith_17 : xm_okb cL_weightWith 8 5 0 false 21 17 kL_weightWith_17 = true := by decide +kernel
def kL_weightWith_21 : List xm_I := [(.astore 0, 4, 0, 0, 0), (.sipush 0, 0, 0, 0, 3), (.ireturn, 0, 0, 0, 0)]
theorem bk_L_weightWith_21 : xm_okb cL_weightWith 8 5 0 false 25 21 kL_weightWith_21 = true := by decide +kernel
def kL_weightWith_25 : List xm_I := [(.sipush 0, 0, 0, 0, 0), (.ireturn, 0, 0, 0, 0)]
theorem bk_L_weightWith_25 : xm_okb cL_weightWith 8 5 0 false 27 25 kL_weightWith_25 = true := by decide +kernel
def kb_L_weightWith : List (Nat × Nat × List xm_I) := [(0, 5, kL_weightWith_0), (8, 13, kL_weightWith_8), (13, 17, kL_weightWith_13), (17, 21, kL_weightWith_17), (21, 25, kL_weightWith_21), (25, 27, kL_weightWith_25)]
theorem lb_L_weightWith_0 : xm_lk kb_L_weightWith 0 = some (5, kL_weightWith_0) := rfl
theorem lb_L_weightWith_8 : xm_lk kb_L_weightWith 8 = some (13, kL_weightWith_8) := rfl
theorem lb_L_weightWith_13 : xm_lk kb_L_weightWith 13 = some (17, kL_weightWith_13) := rfl
theorem lb_L_weightWith_17 : xm_lk kb_L_weightWith 17 = some (21, kL_weightWith_17) := rfl
theorem lb_L_weightWith_21 : xm_lk kb_L_weightWith 21 = some (25, kL_weightWith_21) := rfl
theorem lb_L_weightWith_25 : xm_lk kb_L_weightWith 25 = some (27, kL_weightWith_25) := rfl
theorem lb_L_weightWith_5 : xm_lk kb_L_weightWith 5 = none := rfl
theorem lb_L_weightWith_27 : xm_lk kb_L_weightWith 27 = none := rfl
theorem kc_L_weightWith : xm_oks cL_weightWith 8 5 0 false kb_L_weightWith := (List.forall_mem_cons.mpr ⟨bk_L_weightWith_0, (List.forall_mem_cons.mpr ⟨bk_L_weightWith_8, (List.forall_mem_cons.mpr ⟨bk_L_weightWith_13, (List.forall_mem_cons.mpr ⟨bk_L_weightWith_17, (List.forall_mem_cons.mpr ⟨bk_L_weightWith_21, (List.forall_mem_cons.mpr ⟨bk_L_weightWith_25, (fun _ h => absurd h List.not_mem_nil)⟩)⟩)⟩)⟩)⟩)⟩)
abbrev mt_L_samplesFor : xm_hT := (yL_samplesFor, cL_samplesFor, 4, [(0, 9, 12, 25)])
theorem ho_L_samplesFor : xm_ho mt_L_samplesFor 3 := ⟨by decide +kernel, rfl, by decide, ⟨by decide +kernel, by decide +kernel, by decide +kernel⟩, (wq_at wl_1_ok 21 rfl), (wq_at wl_0_ok 0 rfl), (wq_at wl_1_ok 22 rfl)⟩
def kL_samplesFor_0 : List xm_I := [(.aload 0, 2, 0, 0, 0), (.sipush 0, 0, 0, 0, 0), (.aload 0, 0, 0, 0, 0), (.iload 0, 1, 0, 0, 0)]
theorem bk_L_samplesFor_0 : xm_okb cL_samplesFor 8 4 0 false 4 0 kL_samplesFor_0 = true := by decide +kernel
def kL_samplesFor_7 : List xm_I := [(.i2l, 0, 0, 0, 0), (.lastore, 0, 0, 0, 0), (.goto 0, 15, 0, 0, 0)]
theorem bk_L_samplesFor_7 : xm_okb cL_samplesFor 8 4 0 false 12 7 kL_samplesFor_7 = true := by decide +kernel
def kL_samplesFor_12 : List xm_I := [(.astore 0, 3, 0, 0, 0), (.sipush 0, 0, 0, 0, 1), (.ireturn, 0, 0, 0, 0)]
theorem bk_L_samplesFor_12 : xm_okb cL_samplesFor 8 4 0 false 15 12 kL_samplesFor_12 = true := by decide +kernel
def kL_samplesFor_15 : List xm_I := [(.sipush 0, 0, 0, 0, 0), (.ireturn, 0, 0, 0, 0)]
theorem bk_L_samplesFor_15 : xm_okb cL_samplesFor 8 4 0 false 17 15 kL_samplesFor_15 = true := by decide +kernel
def kb_L_samplesFor : List (Nat × Nat × List xm_I) := [(0, 4, kL_samplesFor_0), (7, 12, kL_samplesFor_7), (12, 15, kL_samplesFor_12), (15, 17, kL_samplesFor_15)]
theorem lb_L_samplesFor_0 : xm_lk kb_L_samplesFor 0 = some (4, kL_samplesFor_0) := rfl
theorem lb_L_samplesFor_7 : xm_lk kb_L_samplesFor 7 = some (12, kL_samplesFor_7) := rfl
theorem lb_L_samplesFor_12 : xm_lk kb_L_samplesFor 12 = some (15, kL_samplesFor_12) := rfl
theorem lb_L_samplesFor_15 : xm_lk kb_L_samplesFor 15 = some (17, kL_samplesFor_15) := rfl
theorem lb_L_samplesFor_4 : xm_lk kb_L_samplesFor 4 = none := rfl
theorem lb_L_samplesFor_17 : xm_lk kb_L_samplesFor 17 = none := rfl
theorem kc_L_samplesFor : xm_oks cL_samplesFor 8 4 0 false kb_L_samplesFor := (List.forall_mem_cons.mpr ⟨bk_L_samplesFor_0, (List.forall_mem_cons.mpr ⟨bk_L_samplesFor_7, (List.forall_mem_cons.mpr ⟨bk_L_samplesFor_12, (List.forall_mem_cons.mpr ⟨bk_L_samplesFor_15, (fun _ h => absurd h List.not_mem_nil)⟩)⟩)⟩)⟩)
abbrev mt_L_arrival : xm_hT := (yL_arrival, cL_arrival, 5, [(0, 10, 13, 19), (0, 10, 17, 60)])
theorem ho_L_arrival : xm_ho mt_L_arrival 4 := ⟨by decide +kernel, rfl, by decide, ⟨by decide +kernel, by decide +kernel, by decide +kernel⟩, (wq_at wl_1_ok 23 rfl), (wq_at wl_0_ok 0 rfl), (wq_at wl_1_ok 24 rfl)⟩
def kL_arrival_0 : List xm_I := [(.aload 0, 3, 0, 0, 0), (.sipush 0, 0, 0, 0, 0), (.aload 0, 0, 0, 0, 0), (.iload 0, 1, 0, 0, 0), (.iload 0, 2, 0, 0, 0)]
theorem bk_L_arrival_0 : xm_okb cL_arrival 8 5 0 false 5 0 kL_arrival_0 = true := by decide +kernel
def kL_arrival_8 : List xm_I := [(.i2l, 0, 0, 0, 0), (.lastore, 0, 0, 0, 0), (.goto 0, 21, 0, 0, 0)]
theorem bk_L_arrival_8 : xm_okb cL_arrival 8 5 0 false 13 8 kL_arrival_8 = true := by decide +kernel
def kL_arrival_13 : List xm_I := [(.astore 0, 4, 0, 0, 0), (.sipush 0, 0, 0, 0, 1), (.ireturn, 0, 0, 0, 0)]
theorem bk_L_arrival_13 : xm_okb cL_arrival 8 5 0 false 17 13 kL_arrival_13 = true := by decide +kernel
def kL_arrival_17 : List xm_I := [(.astore 0, 4, 0, 0, 0), (.sipush 0, 0, 0, 0, 2), (.ireturn, 0, 0, 0, 0)]
theorem bk_L_arrival_17 : xm_okb cL_arrival 8 5 0 false 21 17 kL_arrival_17 = true := by decide +kernel
def kL_arrival_21 : List xm_I := [(.sipush 0, 0, 0, 0, 0), (.ireturn, 0, 0, 0, 0)]
theorem bk_L_arrival_21 : xm_okb cL_arrival 8 5 0 false 23 21 kL_arrival_21 = true := by decide +kernel
def kb_L_arrival : List (Nat × Nat × List xm_I) := [(0, 5, kL_arrival_0), (8, 13, kL_arrival_8), (13, 17, kL_arrival_13), (17, 21, kL_arrival_17), (21, 23, kL_arrival_21)]
theorem lb_L_arrival_0 : xm_lk kb_L_arrival 0 = some (5, kL_arrival_0) := rfl
theorem lb_L_arrival_8 : xm_lk kb_L_arrival 8 = some (13, kL_arrival_8) := rfl
theorem lb_L_arrival_13 : xm_lk kb_L_arrival 13 = some (17, kL_arrival_13) := rfl
theorem lb_L_arrival_17 : xm_lk kb_L_arrival 17 = some (21, kL_arrival_17) := rfl
theorem lb_L_arrival_21 : xm_lk kb_L_arrival 21 = some (23, kL_arrival_21) := rfl
theorem lb_L_arrival_5 : xm_lk kb_L_arrival 5 = none := rfl
theorem lb_L_arrival_23 : xm_lk kb_L_arrival 23 = none := rfl
theorem kc_L_arrival : xm_oks cL_arrival 8 5 0 false kb_L_arrival := (List.forall_mem_cons.mpr ⟨bk_L_arrival_0, (List.forall_mem_cons.mpr ⟨bk_L_arrival_8, (List.forall_mem_cons.mpr ⟨bk_L_arrival_13, (List.forall_mem_cons.mpr ⟨bk_L_arrival_17, (List.forall_mem_cons.mpr ⟨bk_L_arrival_21, (fun _ h => absurd h List.not_mem_nil)⟩)⟩)⟩)⟩)⟩)
abbrev mt_L_openTicks : xm_hT := (yL_openTicks, cL_openTicks, 4, [(0, 9, 12, 19)])
theorem ho_L_openTicks : xm_ho mt_L_openTicks 3 := ⟨by decide +kernel, rfl, by decide, ⟨by decide +kernel, by decide +kernel, by decide +kernel⟩, (wq_at wl_1_ok 25 rfl), (wq_at wl_0_ok 0 rfl), (wq_at wl_1_ok 26 rfl)⟩
def kL_openTicks_0 : List xm_I := [(.aload 0, 2, 0, 0, 0), (.sipush 0, 0, 0, 0, 0), (.aload 0, 0, 0, 0, 0), (.iload 0, 1, 0, 0, 0)]
theorem bk_L_openTicks_0 : xm_okb cL_openTicks 8 4 0 false 4 0 kL_openTicks_0 = true := by decide +kernel
def kL_openTicks_7 : List xm_I := [(.i2l, 0, 0, 0, 0), (.lastore, 0, 0, 0, 0), (.goto 0, 15, 0, 0, 0)]
theorem bk_L_openTicks_7 : xm_okb cL_openTicks 8 4 0 false 12 7 kL_openTicks_7 = true := by decide +kernel
def kL_openTicks_12 : List xm_I := [(.astore 0, 3, 0, 0, 0), (.sipush 0, 0, 0, 0, 1), (.ireturn, 0, 0, 0, 0)]
theorem bk_L_openTicks_12 : xm_okb cL_openTicks 8 4 0 false 15 12 kL_openTicks_12 = true := by decide +kernel
def kL_openTicks_15 : List xm_I := [(.sipush 0, 0, 0, 0, 0), (.ireturn, 0, 0, 0, 0)]
theorem bk_L_openTicks_15 : xm_okb cL_openTicks 8 4 0 false 17 15 kL_openTicks_15 = true := by decide +kernel
def kb_L_openTicks : List (Nat × Nat × List xm_I) := [(0, 4, kL_openTicks_0), (7, 12, kL_openTicks_7), (12, 15, kL_openTicks_12), (15, 17, kL_openTicks_15)]
theorem lb_L_openTicks_0 : xm_lk kb_L_openTicks 0 = some (4, kL_openTicks_0) := rfl
theorem lb_L_openTicks_7 : xm_lk kb_L_openTicks 7 = some (12, kL_openTicks_7) := rfl
theorem lb_L_openTicks_12 : xm_lk kb_L_openTicks 12 = some (15, kL_openTicks_12) := rfl
theorem lb_L_openTicks_15 : xm_lk kb_L_openTicks 15 = some (17, kL_openTicks_15) := rfl
theorem lb_L_openTicks_4 : xm_lk kb_L_openTicks 4 = none := rfl
theorem lb_L_openTicks_17 : xm_lk kb_L_openTicks 17 = none := rfl
theorem kc_L_openTicks : xm_oks cL_openTicks 8 4 0 false kb_L_openTicks := (List.forall_mem_cons.mpr ⟨bk_L_openTicks_0, (List.forall_mem_cons.mpr ⟨bk_L_openTicks_7, (List.forall_mem_cons.mpr ⟨bk_L_openTicks_12, (List.forall_mem_cons.mpr ⟨bk_L_openTicks_15, (fun _ h => absurd h List.not_mem_nil)⟩)⟩)⟩)⟩)
abbrev mt_L_opensAt : xm_hT := (yL_opensAt, cL_opensAt, 4, [(0, 9, 12, 19), (0, 9, 15, 60)])
theorem ho_L_opensAt : xm_ho mt_L_opensAt 3 := ⟨by decide +kernel, rfl, by decide, ⟨by decide +kernel, by decide +kernel, by decide +kernel⟩, (wq_at wl_1_ok 27 rfl), (wq_at wl_0_ok 0 rfl), (wq_at wl_1_ok 28 rfl)⟩
def kL_opensAt_0 : List xm_I := [(.aload 0, 2, 0, 0, 0), (.sipush 0, 0, 0, 0, 0), (.aload 0, 0, 0, 0, 0), (.iload 0, 1, 0, 0, 0)]
theorem bk_L_opensAt_0 : xm_okb cL_opensAt 8 4 0 false 4 0 kL_opensAt_0 = true := by decide +kernel
def kL_opensAt_7 : List xm_I := [(.i2l, 0, 0, 0, 0), (.lastore, 0, 0, 0, 0), (.goto 0, 18, 0, 0, 0)]
theorem bk_L_opensAt_7 : xm_okb cL_opensAt 8 4 0 false 12 7 kL_opensAt_7 = true := by decide +kernel
def kL_opensAt_12 : List xm_I := [(.astore 0, 3, 0, 0, 0), (.sipush 0, 0, 0, 0, 1), (.ireturn, 0, 0, 0, 0)]
theorem bk_L_opensAt_12 : xm_okb cL_opensAt 8 4 0 false 15 12 kL_opensAt_12 = true := by decide +kernel
def kL_opensAt_15 : List xm_I := [(.astore 0, 3, 0, 0, 0), (.sipush 0, 0, 0, 0, 2), (.ireturn, 0, 0, 0, 0)]
theorem bk_L_opensAt_15 : xm_okb cL_opensAt 8 4 0 false 18 15 kL_opensAt_15 = true := by decide +kernel
def kL_opensAt_18 : List xm_I := [(.sipush 0, 0, 0, 0, 0), (.ireturn, 0, 0, 0, 0)]
theorem bk_L_opensAt_18 : xm_okb cL_opensAt 8 4 0 false 20 18 kL_opensAt_18 = true := by decide +kernel
def kb_L_opensAt : List (Nat × Nat × List xm_I) := [(0, 4, kL_opensAt_0), (7, 12, kL_opensAt_7), (12, 15, kL_opensAt_12), (15, 18, kL_opensAt_15), (18, 20, kL_opensAt_18)]
theorem lb_L_opensAt_0 : xm_lk kb_L_opensAt 0 = some (4, kL_opensAt_0) := rfl
theorem lb_L_opensAt_7 : xm_lk kb_L_opensAt 7 = some (12, kL_opensAt_7) := rfl
theorem lb_L_opensAt_12 : xm_lk kb_L_opensAt 12 = some (15, kL_opensAt_12) := rfl
theorem lb_L_opensAt_15 : xm_lk kb_L_opensAt 15 = some (18, kL_opensAt_15) := rfl
theorem lb_L_opensAt_18 : xm_lk kb_L_opensAt 18 = some (20, kL_opensAt_18) := rfl
theorem lb_L_opensAt_4 : xm_lk kb_L_opensAt 4 = none := rfl
theorem lb_L_opensAt_20 : xm_lk kb_L_opensAt 20 = none := rfl
theorem kc_L_opensAt : xm_oks cL_opensAt 8 4 0 false kb_L_opensAt := (List.forall_mem_cons.mpr ⟨bk_L_opensAt_0, (List.forall_mem_cons.mpr ⟨bk_L_opensAt_7, (List.forall_mem_cons.mpr ⟨bk_L_opensAt_12, (List.forall_mem_cons.mpr ⟨bk_L_opensAt_15, (List.forall_mem_cons.mpr ⟨bk_L_opensAt_18, (fun _ h => absurd h List.not_mem_nil)⟩)⟩)⟩)⟩)⟩)
abbrev mt_L_fate : xm_hT := (yL_fate, cL_fate, 4, [(0, 9, 12, 19)])
theorem ho_L_fate : xm_ho mt_L_fate 3 := ⟨by decide +kernel, rfl, by decide, ⟨by decide +kernel, by decide +kernel, by decide +kernel⟩, (wq_at wl_1_ok 29 rfl), (wq_at wl_0_ok 0 rfl), (wq_at wl_2_ok 0 rfl)⟩
def kL_fate_0 : List xm_I := [(.aload 0, 2, 0, 0, 0), (.sipush 0, 0, 0, 0, 0), (.aload 0, 0, 0, 0, 0), (.iload 0, 1, 0, 0, 0)]
theorem bk_L_fate_0 : xm_okb cL_fate 8 4 0 false 4 0 kL_fate_0 = true := by decide +kernel
def kL_fate_7 : List xm_I := [(.i2l, 0, 0, 0, 0), (.lastore, 0, 0, 0, 0), (.goto 0, 15, 0, 0, 0)]
theorem bk_L_fate_7 : xm_okb cL_fate 8 4 0 false 12 7 kL_fate_7 = true := by decide +kernel
def kL_fate_12 : List xm_I := [(.astore 0, 3, 0, 0, 0), (.sipush 0, 0, 0, 0, 1), (.ireturn, 0, 0, 0, 0)]
theorem bk_L_fate_12 : xm_okb cL_fate 8 4 0 false 15 12 kL_fate_12 = true := by decide +kernel
def kL_fate_15 : List xm_I := [(.sipush 0, 0, 0, 0, 0), (.ireturn, 0, 0, 0, 0)]
theorem bk_L_fate_15 : xm_okb cL_fate 8 4 0 false 17 15 kL_fate_15 = true := by decide +kernel
def kb_L_fate : List (Nat × Nat × List xm_I) := [(0, 4, kL_fate_0), (7, 12, kL_fate_7), (12, 15, kL_fate_12), (15, 17, kL_fate_15)]
theorem lb_L_fate_0 : xm_lk kb_L_fate 0 = some (4, kL_fate_0) := rfl
theorem lb_L_fate_7 : xm_lk kb_L_fate 7 = some (12, kL_fate_7) := rfl
theorem lb_L_fate_12 : xm_lk kb_L_fate 12 = some (15, kL_fate_12) := rfl
theorem lb_L_fate_15 : xm_lk kb_L_fate 15 = some (17, kL_fate_15) := rfl
theorem lb_L_fate_4 : xm_lk kb_L_fate 4 = none := rfl
theorem lb_L_fate_17 : xm_lk kb_L_fate 17 = none := rfl
theorem kc_L_fate : xm_oks cL_fate 8 4 0 false kb_L_fate := (List.forall_mem_cons.mpr ⟨bk_L_fate_0, (List.forall_mem_cons.mpr ⟨bk_L_fate_7, (List.forall_mem_cons.mpr ⟨bk_L_fate_12, (List.forall_mem_cons.mpr ⟨bk_L_fate_15, (fun _ h => absurd h List.not_mem_nil)⟩)⟩)⟩)⟩)
abbrev mt_L_spacing : xm_hT := (yL_spacing, cL_spacing, 4, [(0, 9, 12, 25)])
theorem ho_L_spacing : xm_ho mt_L_spacing 3 := ⟨by decide +kernel, rfl, by decide, ⟨by decide +kernel, by decide +kernel, by decide +kernel⟩, (wq_at wl_2_ok 1 rfl), (wq_at wl_0_ok 0 rfl), (wq_at wl_2_ok 2 rfl)⟩
def kL_spacing_0 : List xm_I := [(.aload 0, 2, 0, 0, 0), (.sipush 0, 0, 0, 0, 0), (.aload 0, 0, 0, 0, 0), (.iload 0, 1, 0, 0, 0)]
theorem bk_L_spacing_0 : xm_okb cL_spacing 8 4 0 false 4 0 kL_spacing_0 = true := by decide +kernel
def kL_spacing_7 : List xm_I := [(.i2l, 0, 0, 0, 0), (.lastore, 0, 0, 0, 0), (.goto 0, 15, 0, 0, 0)]
theorem bk_L_spacing_7 : xm_okb cL_spacing 8 4 0 false 12 7 kL_spacing_7 = true := by decide +kernel
def kL_spacing_12 : List xm_I := [(.astore 0, 3, 0, 0, 0), (.sipush 0, 0, 0, 0, 1), (.ireturn, 0, 0, 0, 0)]
theorem bk_L_spacing_12 : xm_okb cL_spacing 8 4 0 false 15 12 kL_spacing_12 = true := by decide +kernel
def kL_spacing_15 : List xm_I := [(.sipush 0, 0, 0, 0, 0), (.ireturn, 0, 0, 0, 0)]
theorem bk_L_spacing_15 : xm_okb cL_spacing 8 4 0 false 17 15 kL_spacing_15 = true := by decide +kernel
def kb_L_spacing : List (Nat × Nat × List xm_I) := [(0, 4, kL_spacing_0), (7, 12, kL_spacing_7), (12, 15, kL_spacing_12), (15, 17, kL_spacing_15)]
theorem lb_L_spacing_0 : xm_lk kb_L_spacing 0 = some (4, kL_spacing_0) := rfl
theorem lb_L_spacing_7 : xm_lk kb_L_spacing 7 = some (12, kL_spacing_7) := rfl
theorem lb_L_spacing_12 : xm_lk kb_L_spacing 12 = some (15, kL_spacing_12) := rfl
theorem lb_L_spacing_15 : xm_lk kb_L_spacing 15 = some (17, kL_spacing_15) := rfl
theorem lb_L_spacing_4 : xm_lk kb_L_spacing 4 = none := rfl
theorem lb_L_spacing_17 : xm_lk kb_L_spacing 17 = none := rfl
theorem kc_L_spacing : xm_oks cL_spacing 8 4 0 false kb_L_spacing := (List.forall_mem_cons.mpr ⟨bk_L_spacing_0, (List.forall_mem_cons.mpr ⟨bk_L_spacing_7, (List.forall_mem_cons.mpr ⟨bk_L_spacing_12, (List.forall_mem_cons.mpr ⟨bk_L_spacing_15, (fun _ h => absurd h List.not_mem_nil)⟩)⟩)⟩)⟩)

/-! CODE of CheckWeigher$Setup: what is fixed of its methods, and their blocks, by program -/
abbrev mt_X4_init : xm_T4 := (yX4_init, cX4_init, 1, none)
theorem mo_X4_init : xm_mo mt_X4_init 4 0 3 true false := ⟨by decide +kernel, rfl, (fun _ => rfl), rfl, by decide, ⟨by decide +kernel, by decide +kernel, by decide +kernel⟩, (wq_at mw_4_0 0 rfl), (wq_at mw_4_0 35 rfl), (fun h => by cases h), (fun _ => (wq_at mw_4_0 1 rfl)), (fun h => by cases h.2)⟩
def kX4_init_0 : List xm_I := [(.aload 0, 0, 0, 0, 0)]
theorem bk_X4_init_0 : xm_okb cX4_init 4 1 3 true 1 0 kX4_init_0 = true := by decide +kernel
def kX4_init_4 : List xm_I := [(.aload 0, 0, 0, 0, 0)]
theorem bk_X4_init_4 : xm_okb cX4_init 4 1 3 true 5 4 kX4_init_4 = true := by decide +kernel
def kX4_init_8 : List xm_I := [(.dup, 0, 0, 0, 0)]
theorem bk_X4_init_8 : xm_okb cX4_init 4 1 3 true 9 8 kX4_init_8 = true := by decide +kernel
def kX4_init_12 : List xm_I := [(.putfield 0, 4, 4, 2, 0), (.aload 0, 0, 0, 0, 0), (.sipush 0, 0, 0, 0, 3)]
theorem bk_X4_init_12 : xm_okb cX4_init 4 1 3 true 17 12 kX4_init_12 = true := by decide +kernel
def kX4_init_19 : List xm_I := [(.putfield 0, 4, 6, 2, 0), (.aload 0, 0, 0, 0, 0), (.sipush 0, 0, 0, 0, 3)]
theorem bk_X4_init_19 : xm_okb cX4_init 4 1 3 true 24 19 kX4_init_19 = true := by decide +kernel
def kX4_init_26 : List xm_I := [(.putfield 0, 4, 7, 2, 0), (.aload 0, 0, 0, 0, 0), (.sipush 0, 0, 0, 0, 3)]
theorem bk_X4_init_26 : xm_okb cX4_init 4 1 3 true 31 26 kX4_init_26 = true := by decide +kernel
def kX4_init_33 : List xm_I := [(.putfield 0, 4, 8, 2, 0), (.aload 0, 0, 0, 0, 0)]
theorem bk_X4_init_33 : xm_okb cX4_init 4 1 3 true 37 33 kX4_init_33 = true := by decide +kernel
def kX4_init_40 : List xm_I := [(.return_, 0, 0, 0, 0)]
theorem bk_X4_init_40 : xm_okb cX4_init 4 1 3 true 41 40 kX4_init_40 = true := by decide +kernel
abbrev mt_X4_reset : xm_T4 := (yX4_reset, cX4_reset, 1, none)
theorem mo_X4_reset : xm_mo mt_X4_reset 4 0 3 false false := ⟨by decide +kernel, rfl, (fun h => by cases h), rfl, by decide, ⟨by decide +kernel, by decide +kernel, by decide +kernel⟩, (wq_at mw_4_0 2 rfl), (wq_at mw_4_0 35 rfl), (fun h => by cases h), (fun _ => (wq_at mw_4_0 3 rfl)), (fun _ => (wq_at mw_4_0 4 rfl))⟩
def kX4_reset_0 : List xm_I := [(.aload 0, 0, 0, 0, 0), (.sipush 0, 0, 0, 0, 10), (.putfield 0, 4, 0, 0, 0), (.aload 0, 0, 0, 0, 0), (.sipush 0, 0, 0, 0, 100), (.putfield 0, 4, 1, 0, 0), (.aload 0, 0, 0, 0, 0), (.sipush 0, 0, 0, 0, 200)]
theorem bk_X4_reset_0 : xm_okb cX4_reset 4 1 3 false 16 0 kX4_reset_0 = true := by decide +kernel
def kX4_reset_16 : List xm_I := [(.putfield 0, 4, 2, 0, 0), (.aload 0, 0, 0, 0, 0), (.sipush 0, 0, 0, 0, 300), (.putfield 0, 4, 3, 0, 0), (.aload 0, 0, 0, 0, 0), (.getfield 0, 4, 4, 2, 0), (.sipush 0, 0, 0, 0, 0), (.putfield 0, 5, 0, 0, 0)]
theorem bk_X4_reset_16 : xm_okb cX4_reset 4 1 3 false 34 16 kX4_reset_16 = true := by decide +kernel
def kX4_reset_34 : List xm_I := [(.aload 0, 0, 0, 0, 0), (.sipush 0, 0, 0, 0, 0), (.putfield 0, 4, 5, 0, 0), (.aload 0, 0, 0, 0, 0), (.sipush 0, 0, 0, 0, 0), (.putfield 0, 4, 9, 0, 0), (.aload 0, 0, 0, 0, 0), (.sipush 0, 0, 0, 0, 9999)]
theorem bk_X4_reset_34 : xm_okb cX4_reset 4 1 3 false 48 34 kX4_reset_34 = true := by decide +kernel
def kX4_reset_48 : List xm_I := [(.putfield 0, 4, 10, 0, 0), (.aload 0, 0, 0, 0, 0), (.sipush 0, 0, 0, 0, 20), (.putfield 0, 4, 11, 0, 0), (.aload 0, 0, 0, 0, 0), (.sipush 0, 0, 0, 0, 0), (.putfield 0, 4, 12, 1, 0), (.aload 0, 0, 0, 0, 0)]
theorem bk_X4_reset_48 : xm_okb cX4_reset 4 1 3 false 63 48 kX4_reset_48 = true := by decide +kernel
def kX4_reset_63 : List xm_I := [(.sipush 0, 0, 0, 0, 9999), (.putfield 0, 4, 13, 0, 0), (.aload 0, 0, 0, 0, 0), (.sipush 0, 0, 0, 0, 1), (.putfield 0, 4, 14, 0, 0), (.aload 0, 0, 0, 0, 0), (.sipush 0, 0, 0, 0, 0), (.putfield 0, 4, 15, 0, 0)]
theorem bk_X4_reset_63 : xm_okb cX4_reset 4 1 3 false 79 63 kX4_reset_63 = true := by decide +kernel
def kX4_reset_79 : List xm_I := [(.aload 0, 0, 0, 0, 0), (.sipush 0, 0, 0, 0, 1), (.putfield 0, 4, 16, 0, 0), (.aload 0, 0, 0, 0, 0), (.sipush 0, 0, 0, 0, 0), (.putfield 0, 4, 17, 0, 0), (.aload 0, 0, 0, 0, 0), (.sipush 0, 0, 0, 0, 5)]
theorem bk_X4_reset_79 : xm_okb cX4_reset 4 1 3 false 91 79 kX4_reset_79 = true := by decide +kernel
def kX4_reset_91 : List xm_I := [(.putfield 0, 4, 18, 0, 0), (.return_, 0, 0, 0, 0)]
theorem bk_X4_reset_91 : xm_okb cX4_reset 4 1 3 false 95 91 kX4_reset_91 = true := by decide +kernel
abbrev mt_X4_hasGate : xm_T4 := (yX4_hasGate, cX4_hasGate, 2, (some .boolean))
theorem mo_X4_hasGate : xm_mo mt_X4_hasGate 4 1 1 false false := ⟨by decide +kernel, rfl, (fun h => by cases h), rfl, by decide, ⟨by decide +kernel, by decide +kernel, by decide +kernel⟩, (wq_at mw_4_0 5 rfl), (wq_at mw_4_0 35 rfl), (fun h => by cases h), (fun _ => (wq_at mw_4_0 6 rfl)), (fun _ => (wq_at mw_4_0 7 rfl))⟩
def kX4_hasGate_0 : List xm_I := [(.iload 0, 1, 0, 0, 0), (.ifCond .lt 0, 16, 0, 0, 0), (.iload 0, 1, 0, 0, 0), (.aload 0, 0, 0, 0, 0), (.getfield 0, 4, 5, 0, 0), (.if_icmp .ge 0, 16, 0, 0, 0), (.sipush 0, 0, 0, 0, 1), (.goto 0, 17, 0, 0, 0)]
theorem bk_X4_hasGate_0 : xm_okb cX4_hasGate 4 2 1 false 16 0 kX4_hasGate_0 = true := by decide +kernel
def kX4_hasGate_16 : List xm_I := [(.sipush 0, 0, 0, 0, 0)]
theorem bk_X4_hasGate_16 : xm_okb cX4_hasGate 4 2 1 false 17 16 kX4_hasGate_16 = true := by decide +kernel
def kX4_hasGate_17 : List xm_I := [(.ireturn, 1, 0, 0, 0)]
theorem bk_X4_hasGate_17 : xm_okb cX4_hasGate 4 2 1 false 18 17 kX4_hasGate_17 = true := by decide +kernel
abbrev mt_X4_addGate : xm_T4 := (yX4_addGate, cX4_addGate, 4, none)
theorem mo_X4_addGate : xm_mo mt_X4_addGate 4 3 3 false false := ⟨by decide +kernel, rfl, (fun h => by cases h), rfl, by decide, ⟨by decide +kernel, by decide +kernel, by decide +kernel⟩, (wq_at mw_4_0 8 rfl), (wq_at mw_4_0 35 rfl), (fun h => by cases h), (fun _ => (wq_at mw_4_0 9 rfl)), (fun _ => (wq_at mw_4_0 10 rfl))⟩
def kX4_addGate_0 : List xm_I := [(.aload 0, 0, 0, 0, 0), (.getfield 0, 4, 5, 0, 0), (.sipush 0, 0, 0, 0, 3), (.if_icmp .lt 0, 9, 0, 0, 0), (.return_, 0, 0, 0, 0)]
theorem bk_X4_addGate_0 : xm_okb cX4_addGate 4 4 3 false 9 0 kX4_addGate_0 = true := by decide +kernel
def kX4_addGate_9 : List xm_I := [(.aload 0, 0, 0, 0, 0), (.getfield 0, 4, 6, 2, 0), (.aload 0, 0, 0, 0, 0), (.getfield 0, 4, 5, 0, 0), (.iload 0, 1, 0, 0, 0), (.iastore, 0, 0, 0, 0), (.aload 0, 0, 0, 0, 0), (.getfield 0, 4, 7, 2, 0)]
theorem bk_X4_addGate_9 : xm_okb cX4_addGate 4 4 3 false 23 9 kX4_addGate_9 = true := by decide +kernel
def kX4_addGate_23 : List xm_I := [(.aload 0, 0, 0, 0, 0), (.getfield 0, 4, 5, 0, 0), (.iload 0, 2, 0, 0, 0), (.iastore, 0, 0, 0, 0), (.aload 0, 0, 0, 0, 0), (.getfield 0, 4, 8, 2, 0), (.aload 0, 0, 0, 0, 0), (.getfield 0, 4, 5, 0, 0)]
theorem bk_X4_addGate_23 : xm_okb cX4_addGate 4 4 3 false 37 23 kX4_addGate_23 = true := by decide +kernel
def kX4_addGate_37 : List xm_I := [(.iload 0, 3, 0, 0, 0), (.iastore, 0, 0, 0, 0), (.aload 0, 0, 0, 0, 0), (.dup, 0, 0, 0, 0), (.getfield 0, 4, 5, 0, 0), (.sipush 0, 0, 0, 0, 1), (.iadd, 0, 0, 0, 0), (.putfield 0, 4, 5, 0, 0)]
theorem bk_X4_addGate_37 : xm_okb cX4_addGate 4 4 3 false 49 37 kX4_addGate_37 = true := by decide +kernel
def kX4_addGate_49 : List xm_I := [(.return_, 0, 0, 0, 0)]
theorem bk_X4_addGate_49 : xm_okb cX4_addGate 4 4 3 false 50 49 kX4_addGate_49 = true := by decide +kernel
abbrev mt_X4_gateFor : xm_T4 := (yX4_gateFor, cX4_gateFor, 3, (some .int))
theorem mo_X4_gateFor : xm_mo mt_X4_gateFor 4 1 0 false false := ⟨by decide +kernel, rfl, (fun h => by cases h), rfl, by decide, ⟨by decide +kernel, by decide +kernel, by decide +kernel⟩, (wq_at mw_4_0 11 rfl), (wq_at mw_4_0 35 rfl), (fun h => by cases h), (fun _ => (wq_at mw_4_0 12 rfl)), (fun _ => (wq_at mw_4_0 13 rfl))⟩
def kX4_gateFor_0 : List xm_I := [(.sipush 0, 0, 0, 0, 0), (.istore 0, 2, 0, 0, 0)]
theorem bk_X4_gateFor_0 : xm_okb cX4_gateFor 4 3 0 false 2 0 kX4_gateFor_0 = true := by decide +kernel
def kX4_gateFor_2 : List xm_I := [(.iload 0, 2, 0, 0, 0), (.aload 0, 0, 0, 0, 0), (.getfield 0, 4, 5, 0, 0), (.if_icmp .ge 0, 28, 0, 0, 0), (.aload 0, 0, 0, 0, 0), (.getfield 0, 4, 6, 2, 0), (.iload 0, 2, 0, 0, 0), (.iaload, 0, 0, 0, 0)]
theorem bk_X4_gateFor_2 : xm_okb cX4_gateFor 4 3 0 false 16 2 kX4_gateFor_2 = true := by decide +kernel
def kX4_gateFor_22 : List xm_I := [(.iinc 0 0, 2, 0, 0, 1), (.goto 0, 2, 0, 0, 0)]
theorem bk_X4_gateFor_22 : xm_okb cX4_gateFor 4 3 0 false 28 22 kX4_gateFor_22 = true := by decide +kernel
def kX4_gateFor_28 : List xm_I := [(.sipush 0, 0, 0, 0, (-1)), (.ireturn, 0, 0, 0, 0)]
theorem bk_X4_gateFor_28 : xm_okb cX4_gateFor 4 3 0 false 30 28 kX4_gateFor_28 = true := by decide +kernel
def kX4_gateFor_16 : List xm_I := [(.iload 0, 1, 0, 0, 0), (.if_icmp .ne 0, 22, 0, 0, 0), (.iload 0, 2, 0, 0, 0), (.ireturn, 0, 0, 0, 0)]
theorem bk_X4_gateFor_16 : xm_okb cX4_gateFor 4 3 0 false 22 16 kX4_gateFor_16 = true := by decide +kernel
abbrev mt_X4_lastPosition : xm_T4 := (yX4_lastPosition, cX4_lastPosition, 1, (some .int))
theorem mo_X4_lastPosition : xm_mo mt_X4_lastPosition 4 0 0 false false := ⟨by decide +kernel, rfl, (fun h => by cases h), rfl, by decide, ⟨by decide +kernel, by decide +kernel, by decide +kernel⟩, (wq_at mw_4_0 14 rfl), (wq_at mw_4_0 35 rfl), (fun h => by cases h), (fun _ => (wq_at mw_4_0 15 rfl)), (fun _ => (wq_at mw_4_0 16 rfl))⟩
def kX4_lastPosition_0 : List xm_I := [(.aload 0, 0, 0, 0, 0), (.getfield 0, 4, 5, 0, 0), (.ifCond .ne 0, 14, 0, 0, 0), (.aload 0, 0, 0, 0, 0), (.getfield 0, 4, 2, 0, 0), (.goto 0, 25, 0, 0, 0)]
theorem bk_X4_lastPosition_0 : xm_okb cX4_lastPosition 4 1 0 false 14 0 kX4_lastPosition_0 = true := by decide +kernel
def kX4_lastPosition_14 : List xm_I := [(.aload 0, 0, 0, 0, 0), (.getfield 0, 4, 7, 2, 0), (.aload 0, 0, 0, 0, 0), (.getfield 0, 4, 5, 0, 0), (.sipush 0, 0, 0, 0, 1), (.isub, 0, 0, 0, 0), (.iaload, 0, 0, 0, 0)]
theorem bk_X4_lastPosition_14 : xm_okb cX4_lastPosition 4 1 0 false 25 14 kX4_lastPosition_14 = true := by decide +kernel
def kX4_lastPosition_25 : List xm_I := [(.ireturn, 0, 0, 0, 0)]
theorem bk_X4_lastPosition_25 : xm_okb cX4_lastPosition 4 1 0 false 26 25 kX4_lastPosition_25 = true := by decide +kernel
abbrev mt_X4_windowInUse : xm_T4 := (yX4_windowInUse, cX4_windowInUse, 2, (some .int))
theorem mo_X4_windowInUse : xm_mo mt_X4_windowInUse 4 0 0 false false := ⟨by decide +kernel, rfl, (fun h => by cases h), rfl, by decide, ⟨by decide +kernel, by decide +kernel, by decide +kernel⟩, (wq_at mw_4_0 17 rfl), (wq_at mw_4_0 35 rfl), (fun h => by cases h), (fun _ => (wq_at mw_4_0 18 rfl)), (fun _ => (wq_at mw_4_0 19 rfl))⟩
def kX4_windowInUse_0 : List xm_I := [(.aload 0, 0, 0, 0, 0), (.getfield 0, 4, 12, 1, 0), (.ifCond .eq 0, 36, 0, 0, 0), (.aload 0, 0, 0, 0, 0), (.getfield 0, 4, 11, 0, 0), (.istore 0, 1, 0, 0, 0)]
theorem bk_X4_windowInUse_0 : xm_okb cX4_windowInUse 4 2 0 false 12 0 kX4_windowInUse_0 = true := by decide +kernel
def kX4_windowInUse_12 : List xm_I := [(.iload 0, 1, 0, 0, 0), (.sipush 0, 0, 0, 0, 1), (.if_icmp .lt 0, 36, 0, 0, 0), (.aload 0, 0, 0, 0, 0), (.getfield 0, 4, 4, 2, 0), (.iload 0, 1, 0, 0, 0)]
theorem bk_X4_windowInUse_12 : xm_okb cX4_windowInUse 4 2 0 false 22 12 kX4_windowInUse_12 = true := by decide +kernel
def kX4_windowInUse_25 : List xm_I := [(.ifCond .eq 0, 30, 0, 0, 0), (.iload 0, 1, 0, 0, 0), (.ireturn, 0, 0, 0, 0)]
theorem bk_X4_windowInUse_25 : xm_okb cX4_windowInUse 4 2 0 false 30 25 kX4_windowInUse_25 = true := by decide +kernel
def kX4_windowInUse_30 : List xm_I := [(.iinc 0 0, 1, 0, 0, (-1)), (.goto 0, 12, 0, 0, 0)]
theorem bk_X4_windowInUse_30 : xm_okb cX4_windowInUse 4 2 0 false 36 30 kX4_windowInUse_30 = true := by decide +kernel
def kX4_windowInUse_36 : List xm_I := [(.aload 0, 0, 0, 0, 0), (.getfield 0, 4, 11, 0, 0), (.ireturn, 0, 0, 0, 0)]
theorem bk_X4_windowInUse_36 : xm_okb cX4_windowInUse 4 2 0 false 41 36 kX4_windowInUse_36 = true := by decide +kernel
abbrev mt_X4_loadCellAlone : xm_T4 := (yX4_loadCellAlone, cX4_loadCellAlone, 2, (some .int))
theorem mo_X4_loadCellAlone : xm_mo mt_X4_loadCellAlone 4 1 0 false false := ⟨by decide +kernel, rfl, (fun h => by cases h), rfl, by decide, ⟨by decide +kernel, by decide +kernel, by decide +kernel⟩, (wq_at mw_4_0 20 rfl), (wq_at mw_4_0 35 rfl), (fun h => by cases h), (fun _ => (wq_at mw_4_0 21 rfl)), (fun _ => (wq_at mw_4_0 22 rfl))⟩
def kX4_loadCellAlone_0 : List xm_I := [(.aload 0, 0, 0, 0, 0), (.getfield 0, 4, 15, 0, 0), (.iload 0, 1, 0, 0, 0), (.imul, 0, 0, 0, 0), (.aload 0, 0, 0, 0, 0), (.getfield 0, 4, 16, 0, 0)]
theorem bk_X4_loadCellAlone_0 : xm_okb cX4_loadCellAlone 4 2 0 false 10 0 kX4_loadCellAlone_0 = true := by decide +kernel
def kX4_loadCellAlone_13 : List xm_I := [(.aload 0, 0, 0, 0, 0), (.getfield 0, 4, 4, 2, 0), (.iload 0, 1, 0, 0, 0)]
theorem bk_X4_loadCellAlone_13 : xm_okb cX4_loadCellAlone 4 2 0 false 18 13 kX4_loadCellAlone_13 = true := by decide +kernel
def kX4_loadCellAlone_21 : List xm_I := [(.iadd, 0, 0, 0, 0), (.ireturn, 0, 0, 0, 0)]
theorem bk_X4_loadCellAlone_21 : xm_okb cX4_loadCellAlone 4 2 0 false 23 21 kX4_loadCellAlone_21 = true := by decide +kernel
abbrev mt_X4_lengthOnTable : xm_T4 := (yX4_lengthOnTable, cX4_lengthOnTable, 3, (some .int))
theorem mo_X4_lengthOnTable : xm_mo mt_X4_lengthOnTable 4 2 0 false false := ⟨by decide +kernel, rfl, (fun h => by cases h), rfl, by decide, ⟨by decide +kernel, by decide +kernel, by decide +kernel⟩, (wq_at mw_4_0 23 rfl), (wq_at mw_4_0 35 rfl), (fun h => by cases h), (fun _ => (wq_at mw_4_0 24 rfl)), (fun _ => (wq_at mw_4_0 25 rfl))⟩
def kX4_lengthOnTable_0 : List xm_I := [(.iload 0, 1, 0, 0, 0), (.aload 0, 0, 0, 0, 0), (.getfield 0, 4, 2, 0, 0)]
theorem bk_X4_lengthOnTable_0 : xm_okb cX4_lengthOnTable 4 3 0 false 5 0 kX4_lengthOnTable_0 = true := by decide +kernel
def kX4_lengthOnTable_8 : List xm_I := [(.iload 0, 1, 0, 0, 0), (.iload 0, 2, 0, 0, 0), (.isub, 0, 0, 0, 0), (.aload 0, 0, 0, 0, 0), (.getfield 0, 4, 1, 0, 0)]
theorem bk_X4_lengthOnTable_8 : xm_okb cX4_lengthOnTable 4 3 0 false 15 8 kX4_lengthOnTable_8 = true := by decide +kernel
def kX4_lengthOnTable_18 : List xm_I := [(.isub, 0, 0, 0, 0), (.ireturn, 0, 0, 0, 0)]
theorem bk_X4_lengthOnTable_18 : xm_okb cX4_lengthOnTable 4 3 0 false 20 18 kX4_lengthOnTable_18 = true := by decide +kernel
abbrev mt_X4_isInPart : xm_T4 := (yX4_isInPart, cX4_isInPart, 3, (some .boolean))
theorem mo_X4_isInPart : xm_mo mt_X4_isInPart 4 2 1 false false := ⟨by decide +kernel, rfl, (fun h => by cases h), rfl, by decide, ⟨by decide +kernel, by decide +kernel, by decide +kernel⟩, (wq_at mw_4_0 26 rfl), (wq_at mw_4_0 35 rfl), (fun h => by cases h), (fun _ => (wq_at mw_4_0 27 rfl)), (fun _ => (wq_at mw_4_0 28 rfl))⟩
def kX4_isInPart_0 : List xm_I := [(.iload 0, 1, 0, 0, 0), (.aload 0, 0, 0, 0, 0), (.getfield 0, 4, 1, 0, 0), (.if_icmp .le 0, 22, 0, 0, 0), (.iload 0, 1, 0, 0, 0), (.iload 0, 2, 0, 0, 0), (.isub, 0, 0, 0, 0), (.aload 0, 0, 0, 0, 0)]
theorem bk_X4_isInPart_0 : xm_okb cX4_isInPart 4 3 1 false 12 0 kX4_isInPart_0 = true := by decide +kernel
def kX4_isInPart_22 : List xm_I := [(.sipush 0, 0, 0, 0, 0)]
theorem bk_X4_isInPart_22 : xm_okb cX4_isInPart 4 3 1 false 23 22 kX4_isInPart_22 = true := by decide +kernel
def kX4_isInPart_23 : List xm_I := [(.ireturn, 1, 0, 0, 0)]
theorem bk_X4_isInPart_23 : xm_okb cX4_isInPart 4 3 1 false 24 23 kX4_isInPart_23 = true := by decide +kernel
def kX4_isInPart_12 : List xm_I := [(.getfield 0, 4, 2, 0, 0), (.if_icmp .ge 0, 22, 0, 0, 0), (.sipush 0, 0, 0, 0, 1), (.goto 0, 23, 0, 0, 0)]
theorem bk_X4_isInPart_12 : xm_okb cX4_isInPart 4 3 1 false 22 12 kX4_isInPart_12 = true := by decide +kernel
abbrev mt_X4_isAsWhole : xm_T4 := (yX4_isAsWhole, cX4_isAsWhole, 3, (some .boolean))
theorem mo_X4_isAsWhole : xm_mo mt_X4_isAsWhole 4 2 1 false false := ⟨by decide +kernel, rfl, (fun h => by cases h), rfl, by decide, ⟨by decide +kernel, by decide +kernel, by decide +kernel⟩, (wq_at mw_4_0 29 rfl), (wq_at mw_4_0 35 rfl), (fun h => by cases h), (fun _ => (wq_at mw_4_0 30 rfl)), (fun _ => (wq_at mw_4_0 31 rfl))⟩
def kX4_isAsWhole_0 : List xm_I := [(.iload 0, 1, 0, 0, 0), (.iload 0, 2, 0, 0, 0), (.isub, 0, 0, 0, 0), (.aload 0, 0, 0, 0, 0), (.getfield 0, 4, 1, 0, 0), (.if_icmp .lt 0, 22, 0, 0, 0), (.iload 0, 1, 0, 0, 0), (.aload 0, 0, 0, 0, 0)]
theorem bk_X4_isAsWhole_0 : xm_okb cX4_isAsWhole 4 3 1 false 12 0 kX4_isAsWhole_0 = true := by decide +kernel
def kX4_isAsWhole_22 : List xm_I := [(.sipush 0, 0, 0, 0, 0)]
theorem bk_X4_isAsWhole_22 : xm_okb cX4_isAsWhole 4 3 1 false 23 22 kX4_isAsWhole_22 = true := by decide +kernel
def kX4_isAsWhole_23 : List xm_I := [(.ireturn, 1, 0, 0, 0)]
theorem bk_X4_isAsWhole_23 : xm_okb cX4_isAsWhole 4 3 1 false 24 23 kX4_isAsWhole_23 = true := by decide +kernel
def kX4_isAsWhole_12 : List xm_I := [(.getfield 0, 4, 2, 0, 0), (.if_icmp .gt 0, 22, 0, 0, 0), (.sipush 0, 0, 0, 0, 1), (.goto 0, 23, 0, 0, 0)]
theorem bk_X4_isAsWhole_12 : xm_okb cX4_isAsWhole 4 3 1 false 22 12 kX4_isAsWhole_12 = true := by decide +kernel
abbrev mt_X4_ticksFor : xm_T4 := (yX4_ticksFor, cX4_ticksFor, 2, (some .int))
theorem mo_X4_ticksFor : xm_mo mt_X4_ticksFor 4 1 0 false false := ⟨by decide +kernel, rfl, (fun h => by cases h), rfl, by decide, ⟨by decide +kernel, by decide +kernel, by decide +kernel⟩, (wq_at mw_4_0 32 rfl), (wq_at mw_4_0 35 rfl), (fun h => by cases h), (fun _ => (wq_at mw_4_0 33 rfl)), (fun _ => (wq_at mw_4_0 34 rfl))⟩
def kX4_ticksFor_0 : List xm_I := [(.iload 0, 1, 0, 0, 0), (.aload 0, 0, 0, 0, 0), (.getfield 0, 4, 0, 0, 0)]
theorem bk_X4_ticksFor_0 : xm_okb cX4_ticksFor 4 2 0 false 5 0 kX4_ticksFor_0 = true := by decide +kernel
def kX4_ticksFor_8 : List xm_I := [(.ireturn, 0, 0, 0, 0)]
theorem bk_X4_ticksFor_8 : xm_okb cX4_ticksFor 4 2 0 false 9 8 kX4_ticksFor_8 = true := by decide +kernel

/-! CODE of CheckWeigher$Line: what is fixed of its methods, and their blocks, by program -/
abbrev mt_X1_init : xm_T4 := (yX1_init, cX1_init, 3, none)
theorem mo_X1_init : xm_mo mt_X1_init 1 1 3 true false := ⟨by decide +kernel, rfl, (fun _ => rfl), rfl, by decide, ⟨by decide +kernel, by decide +kernel, by decide +kernel⟩, (wq_at mw_1_0 0 rfl), (wq_at mw_1_2 3 rfl), (fun h => by cases h), (fun _ => (wq_at mw_1_0 1 rfl)), (fun h => by cases h.2)⟩
def kX1_init_0 : List xm_I := [(.aload 0, 0, 0, 0, 0)]
theorem bk_X1_init_0 : xm_okb cX1_init 1 3 3 true 1 0 kX1_init_0 = true := by decide +kernel
def kX1_init_4 : List xm_I := [(.aload 0, 0, 0, 0, 0), (.sipush 0, 0, 0, 0, 3)]
theorem bk_X1_init_4 : xm_okb cX1_init 1 3 3 true 6 4 kX1_init_4 = true := by decide +kernel
def kX1_init_8 : List xm_I := [(.putfield 0, 1, 8, 2, 0), (.aload 0, 0, 0, 0, 0), (.sipush 0, 0, 0, 0, 3)]
theorem bk_X1_init_8 : xm_okb cX1_init 1 3 3 true 13 8 kX1_init_8 = true := by decide +kernel
def kX1_init_15 : List xm_I := [(.putfield 0, 1, 9, 2, 0), (.aload 0, 0, 0, 0, 0), (.sipush 0, 0, 0, 0, 3)]
theorem bk_X1_init_15 : xm_okb cX1_init 1 3 3 true 20 15 kX1_init_15 = true := by decide +kernel
def kX1_init_22 : List xm_I := [(.putfield 0, 1, 10, 2, 0), (.aload 0, 0, 0, 0, 0), (.sipush 0, 0, 0, 0, 3)]
theorem bk_X1_init_22 : xm_okb cX1_init 1 3 3 true 27 22 kX1_init_22 = true := by decide +kernel
def kX1_init_29 : List xm_I := [(.putfield 0, 1, 11, 2, 0), (.aload 0, 0, 0, 0, 0), (.sipush 0, 0, 0, 0, 3)]
theorem bk_X1_init_29 : xm_okb cX1_init 1 3 3 true 34 29 kX1_init_29 = true := by decide +kernel
def kX1_init_36 : List xm_I := [(.putfield 0, 1, 12, 2, 0), (.aload 0, 0, 0, 0, 0), (.sipush 0, 0, 0, 0, 60)]
theorem bk_X1_init_36 : xm_okb cX1_init 1 3 3 true 42 36 kX1_init_36 = true := by decide +kernel
def kX1_init_45 : List xm_I := [(.putfield 0, 1, 13, 2, 0), (.aload 0, 0, 0, 0, 0), (.sipush 0, 0, 0, 0, 60)]
theorem bk_X1_init_45 : xm_okb cX1_init 1 3 3 true 51 45 kX1_init_45 = true := by decide +kernel
def kX1_init_53 : List xm_I := [(.putfield 0, 1, 14, 2, 0), (.sipush 0, 0, 0, 0, 0), (.istore 0, 2, 0, 0, 0)]
theorem bk_X1_init_53 : xm_okb cX1_init 1 3 3 true 58 53 kX1_init_53 = true := by decide +kernel
def kX1_init_58 : List xm_I := [(.iload 0, 2, 0, 0, 0), (.aload 0, 0, 0, 0, 0), (.getfield 0, 1, 13, 2, 0), (.arraylength, 0, 0, 0, 0), (.if_icmp .ge 0, 86, 0, 0, 0), (.aload 0, 0, 0, 0, 0), (.getfield 0, 1, 13, 2, 0), (.iload 0, 2, 0, 0, 0)]
theorem bk_X1_init_58 : xm_okb cX1_init 1 3 3 true 72 58 kX1_init_58 = true := by decide +kernel
def kX1_init_75 : List xm_I := [(.dup, 0, 0, 0, 0)]
theorem bk_X1_init_75 : xm_okb cX1_init 1 3 3 true 76 75 kX1_init_75 = true := by decide +kernel
def kX1_init_80 : List xm_I := [(.iinc 0 0, 2, 0, 0, 1), (.goto 0, 58, 0, 0, 0)]
theorem bk_X1_init_80 : xm_okb cX1_init 1 3 3 true 86 80 kX1_init_80 = true := by decide +kernel
def kX1_init_86 : List xm_I := [(.aload 0, 0, 0, 0, 0), (.aload 0, 1, 0, 0, 0)]
theorem bk_X1_init_86 : xm_okb cX1_init 1 3 3 true 88 86 kX1_init_86 = true := by decide +kernel
def kX1_init_91 : List xm_I := [(.return_, 0, 0, 0, 0)]
theorem bk_X1_init_91 : xm_okb cX1_init 1 3 3 true 92 91 kX1_init_91 = true := by decide +kernel
abbrev mt_X1_begin : xm_T4 := (yX1_begin, cX1_begin, 3, none)
theorem mo_X1_begin : xm_mo mt_X1_begin 1 1 3 false false := ⟨by decide +kernel, rfl, (fun h => by cases h), rfl, by decide, ⟨by decide +kernel, by decide +kernel, by decide +kernel⟩, (wq_at mw_1_0 2 rfl), (wq_at mw_1_2 3 rfl), (fun h => by cases h), (fun _ => (wq_at mw_1_0 3 rfl)), (fun _ => (wq_at mw_1_0 4 rfl))⟩
def kX1_begin_0 : List xm_I := [(.aload 0, 0, 0, 0, 0), (.aload 0, 1, 0, 0, 0), (.putfield 0, 1, 0, 2, 0), (.aload 0, 0, 0, 0, 0), (.sipush 0, 0, 0, 0, 0), (.putfield 0, 1, 1, 0, 0), (.aload 0, 0, 0, 0, 0), (.aload 0, 1, 0, 0, 0)]
theorem bk_X1_begin_0 : xm_okb cX1_begin 1 3 3 false 12 0 kX1_begin_0 = true := by decide +kernel
def kX1_begin_48 : List xm_I := [(.iload 0, 2, 0, 0, 0), (.sipush 0, 0, 0, 0, 3), (.if_icmp .ge 0, 94, 0, 0, 0), (.aload 0, 0, 0, 0, 0), (.getfield 0, 1, 8, 2, 0), (.iload 0, 2, 0, 0, 0), (.sipush 0, 0, 0, 0, 0), (.bastore, 0, 0, 0, 0)]
theorem bk_X1_begin_48 : xm_okb cX1_begin 1 3 3 false 60 48 kX1_begin_48 = true := by decide +kernel
def kX1_begin_94 : List xm_I := [(.aload 0, 0, 0, 0, 0), (.sipush 0, 0, 0, 0, 0), (.putfield 0, 1, 15, 0, 0), (.aload 0, 0, 0, 0, 0), (.sipush 0, 0, 0, 0, 0), (.putfield 0, 1, 16, 0, 0), (.aload 0, 0, 0, 0, 0), (.sipush 0, 0, 0, 0, 0)]
theorem bk_X1_begin_94 : xm_okb cX1_begin 1 3 3 false 106 94 kX1_begin_94 = true := by decide +kernel
def kX1_begin_12 : List xm_I := [(.getfield 0, 4, 9, 0, 0), (.putfield 0, 1, 2, 0, 0), (.aload 0, 0, 0, 0, 0), (.aload 0, 1, 0, 0, 0), (.getfield 0, 4, 10, 0, 0), (.putfield 0, 1, 3, 0, 0), (.aload 0, 0, 0, 0, 0), (.sipush 0, 0, 0, 0, 0)]
theorem bk_X1_begin_12 : xm_okb cX1_begin 1 3 3 false 28 12 kX1_begin_12 = true := by decide +kernel
def kX1_begin_60 : List xm_I := [(.aload 0, 0, 0, 0, 0), (.getfield 0, 1, 9, 2, 0), (.iload 0, 2, 0, 0, 0), (.sipush 0, 0, 0, 0, 0), (.bastore, 0, 0, 0, 0), (.aload 0, 0, 0, 0, 0), (.getfield 0, 1, 10, 2, 0), (.iload 0, 2, 0, 0, 0)]
theorem bk_X1_begin_60 : xm_okb cX1_begin 1 3 3 false 72 60 kX1_begin_60 = true := by decide +kernel
def kX1_begin_106 : List xm_I := [(.putfield 0, 1, 17, 0, 0), (.return_, 0, 0, 0, 0)]
theorem bk_X1_begin_106 : xm_okb cX1_begin 1 3 3 false 110 106 kX1_begin_106 = true := by decide +kernel
def kX1_begin_28 : List xm_I := [(.putfield 0, 1, 4, 0, 0), (.aload 0, 0, 0, 0, 0), (.sipush 0, 0, 0, 0, 0), (.putfield 0, 1, 5, 0, 0), (.aload 0, 0, 0, 0, 0), (.sipush 0, 0, 0, 0, 0), (.putfield 0, 1, 6, 0, 0), (.aload 0, 0, 0, 0, 0)]
theorem bk_X1_begin_28 : xm_okb cX1_begin 1 3 3 false 42 28 kX1_begin_28 = true := by decide +kernel
def kX1_begin_72 : List xm_I := [(.sipush 0, 0, 0, 0, 0), (.iastore, 0, 0, 0, 0), (.aload 0, 0, 0, 0, 0), (.getfield 0, 1, 11, 2, 0), (.iload 0, 2, 0, 0, 0), (.sipush 0, 0, 0, 0, 0), (.iastore, 0, 0, 0, 0), (.aload 0, 0, 0, 0, 0)]
theorem bk_X1_begin_72 : xm_okb cX1_begin 1 3 3 false 82 72 kX1_begin_72 = true := by decide +kernel
def kX1_begin_42 : List xm_I := [(.sipush 0, 0, 0, 0, 0), (.putfield 0, 1, 7, 0, 0), (.sipush 0, 0, 0, 0, 0), (.istore 0, 2, 0, 0, 0)]
theorem bk_X1_begin_42 : xm_okb cX1_begin 1 3 3 false 48 42 kX1_begin_42 = true := by decide +kernel
def kX1_begin_82 : List xm_I := [(.getfield 0, 1, 12, 2, 0), (.iload 0, 2, 0, 0, 0), (.sipush 0, 0, 0, 0, 0), (.iastore, 0, 0, 0, 0), (.iinc 0 0, 2, 0, 0, 1), (.goto 0, 48, 0, 0, 0)]
theorem bk_X1_begin_82 : xm_okb cX1_begin 1 3 3 false 94 82 kX1_begin_82 = true := by decide +kernel
abbrev mt_X1_find : xm_T4 := (yX1_find, cX1_find, 2, (some (.object "CheckWeigher$Item")))
theorem mo_X1_find : xm_mo mt_X1_find 1 1 2 false false := ⟨by decide +kernel, rfl, (fun h => by cases h), ⟨_, rfl⟩, by decide, ⟨by decide +kernel, by decide +kernel, by decide +kernel⟩, (wq_at mw_1_0 5 rfl), (wq_at mw_1_2 3 rfl), (fun h => by cases h), (fun _ => (wq_at mw_1_0 6 rfl)), (fun _ => (wq_at mw_1_0 7 rfl))⟩
def kX1_find_0 : List xm_I := [(.iload 0, 1, 0, 0, 0), (.ifCond .lt 0, 21, 0, 0, 0), (.iload 0, 1, 0, 0, 0), (.aload 0, 0, 0, 0, 0), (.getfield 0, 1, 7, 0, 0), (.if_icmp .ge 0, 21, 0, 0, 0), (.aload 0, 0, 0, 0, 0), (.getfield 0, 1, 13, 2, 0)]
theorem bk_X1_find_0 : xm_okb cX1_find 1 2 2 false 16 0 kX1_find_0 = true := by decide +kernel
def kX1_find_21 : List xm_I := [(.aconst_null, 0, 0, 0, 0)]
theorem bk_X1_find_21 : xm_okb cX1_find 1 2 2 false 22 21 kX1_find_21 = true := by decide +kernel
def kX1_find_22 : List xm_I := [(.ireturn, 2, 0, 0, 0)]
theorem bk_X1_find_22 : xm_okb cX1_find 1 2 2 false 23 22 kX1_find_22 = true := by decide +kernel
def kX1_find_16 : List xm_I := [(.iload 0, 1, 0, 0, 0), (.aaload, 0, 0, 0, 0), (.goto 0, 22, 0, 0, 0)]
theorem bk_X1_find_16 : xm_okb cX1_find 1 2 2 false 21 16 kX1_find_16 = true := by decide +kernel
abbrev mt_X1_hasRoom : xm_T4 := (yX1_hasRoom, cX1_hasRoom, 2, (some .boolean))
theorem mo_X1_hasRoom : xm_mo mt_X1_hasRoom 1 0 1 false false := ⟨by decide +kernel, rfl, (fun h => by cases h), rfl, by decide, ⟨by decide +kernel, by decide +kernel, by decide +kernel⟩, (wq_at mw_1_0 8 rfl), (wq_at mw_1_2 3 rfl), (fun h => by cases h), (fun _ => (wq_at mw_1_0 9 rfl)), (fun _ => (wq_at mw_1_0 10 rfl))⟩
def kX1_hasRoom_0 : List xm_I := [(.aload 0, 0, 0, 0, 0), (.getfield 0, 1, 7, 0, 0), (.sipush 0, 0, 0, 0, 60), (.if_icmp .lt 0, 11, 0, 0, 0), (.sipush 0, 0, 0, 0, 0), (.ireturn, 1, 0, 0, 0)]
theorem bk_X1_hasRoom_0 : xm_okb cX1_hasRoom 1 2 1 false 11 0 kX1_hasRoom_0 = true := by decide +kernel
def kX1_hasRoom_11 : List xm_I := [(.aload 0, 0, 0, 0, 0), (.aload 0, 0, 0, 0, 0), (.getfield 0, 1, 7, 0, 0), (.sipush 0, 0, 0, 0, 1), (.isub, 0, 0, 0, 0)]
theorem bk_X1_hasRoom_11 : xm_okb cX1_hasRoom 1 2 1 false 18 11 kX1_hasRoom_11 = true := by decide +kernel
def kX1_hasRoom_21 : List xm_I := [(.astore 0, 1, 0, 0, 0), (.aload 0, 1, 0, 0, 0), (.ifnull 0, 44, 0, 0, 0), (.aload 0, 1, 0, 0, 0)]
theorem bk_X1_hasRoom_21 : xm_okb cX1_hasRoom 1 2 1 false 27 21 kX1_hasRoom_21 = true := by decide +kernel
def kX1_hasRoom_30 : List xm_I := [(.ifCond .eq 0, 44, 0, 0, 0), (.aload 0, 1, 0, 0, 0), (.getfield 0, 0, 2, 0, 0), (.aload 0, 1, 0, 0, 0), (.getfield 0, 0, 1, 0, 0), (.if_icmp .lt 0, 48, 0, 0, 0)]
theorem bk_X1_hasRoom_30 : xm_okb cX1_hasRoom 1 2 1 false 44 30 kX1_hasRoom_30 = true := by decide +kernel
def kX1_hasRoom_44 : List xm_I := [(.sipush 0, 0, 0, 0, 1), (.goto 0, 49, 0, 0, 0)]
theorem bk_X1_hasRoom_44 : xm_okb cX1_hasRoom 1 2 1 false 48 44 kX1_hasRoom_44 = true := by decide +kernel
def kX1_hasRoom_48 : List xm_I := [(.sipush 0, 0, 0, 0, 0)]
theorem bk_X1_hasRoom_48 : xm_okb cX1_hasRoom 1 2 1 false 49 48 kX1_hasRoom_48 = true := by decide +kernel
def kX1_hasRoom_49 : List xm_I := [(.ireturn, 1, 0, 0, 0)]
theorem bk_X1_hasRoom_49 : xm_okb cX1_hasRoom 1 2 1 false 50 49 kX1_hasRoom_49 = true := by decide +kernel
abbrev mt_X1_add : xm_T4 := (yX1_add, cX1_add, 3, (some .int))
theorem mo_X1_add : xm_mo mt_X1_add 1 2 0 false false := ⟨by decide +kernel, rfl, (fun h => by cases h), rfl, by decide, ⟨by decide +kernel, by decide +kernel, by decide +kernel⟩, (wq_at mw_1_0 11 rfl), (wq_at mw_1_2 3 rfl), (fun h => by cases h), (fun _ => (wq_at mw_1_0 12 rfl)), (fun _ => (wq_at mw_1_0 13 rfl))⟩
def kX1_add_0 : List xm_I := [(.aload 0, 0, 0, 0, 0), (.getfield 0, 1, 7, 0, 0), (.sipush 0, 0, 0, 0, 60), (.if_icmp .lt 0, 11, 0, 0, 0), (.sipush 0, 0, 0, 0, (-1)), (.ireturn, 0, 0, 0, 0)]
theorem bk_X1_add_0 : xm_okb cX1_add 1 3 0 false 11 0 kX1_add_0 = true := by decide +kernel
def kX1_add_11 : List xm_I := [(.aload 0, 0, 0, 0, 0), (.getfield 0, 1, 13, 2, 0), (.aload 0, 0, 0, 0, 0), (.getfield 0, 1, 7, 0, 0), (.aaload, 0, 0, 0, 0), (.iload 0, 1, 0, 0, 0), (.iload 0, 2, 0, 0, 0)]
theorem bk_X1_add_11 : xm_okb cX1_add 1 3 0 false 22 11 kX1_add_11 = true := by decide +kernel
def kX1_add_25 : List xm_I := [(.aload 0, 0, 0, 0, 0), (.dup, 0, 0, 0, 0), (.getfield 0, 1, 7, 0, 0), (.sipush 0, 0, 0, 0, 1), (.iadd, 0, 0, 0, 0), (.putfield 0, 1, 7, 0, 0), (.aload 0, 0, 0, 0, 0), (.getfield 0, 1, 7, 0, 0)]
theorem bk_X1_add_25 : xm_okb cX1_add 1 3 0 false 39 25 kX1_add_25 = true := by decide +kernel
def kX1_add_39 : List xm_I := [(.sipush 0, 0, 0, 0, 1), (.isub, 0, 0, 0, 0), (.ireturn, 0, 0, 0, 0)]
theorem bk_X1_add_39 : xm_okb cX1_add 1 3 0 false 42 39 kX1_add_39 = true := by decide +kernel
abbrev mt_X1_tick : xm_T4 := (yX1_tick, cX1_tick, 1, none)
theorem mo_X1_tick : xm_mo mt_X1_tick 1 0 3 false false := ⟨by decide +kernel, rfl, (fun h => by cases h), rfl, by decide, ⟨by decide +kernel, by decide +kernel, by decide +kernel⟩, (wq_at mw_1_0 14 rfl), (wq_at mw_1_2 3 rfl), (fun h => by cases h), (fun _ => (wq_at mw_1_0 15 rfl)), (fun _ => (wq_at mw_1_0 16 rfl))⟩
def kX1_tick_0 : List xm_I := [(.aload 0, 0, 0, 0, 0), (.dup, 0, 0, 0, 0), (.getfield 0, 1, 1, 0, 0), (.sipush 0, 0, 0, 0, 1), (.iadd, 0, 0, 0, 0), (.putfield 0, 1, 1, 0, 0), (.aload 0, 0, 0, 0, 0)]
theorem bk_X1_tick_0 : xm_okb cX1_tick 1 1 3 false 11 0 kX1_tick_0 = true := by decide +kernel
def kX1_tick_14 : List xm_I := [(.aload 0, 0, 0, 0, 0)]
theorem bk_X1_tick_14 : xm_okb cX1_tick 1 1 3 false 15 14 kX1_tick_14 = true := by decide +kernel
def kX1_tick_18 : List xm_I := [(.aload 0, 0, 0, 0, 0)]
theorem bk_X1_tick_18 : xm_okb cX1_tick 1 1 3 false 19 18 kX1_tick_18 = true := by decide +kernel
def kX1_tick_22 : List xm_I := [(.aload 0, 0, 0, 0, 0)]
theorem bk_X1_tick_22 : xm_okb cX1_tick 1 1 3 false 23 22 kX1_tick_22 = true := by decide +kernel
def kX1_tick_26 : List xm_I := [(.aload 0, 0, 0, 0, 0)]
theorem bk_X1_tick_26 : xm_okb cX1_tick 1 1 3 false 27 26 kX1_tick_26 = true := by decide +kernel
def kX1_tick_30 : List xm_I := [(.aload 0, 0, 0, 0, 0)]
theorem bk_X1_tick_30 : xm_okb cX1_tick 1 1 3 false 31 30 kX1_tick_30 = true := by decide +kernel
def kX1_tick_34 : List xm_I := [(.aload 0, 0, 0, 0, 0)]
theorem bk_X1_tick_34 : xm_okb cX1_tick 1 1 3 false 35 34 kX1_tick_34 = true := by decide +kernel
def kX1_tick_38 : List xm_I := [(.aload 0, 0, 0, 0, 0)]
theorem bk_X1_tick_38 : xm_okb cX1_tick 1 1 3 false 39 38 kX1_tick_38 = true := by decide +kernel
def kX1_tick_42 : List xm_I := [(.return_, 0, 0, 0, 0)]
theorem bk_X1_tick_42 : xm_okb cX1_tick 1 1 3 false 43 42 kX1_tick_42 = true := by decide +kernel
abbrev mt_X1_moveItems : xm_T4 := (yX1_moveItems, cX1_moveItems, 2, none)
theorem mo_X1_moveItems : xm_mo mt_X1_moveItems 1 0 3 false false := ⟨by decide +kernel, rfl, (fun h => by cases h), rfl, by decide, ⟨by decide +kernel, by decide +kernel, by decide +kernel⟩, (wq_at mw_1_0 17 rfl), (wq_at mw_1_2 3 rfl), (fun h => by cases h), (fun _ => (wq_at mw_1_0 18 rfl)), (fun _ => (wq_at mw_1_0 19 rfl))⟩
def kX1_moveItems_0 : List xm_I := [(.aload 0, 0, 0, 0, 0), (.getfield 0, 1, 15, 0, 0), (.istore 0, 1, 0, 0, 0)]
theorem bk_X1_moveItems_0 : xm_okb cX1_moveItems 1 2 3 false 5 0 kX1_moveItems_0 = true := by decide +kernel
def kX1_moveItems_5 : List xm_I := [(.iload 0, 1, 0, 0, 0), (.aload 0, 0, 0, 0, 0), (.getfield 0, 1, 7, 0, 0), (.if_icmp .ge 0, 52, 0, 0, 0), (.aload 0, 0, 0, 0, 0), (.getfield 0, 1, 13, 2, 0), (.iload 0, 1, 0, 0, 0), (.aaload, 0, 0, 0, 0)]
theorem bk_X1_moveItems_5 : xm_okb cX1_moveItems 1 2 3 false 19 5 kX1_moveItems_5 = true := by decide +kernel
def kX1_moveItems_22 : List xm_I := [(.ifCond .eq 0, 46, 0, 0, 0), (.aload 0, 0, 0, 0, 0), (.getfield 0, 1, 13, 2, 0), (.iload 0, 1, 0, 0, 0), (.aaload, 0, 0, 0, 0), (.dup, 0, 0, 0, 0), (.getfield 0, 0, 2, 0, 0), (.aload 0, 0, 0, 0, 0)]
theorem bk_X1_moveItems_22 : xm_okb cX1_moveItems 1 2 3 false 36 22 kX1_moveItems_22 = true := by decide +kernel
def kX1_moveItems_46 : List xm_I := [(.iinc 0 0, 1, 0, 0, 1), (.goto 0, 5, 0, 0, 0)]
theorem bk_X1_moveItems_46 : xm_okb cX1_moveItems 1 2 3 false 52 46 kX1_moveItems_46 = true := by decide +kernel
def kX1_moveItems_52 : List xm_I := [(.return_, 0, 0, 0, 0)]
theorem bk_X1_moveItems_52 : xm_okb cX1_moveItems 1 2 3 false 53 52 kX1_moveItems_52 = true := by decide +kernel
def kX1_moveItems_36 : List xm_I := [(.getfield 0, 1, 0, 2, 0), (.getfield 0, 4, 0, 0, 0), (.iadd, 0, 0, 0, 0), (.putfield 0, 0, 2, 0, 0)]
theorem bk_X1_moveItems_36 : xm_okb cX1_moveItems 1 2 3 false 46 36 kX1_moveItems_36 = true := by decide +kernel
abbrev mt_X1_readCell : xm_T4 := (yX1_readCell, cX1_readCell, 4, none)
theorem mo_X1_readCell : xm_mo mt_X1_readCell 1 0 3 false false := ⟨by decide +kernel, rfl, (fun h => by cases h), rfl, by decide, ⟨by decide +kernel, by decide +kernel, by decide +kernel⟩, (wq_at mw_1_0 20 rfl), (wq_at mw_1_2 3 rfl), (fun h => by cases h), (fun _ => (wq_at mw_1_0 21 rfl)), (fun _ => (wq_at mw_1_0 22 rfl))⟩
def kX1_readCell_0 : List xm_I := [(.aload 0, 0, 0, 0, 0), (.getfield 0, 1, 0, 2, 0), (.aload 0, 0, 0, 0, 0), (.getfield 0, 1, 1, 0, 0)]
theorem bk_X1_readCell_0 : xm_okb cX1_readCell 1 4 3 false 8 0 kX1_readCell_0 = true := by decide +kernel
def kX1_readCell_11 : List xm_I := [(.istore 0, 1, 0, 0, 0), (.aload 0, 0, 0, 0, 0), (.sipush 0, 0, 0, 0, 0), (.putfield 0, 1, 16, 0, 0), (.aload 0, 0, 0, 0, 0), (.getfield 0, 1, 15, 0, 0), (.istore 0, 2, 0, 0, 0)]
theorem bk_X1_readCell_11 : xm_okb cX1_readCell 1 4 3 false 22 11 kX1_readCell_11 = true := by decide +kernel
def kX1_readCell_22 : List xm_I := [(.iload 0, 2, 0, 0, 0), (.aload 0, 0, 0, 0, 0), (.getfield 0, 1, 7, 0, 0), (.if_icmp .ge 0, 108, 0, 0, 0), (.aload 0, 0, 0, 0, 0), (.getfield 0, 1, 13, 2, 0), (.iload 0, 2, 0, 0, 0), (.aaload, 0, 0, 0, 0)]
theorem bk_X1_readCell_22 : xm_okb cX1_readCell 1 4 3 false 36 22 kX1_readCell_22 = true := by decide +kernel
def kX1_readCell_41 : List xm_I := [(.ifCond .eq 0, 102, 0, 0, 0), (.aload 0, 0, 0, 0, 0), (.getfield 0, 1, 0, 2, 0), (.aload 0, 3, 0, 0, 0), (.getfield 0, 0, 2, 0, 0), (.aload 0, 3, 0, 0, 0), (.getfield 0, 0, 1, 0, 0)]
theorem bk_X1_readCell_41 : xm_okb cX1_readCell 1 4 3 false 56 41 kX1_readCell_41 = true := by decide +kernel
def kX1_readCell_59 : List xm_I := [(.ifCond .eq 0, 102, 0, 0, 0), (.aload 0, 0, 0, 0, 0), (.dup, 0, 0, 0, 0), (.getfield 0, 1, 16, 0, 0), (.sipush 0, 0, 0, 0, 1), (.iadd, 0, 0, 0, 0), (.putfield 0, 1, 16, 0, 0), (.iload 0, 1, 0, 0, 0)]
theorem bk_X1_readCell_59 : xm_okb cX1_readCell 1 4 3 false 73 59 kX1_readCell_59 = true := by decide +kernel
def kX1_readCell_92 : List xm_I := [(.imul, 0, 0, 0, 0), (.aload 0, 3, 0, 0, 0), (.getfield 0, 0, 1, 0, 0)]
theorem bk_X1_readCell_92 : xm_okb cX1_readCell 1 4 3 false 97 92 kX1_readCell_92 = true := by decide +kernel
def kX1_readCell_100 : List xm_I := [(.iadd, 0, 0, 0, 0), (.istore 0, 1, 0, 0, 0)]
theorem bk_X1_readCell_100 : xm_okb cX1_readCell 1 4 3 false 102 100 kX1_readCell_100 = true := by decide +kernel
def kX1_readCell_102 : List xm_I := [(.iinc 0 0, 2, 0, 0, 1), (.goto 0, 22, 0, 0, 0)]
theorem bk_X1_readCell_102 : xm_okb cX1_readCell 1 4 3 false 108 102 kX1_readCell_102 = true := by decide +kernel
def kX1_readCell_108 : List xm_I := [(.aload 0, 0, 0, 0, 0), (.getfield 0, 1, 14, 2, 0), (.aload 0, 0, 0, 0, 0), (.getfield 0, 1, 1, 0, 0), (.sipush 0, 0, 0, 0, 60), (.irem, 0, 0, 0, 0), (.iload 0, 1, 0, 0, 0), (.iastore, 0, 0, 0, 0)]
theorem bk_X1_readCell_108 : xm_okb cX1_readCell 1 4 3 false 121 108 kX1_readCell_108 = true := by decide +kernel
def kX1_readCell_36 : List xm_I := [(.astore 0, 3, 0, 0, 0), (.aload 0, 3, 0, 0, 0)]
theorem bk_X1_readCell_36 : xm_okb cX1_readCell 1 4 3 false 38 36 kX1_readCell_36 = true := by decide +kernel
def kX1_readCell_73 : List xm_I := [(.aload 0, 3, 0, 0, 0), (.getfield 0, 0, 0, 0, 0), (.aload 0, 0, 0, 0, 0), (.getfield 0, 1, 0, 2, 0), (.aload 0, 3, 0, 0, 0), (.getfield 0, 0, 2, 0, 0), (.aload 0, 3, 0, 0, 0), (.getfield 0, 0, 1, 0, 0)]
theorem bk_X1_readCell_73 : xm_okb cX1_readCell 1 4 3 false 89 73 kX1_readCell_73 = true := by decide +kernel
def kX1_readCell_121 : List xm_I := [(.return_, 0, 0, 0, 0)]
theorem bk_X1_readCell_121 : xm_okb cX1_readCell 1 4 3 false 122 121 kX1_readCell_121 = true := by decide +kernel
abbrev mt_X1_collectSamples : xm_T4 := (yX1_collectSamples, cX1_collectSamples, 3, none)
theorem mo_X1_collectSamples : xm_mo mt_X1_collectSamples 1 0 3 false false := ⟨by decide +kernel, rfl, (fun h => by cases h), rfl, by decide, ⟨by decide +kernel, by decide +kernel, by decide +kernel⟩, (wq_at mw_1_0 23 rfl), (wq_at mw_1_2 3 rfl), (fun h => by cases h), (fun _ => (wq_at mw_1_0 24 rfl)), (fun _ => (wq_at mw_1_0 25 rfl))⟩
def kX1_collectSamples_0 : List xm_I := [(.aload 0, 0, 0, 0, 0), (.getfield 0, 1, 15, 0, 0), (.istore 0, 1, 0, 0, 0)]
theorem bk_X1_collectSamples_0 : xm_okb cX1_collectSamples 1 3 3 false 5 0 kX1_collectSamples_0 = true := by decide +kernel
def kX1_collectSamples_5 : List xm_I := [(.iload 0, 1, 0, 0, 0), (.aload 0, 0, 0, 0, 0), (.getfield 0, 1, 7, 0, 0), (.if_icmp .ge 0, 76, 0, 0, 0), (.aload 0, 0, 0, 0, 0), (.getfield 0, 1, 13, 2, 0), (.iload 0, 1, 0, 0, 0), (.aaload, 0, 0, 0, 0)]
theorem bk_X1_collectSamples_5 : xm_okb cX1_collectSamples 1 3 3 false 19 5 kX1_collectSamples_5 = true := by decide +kernel
def kX1_collectSamples_24 : List xm_I := [(.ifCond .eq 0, 70, 0, 0, 0), (.aload 0, 0, 0, 0, 0), (.getfield 0, 1, 0, 2, 0), (.aload 0, 2, 0, 0, 0), (.getfield 0, 0, 2, 0, 0), (.aload 0, 2, 0, 0, 0), (.getfield 0, 0, 1, 0, 0)]
theorem bk_X1_collectSamples_24 : xm_okb cX1_collectSamples 1 3 3 false 39 24 kX1_collectSamples_24 = true := by decide +kernel
def kX1_collectSamples_42 : List xm_I := [(.ifCond .eq 0, 70, 0, 0, 0), (.aload 0, 0, 0, 0, 0), (.getfield 0, 1, 16, 0, 0), (.sipush 0, 0, 0, 0, 1), (.if_icmp .ne 0, 65, 0, 0, 0), (.aload 0, 2, 0, 0, 0), (.aload 0, 0, 0, 0, 0), (.sipush 0, 0, 0, 0, 0)]
theorem bk_X1_collectSamples_42 : xm_okb cX1_collectSamples 1 3 3 false 56 42 kX1_collectSamples_42 = true := by decide +kernel
def kX1_collectSamples_62 : List xm_I := [(.goto 0, 70, 0, 0, 0)]
theorem bk_X1_collectSamples_62 : xm_okb cX1_collectSamples 1 3 3 false 65 62 kX1_collectSamples_62 = true := by decide +kernel
def kX1_collectSamples_65 : List xm_I := [(.aload 0, 2, 0, 0, 0), (.sipush 0, 0, 0, 0, 1), (.putfield 0, 0, 4, 1, 0)]
theorem bk_X1_collectSamples_65 : xm_okb cX1_collectSamples 1 3 3 false 70 65 kX1_collectSamples_65 = true := by decide +kernel
def kX1_collectSamples_70 : List xm_I := [(.iinc 0 0, 1, 0, 0, 1), (.goto 0, 5, 0, 0, 0)]
theorem bk_X1_collectSamples_70 : xm_okb cX1_collectSamples 1 3 3 false 76 70 kX1_collectSamples_70 = true := by decide +kernel
def kX1_collectSamples_76 : List xm_I := [(.return_, 0, 0, 0, 0)]
theorem bk_X1_collectSamples_76 : xm_okb cX1_collectSamples 1 3 3 false 77 76 kX1_collectSamples_76 = true := by decide +kernel
def kX1_collectSamples_19 : List xm_I := [(.astore 0, 2, 0, 0, 0), (.aload 0, 2, 0, 0, 0)]
theorem bk_X1_collectSamples_19 : xm_okb cX1_collectSamples 1 3 3 false 21 19 kX1_collectSamples_19 = true := by decide +kernel
abbrev mt_X1_decideItems : xm_T4 := (yX1_decideItems, cX1_decideItems, 2, none)
theorem mo_X1_decideItems : xm_mo mt_X1_decideItems 1 0 3 false false := ⟨by decide +kernel, rfl, (fun h => by cases h), rfl, by decide, ⟨by decide +kernel, by decide +kernel, by decide +kernel⟩, (wq_at mw_1_0 26 rfl), (wq_at mw_1_2 3 rfl), (fun h => by cases h), (fun _ => (wq_at mw_1_0 27 rfl)), (fun _ => (wq_at mw_1_0 28 rfl))⟩
def kX1_decideItems_0 : List xm_I := [(.aload 0, 0, 0, 0, 0), (.getfield 0, 1, 15, 0, 0), (.istore 0, 1, 0, 0, 0)]
theorem bk_X1_decideItems_0 : xm_okb cX1_decideItems 1 2 3 false 5 0 kX1_decideItems_0 = true := by decide +kernel
def kX1_decideItems_5 : List xm_I := [(.iload 0, 1, 0, 0, 0), (.aload 0, 0, 0, 0, 0), (.getfield 0, 1, 7, 0, 0), (.if_icmp .ge 0, 60, 0, 0, 0), (.aload 0, 0, 0, 0, 0), (.getfield 0, 1, 13, 2, 0), (.iload 0, 1, 0, 0, 0), (.aaload, 0, 0, 0, 0)]
theorem bk_X1_decideItems_5 : xm_okb cX1_decideItems 1 2 3 false 19 5 kX1_decideItems_5 = true := by decide +kernel
def kX1_decideItems_54 : List xm_I := [(.iinc 0 0, 1, 0, 0, 1), (.goto 0, 5, 0, 0, 0)]
theorem bk_X1_decideItems_54 : xm_okb cX1_decideItems 1 2 3 false 60 54 kX1_decideItems_54 = true := by decide +kernel
def kX1_decideItems_60 : List xm_I := [(.return_, 0, 0, 0, 0)]
theorem bk_X1_decideItems_60 : xm_okb cX1_decideItems 1 2 3 false 61 60 kX1_decideItems_60 = true := by decide +kernel
def kX1_decideItems_19 : List xm_I := [(.getfield 0, 0, 3, 0, 0), (.ifCond .ne 0, 54, 0, 0, 0), (.aload 0, 0, 0, 0, 0), (.getfield 0, 1, 13, 2, 0), (.iload 0, 1, 0, 0, 0), (.aaload, 0, 0, 0, 0), (.getfield 0, 0, 2, 0, 0), (.aload 0, 0, 0, 0, 0)]
theorem bk_X1_decideItems_19 : xm_okb cX1_decideItems 1 2 3 false 35 19 kX1_decideItems_19 = true := by decide +kernel
def kX1_decideItems_35 : List xm_I := [(.getfield 0, 1, 0, 2, 0), (.getfield 0, 4, 2, 0, 0), (.if_icmp .le 0, 54, 0, 0, 0), (.aload 0, 0, 0, 0, 0), (.aload 0, 0, 0, 0, 0), (.getfield 0, 1, 13, 2, 0), (.iload 0, 1, 0, 0, 0), (.aaload, 0, 0, 0, 0)]
theorem bk_X1_decideItems_35 : xm_okb cX1_decideItems 1 2 3 false 51 35 kX1_decideItems_35 = true := by decide +kernel
abbrev mt_X1_decide : xm_T4 := (yX1_decide, cX1_decide, 3, none)
theorem mo_X1_decide : xm_mo mt_X1_decide 1 1 3 false false := ⟨by decide +kernel, rfl, (fun h => by cases h), rfl, by decide, ⟨by decide +kernel, by decide +kernel, by decide +kernel⟩, (wq_at mw_1_0 29 rfl), (wq_at mw_1_2 3 rfl), (fun h => by cases h), (fun _ => (wq_at mw_1_0 30 rfl)), (fun _ => (wq_at mw_1_0 31 rfl))⟩
def kX1_decide_0 : List xm_I := [(.aload 0, 0, 0, 0, 0), (.getfield 0, 1, 0, 2, 0)]
theorem bk_X1_decide_0 : xm_okb cX1_decide 1 3 3 false 4 0 kX1_decide_0 = true := by decide +kernel
def kX1_decide_7 : List xm_I := [(.istore 0, 2, 0, 0, 0), (.aload 0, 1, 0, 0, 0), (.getfield 0, 0, 14, 0, 0), (.ifCond .le 0, 34, 0, 0, 0), (.aload 0, 1, 0, 0, 0), (.sipush 0, 0, 0, 0, 1), (.putfield 0, 0, 12, 1, 0), (.aload 0, 1, 0, 0, 0)]
theorem bk_X1_decide_7 : xm_okb cX1_decide 1 3 3 false 21 7 kX1_decide_7 = true := by decide +kernel
def kX1_decide_26 : List xm_I := [(.aload 0, 0, 0, 0, 0), (.getfield 0, 1, 4, 0, 0), (.isub, 0, 0, 0, 0), (.putfield 0, 0, 13, 0, 0)]
theorem bk_X1_decide_26 : xm_okb cX1_decide 1 3 3 false 34 26 kX1_decide_26 = true := by decide +kernel
def kX1_decide_34 : List xm_I := [(.aload 0, 1, 0, 0, 0), (.aload 0, 0, 0, 0, 0), (.aload 0, 1, 0, 0, 0), (.iload 0, 2, 0, 0, 0)]
theorem bk_X1_decide_34 : xm_okb cX1_decide 1 3 3 false 38 34 kX1_decide_34 = true := by decide +kernel
def kX1_decide_41 : List xm_I := [(.putfield 0, 0, 5, 0, 0), (.aload 0, 1, 0, 0, 0), (.sipush 0, 0, 0, 0, 1), (.putfield 0, 0, 3, 0, 0), (.aload 0, 1, 0, 0, 0), (.aload 0, 0, 0, 0, 0), (.getfield 0, 1, 1, 0, 0), (.putfield 0, 0, 7, 0, 0)]
theorem bk_X1_decide_41 : xm_okb cX1_decide 1 3 3 false 57 41 kX1_decide_41 = true := by decide +kernel
def kX1_decide_69 : List xm_I := [(.putfield 0, 0, 6, 0, 0), (.aload 0, 0, 0, 0, 0), (.dup, 0, 0, 0, 0), (.getfield 0, 1, 5, 0, 0), (.sipush 0, 0, 0, 0, 1), (.iadd, 0, 0, 0, 0), (.putfield 0, 1, 5, 0, 0), (.aload 0, 0, 0, 0, 0)]
theorem bk_X1_decide_69 : xm_okb cX1_decide 1 3 3 false 83 69 kX1_decide_69 = true := by decide +kernel
def kX1_decide_93 : List xm_I := [(.ifCond .eq 0, 105, 0, 0, 0), (.aload 0, 0, 0, 0, 0), (.aload 0, 1, 0, 0, 0), (.aload 0, 1, 0, 0, 0), (.getfield 0, 0, 6, 0, 0)]
theorem bk_X1_decide_93 : xm_okb cX1_decide 1 3 3 false 102 93 kX1_decide_93 = true := by decide +kernel
def kX1_decide_105 : List xm_I := [(.return_, 0, 0, 0, 0)]
theorem bk_X1_decide_105 : xm_okb cX1_decide 1 3 3 false 106 105 kX1_decide_105 = true := by decide +kernel
def kX1_decide_21 : List xm_I := [(.aload 0, 1, 0, 0, 0), (.iload 0, 2, 0, 0, 0)]
theorem bk_X1_decide_21 : xm_okb cX1_decide 1 3 3 false 23 21 kX1_decide_21 = true := by decide +kernel
def kX1_decide_57 : List xm_I := [(.aload 0, 1, 0, 0, 0), (.aload 0, 0, 0, 0, 0), (.getfield 0, 1, 0, 2, 0), (.aload 0, 1, 0, 0, 0), (.getfield 0, 0, 5, 0, 0)]
theorem bk_X1_decide_57 : xm_okb cX1_decide 1 3 3 false 66 57 kX1_decide_57 = true := by decide +kernel
def kX1_decide_83 : List xm_I := [(.getfield 0, 1, 0, 2, 0), (.aload 0, 1, 0, 0, 0), (.getfield 0, 0, 6, 0, 0)]
theorem bk_X1_decide_83 : xm_okb cX1_decide 1 3 3 false 90 83 kX1_decide_83 = true := by decide +kernel
abbrev mt_X1_kindOf : xm_T4 := (yX1_kindOf, cX1_kindOf, 3, (some .int))
theorem mo_X1_kindOf : xm_mo mt_X1_kindOf 1 2 0 false false := ⟨by decide +kernel, rfl, (fun h => by cases h), rfl, by decide, ⟨by decide +kernel, by decide +kernel, by decide +kernel⟩, (wq_at mw_1_0 32 rfl), (wq_at mw_1_2 3 rfl), (fun h => by cases h), (fun _ => (wq_at mw_1_0 33 rfl)), (fun _ => (wq_at mw_1_0 34 rfl))⟩
def kX1_kindOf_0 : List xm_I := [(.aload 0, 1, 0, 0, 0), (.getfield 0, 0, 4, 1, 0), (.ifCond .ne 0, 36, 0, 0, 0), (.aload 0, 1, 0, 0, 0), (.getfield 0, 0, 14, 0, 0), (.aload 0, 0, 0, 0, 0), (.getfield 0, 1, 0, 2, 0), (.getfield 0, 4, 14, 0, 0)]
theorem bk_X1_kindOf_0 : xm_okb cX1_kindOf 1 3 0 false 18 0 kX1_kindOf_0 = true := by decide +kernel
def kX1_kindOf_26 : List xm_I := [(.aload 0, 0, 0, 0, 0), (.getfield 0, 1, 0, 2, 0), (.getfield 0, 4, 13, 0, 0), (.if_icmp .le 0, 38, 0, 0, 0)]
theorem bk_X1_kindOf_26 : xm_okb cX1_kindOf 1 3 0 false 36 26 kX1_kindOf_26 = true := by decide +kernel
def kX1_kindOf_36 : List xm_I := [(.sipush 0, 0, 0, 0, 3), (.ireturn, 0, 0, 0, 0)]
theorem bk_X1_kindOf_36 : xm_okb cX1_kindOf 1 3 0 false 38 36 kX1_kindOf_36 = true := by decide +kernel
def kX1_kindOf_38 : List xm_I := [(.aload 0, 1, 0, 0, 0), (.getfield 0, 0, 13, 0, 0), (.aload 0, 0, 0, 0, 0), (.getfield 0, 1, 2, 0, 0), (.if_icmp .ge 0, 51, 0, 0, 0), (.sipush 0, 0, 0, 0, 0), (.ireturn, 0, 0, 0, 0)]
theorem bk_X1_kindOf_38 : xm_okb cX1_kindOf 1 3 0 false 51 38 kX1_kindOf_38 = true := by decide +kernel
def kX1_kindOf_51 : List xm_I := [(.aload 0, 1, 0, 0, 0), (.getfield 0, 0, 13, 0, 0), (.aload 0, 0, 0, 0, 0), (.getfield 0, 1, 3, 0, 0), (.if_icmp .le 0, 66, 0, 0, 0), (.sipush 0, 0, 0, 0, 2), (.goto 0, 67, 0, 0, 0)]
theorem bk_X1_kindOf_51 : xm_okb cX1_kindOf 1 3 0 false 66 51 kX1_kindOf_51 = true := by decide +kernel
def kX1_kindOf_66 : List xm_I := [(.sipush 0, 0, 0, 0, 1)]
theorem bk_X1_kindOf_66 : xm_okb cX1_kindOf 1 3 0 false 67 66 kX1_kindOf_66 = true := by decide +kernel
def kX1_kindOf_67 : List xm_I := [(.ireturn, 0, 0, 0, 0)]
theorem bk_X1_kindOf_67 : xm_okb cX1_kindOf 1 3 0 false 68 67 kX1_kindOf_67 = true := by decide +kernel
def kX1_kindOf_18 : List xm_I := [(.if_icmp .lt 0, 36, 0, 0, 0), (.aload 0, 1, 0, 0, 0), (.iload 0, 2, 0, 0, 0)]
theorem bk_X1_kindOf_18 : xm_okb cX1_kindOf 1 3 0 false 23 18 kX1_kindOf_18 = true := by decide +kernel
abbrev mt_X1_command : xm_T4 := (yX1_command, cX1_command, 6, none)
theorem mo_X1_command : xm_mo mt_X1_command 1 2 3 false false := ⟨by decide +kernel, rfl, (fun h => by cases h), rfl, by decide, ⟨by decide +kernel, by decide +kernel, by decide +kernel⟩, (wq_at mw_1_0 35 rfl), (wq_at mw_1_2 3 rfl), (fun h => by cases h), (fun _ => (wq_at mw_1_0 36 rfl)), (fun _ => (wq_at mw_1_0 37 rfl))⟩
def kX1_command_0 : List xm_I := [(.aload 0, 0, 0, 0, 0), (.getfield 0, 1, 1, 0, 0), (.aload 0, 0, 0, 0, 0), (.getfield 0, 1, 0, 2, 0), (.aload 0, 0, 0, 0, 0), (.getfield 0, 1, 0, 2, 0), (.getfield 0, 4, 7, 2, 0), (.iload 0, 2, 0, 0, 0)]
theorem bk_X1_command_0 : xm_okb cX1_command 1 6 3 false 16 0 kX1_command_0 = true := by decide +kernel
def kX1_command_25 : List xm_I := [(.iadd, 0, 0, 0, 0), (.istore 0, 3, 0, 0, 0), (.iload 0, 3, 0, 0, 0), (.aload 0, 0, 0, 0, 0), (.getfield 0, 1, 1, 0, 0), (.aload 0, 0, 0, 0, 0), (.getfield 0, 1, 0, 2, 0), (.getfield 0, 4, 8, 2, 0)]
theorem bk_X1_command_25 : xm_okb cX1_command 1 6 3 false 39 25 kX1_command_25 = true := by decide +kernel
def kX1_command_45 : List xm_I := [(.istore 0, 4, 0, 0, 0), (.iload 0, 3, 0, 0, 0), (.aload 0, 0, 0, 0, 0), (.getfield 0, 1, 0, 2, 0), (.aload 0, 1, 0, 0, 0), (.getfield 0, 0, 1, 0, 0)]
theorem bk_X1_command_45 : xm_okb cX1_command 1 6 3 false 56 45 kX1_command_45 = true := by decide +kernel
def kX1_command_59 : List xm_I := [(.iadd, 0, 0, 0, 0), (.istore 0, 5, 0, 0, 0), (.iload 0, 4, 0, 0, 0), (.iload 0, 5, 0, 0, 0), (.if_icmp .ge 0, 81, 0, 0, 0), (.aload 0, 1, 0, 0, 0), (.iload 0, 4, 0, 0, 0), (.putfield 0, 0, 9, 0, 0)]
theorem bk_X1_command_59 : xm_okb cX1_command 1 6 3 false 75 59 kX1_command_59 = true := by decide +kernel
def kX1_command_81 : List xm_I := [(.return_, 0, 0, 0, 0)]
theorem bk_X1_command_81 : xm_okb cX1_command 1 6 3 false 82 81 kX1_command_81 = true := by decide +kernel
def kX1_command_16 : List xm_I := [(.iaload, 0, 0, 0, 0), (.aload 0, 1, 0, 0, 0), (.getfield 0, 0, 2, 0, 0), (.isub, 0, 0, 0, 0)]
theorem bk_X1_command_16 : xm_okb cX1_command 1 6 3 false 22 16 kX1_command_16 = true := by decide +kernel
def kX1_command_39 : List xm_I := [(.iload 0, 2, 0, 0, 0), (.iaload, 0, 0, 0, 0), (.iadd, 0, 0, 0, 0)]
theorem bk_X1_command_39 : xm_okb cX1_command 1 6 3 false 42 39 kX1_command_39 = true := by decide +kernel
def kX1_command_75 : List xm_I := [(.aload 0, 1, 0, 0, 0), (.iload 0, 5, 0, 0, 0), (.putfield 0, 0, 10, 0, 0)]
theorem bk_X1_command_75 : xm_okb cX1_command 1 6 3 false 81 75 kX1_command_75 = true := by decide +kernel
abbrev mt_X1_meetGates : xm_T4 := (yX1_meetGates, cX1_meetGates, 3, none)
theorem mo_X1_meetGates : xm_mo mt_X1_meetGates 1 0 3 false false := ⟨by decide +kernel, rfl, (fun h => by cases h), rfl, by decide, ⟨by decide +kernel, by decide +kernel, by decide +kernel⟩, (wq_at mw_1_0 38 rfl), (wq_at mw_1_2 3 rfl), (fun h => by cases h), (fun _ => (wq_at mw_1_0 39 rfl)), (fun _ => (wq_at mw_1_1 0 rfl))⟩
def kX1_meetGates_0 : List xm_I := [(.aload 0, 0, 0, 0, 0), (.getfield 0, 1, 15, 0, 0), (.istore 0, 1, 0, 0, 0)]
theorem bk_X1_meetGates_0 : xm_okb cX1_meetGates 1 3 3 false 5 0 kX1_meetGates_0 = true := by decide +kernel
def kX1_meetGates_5 : List xm_I := [(.iload 0, 1, 0, 0, 0), (.aload 0, 0, 0, 0, 0), (.getfield 0, 1, 7, 0, 0), (.if_icmp .ge 0, 91, 0, 0, 0), (.sipush 0, 0, 0, 0, 0), (.istore 0, 2, 0, 0, 0)]
theorem bk_X1_meetGates_5 : xm_okb cX1_meetGates 1 3 3 false 15 5 kX1_meetGates_5 = true := by decide +kernel
def kX1_meetGates_15 : List xm_I := [(.iload 0, 2, 0, 0, 0), (.aload 0, 0, 0, 0, 0), (.getfield 0, 1, 0, 2, 0), (.getfield 0, 4, 5, 0, 0), (.if_icmp .ge 0, 85, 0, 0, 0), (.aload 0, 0, 0, 0, 0), (.getfield 0, 1, 13, 2, 0), (.iload 0, 1, 0, 0, 0)]
theorem bk_X1_meetGates_15 : xm_okb cX1_meetGates 1 3 3 false 31 15 kX1_meetGates_15 = true := by decide +kernel
def kX1_meetGates_35 : List xm_I := [(.ifCond .eq 0, 85, 0, 0, 0), (.aload 0, 0, 0, 0, 0), (.aload 0, 0, 0, 0, 0), (.getfield 0, 1, 13, 2, 0), (.iload 0, 1, 0, 0, 0), (.aaload, 0, 0, 0, 0), (.aload 0, 0, 0, 0, 0), (.getfield 0, 1, 0, 2, 0)]
theorem bk_X1_meetGates_35 : xm_okb cX1_meetGates 1 3 3 false 49 35 kX1_meetGates_35 = true := by decide +kernel
def kX1_meetGates_57 : List xm_I := [(.ifCond .eq 0, 79, 0, 0, 0), (.aload 0, 0, 0, 0, 0), (.iload 0, 2, 0, 0, 0)]
theorem bk_X1_meetGates_57 : xm_okb cX1_meetGates 1 3 3 false 62 57 kX1_meetGates_57 = true := by decide +kernel
def kX1_meetGates_65 : List xm_I := [(.ifCond .eq 0, 79, 0, 0, 0), (.aload 0, 0, 0, 0, 0), (.aload 0, 0, 0, 0, 0), (.getfield 0, 1, 13, 2, 0), (.iload 0, 1, 0, 0, 0), (.aaload, 0, 0, 0, 0), (.iload 0, 2, 0, 0, 0)]
theorem bk_X1_meetGates_65 : xm_okb cX1_meetGates 1 3 3 false 76 65 kX1_meetGates_65 = true := by decide +kernel
def kX1_meetGates_79 : List xm_I := [(.iinc 0 0, 2, 0, 0, 1), (.goto 0, 15, 0, 0, 0)]
theorem bk_X1_meetGates_79 : xm_okb cX1_meetGates 1 3 3 false 85 79 kX1_meetGates_79 = true := by decide +kernel
def kX1_meetGates_85 : List xm_I := [(.iinc 0 0, 1, 0, 0, 1), (.goto 0, 5, 0, 0, 0)]
theorem bk_X1_meetGates_85 : xm_okb cX1_meetGates 1 3 3 false 91 85 kX1_meetGates_85 = true := by decide +kernel
def kX1_meetGates_91 : List xm_I := [(.return_, 0, 0, 0, 0)]
theorem bk_X1_meetGates_91 : xm_okb cX1_meetGates 1 3 3 false 92 91 kX1_meetGates_91 = true := by decide +kernel
def kX1_meetGates_31 : List xm_I := [(.aaload, 0, 0, 0, 0)]
theorem bk_X1_meetGates_31 : xm_okb cX1_meetGates 1 3 3 false 32 31 kX1_meetGates_31 = true := by decide +kernel
def kX1_meetGates_49 : List xm_I := [(.getfield 0, 4, 7, 2, 0), (.iload 0, 2, 0, 0, 0), (.iaload, 0, 0, 0, 0)]
theorem bk_X1_meetGates_49 : xm_okb cX1_meetGates 1 3 3 false 54 49 kX1_meetGates_49 = true := by decide +kernel
abbrev mt_X1_comesTo : xm_T4 := (yX1_comesTo, cX1_comesTo, 3, (some .boolean))
theorem mo_X1_comesTo : xm_mo mt_X1_comesTo 1 2 1 false false := ⟨by decide +kernel, rfl, (fun h => by cases h), rfl, by decide, ⟨by decide +kernel, by decide +kernel, by decide +kernel⟩, (wq_at mw_1_1 1 rfl), (wq_at mw_1_2 3 rfl), (fun h => by cases h), (fun _ => (wq_at mw_1_1 2 rfl)), (fun _ => (wq_at mw_1_1 3 rfl))⟩
def kX1_comesTo_0 : List xm_I := [(.aload 0, 1, 0, 0, 0), (.getfield 0, 0, 2, 0, 0), (.iload 0, 2, 0, 0, 0), (.if_icmp .lt 0, 28, 0, 0, 0), (.aload 0, 1, 0, 0, 0), (.getfield 0, 0, 2, 0, 0), (.aload 0, 0, 0, 0, 0), (.getfield 0, 1, 0, 2, 0)]
theorem bk_X1_comesTo_0 : xm_okb cX1_comesTo 1 3 1 false 16 0 kX1_comesTo_0 = true := by decide +kernel
def kX1_comesTo_28 : List xm_I := [(.sipush 0, 0, 0, 0, 0)]
theorem bk_X1_comesTo_28 : xm_okb cX1_comesTo 1 3 1 false 29 28 kX1_comesTo_28 = true := by decide +kernel
def kX1_comesTo_29 : List xm_I := [(.ireturn, 1, 0, 0, 0)]
theorem bk_X1_comesTo_29 : xm_okb cX1_comesTo 1 3 1 false 30 29 kX1_comesTo_29 = true := by decide +kernel
def kX1_comesTo_16 : List xm_I := [(.getfield 0, 4, 0, 0, 0), (.isub, 0, 0, 0, 0), (.iload 0, 2, 0, 0, 0), (.if_icmp .ge 0, 28, 0, 0, 0), (.sipush 0, 0, 0, 0, 1), (.goto 0, 29, 0, 0, 0)]
theorem bk_X1_comesTo_16 : xm_okb cX1_comesTo 1 3 1 false 28 16 kX1_comesTo_16 = true := by decide +kernel
abbrev mt_X1_divert : xm_T4 := (yX1_divert, cX1_divert, 3, none)
theorem mo_X1_divert : xm_mo mt_X1_divert 1 2 3 false false := ⟨by decide +kernel, rfl, (fun h => by cases h), rfl, by decide, ⟨by decide +kernel, by decide +kernel, by decide +kernel⟩, (wq_at mw_1_1 4 rfl), (wq_at mw_1_2 3 rfl), (fun h => by cases h), (fun _ => (wq_at mw_1_1 5 rfl)), (fun _ => (wq_at mw_1_1 6 rfl))⟩
def kX1_divert_0 : List xm_I := [(.aload 0, 1, 0, 0, 0), (.aload 0, 1, 0, 0, 0), (.getfield 0, 0, 6, 0, 0), (.iload 0, 2, 0, 0, 0), (.if_icmp .ne 0, 13, 0, 0, 0), (.sipush 0, 0, 0, 0, 3), (.goto 0, 14, 0, 0, 0)]
theorem bk_X1_divert_0 : xm_okb cX1_divert 1 3 3 false 13 0 kX1_divert_0 = true := by decide +kernel
def kX1_divert_13 : List xm_I := [(.sipush 0, 0, 0, 0, 4)]
theorem bk_X1_divert_13 : xm_okb cX1_divert 1 3 3 false 14 13 kX1_divert_13 = true := by decide +kernel
def kX1_divert_14 : List xm_I := [(.putfield 0, 0, 3, 0, 0), (.aload 0, 1, 0, 0, 0), (.aload 0, 0, 0, 0, 0), (.getfield 0, 1, 1, 0, 0), (.putfield 0, 0, 8, 0, 0), (.aload 0, 1, 0, 0, 0), (.iload 0, 2, 0, 0, 0), (.putfield 0, 0, 11, 0, 0)]
theorem bk_X1_divert_14 : xm_okb cX1_divert 1 3 3 false 30 14 kX1_divert_14 = true := by decide +kernel
def kX1_divert_30 : List xm_I := [(.aload 0, 0, 0, 0, 0), (.getfield 0, 1, 10, 2, 0), (.iload 0, 2, 0, 0, 0), (.dup2, 0, 0, 0, 0), (.iaload, 0, 0, 0, 0), (.sipush 0, 0, 0, 0, 1), (.iadd, 0, 0, 0, 0), (.iastore, 0, 0, 0, 0)]
theorem bk_X1_divert_30 : xm_okb cX1_divert 1 3 3 false 40 30 kX1_divert_30 = true := by decide +kernel
def kX1_divert_40 : List xm_I := [(.aload 0, 0, 0, 0, 0), (.dup, 0, 0, 0, 0), (.getfield 0, 1, 6, 0, 0), (.sipush 0, 0, 0, 0, 1), (.iadd, 0, 0, 0, 0), (.putfield 0, 1, 6, 0, 0), (.return_, 0, 0, 0, 0)]
theorem bk_X1_divert_40 : xm_okb cX1_divert 1 3 3 false 51 40 kX1_divert_40 = true := by decide +kernel
abbrev mt_X1_leaveAtEnd : xm_T4 := (yX1_leaveAtEnd, cX1_leaveAtEnd, 3, none)
theorem mo_X1_leaveAtEnd : xm_mo mt_X1_leaveAtEnd 1 0 3 false false := ⟨by decide +kernel, rfl, (fun h => by cases h), rfl, by decide, ⟨by decide +kernel, by decide +kernel, by decide +kernel⟩, (wq_at mw_1_1 7 rfl), (wq_at mw_1_2 3 rfl), (fun h => by cases h), (fun _ => (wq_at mw_1_1 8 rfl)), (fun _ => (wq_at mw_1_1 9 rfl))⟩
def kX1_leaveAtEnd_0 : List xm_I := [(.aload 0, 0, 0, 0, 0), (.getfield 0, 1, 15, 0, 0), (.istore 0, 1, 0, 0, 0)]
theorem bk_X1_leaveAtEnd_0 : xm_okb cX1_leaveAtEnd 1 3 3 false 5 0 kX1_leaveAtEnd_0 = true := by decide +kernel
def kX1_leaveAtEnd_5 : List xm_I := [(.iload 0, 1, 0, 0, 0), (.aload 0, 0, 0, 0, 0), (.getfield 0, 1, 7, 0, 0), (.if_icmp .ge 0, 72, 0, 0, 0), (.aload 0, 0, 0, 0, 0), (.getfield 0, 1, 13, 2, 0), (.iload 0, 1, 0, 0, 0), (.aaload, 0, 0, 0, 0)]
theorem bk_X1_leaveAtEnd_5 : xm_okb cX1_leaveAtEnd 1 3 3 false 19 5 kX1_leaveAtEnd_5 = true := by decide +kernel
def kX1_leaveAtEnd_24 : List xm_I := [(.ifCond .eq 0, 66, 0, 0, 0), (.aload 0, 2, 0, 0, 0), (.getfield 0, 0, 2, 0, 0), (.aload 0, 0, 0, 0, 0), (.getfield 0, 1, 0, 2, 0), (.getfield 0, 4, 3, 0, 0), (.if_icmp .lt 0, 66, 0, 0, 0), (.aload 0, 2, 0, 0, 0)]
theorem bk_X1_leaveAtEnd_24 : xm_okb cX1_leaveAtEnd 1 3 3 false 42 24 kX1_leaveAtEnd_24 = true := by decide +kernel
def kX1_leaveAtEnd_54 : List xm_I := [(.sipush 0, 0, 0, 0, 5)]
theorem bk_X1_leaveAtEnd_54 : xm_okb cX1_leaveAtEnd 1 3 3 false 55 54 kX1_leaveAtEnd_54 = true := by decide +kernel
def kX1_leaveAtEnd_55 : List xm_I := [(.putfield 0, 0, 3, 0, 0), (.aload 0, 2, 0, 0, 0), (.aload 0, 0, 0, 0, 0), (.getfield 0, 1, 1, 0, 0), (.putfield 0, 0, 8, 0, 0)]
theorem bk_X1_leaveAtEnd_55 : xm_okb cX1_leaveAtEnd 1 3 3 false 66 55 kX1_leaveAtEnd_55 = true := by decide +kernel
def kX1_leaveAtEnd_66 : List xm_I := [(.iinc 0 0, 1, 0, 0, 1), (.goto 0, 5, 0, 0, 0)]
theorem bk_X1_leaveAtEnd_66 : xm_okb cX1_leaveAtEnd 1 3 3 false 72 66 kX1_leaveAtEnd_66 = true := by decide +kernel
def kX1_leaveAtEnd_72 : List xm_I := [(.aload 0, 0, 0, 0, 0), (.getfield 0, 1, 15, 0, 0), (.aload 0, 0, 0, 0, 0), (.getfield 0, 1, 7, 0, 0), (.if_icmp .ge 0, 111, 0, 0, 0), (.aload 0, 0, 0, 0, 0), (.getfield 0, 1, 13, 2, 0), (.aload 0, 0, 0, 0, 0)]
theorem bk_X1_leaveAtEnd_72 : xm_okb cX1_leaveAtEnd 1 3 3 false 88 72 kX1_leaveAtEnd_72 = true := by decide +kernel
def kX1_leaveAtEnd_95 : List xm_I := [(.ifCond .ne 0, 111, 0, 0, 0), (.aload 0, 0, 0, 0, 0), (.dup, 0, 0, 0, 0), (.getfield 0, 1, 15, 0, 0), (.sipush 0, 0, 0, 0, 1), (.iadd, 0, 0, 0, 0), (.putfield 0, 1, 15, 0, 0), (.goto 0, 72, 0, 0, 0)]
theorem bk_X1_leaveAtEnd_95 : xm_okb cX1_leaveAtEnd 1 3 3 false 111 95 kX1_leaveAtEnd_95 = true := by decide +kernel
def kX1_leaveAtEnd_111 : List xm_I := [(.return_, 0, 0, 0, 0)]
theorem bk_X1_leaveAtEnd_111 : xm_okb cX1_leaveAtEnd 1 3 3 false 112 111 kX1_leaveAtEnd_111 = true := by decide +kernel
def kX1_leaveAtEnd_19 : List xm_I := [(.astore 0, 2, 0, 0, 0), (.aload 0, 2, 0, 0, 0)]
theorem bk_X1_leaveAtEnd_19 : xm_okb cX1_leaveAtEnd 1 3 3 false 21 19 kX1_leaveAtEnd_19 = true := by decide +kernel
def kX1_leaveAtEnd_42 : List xm_I := [(.aload 0, 2, 0, 0, 0), (.getfield 0, 0, 6, 0, 0), (.sipush 0, 0, 0, 0, (-1)), (.if_icmp .ne 0, 54, 0, 0, 0), (.sipush 0, 0, 0, 0, 2), (.goto 0, 55, 0, 0, 0)]
theorem bk_X1_leaveAtEnd_42 : xm_okb cX1_leaveAtEnd 1 3 3 false 54 42 kX1_leaveAtEnd_42 = true := by decide +kernel
def kX1_leaveAtEnd_88 : List xm_I := [(.getfield 0, 1, 15, 0, 0), (.aaload, 0, 0, 0, 0)]
theorem bk_X1_leaveAtEnd_88 : xm_okb cX1_leaveAtEnd 1 3 3 false 92 88 kX1_leaveAtEnd_88 = true := by decide +kernel
abbrev mt_X1_zeroTare : xm_T4 := (yX1_zeroTare, cX1_zeroTare, 3, none)
theorem mo_X1_zeroTare : xm_mo mt_X1_zeroTare 1 0 3 false false := ⟨by decide +kernel, rfl, (fun h => by cases h), rfl, by decide, ⟨by decide +kernel, by decide +kernel, by decide +kernel⟩, (wq_at mw_1_1 10 rfl), (wq_at mw_1_2 3 rfl), (fun h => by cases h), (fun _ => (wq_at mw_1_1 11 rfl)), (fun _ => (wq_at mw_1_1 12 rfl))⟩
def kX1_zeroTare_0 : List xm_I := [(.aload 0, 0, 0, 0, 0), (.aload 0, 0, 0, 0, 0), (.getfield 0, 1, 16, 0, 0), (.ifCond .ne 0, 17, 0, 0, 0), (.aload 0, 0, 0, 0, 0), (.getfield 0, 1, 17, 0, 0), (.sipush 0, 0, 0, 0, 1), (.iadd, 0, 0, 0, 0)]
theorem bk_X1_zeroTare_0 : xm_okb cX1_zeroTare 1 3 3 false 14 0 kX1_zeroTare_0 = true := by decide +kernel
def kX1_zeroTare_17 : List xm_I := [(.sipush 0, 0, 0, 0, 0)]
theorem bk_X1_zeroTare_17 : xm_okb cX1_zeroTare 1 3 3 false 18 17 kX1_zeroTare_17 = true := by decide +kernel
def kX1_zeroTare_18 : List xm_I := [(.putfield 0, 1, 17, 0, 0), (.aload 0, 0, 0, 0, 0), (.getfield 0, 1, 0, 2, 0), (.getfield 0, 4, 17, 0, 0), (.ifCond .eq 0, 45, 0, 0, 0), (.aload 0, 0, 0, 0, 0), (.getfield 0, 1, 17, 0, 0), (.aload 0, 0, 0, 0, 0)]
theorem bk_X1_zeroTare_18 : xm_okb cX1_zeroTare 1 3 3 false 36 18 kX1_zeroTare_18 = true := by decide +kernel
def kX1_zeroTare_45 : List xm_I := [(.return_, 0, 0, 0, 0)]
theorem bk_X1_zeroTare_45 : xm_okb cX1_zeroTare 1 3 3 false 46 45 kX1_zeroTare_45 = true := by decide +kernel
def kX1_zeroTare_46 : List xm_I := [(.sipush 0, 0, 0, 0, 0), (.istore 0, 1, 0, 0, 0), (.sipush 0, 0, 0, 0, 0), (.istore 0, 2, 0, 0, 0)]
theorem bk_X1_zeroTare_46 : xm_okb cX1_zeroTare 1 3 3 false 50 46 kX1_zeroTare_46 = true := by decide +kernel
def kX1_zeroTare_50 : List xm_I := [(.iload 0, 2, 0, 0, 0), (.aload 0, 0, 0, 0, 0), (.getfield 0, 1, 0, 2, 0), (.getfield 0, 4, 17, 0, 0), (.if_icmp .ge 0, 75, 0, 0, 0), (.iload 0, 1, 0, 0, 0), (.aload 0, 0, 0, 0, 0), (.iload 0, 2, 0, 0, 0)]
theorem bk_X1_zeroTare_50 : xm_okb cX1_zeroTare 1 3 3 false 64 50 kX1_zeroTare_50 = true := by decide +kernel
def kX1_zeroTare_67 : List xm_I := [(.iadd, 0, 0, 0, 0), (.istore 0, 1, 0, 0, 0), (.iinc 0 0, 2, 0, 0, 1), (.goto 0, 50, 0, 0, 0)]
theorem bk_X1_zeroTare_67 : xm_okb cX1_zeroTare 1 3 3 false 75 67 kX1_zeroTare_67 = true := by decide +kernel
def kX1_zeroTare_75 : List xm_I := [(.aload 0, 0, 0, 0, 0), (.iload 0, 1, 0, 0, 0), (.aload 0, 0, 0, 0, 0), (.getfield 0, 1, 0, 2, 0), (.getfield 0, 4, 17, 0, 0)]
theorem bk_X1_zeroTare_75 : xm_okb cX1_zeroTare 1 3 3 false 84 75 kX1_zeroTare_75 = true := by decide +kernel
def kX1_zeroTare_87 : List xm_I := [(.putfield 0, 1, 4, 0, 0), (.return_, 0, 0, 0, 0)]
theorem bk_X1_zeroTare_87 : xm_okb cX1_zeroTare 1 3 3 false 91 87 kX1_zeroTare_87 = true := by decide +kernel
def kX1_zeroTare_14 : List xm_I := [(.goto 0, 18, 0, 0, 0)]
theorem bk_X1_zeroTare_14 : xm_okb cX1_zeroTare 1 3 3 false 17 14 kX1_zeroTare_14 = true := by decide +kernel
def kX1_zeroTare_36 : List xm_I := [(.getfield 0, 1, 0, 2, 0), (.getfield 0, 4, 17, 0, 0), (.if_icmp .ge 0, 46, 0, 0, 0)]
theorem bk_X1_zeroTare_36 : xm_okb cX1_zeroTare 1 3 3 false 45 36 kX1_zeroTare_36 = true := by decide +kernel
abbrev mt_X1_confirmDiversions : xm_T4 := (yX1_confirmDiversions, cX1_confirmDiversions, 3, none)
theorem mo_X1_confirmDiversions : xm_mo mt_X1_confirmDiversions 1 0 3 false false := ⟨by decide +kernel, rfl, (fun h => by cases h), rfl, by decide, ⟨by decide +kernel, by decide +kernel, by decide +kernel⟩, (wq_at mw_1_1 13 rfl), (wq_at mw_1_2 3 rfl), (fun h => by cases h), (fun _ => (wq_at mw_1_1 14 rfl)), (fun _ => (wq_at mw_1_1 15 rfl))⟩
def kX1_confirmDiversions_0 : List xm_I := [(.sipush 0, 0, 0, 0, 0), (.istore 0, 1, 0, 0, 0)]
theorem bk_X1_confirmDiversions_0 : xm_okb cX1_confirmDiversions 1 3 3 false 2 0 kX1_confirmDiversions_0 = true := by decide +kernel
def kX1_confirmDiversions_2 : List xm_I := [(.iload 0, 1, 0, 0, 0), (.aload 0, 0, 0, 0, 0), (.getfield 0, 1, 7, 0, 0), (.if_icmp .ge 0, 119, 0, 0, 0), (.aload 0, 0, 0, 0, 0), (.getfield 0, 1, 6, 0, 0), (.ifCond .le 0, 119, 0, 0, 0), (.aload 0, 0, 0, 0, 0)]
theorem bk_X1_confirmDiversions_2 : xm_okb cX1_confirmDiversions 1 3 3 false 18 2 kX1_confirmDiversions_2 = true := by decide +kernel
def kX1_confirmDiversions_35 : List xm_I := [(.ifCond .eq 0, 113, 0, 0, 0), (.aload 0, 0, 0, 0, 0), (.getfield 0, 1, 1, 0, 0), (.aload 0, 2, 0, 0, 0), (.getfield 0, 0, 8, 0, 0), (.isub, 0, 0, 0, 0), (.aload 0, 0, 0, 0, 0), (.getfield 0, 1, 0, 2, 0)]
theorem bk_X1_confirmDiversions_35 : xm_okb cX1_confirmDiversions 1 3 3 false 51 35 kX1_confirmDiversions_35 = true := by decide +kernel
def kX1_confirmDiversions_85 : List xm_I := [(.aload 0, 0, 0, 0, 0), (.getfield 0, 1, 11, 2, 0), (.aload 0, 2, 0, 0, 0), (.getfield 0, 0, 11, 0, 0), (.dup2, 0, 0, 0, 0), (.iaload, 0, 0, 0, 0), (.sipush 0, 0, 0, 0, 1), (.iadd, 0, 0, 0, 0)]
theorem bk_X1_confirmDiversions_85 : xm_okb cX1_confirmDiversions 1 3 3 false 97 85 kX1_confirmDiversions_85 = true := by decide +kernel
def kX1_confirmDiversions_98 : List xm_I := [(.aload 0, 2, 0, 0, 0), (.sipush 0, 0, 0, 0, (-1)), (.putfield 0, 0, 11, 0, 0), (.aload 0, 0, 0, 0, 0), (.dup, 0, 0, 0, 0), (.getfield 0, 1, 6, 0, 0), (.sipush 0, 0, 0, 0, 1), (.isub, 0, 0, 0, 0)]
theorem bk_X1_confirmDiversions_98 : xm_okb cX1_confirmDiversions 1 3 3 false 110 98 kX1_confirmDiversions_98 = true := by decide +kernel
def kX1_confirmDiversions_113 : List xm_I := [(.iinc 0 0, 1, 0, 0, 1), (.goto 0, 2, 0, 0, 0)]
theorem bk_X1_confirmDiversions_113 : xm_okb cX1_confirmDiversions 1 3 3 false 119 113 kX1_confirmDiversions_113 = true := by decide +kernel
def kX1_confirmDiversions_119 : List xm_I := [(.return_, 0, 0, 0, 0)]
theorem bk_X1_confirmDiversions_119 : xm_okb cX1_confirmDiversions 1 3 3 false 120 119 kX1_confirmDiversions_119 = true := by decide +kernel
def kX1_confirmDiversions_18 : List xm_I := [(.getfield 0, 1, 13, 2, 0), (.iload 0, 1, 0, 0, 0), (.aaload, 0, 0, 0, 0), (.astore 0, 2, 0, 0, 0), (.aload 0, 0, 0, 0, 0), (.getfield 0, 1, 0, 2, 0), (.aload 0, 2, 0, 0, 0), (.getfield 0, 0, 11, 0, 0)]
theorem bk_X1_confirmDiversions_18 : xm_okb cX1_confirmDiversions 1 3 3 false 32 18 kX1_confirmDiversions_18 = true := by decide +kernel
def kX1_confirmDiversions_51 : List xm_I := [(.getfield 0, 4, 18, 0, 0), (.if_icmp .lt 0, 113, 0, 0, 0), (.aload 0, 0, 0, 0, 0), (.getfield 0, 1, 9, 2, 0), (.aload 0, 2, 0, 0, 0), (.getfield 0, 0, 11, 0, 0), (.baload, 0, 0, 0, 0), (.ifCond .eq 0, 85, 0, 0, 0)]
theorem bk_X1_confirmDiversions_51 : xm_okb cX1_confirmDiversions 1 3 3 false 69 51 kX1_confirmDiversions_51 = true := by decide +kernel
def kX1_confirmDiversions_97 : List xm_I := [(.iastore, 0, 0, 0, 0)]
theorem bk_X1_confirmDiversions_97 : xm_okb cX1_confirmDiversions 1 3 3 false 98 97 kX1_confirmDiversions_97 = true := by decide +kernel
def kX1_confirmDiversions_110 : List xm_I := [(.putfield 0, 1, 6, 0, 0)]
theorem bk_X1_confirmDiversions_110 : xm_okb cX1_confirmDiversions 1 3 3 false 113 110 kX1_confirmDiversions_110 = true := by decide +kernel
def kX1_confirmDiversions_69 : List xm_I := [(.aload 0, 0, 0, 0, 0), (.getfield 0, 1, 12, 2, 0), (.aload 0, 2, 0, 0, 0), (.getfield 0, 0, 11, 0, 0), (.dup2, 0, 0, 0, 0), (.iaload, 0, 0, 0, 0), (.sipush 0, 0, 0, 0, 1), (.iadd, 0, 0, 0, 0)]
theorem bk_X1_confirmDiversions_69 : xm_okb cX1_confirmDiversions 1 3 3 false 81 69 kX1_confirmDiversions_69 = true := by decide +kernel
def kX1_confirmDiversions_81 : List xm_I := [(.iastore, 0, 0, 0, 0), (.goto 0, 98, 0, 0, 0)]
theorem bk_X1_confirmDiversions_81 : xm_okb cX1_confirmDiversions 1 3 3 false 85 81 kX1_confirmDiversions_81 = true := by decide +kernel
abbrev mt_X1_cellAt : xm_T4 := (yX1_cellAt, cX1_cellAt, 2, (some .int))
theorem mo_X1_cellAt : xm_mo mt_X1_cellAt 1 1 0 false false := ⟨by decide +kernel, rfl, (fun h => by cases h), rfl, by decide, ⟨by decide +kernel, by decide +kernel, by decide +kernel⟩, (wq_at mw_1_1 16 rfl), (wq_at mw_1_2 3 rfl), (fun h => by cases h), (fun _ => (wq_at mw_1_1 17 rfl)), (fun _ => (wq_at mw_1_1 18 rfl))⟩
def kX1_cellAt_0 : List xm_I := [(.iload 0, 1, 0, 0, 0), (.ifCond .lt 0, 29, 0, 0, 0), (.iload 0, 1, 0, 0, 0), (.aload 0, 0, 0, 0, 0), (.getfield 0, 1, 1, 0, 0), (.if_icmp .ge 0, 29, 0, 0, 0), (.aload 0, 0, 0, 0, 0), (.getfield 0, 1, 14, 2, 0)]
theorem bk_X1_cellAt_0 : xm_okb cX1_cellAt 1 2 0 false 16 0 kX1_cellAt_0 = true := by decide +kernel
def kX1_cellAt_29 : List xm_I := [(.sipush 0, 0, 0, 0, 0)]
theorem bk_X1_cellAt_29 : xm_okb cX1_cellAt 1 2 0 false 30 29 kX1_cellAt_29 = true := by decide +kernel
def kX1_cellAt_30 : List xm_I := [(.ireturn, 0, 0, 0, 0)]
theorem bk_X1_cellAt_30 : xm_okb cX1_cellAt 1 2 0 false 31 30 kX1_cellAt_30 = true := by decide +kernel
def kX1_cellAt_16 : List xm_I := [(.aload 0, 0, 0, 0, 0), (.getfield 0, 1, 1, 0, 0), (.iload 0, 1, 0, 0, 0), (.isub, 0, 0, 0, 0), (.sipush 0, 0, 0, 0, 60), (.irem, 0, 0, 0, 0), (.iaload, 0, 0, 0, 0), (.goto 0, 30, 0, 0, 0)]
theorem bk_X1_cellAt_16 : xm_okb cX1_cellAt 1 2 0 false 29 16 kX1_cellAt_16 = true := by decide +kernel
abbrev mt_X1_isOpen : xm_T4 := (yX1_isOpen, cX1_isOpen, 2, (some .boolean))
theorem mo_X1_isOpen : xm_mo mt_X1_isOpen 1 1 1 false false := ⟨by decide +kernel, rfl, (fun h => by cases h), rfl, by decide, ⟨by decide +kernel, by decide +kernel, by decide +kernel⟩, (wq_at mw_1_1 19 rfl), (wq_at mw_1_2 3 rfl), (fun h => by cases h), (fun _ => (wq_at mw_1_1 20 rfl)), (fun _ => (wq_at mw_1_1 21 rfl))⟩
def kX1_isOpen_0 : List xm_I := [(.aload 0, 0, 0, 0, 0), (.getfield 0, 1, 8, 2, 0), (.iload 0, 1, 0, 0, 0), (.baload, 0, 0, 0, 0), (.ifCond .ne 0, 25, 0, 0, 0), (.aload 0, 0, 0, 0, 0), (.iload 0, 1, 0, 0, 0), (.aload 0, 0, 0, 0, 0)]
theorem bk_X1_isOpen_0 : xm_okb cX1_isOpen 1 2 1 false 12 0 kX1_isOpen_0 = true := by decide +kernel
def kX1_isOpen_18 : List xm_I := [(.ifCond .eq 0, 25, 0, 0, 0), (.sipush 0, 0, 0, 0, 1), (.goto 0, 26, 0, 0, 0)]
theorem bk_X1_isOpen_18 : xm_okb cX1_isOpen 1 2 1 false 25 18 kX1_isOpen_18 = true := by decide +kernel
def kX1_isOpen_25 : List xm_I := [(.sipush 0, 0, 0, 0, 0)]
theorem bk_X1_isOpen_25 : xm_okb cX1_isOpen 1 2 1 false 26 25 kX1_isOpen_25 = true := by decide +kernel
def kX1_isOpen_26 : List xm_I := [(.ireturn, 1, 0, 0, 0)]
theorem bk_X1_isOpen_26 : xm_okb cX1_isOpen 1 2 1 false 27 26 kX1_isOpen_26 = true := by decide +kernel
def kX1_isOpen_12 : List xm_I := [(.getfield 0, 1, 1, 0, 0)]
theorem bk_X1_isOpen_12 : xm_okb cX1_isOpen 1 2 1 false 15 12 kX1_isOpen_12 = true := by decide +kernel
abbrev mt_X1_isCommanded : xm_T4 := (yX1_isCommanded, cX1_isCommanded, 4, (some .boolean))
theorem mo_X1_isCommanded : xm_mo mt_X1_isCommanded 1 2 1 false false := ⟨by decide +kernel, rfl, (fun h => by cases h), rfl, by decide, ⟨by decide +kernel, by decide +kernel, by decide +kernel⟩, (wq_at mw_1_1 22 rfl), (wq_at mw_1_2 3 rfl), (fun h => by cases h), (fun _ => (wq_at mw_1_1 23 rfl)), (fun _ => (wq_at mw_1_1 24 rfl))⟩
def kX1_isCommanded_0 : List xm_I := [(.sipush 0, 0, 0, 0, 0), (.istore 0, 3, 0, 0, 0)]
theorem bk_X1_isCommanded_0 : xm_okb cX1_isCommanded 1 4 1 false 2 0 kX1_isCommanded_0 = true := by decide +kernel
def kX1_isCommanded_2 : List xm_I := [(.iload 0, 3, 0, 0, 0), (.aload 0, 0, 0, 0, 0), (.getfield 0, 1, 7, 0, 0), (.if_icmp .ge 0, 32, 0, 0, 0), (.aload 0, 0, 0, 0, 0), (.getfield 0, 1, 13, 2, 0), (.iload 0, 3, 0, 0, 0), (.aaload, 0, 0, 0, 0)]
theorem bk_X1_isCommanded_2 : xm_okb cX1_isCommanded 1 4 1 false 16 2 kX1_isCommanded_2 = true := by decide +kernel
def kX1_isCommanded_21 : List xm_I := [(.ifCond .eq 0, 26, 0, 0, 0), (.sipush 0, 0, 0, 0, 1), (.ireturn, 1, 0, 0, 0)]
theorem bk_X1_isCommanded_21 : xm_okb cX1_isCommanded 1 4 1 false 26 21 kX1_isCommanded_21 = true := by decide +kernel
def kX1_isCommanded_26 : List xm_I := [(.iinc 0 0, 3, 0, 0, 1), (.goto 0, 2, 0, 0, 0)]
theorem bk_X1_isCommanded_26 : xm_okb cX1_isCommanded 1 4 1 false 32 26 kX1_isCommanded_26 = true := by decide +kernel
def kX1_isCommanded_32 : List xm_I := [(.sipush 0, 0, 0, 0, 0), (.ireturn, 1, 0, 0, 0)]
theorem bk_X1_isCommanded_32 : xm_okb cX1_isCommanded 1 4 1 false 34 32 kX1_isCommanded_32 = true := by decide +kernel
def kX1_isCommanded_16 : List xm_I := [(.iload 0, 1, 0, 0, 0), (.iload 0, 2, 0, 0, 0)]
theorem bk_X1_isCommanded_16 : xm_okb cX1_isCommanded 1 4 1 false 18 16 kX1_isCommanded_16 = true := by decide +kernel
abbrev mt_X1_allAlarms : xm_T4 := (yX1_allAlarms, cX1_allAlarms, 3, (some .int))
theorem mo_X1_allAlarms : xm_mo mt_X1_allAlarms 1 0 0 false false := ⟨by decide +kernel, rfl, (fun h => by cases h), rfl, by decide, ⟨by decide +kernel, by decide +kernel, by decide +kernel⟩, (wq_at mw_1_1 25 rfl), (wq_at mw_1_2 3 rfl), (fun h => by cases h), (fun _ => (wq_at mw_1_1 26 rfl)), (fun _ => (wq_at mw_1_1 27 rfl))⟩
def kX1_allAlarms_0 : List xm_I := [(.sipush 0, 0, 0, 0, 0), (.istore 0, 1, 0, 0, 0), (.sipush 0, 0, 0, 0, 0), (.istore 0, 2, 0, 0, 0)]
theorem bk_X1_allAlarms_0 : xm_okb cX1_allAlarms 1 3 0 false 4 0 kX1_allAlarms_0 = true := by decide +kernel
def kX1_allAlarms_4 : List xm_I := [(.iload 0, 2, 0, 0, 0), (.aload 0, 0, 0, 0, 0), (.getfield 0, 1, 0, 2, 0), (.getfield 0, 4, 5, 0, 0), (.if_icmp .ge 0, 30, 0, 0, 0), (.iload 0, 1, 0, 0, 0), (.aload 0, 0, 0, 0, 0), (.getfield 0, 1, 12, 2, 0)]
theorem bk_X1_allAlarms_4 : xm_okb cX1_allAlarms 1 3 0 false 20 4 kX1_allAlarms_4 = true := by decide +kernel
def kX1_allAlarms_30 : List xm_I := [(.iload 0, 1, 0, 0, 0), (.ireturn, 0, 0, 0, 0)]
theorem bk_X1_allAlarms_30 : xm_okb cX1_allAlarms 1 3 0 false 32 30 kX1_allAlarms_30 = true := by decide +kernel
def kX1_allAlarms_20 : List xm_I := [(.iload 0, 2, 0, 0, 0), (.iaload, 0, 0, 0, 0), (.iadd, 0, 0, 0, 0), (.istore 0, 1, 0, 0, 0), (.iinc 0 0, 2, 0, 0, 1), (.goto 0, 4, 0, 0, 0)]
theorem bk_X1_allAlarms_20 : xm_okb cX1_allAlarms 1 3 0 false 30 20 kX1_allAlarms_20 = true := by decide +kernel
abbrev mt_X1_itemsIn : xm_T4 := (yX1_itemsIn, cX1_itemsIn, 4, (some .int))
theorem mo_X1_itemsIn : xm_mo mt_X1_itemsIn 1 1 0 false false := ⟨by decide +kernel, rfl, (fun h => by cases h), rfl, by decide, ⟨by decide +kernel, by decide +kernel, by decide +kernel⟩, (wq_at mw_1_1 28 rfl), (wq_at mw_1_2 3 rfl), (fun h => by cases h), (fun _ => (wq_at mw_1_1 29 rfl)), (fun _ => (wq_at mw_1_1 30 rfl))⟩
def kX1_itemsIn_0 : List xm_I := [(.sipush 0, 0, 0, 0, 0), (.istore 0, 2, 0, 0, 0), (.sipush 0, 0, 0, 0, 0), (.istore 0, 3, 0, 0, 0)]
theorem bk_X1_itemsIn_0 : xm_okb cX1_itemsIn 1 4 0 false 4 0 kX1_itemsIn_0 = true := by decide +kernel
def kX1_itemsIn_4 : List xm_I := [(.iload 0, 3, 0, 0, 0), (.aload 0, 0, 0, 0, 0), (.getfield 0, 1, 7, 0, 0), (.if_icmp .ge 0, 34, 0, 0, 0), (.aload 0, 0, 0, 0, 0), (.getfield 0, 1, 13, 2, 0), (.iload 0, 3, 0, 0, 0), (.aaload, 0, 0, 0, 0)]
theorem bk_X1_itemsIn_4 : xm_okb cX1_itemsIn 1 4 0 false 18 4 kX1_itemsIn_4 = true := by decide +kernel
def kX1_itemsIn_28 : List xm_I := [(.iinc 0 0, 3, 0, 0, 1), (.goto 0, 4, 0, 0, 0)]
theorem bk_X1_itemsIn_28 : xm_okb cX1_itemsIn 1 4 0 false 34 28 kX1_itemsIn_28 = true := by decide +kernel
def kX1_itemsIn_34 : List xm_I := [(.iload 0, 2, 0, 0, 0), (.ireturn, 0, 0, 0, 0)]
theorem bk_X1_itemsIn_34 : xm_okb cX1_itemsIn 1 4 0 false 36 34 kX1_itemsIn_34 = true := by decide +kernel
def kX1_itemsIn_18 : List xm_I := [(.getfield 0, 0, 3, 0, 0), (.iload 0, 1, 0, 0, 0), (.if_icmp .ne 0, 28, 0, 0, 0), (.iinc 0 0, 2, 0, 0, 1)]
theorem bk_X1_itemsIn_18 : xm_okb cX1_itemsIn 1 4 0 false 28 18 kX1_itemsIn_18 = true := by decide +kernel
abbrev mt_X1_itemsOf : xm_T4 := (yX1_itemsOf, cX1_itemsOf, 4, (some .int))
theorem mo_X1_itemsOf : xm_mo mt_X1_itemsOf 1 1 0 false false := ⟨by decide +kernel, rfl, (fun h => by cases h), rfl, by decide, ⟨by decide +kernel, by decide +kernel, by decide +kernel⟩, (wq_at mw_1_1 31 rfl), (wq_at mw_1_2 3 rfl), (fun h => by cases h), (fun _ => (wq_at mw_1_1 32 rfl)), (fun _ => (wq_at mw_1_1 33 rfl))⟩
def kX1_itemsOf_0 : List xm_I := [(.sipush 0, 0, 0, 0, 0), (.istore 0, 2, 0, 0, 0), (.sipush 0, 0, 0, 0, 0), (.istore 0, 3, 0, 0, 0)]
theorem bk_X1_itemsOf_0 : xm_okb cX1_itemsOf 1 4 0 false 4 0 kX1_itemsOf_0 = true := by decide +kernel
def kX1_itemsOf_4 : List xm_I := [(.iload 0, 3, 0, 0, 0), (.aload 0, 0, 0, 0, 0), (.getfield 0, 1, 7, 0, 0), (.if_icmp .ge 0, 34, 0, 0, 0), (.aload 0, 0, 0, 0, 0), (.getfield 0, 1, 13, 2, 0), (.iload 0, 3, 0, 0, 0), (.aaload, 0, 0, 0, 0)]
theorem bk_X1_itemsOf_4 : xm_okb cX1_itemsOf 1 4 0 false 18 4 kX1_itemsOf_4 = true := by decide +kernel
def kX1_itemsOf_28 : List xm_I := [(.iinc 0 0, 3, 0, 0, 1), (.goto 0, 4, 0, 0, 0)]
theorem bk_X1_itemsOf_28 : xm_okb cX1_itemsOf 1 4 0 false 34 28 kX1_itemsOf_28 = true := by decide +kernel
def kX1_itemsOf_34 : List xm_I := [(.iload 0, 2, 0, 0, 0), (.ireturn, 0, 0, 0, 0)]
theorem bk_X1_itemsOf_34 : xm_okb cX1_itemsOf 1 4 0 false 36 34 kX1_itemsOf_34 = true := by decide +kernel
def kX1_itemsOf_18 : List xm_I := [(.getfield 0, 0, 5, 0, 0), (.iload 0, 1, 0, 0, 0), (.if_icmp .ne 0, 28, 0, 0, 0), (.iinc 0 0, 2, 0, 0, 1)]
theorem bk_X1_itemsOf_18 : xm_okb cX1_itemsOf 1 4 0 false 28 18 kX1_itemsOf_18 = true := by decide +kernel
abbrev mt_X1_sumOfGood : xm_T4 := (yX1_sumOfGood, cX1_sumOfGood, 3, (some .int))
theorem mo_X1_sumOfGood : xm_mo mt_X1_sumOfGood 1 0 0 false false := ⟨by decide +kernel, rfl, (fun h => by cases h), rfl, by decide, ⟨by decide +kernel, by decide +kernel, by decide +kernel⟩, (wq_at mw_1_1 34 rfl), (wq_at mw_1_2 3 rfl), (fun h => by cases h), (fun _ => (wq_at mw_1_1 35 rfl)), (fun _ => (wq_at mw_1_1 36 rfl))⟩
def kX1_sumOfGood_0 : List xm_I := [(.sipush 0, 0, 0, 0, 0), (.istore 0, 1, 0, 0, 0), (.sipush 0, 0, 0, 0, 0), (.istore 0, 2, 0, 0, 0)]
theorem bk_X1_sumOfGood_0 : xm_okb cX1_sumOfGood 1 3 0 false 4 0 kX1_sumOfGood_0 = true := by decide +kernel
def kX1_sumOfGood_4 : List xm_I := [(.iload 0, 2, 0, 0, 0), (.aload 0, 0, 0, 0, 0), (.getfield 0, 1, 7, 0, 0), (.if_icmp .ge 0, 43, 0, 0, 0), (.aload 0, 0, 0, 0, 0), (.getfield 0, 1, 13, 2, 0), (.iload 0, 2, 0, 0, 0), (.aaload, 0, 0, 0, 0)]
theorem bk_X1_sumOfGood_4 : xm_okb cX1_sumOfGood 1 3 0 false 18 4 kX1_sumOfGood_4 = true := by decide +kernel
def kX1_sumOfGood_37 : List xm_I := [(.iinc 0 0, 2, 0, 0, 1), (.goto 0, 4, 0, 0, 0)]
theorem bk_X1_sumOfGood_37 : xm_okb cX1_sumOfGood 1 3 0 false 43 37 kX1_sumOfGood_37 = true := by decide +kernel
def kX1_sumOfGood_43 : List xm_I := [(.iload 0, 1, 0, 0, 0), (.ireturn, 0, 0, 0, 0)]
theorem bk_X1_sumOfGood_43 : xm_okb cX1_sumOfGood 1 3 0 false 45 43 kX1_sumOfGood_43 = true := by decide +kernel
def kX1_sumOfGood_18 : List xm_I := [(.getfield 0, 0, 5, 0, 0), (.sipush 0, 0, 0, 0, 1), (.if_icmp .ne 0, 37, 0, 0, 0), (.iload 0, 1, 0, 0, 0), (.aload 0, 0, 0, 0, 0), (.getfield 0, 1, 13, 2, 0), (.iload 0, 2, 0, 0, 0), (.aaload, 0, 0, 0, 0)]
theorem bk_X1_sumOfGood_18 : xm_okb cX1_sumOfGood 1 3 0 false 32 18 kX1_sumOfGood_18 = true := by decide +kernel
def kX1_sumOfGood_32 : List xm_I := [(.getfield 0, 0, 13, 0, 0), (.iadd, 0, 0, 0, 0), (.istore 0, 1, 0, 0, 0)]
theorem bk_X1_sumOfGood_32 : xm_okb cX1_sumOfGood 1 3 0 false 37 32 kX1_sumOfGood_32 = true := by decide +kernel
abbrev mt_X1_itemsWithResult : xm_T4 := (yX1_itemsWithResult, cX1_itemsWithResult, 3, (some .int))
theorem mo_X1_itemsWithResult : xm_mo mt_X1_itemsWithResult 1 0 0 false false := ⟨by decide +kernel, rfl, (fun h => by cases h), rfl, by decide, ⟨by decide +kernel, by decide +kernel, by decide +kernel⟩, (wq_at mw_1_1 37 rfl), (wq_at mw_1_2 3 rfl), (fun h => by cases h), (fun _ => (wq_at mw_1_1 38 rfl)), (fun _ => (wq_at mw_1_1 39 rfl))⟩
def kX1_itemsWithResult_0 : List xm_I := [(.sipush 0, 0, 0, 0, 0), (.istore 0, 1, 0, 0, 0), (.sipush 0, 0, 0, 0, 0), (.istore 0, 2, 0, 0, 0)]
theorem bk_X1_itemsWithResult_0 : xm_okb cX1_itemsWithResult 1 3 0 false 4 0 kX1_itemsWithResult_0 = true := by decide +kernel
def kX1_itemsWithResult_4 : List xm_I := [(.iload 0, 2, 0, 0, 0), (.aload 0, 0, 0, 0, 0), (.getfield 0, 1, 7, 0, 0), (.if_icmp .ge 0, 33, 0, 0, 0), (.aload 0, 0, 0, 0, 0), (.getfield 0, 1, 13, 2, 0), (.iload 0, 2, 0, 0, 0), (.aaload, 0, 0, 0, 0)]
theorem bk_X1_itemsWithResult_4 : xm_okb cX1_itemsWithResult 1 3 0 false 18 4 kX1_itemsWithResult_4 = true := by decide +kernel
def kX1_itemsWithResult_27 : List xm_I := [(.iinc 0 0, 2, 0, 0, 1), (.goto 0, 4, 0, 0, 0)]
theorem bk_X1_itemsWithResult_27 : xm_okb cX1_itemsWithResult 1 3 0 false 33 27 kX1_itemsWithResult_27 = true := by decide +kernel
def kX1_itemsWithResult_33 : List xm_I := [(.iload 0, 1, 0, 0, 0), (.ireturn, 0, 0, 0, 0)]
theorem bk_X1_itemsWithResult_33 : xm_okb cX1_itemsWithResult 1 3 0 false 35 33 kX1_itemsWithResult_33 = true := by decide +kernel
def kX1_itemsWithResult_18 : List xm_I := [(.getfield 0, 0, 12, 1, 0), (.ifCond .eq 0, 27, 0, 0, 0), (.iinc 0 0, 1, 0, 0, 1)]
theorem bk_X1_itemsWithResult_18 : xm_okb cX1_itemsWithResult 1 3 0 false 27 18 kX1_itemsWithResult_18 = true := by decide +kernel
abbrev mt_X1_sumOfErrors : xm_T4 := (yX1_sumOfErrors, cX1_sumOfErrors, 3, (some .int))
theorem mo_X1_sumOfErrors : xm_mo mt_X1_sumOfErrors 1 0 0 false false := ⟨by decide +kernel, rfl, (fun h => by cases h), rfl, by decide, ⟨by decide +kernel, by decide +kernel, by decide +kernel⟩, (wq_at mw_1_2 0 rfl), (wq_at mw_1_2 3 rfl), (fun h => by cases h), (fun _ => (wq_at mw_1_2 1 rfl)), (fun _ => (wq_at mw_1_2 2 rfl))⟩
def kX1_sumOfErrors_0 : List xm_I := [(.sipush 0, 0, 0, 0, 0), (.istore 0, 1, 0, 0, 0), (.sipush 0, 0, 0, 0, 0), (.istore 0, 2, 0, 0, 0)]
theorem bk_X1_sumOfErrors_0 : xm_okb cX1_sumOfErrors 1 3 0 false 4 0 kX1_sumOfErrors_0 = true := by decide +kernel
def kX1_sumOfErrors_4 : List xm_I := [(.iload 0, 2, 0, 0, 0), (.aload 0, 0, 0, 0, 0), (.getfield 0, 1, 7, 0, 0), (.if_icmp .ge 0, 55, 0, 0, 0), (.aload 0, 0, 0, 0, 0), (.getfield 0, 1, 13, 2, 0), (.iload 0, 2, 0, 0, 0), (.aaload, 0, 0, 0, 0)]
theorem bk_X1_sumOfErrors_4 : xm_okb cX1_sumOfErrors 1 3 0 false 18 4 kX1_sumOfErrors_4 = true := by decide +kernel
def kX1_sumOfErrors_47 : List xm_I := [(.iadd, 0, 0, 0, 0), (.istore 0, 1, 0, 0, 0)]
theorem bk_X1_sumOfErrors_47 : xm_okb cX1_sumOfErrors 1 3 0 false 49 47 kX1_sumOfErrors_47 = true := by decide +kernel
def kX1_sumOfErrors_49 : List xm_I := [(.iinc 0 0, 2, 0, 0, 1), (.goto 0, 4, 0, 0, 0)]
theorem bk_X1_sumOfErrors_49 : xm_okb cX1_sumOfErrors 1 3 0 false 55 49 kX1_sumOfErrors_49 = true := by decide +kernel
def kX1_sumOfErrors_55 : List xm_I := [(.iload 0, 1, 0, 0, 0), (.ireturn, 0, 0, 0, 0)]
theorem bk_X1_sumOfErrors_55 : xm_okb cX1_sumOfErrors 1 3 0 false 57 55 kX1_sumOfErrors_55 = true := by decide +kernel
def kX1_sumOfErrors_18 : List xm_I := [(.getfield 0, 0, 12, 1, 0), (.ifCond .eq 0, 49, 0, 0, 0), (.iload 0, 1, 0, 0, 0), (.aload 0, 0, 0, 0, 0), (.getfield 0, 1, 13, 2, 0), (.iload 0, 2, 0, 0, 0), (.aaload, 0, 0, 0, 0), (.getfield 0, 0, 13, 0, 0)]
theorem bk_X1_sumOfErrors_18 : xm_okb cX1_sumOfErrors 1 3 0 false 34 18 kX1_sumOfErrors_18 = true := by decide +kernel
def kX1_sumOfErrors_34 : List xm_I := [(.aload 0, 0, 0, 0, 0), (.getfield 0, 1, 13, 2, 0), (.iload 0, 2, 0, 0, 0), (.aaload, 0, 0, 0, 0), (.getfield 0, 0, 0, 0, 0), (.isub, 0, 0, 0, 0)]
theorem bk_X1_sumOfErrors_34 : xm_okb cX1_sumOfErrors 1 3 0 false 44 34 kX1_sumOfErrors_34 = true := by decide +kernel

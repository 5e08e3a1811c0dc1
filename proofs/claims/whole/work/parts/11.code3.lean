/-! CODE of CheckWeigher$ResidueTable: what is fixed of its methods, and their blocks, by program -/
abbrev mt_X3_init : xm_T4 := (yX3_init, cX3_init, 2, none)
theorem mo_X3_init : xm_mo mt_X3_init 3 1 3 true false := ⟨by decide +kernel, rfl, (fun _ => rfl), rfl, by decide, ⟨by decide +kernel, by decide +kernel, by decide +kernel⟩, (wq_at mw_3_0 0 rfl), (wq_at mw_3_0 14 rfl), (fun h => by cases h), (fun _ => (wq_at mw_3_0 1 rfl)), (fun h => by cases h.2)⟩
def kX3_init_0 : List xm_I := [(.aload 0, 0, 0, 0, 0)]
theorem bk_X3_init_0 : xm_okb cX3_init 3 2 3 true 1 0 kX3_init_0 = true := by decide +kernel
def kX3_init_4 : List xm_I := [(.aload 0, 0, 0, 0, 0), (.sipush 0, 0, 0, 0, 1740)]
theorem bk_X3_init_4 : xm_okb cX3_init 3 2 3 true 8 4 kX3_init_4 = true := by decide +kernel
def kX3_init_10 : List xm_I := [(.putfield 0, 3, 2, 2, 0), (.aload 0, 0, 0, 0, 0), (.sipush 0, 0, 0, 0, 61)]
theorem bk_X3_init_10 : xm_okb cX3_init 3 2 3 true 16 10 kX3_init_10 = true := by decide +kernel
def kX3_init_18 : List xm_I := [(.putfield 0, 3, 3, 2, 0), (.aload 0, 0, 0, 0, 0), (.aload 0, 1, 0, 0, 0)]
theorem bk_X3_init_18 : xm_okb cX3_init 3 2 3 true 23 18 kX3_init_18 = true := by decide +kernel
def kX3_init_26 : List xm_I := [(.return_, 0, 0, 0, 0)]
theorem bk_X3_init_26 : xm_okb cX3_init 3 2 3 true 27 26 kX3_init_26 = true := by decide +kernel
abbrev mt_X3_begin : xm_T4 := (yX3_begin, cX3_begin, 3, none)
theorem mo_X3_begin : xm_mo mt_X3_begin 3 1 3 false false := ⟨by decide +kernel, rfl, (fun h => by cases h), rfl, by decide, ⟨by decide +kernel, by decide +kernel, by decide +kernel⟩, (wq_at mw_3_0 2 rfl), (wq_at mw_3_0 14 rfl), (fun h => by cases h), (fun _ => (wq_at mw_3_0 3 rfl)), (fun _ => (wq_at mw_3_0 4 rfl))⟩
def kX3_begin_0 : List xm_I := [(.aload 0, 0, 0, 0, 0), (.aload 0, 1, 0, 0, 0), (.putfield 0, 3, 0, 2, 0), (.aload 0, 0, 0, 0, 0), (.sipush 0, 0, 0, 0, 0), (.putfield 0, 3, 1, 1, 0), (.sipush 0, 0, 0, 0, 0), (.istore 0, 2, 0, 0, 0)]
theorem bk_X3_begin_0 : xm_okb cX3_begin 3 3 3 false 12 0 kX3_begin_0 = true := by decide +kernel
def kX3_begin_12 : List xm_I := [(.iload 0, 2, 0, 0, 0), (.aload 0, 0, 0, 0, 0), (.getfield 0, 3, 3, 2, 0), (.arraylength, 0, 0, 0, 0), (.if_icmp .ge 0, 34, 0, 0, 0), (.aload 0, 0, 0, 0, 0), (.getfield 0, 3, 3, 2, 0), (.iload 0, 2, 0, 0, 0)]
theorem bk_X3_begin_12 : xm_okb cX3_begin 3 3 3 false 26 12 kX3_begin_12 = true := by decide +kernel
def kX3_begin_34 : List xm_I := [(.return_, 0, 0, 0, 0)]
theorem bk_X3_begin_34 : xm_okb cX3_begin 3 3 3 false 35 34 kX3_begin_34 = true := by decide +kernel
def kX3_begin_26 : List xm_I := [(.sipush 0, 0, 0, 0, (-1)), (.iastore, 0, 0, 0, 0), (.iinc 0 0, 2, 0, 0, 1), (.goto 0, 12, 0, 0, 0)]
theorem bk_X3_begin_26 : xm_okb cX3_begin 3 3 3 false 34 26 kX3_begin_26 = true := by decide +kernel
abbrev mt_X3_worstSum : xm_T4 := (yX3_worstSum, cX3_worstSum, 2, (some .int))
theorem mo_X3_worstSum : xm_mo mt_X3_worstSum 3 1 0 false false := ⟨by decide +kernel, rfl, (fun h => by cases h), rfl, by decide, ⟨by decide +kernel, by decide +kernel, by decide +kernel⟩, (wq_at mw_3_0 5 rfl), (wq_at mw_3_0 14 rfl), (fun h => by cases h), (fun _ => (wq_at mw_3_0 6 rfl)), (fun _ => (wq_at mw_3_0 7 rfl))⟩
def kX3_worstSum_0 : List xm_I := [(.iload 0, 1, 0, 0, 0)]
theorem bk_X3_worstSum_0 : xm_okb cX3_worstSum 3 2 0 false 1 0 kX3_worstSum_0 = true := by decide +kernel
def kX3_worstSum_4 : List xm_I := [(.ifCond .ne 0, 9, 0, 0, 0), (.sipush 0, 0, 0, 0, 0), (.ireturn, 0, 0, 0, 0)]
theorem bk_X3_worstSum_4 : xm_okb cX3_worstSum 3 2 0 false 9 4 kX3_worstSum_4 = true := by decide +kernel
def kX3_worstSum_9 : List xm_I := [(.aload 0, 0, 0, 0, 0), (.getfield 0, 3, 3, 2, 0), (.iload 0, 1, 0, 0, 0), (.iaload, 0, 0, 0, 0), (.sipush 0, 0, 0, 0, (-1)), (.if_icmp .ne 0, 34, 0, 0, 0), (.aload 0, 0, 0, 0, 0)]
theorem bk_X3_worstSum_9 : xm_okb cX3_worstSum 3 2 0 false 20 9 kX3_worstSum_9 = true := by decide +kernel
def kX3_worstSum_23 : List xm_I := [(.aload 0, 0, 0, 0, 0), (.getfield 0, 3, 3, 2, 0), (.iload 0, 1, 0, 0, 0), (.aload 0, 0, 0, 0, 0), (.iload 0, 1, 0, 0, 0)]
theorem bk_X3_worstSum_23 : xm_okb cX3_worstSum 3 2 0 false 30 23 kX3_worstSum_23 = true := by decide +kernel
def kX3_worstSum_33 : List xm_I := [(.iastore, 0, 0, 0, 0)]
theorem bk_X3_worstSum_33 : xm_okb cX3_worstSum 3 2 0 false 34 33 kX3_worstSum_33 = true := by decide +kernel
def kX3_worstSum_34 : List xm_I := [(.aload 0, 0, 0, 0, 0), (.getfield 0, 3, 3, 2, 0), (.iload 0, 1, 0, 0, 0), (.iaload, 0, 0, 0, 0), (.ireturn, 0, 0, 0, 0)]
theorem bk_X3_worstSum_34 : xm_okb cX3_worstSum 3 2 0 false 41 34 kX3_worstSum_34 = true := by decide +kernel
abbrev mt_X3_addUp : xm_T4 := (yX3_addUp, cX3_addUp, 2, none)
theorem mo_X3_addUp : xm_mo mt_X3_addUp 3 0 3 false false := ⟨by decide +kernel, rfl, (fun h => by cases h), rfl, by decide, ⟨by decide +kernel, by decide +kernel, by decide +kernel⟩, (wq_at mw_3_0 8 rfl), (wq_at mw_3_0 14 rfl), (fun h => by cases h), (fun _ => (wq_at mw_3_0 9 rfl)), (fun _ => (wq_at mw_3_0 10 rfl))⟩
def kX3_addUp_0 : List xm_I := [(.aload 0, 0, 0, 0, 0), (.getfield 0, 3, 1, 1, 0), (.ifCond .eq 0, 8, 0, 0, 0), (.return_, 0, 0, 0, 0)]
theorem bk_X3_addUp_0 : xm_okb cX3_addUp 3 2 3 false 8 0 kX3_addUp_0 = true := by decide +kernel
def kX3_addUp_8 : List xm_I := [(.aload 0, 0, 0, 0, 0), (.getfield 0, 3, 2, 2, 0), (.sipush 0, 0, 0, 0, 0), (.sipush 0, 0, 0, 0, 0), (.iastore, 0, 0, 0, 0), (.sipush 0, 0, 0, 0, 1), (.istore 0, 1, 0, 0, 0)]
theorem bk_X3_addUp_8 : xm_okb cX3_addUp 3 2 3 false 17 8 kX3_addUp_8 = true := by decide +kernel
def kX3_addUp_17 : List xm_I := [(.iload 0, 1, 0, 0, 0), (.aload 0, 0, 0, 0, 0), (.getfield 0, 3, 2, 2, 0), (.arraylength, 0, 0, 0, 0), (.if_icmp .ge 0, 57, 0, 0, 0), (.aload 0, 0, 0, 0, 0), (.getfield 0, 3, 2, 2, 0), (.iload 0, 1, 0, 0, 0)]
theorem bk_X3_addUp_17 : xm_okb cX3_addUp 3 2 3 false 31 17 kX3_addUp_17 = true := by decide +kernel
def kX3_addUp_49 : List xm_I := [(.iadd, 0, 0, 0, 0), (.iastore, 0, 0, 0, 0), (.iinc 0 0, 1, 0, 0, 1), (.goto 0, 17, 0, 0, 0)]
theorem bk_X3_addUp_49 : xm_okb cX3_addUp 3 2 3 false 57 49 kX3_addUp_49 = true := by decide +kernel
def kX3_addUp_57 : List xm_I := [(.aload 0, 0, 0, 0, 0), (.sipush 0, 0, 0, 0, 1), (.putfield 0, 3, 1, 1, 0), (.return_, 0, 0, 0, 0)]
theorem bk_X3_addUp_57 : xm_okb cX3_addUp 3 2 3 false 63 57 kX3_addUp_57 = true := by decide +kernel
def kX3_addUp_31 : List xm_I := [(.aload 0, 0, 0, 0, 0), (.getfield 0, 3, 2, 2, 0), (.iload 0, 1, 0, 0, 0), (.sipush 0, 0, 0, 0, 1), (.isub, 0, 0, 0, 0), (.iaload, 0, 0, 0, 0), (.aload 0, 0, 0, 0, 0), (.getfield 0, 3, 0, 2, 0)]
theorem bk_X3_addUp_31 : xm_okb cX3_addUp 3 2 3 false 43 31 kX3_addUp_31 = true := by decide +kernel
def kX3_addUp_43 : List xm_I := [(.iload 0, 1, 0, 0, 0), (.sipush 0, 0, 0, 0, 1), (.isub, 0, 0, 0, 0)]
theorem bk_X3_addUp_43 : xm_okb cX3_addUp 3 2 3 false 46 43 kX3_addUp_43 = true := by decide +kernel
abbrev mt_X3_greatestSum : xm_T4 := (yX3_greatestSum, cX3_greatestSum, 4, (some .int))
theorem mo_X3_greatestSum : xm_mo mt_X3_greatestSum 3 1 0 false false := ⟨by decide +kernel, rfl, (fun h => by cases h), rfl, by decide, ⟨by decide +kernel, by decide +kernel, by decide +kernel⟩, (wq_at mw_3_0 11 rfl), (wq_at mw_3_0 14 rfl), (fun h => by cases h), (fun _ => (wq_at mw_3_0 12 rfl)), (fun _ => (wq_at mw_3_0 13 rfl))⟩
def kX3_greatestSum_0 : List xm_I := [(.sipush 0, 0, 0, 0, 0), (.istore 0, 2, 0, 0, 0), (.sipush 0, 0, 0, 0, 0), (.istore 0, 3, 0, 0, 0)]
theorem bk_X3_greatestSum_0 : xm_okb cX3_greatestSum 3 4 0 false 4 0 kX3_greatestSum_0 = true := by decide +kernel
def kX3_greatestSum_4 : List xm_I := [(.iload 0, 3, 0, 0, 0), (.sipush 0, 0, 0, 0, 1680), (.if_icmp .ge 0, 51, 0, 0, 0), (.iload 0, 3, 0, 0, 0), (.iload 0, 1, 0, 0, 0), (.iadd, 0, 0, 0, 0), (.aload 0, 0, 0, 0, 0), (.getfield 0, 3, 2, 2, 0)]
theorem bk_X3_greatestSum_4 : xm_okb cX3_greatestSum 3 4 0 false 18 4 kX3_greatestSum_4 = true := by decide +kernel
def kX3_greatestSum_44 : List xm_I := [(.istore 0, 2, 0, 0, 0), (.iinc 0 0, 3, 0, 0, 1), (.goto 0, 4, 0, 0, 0)]
theorem bk_X3_greatestSum_44 : xm_okb cX3_greatestSum 3 4 0 false 51 44 kX3_greatestSum_44 = true := by decide +kernel
def kX3_greatestSum_51 : List xm_I := [(.iload 0, 2, 0, 0, 0), (.ireturn, 0, 0, 0, 0)]
theorem bk_X3_greatestSum_51 : xm_okb cX3_greatestSum 3 4 0 false 53 51 kX3_greatestSum_51 = true := by decide +kernel
def kX3_greatestSum_18 : List xm_I := [(.arraylength, 0, 0, 0, 0), (.if_icmp .ge 0, 51, 0, 0, 0), (.iload 0, 2, 0, 0, 0), (.aload 0, 0, 0, 0, 0), (.getfield 0, 3, 2, 2, 0), (.iload 0, 3, 0, 0, 0), (.iload 0, 1, 0, 0, 0), (.iadd, 0, 0, 0, 0)]
theorem bk_X3_greatestSum_18 : xm_okb cX3_greatestSum 3 4 0 false 30 18 kX3_greatestSum_18 = true := by decide +kernel
def kX3_greatestSum_30 : List xm_I := [(.iaload, 0, 0, 0, 0), (.aload 0, 0, 0, 0, 0), (.getfield 0, 3, 2, 2, 0), (.iload 0, 3, 0, 0, 0), (.iaload, 0, 0, 0, 0), (.isub, 0, 0, 0, 0)]
theorem bk_X3_greatestSum_30 : xm_okb cX3_greatestSum 3 4 0 false 38 30 kX3_greatestSum_30 = true := by decide +kernel

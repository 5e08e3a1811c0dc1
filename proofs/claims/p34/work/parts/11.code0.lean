/-! CODE of CheckWeigher$Item: what is fixed of its methods, and their blocks, by program -/
abbrev mt_X0_init : xm_T4 := (yX0_init, cX0_init, 1, none)
theorem mo_X0_init : xm_mo mt_X0_init 0 0 3 true false := ⟨by decide +kernel, rfl, (fun _ => rfl), rfl, by decide, ⟨by decide +kernel, by decide +kernel, by decide +kernel⟩, (wq_at mw_0_0 0 rfl), (wq_at mw_0_0 23 rfl), (fun h => by cases h), (fun _ => (wq_at mw_0_0 1 rfl)), (fun h => by cases h.2)⟩
def kX0_init_0 : List xm_I := [(.aload 0, 0, 0, 0, 0)]
theorem bk_X0_init_0 : xm_okb cX0_init 0 1 3 true 1 0 kX0_init_0 = true := by decide +kernel
def kX0_init_4 : List xm_I := [(.aload 0, 0, 0, 0, 0), (.sipush 0, 0, 0, 0, 60)]
theorem bk_X0_init_4 : xm_okb cX0_init 0 1 3 true 7 4 kX0_init_4 = true := by decide +kernel
def kX0_init_9 : List xm_I := [(.putfield 0, 0, 16, 2, 0), (.return_, 0, 0, 0, 0)]
theorem bk_X0_init_9 : xm_okb cX0_init 0 1 3 true 13 9 kX0_init_9 = true := by decide +kernel
abbrev mt_X0_begin : xm_T4 := (yX0_begin, cX0_begin, 3, none)
theorem mo_X0_begin : xm_mo mt_X0_begin 0 2 3 false false := ⟨by decide +kernel, rfl, (fun h => by cases h), rfl, by decide, ⟨by decide +kernel, by decide +kernel, by decide +kernel⟩, (wq_at mw_0_0 2 rfl), (wq_at mw_0_0 23 rfl), (fun h => by cases h), (fun _ => (wq_at mw_0_0 3 rfl)), (fun _ => (wq_at mw_0_0 4 rfl))⟩
def kX0_begin_0 : List xm_I := [(.aload 0, 0, 0, 0, 0), (.iload 0, 1, 0, 0, 0), (.putfield 0, 0, 0, 0, 0), (.aload 0, 0, 0, 0, 0), (.iload 0, 2, 0, 0, 0), (.putfield 0, 0, 1, 0, 0), (.aload 0, 0, 0, 0, 0), (.sipush 0, 0, 0, 0, 0)]
theorem bk_X0_begin_0 : xm_okb cX0_begin 0 3 3 false 12 0 kX0_begin_0 = true := by decide +kernel
def kX0_begin_12 : List xm_I := [(.putfield 0, 0, 2, 0, 0), (.aload 0, 0, 0, 0, 0), (.sipush 0, 0, 0, 0, 0), (.putfield 0, 0, 3, 0, 0), (.aload 0, 0, 0, 0, 0), (.sipush 0, 0, 0, 0, 0), (.putfield 0, 0, 4, 1, 0), (.aload 0, 0, 0, 0, 0)]
theorem bk_X0_begin_12 : xm_okb cX0_begin 0 3 3 false 26 12 kX0_begin_12 = true := by decide +kernel
def kX0_begin_26 : List xm_I := [(.sipush 0, 0, 0, 0, (-1)), (.putfield 0, 0, 5, 0, 0), (.aload 0, 0, 0, 0, 0), (.sipush 0, 0, 0, 0, (-1)), (.putfield 0, 0, 6, 0, 0), (.aload 0, 0, 0, 0, 0), (.sipush 0, 0, 0, 0, (-1)), (.putfield 0, 0, 7, 0, 0)]
theorem bk_X0_begin_26 : xm_okb cX0_begin 0 3 3 false 40 26 kX0_begin_26 = true := by decide +kernel
def kX0_begin_40 : List xm_I := [(.aload 0, 0, 0, 0, 0), (.sipush 0, 0, 0, 0, (-1)), (.putfield 0, 0, 8, 0, 0), (.aload 0, 0, 0, 0, 0), (.sipush 0, 0, 0, 0, 0), (.putfield 0, 0, 9, 0, 0), (.aload 0, 0, 0, 0, 0), (.sipush 0, 0, 0, 0, 0)]
theorem bk_X0_begin_40 : xm_okb cX0_begin 0 3 3 false 52 40 kX0_begin_40 = true := by decide +kernel
def kX0_begin_52 : List xm_I := [(.putfield 0, 0, 10, 0, 0), (.aload 0, 0, 0, 0, 0), (.sipush 0, 0, 0, 0, (-1)), (.putfield 0, 0, 11, 0, 0), (.aload 0, 0, 0, 0, 0), (.sipush 0, 0, 0, 0, 0), (.putfield 0, 0, 12, 1, 0), (.aload 0, 0, 0, 0, 0)]
theorem bk_X0_begin_52 : xm_okb cX0_begin 0 3 3 false 66 52 kX0_begin_52 = true := by decide +kernel
def kX0_begin_66 : List xm_I := [(.sipush 0, 0, 0, 0, 0), (.putfield 0, 0, 13, 0, 0), (.aload 0, 0, 0, 0, 0), (.sipush 0, 0, 0, 0, 0), (.putfield 0, 0, 14, 0, 0), (.aload 0, 0, 0, 0, 0), (.sipush 0, 0, 0, 0, 0), (.putfield 0, 0, 15, 0, 0)]
theorem bk_X0_begin_66 : xm_okb cX0_begin 0 3 3 false 80 66 kX0_begin_66 = true := by decide +kernel
def kX0_begin_80 : List xm_I := [(.return_, 0, 0, 0, 0)]
theorem bk_X0_begin_80 : xm_okb cX0_begin 0 3 3 false 81 80 kX0_begin_80 = true := by decide +kernel
abbrev mt_X0_rides : xm_T4 := (yX0_rides, cX0_rides, 1, (some .boolean))
theorem mo_X0_rides : xm_mo mt_X0_rides 0 0 1 false false := ⟨by decide +kernel, rfl, (fun h => by cases h), rfl, by decide, ⟨by decide +kernel, by decide +kernel, by decide +kernel⟩, (wq_at mw_0_0 5 rfl), (wq_at mw_0_0 23 rfl), (fun h => by cases h), (fun _ => (wq_at mw_0_0 6 rfl)), (fun _ => (wq_at mw_0_0 7 rfl))⟩
def kX0_rides_0 : List xm_I := [(.aload 0, 0, 0, 0, 0), (.getfield 0, 0, 3, 0, 0), (.ifCond .eq 0, 15, 0, 0, 0), (.aload 0, 0, 0, 0, 0), (.getfield 0, 0, 3, 0, 0), (.sipush 0, 0, 0, 0, 1), (.if_icmp .ne 0, 19, 0, 0, 0)]
theorem bk_X0_rides_0 : xm_okb cX0_rides 0 1 1 false 15 0 kX0_rides_0 = true := by decide +kernel
def kX0_rides_15 : List xm_I := [(.sipush 0, 0, 0, 0, 1), (.goto 0, 20, 0, 0, 0)]
theorem bk_X0_rides_15 : xm_okb cX0_rides 0 1 1 false 19 15 kX0_rides_15 = true := by decide +kernel
def kX0_rides_19 : List xm_I := [(.sipush 0, 0, 0, 0, 0)]
theorem bk_X0_rides_19 : xm_okb cX0_rides 0 1 1 false 20 19 kX0_rides_19 = true := by decide +kernel
def kX0_rides_20 : List xm_I := [(.ireturn, 1, 0, 0, 0)]
theorem bk_X0_rides_20 : xm_okb cX0_rides 0 1 1 false 21 20 kX0_rides_20 = true := by decide +kernel
abbrev mt_X0_isCommanding : xm_T4 := (yX0_isCommanding, cX0_isCommanding, 3, (some .boolean))
theorem mo_X0_isCommanding : xm_mo mt_X0_isCommanding 0 2 1 false false := ⟨by decide +kernel, rfl, (fun h => by cases h), rfl, by decide, ⟨by decide +kernel, by decide +kernel, by decide +kernel⟩, (wq_at mw_0_0 8 rfl), (wq_at mw_0_0 23 rfl), (fun h => by cases h), (fun _ => (wq_at mw_0_0 9 rfl)), (fun _ => (wq_at mw_0_0 10 rfl))⟩
def kX0_isCommanding_0 : List xm_I := [(.aload 0, 0, 0, 0, 0), (.getfield 0, 0, 6, 0, 0), (.iload 0, 1, 0, 0, 0), (.if_icmp .ne 0, 28, 0, 0, 0), (.aload 0, 0, 0, 0, 0), (.getfield 0, 0, 9, 0, 0), (.iload 0, 2, 0, 0, 0), (.if_icmp .gt 0, 28, 0, 0, 0)]
theorem bk_X0_isCommanding_0 : xm_okb cX0_isCommanding 0 3 1 false 16 0 kX0_isCommanding_0 = true := by decide +kernel
def kX0_isCommanding_28 : List xm_I := [(.sipush 0, 0, 0, 0, 0)]
theorem bk_X0_isCommanding_28 : xm_okb cX0_isCommanding 0 3 1 false 29 28 kX0_isCommanding_28 = true := by decide +kernel
def kX0_isCommanding_29 : List xm_I := [(.ireturn, 1, 0, 0, 0)]
theorem bk_X0_isCommanding_29 : xm_okb cX0_isCommanding 0 3 1 false 30 29 kX0_isCommanding_29 = true := by decide +kernel
def kX0_isCommanding_16 : List xm_I := [(.iload 0, 2, 0, 0, 0), (.aload 0, 0, 0, 0, 0), (.getfield 0, 0, 10, 0, 0), (.if_icmp .ge 0, 28, 0, 0, 0), (.sipush 0, 0, 0, 0, 1), (.goto 0, 29, 0, 0, 0)]
theorem bk_X0_isCommanding_16 : xm_okb cX0_isCommanding 0 3 1 false 28 16 kX0_isCommanding_16 = true := by decide +kernel
abbrev mt_X0_addSample : xm_T4 := (yX0_addSample, cX0_addSample, 2, none)
theorem mo_X0_addSample : xm_mo mt_X0_addSample 0 1 3 false false := ⟨by decide +kernel, rfl, (fun h => by cases h), rfl, by decide, ⟨by decide +kernel, by decide +kernel, by decide +kernel⟩, (wq_at mw_0_0 11 rfl), (wq_at mw_0_0 23 rfl), (fun h => by cases h), (fun _ => (wq_at mw_0_0 12 rfl)), (fun _ => (wq_at mw_0_0 13 rfl))⟩
def kX0_addSample_0 : List xm_I := [(.aload 0, 0, 0, 0, 0), (.getfield 0, 0, 16, 2, 0), (.aload 0, 0, 0, 0, 0), (.getfield 0, 0, 15, 0, 0), (.aload 0, 0, 0, 0, 0), (.getfield 0, 0, 14, 0, 0), (.iadd, 0, 0, 0, 0), (.sipush 0, 0, 0, 0, 60)]
theorem bk_X0_addSample_0 : xm_okb cX0_addSample 0 2 3 false 15 0 kX0_addSample_0 = true := by decide +kernel
def kX0_addSample_40 : List xm_I := [(.aload 0, 0, 0, 0, 0), (.aload 0, 0, 0, 0, 0), (.getfield 0, 0, 15, 0, 0), (.sipush 0, 0, 0, 0, 1), (.iadd, 0, 0, 0, 0), (.sipush 0, 0, 0, 0, 60), (.irem, 0, 0, 0, 0), (.putfield 0, 0, 15, 0, 0)]
theorem bk_X0_addSample_40 : xm_okb cX0_addSample 0 2 3 false 53 40 kX0_addSample_40 = true := by decide +kernel
def kX0_addSample_53 : List xm_I := [(.return_, 0, 0, 0, 0)]
theorem bk_X0_addSample_53 : xm_okb cX0_addSample 0 2 3 false 54 53 kX0_addSample_53 = true := by decide +kernel
def kX0_addSample_15 : List xm_I := [(.irem, 0, 0, 0, 0), (.iload 0, 1, 0, 0, 0), (.iastore, 0, 0, 0, 0), (.aload 0, 0, 0, 0, 0), (.getfield 0, 0, 14, 0, 0), (.sipush 0, 0, 0, 0, 60), (.if_icmp .ge 0, 40, 0, 0, 0), (.aload 0, 0, 0, 0, 0)]
theorem bk_X0_addSample_15 : xm_okb cX0_addSample 0 2 3 false 28 15 kX0_addSample_15 = true := by decide +kernel
def kX0_addSample_28 : List xm_I := [(.dup, 0, 0, 0, 0), (.getfield 0, 0, 14, 0, 0), (.sipush 0, 0, 0, 0, 1), (.iadd, 0, 0, 0, 0), (.putfield 0, 0, 14, 0, 0), (.goto 0, 53, 0, 0, 0)]
theorem bk_X0_addSample_28 : xm_okb cX0_addSample 0 2 3 false 40 28 kX0_addSample_28 = true := by decide +kernel
abbrev mt_X0_keptAt : xm_T4 := (yX0_keptAt, cX0_keptAt, 2, (some .int))
theorem mo_X0_keptAt : xm_mo mt_X0_keptAt 0 1 0 false false := ⟨by decide +kernel, rfl, (fun h => by cases h), rfl, by decide, ⟨by decide +kernel, by decide +kernel, by decide +kernel⟩, (wq_at mw_0_0 14 rfl), (wq_at mw_0_0 23 rfl), (fun h => by cases h), (fun _ => (wq_at mw_0_0 15 rfl)), (fun _ => (wq_at mw_0_0 16 rfl))⟩
def kX0_keptAt_0 : List xm_I := [(.iload 0, 1, 0, 0, 0), (.ifCond .lt 0, 29, 0, 0, 0), (.iload 0, 1, 0, 0, 0), (.aload 0, 0, 0, 0, 0), (.getfield 0, 0, 14, 0, 0), (.if_icmp .ge 0, 29, 0, 0, 0), (.aload 0, 0, 0, 0, 0), (.getfield 0, 0, 16, 2, 0)]
theorem bk_X0_keptAt_0 : xm_okb cX0_keptAt 0 2 0 false 16 0 kX0_keptAt_0 = true := by decide +kernel
def kX0_keptAt_29 : List xm_I := [(.sipush 0, 0, 0, 0, 0)]
theorem bk_X0_keptAt_29 : xm_okb cX0_keptAt 0 2 0 false 30 29 kX0_keptAt_29 = true := by decide +kernel
def kX0_keptAt_30 : List xm_I := [(.ireturn, 0, 0, 0, 0)]
theorem bk_X0_keptAt_30 : xm_okb cX0_keptAt 0 2 0 false 31 30 kX0_keptAt_30 = true := by decide +kernel
def kX0_keptAt_16 : List xm_I := [(.aload 0, 0, 0, 0, 0), (.getfield 0, 0, 15, 0, 0), (.iload 0, 1, 0, 0, 0), (.iadd, 0, 0, 0, 0), (.sipush 0, 0, 0, 0, 60), (.irem, 0, 0, 0, 0), (.iaload, 0, 0, 0, 0), (.goto 0, 30, 0, 0, 0)]
theorem bk_X0_keptAt_16 : xm_okb cX0_keptAt 0 2 0 false 29 16 kX0_keptAt_16 = true := by decide +kernel
abbrev mt_X0_meanOfLatest : xm_T4 := (yX0_meanOfLatest, cX0_meanOfLatest, 5, (some .int))
theorem mo_X0_meanOfLatest : xm_mo mt_X0_meanOfLatest 0 1 0 false false := ⟨by decide +kernel, rfl, (fun h => by cases h), rfl, by decide, ⟨by decide +kernel, by decide +kernel, by decide +kernel⟩, (wq_at mw_0_0 17 rfl), (wq_at mw_0_0 23 rfl), (fun h => by cases h), (fun _ => (wq_at mw_0_0 18 rfl)), (fun _ => (wq_at mw_0_0 19 rfl))⟩
def kX0_meanOfLatest_0 : List xm_I := [(.aload 0, 0, 0, 0, 0), (.getfield 0, 0, 14, 0, 0), (.iload 0, 1, 0, 0, 0)]
theorem bk_X0_meanOfLatest_0 : xm_okb cX0_meanOfLatest 0 5 0 false 5 0 kX0_meanOfLatest_0 = true := by decide +kernel
def kX0_meanOfLatest_8 : List xm_I := [(.istore 0, 2, 0, 0, 0), (.sipush 0, 0, 0, 0, 0), (.istore 0, 3, 0, 0, 0), (.aload 0, 0, 0, 0, 0), (.getfield 0, 0, 14, 0, 0), (.iload 0, 2, 0, 0, 0), (.isub, 0, 0, 0, 0), (.istore 0, 4, 0, 0, 0)]
theorem bk_X0_meanOfLatest_8 : xm_okb cX0_meanOfLatest 0 5 0 false 19 8 kX0_meanOfLatest_8 = true := by decide +kernel
def kX0_meanOfLatest_19 : List xm_I := [(.iload 0, 4, 0, 0, 0), (.aload 0, 0, 0, 0, 0), (.getfield 0, 0, 14, 0, 0), (.if_icmp .ge 0, 43, 0, 0, 0), (.iload 0, 3, 0, 0, 0), (.aload 0, 0, 0, 0, 0), (.iload 0, 4, 0, 0, 0)]
theorem bk_X0_meanOfLatest_19 : xm_okb cX0_meanOfLatest 0 5 0 false 32 19 kX0_meanOfLatest_19 = true := by decide +kernel
def kX0_meanOfLatest_35 : List xm_I := [(.iadd, 0, 0, 0, 0), (.istore 0, 3, 0, 0, 0), (.iinc 0 0, 4, 0, 0, 1), (.goto 0, 19, 0, 0, 0)]
theorem bk_X0_meanOfLatest_35 : xm_okb cX0_meanOfLatest 0 5 0 false 43 35 kX0_meanOfLatest_35 = true := by decide +kernel
def kX0_meanOfLatest_43 : List xm_I := [(.iload 0, 3, 0, 0, 0), (.iload 0, 2, 0, 0, 0)]
theorem bk_X0_meanOfLatest_43 : xm_okb cX0_meanOfLatest 0 5 0 false 45 43 kX0_meanOfLatest_43 = true := by decide +kernel
def kX0_meanOfLatest_48 : List xm_I := [(.ireturn, 0, 0, 0, 0)]
theorem bk_X0_meanOfLatest_48 : xm_okb cX0_meanOfLatest 0 5 0 false 49 48 kX0_meanOfLatest_48 = true := by decide +kernel
abbrev mt_X0_spreadOfLatest : xm_T4 := (yX0_spreadOfLatest, cX0_spreadOfLatest, 6, (some .int))
theorem mo_X0_spreadOfLatest : xm_mo mt_X0_spreadOfLatest 0 1 0 false false := ⟨by decide +kernel, rfl, (fun h => by cases h), rfl, by decide, ⟨by decide +kernel, by decide +kernel, by decide +kernel⟩, (wq_at mw_0_0 20 rfl), (wq_at mw_0_0 23 rfl), (fun h => by cases h), (fun _ => (wq_at mw_0_0 21 rfl)), (fun _ => (wq_at mw_0_0 22 rfl))⟩
def kX0_spreadOfLatest_0 : List xm_I := [(.aload 0, 0, 0, 0, 0), (.getfield 0, 0, 14, 0, 0), (.iload 0, 1, 0, 0, 0)]
theorem bk_X0_spreadOfLatest_0 : xm_okb cX0_spreadOfLatest 0 6 0 false 5 0 kX0_spreadOfLatest_0 = true := by decide +kernel
def kX0_spreadOfLatest_8 : List xm_I := [(.istore 0, 2, 0, 0, 0), (.aload 0, 0, 0, 0, 0), (.aload 0, 0, 0, 0, 0), (.getfield 0, 0, 14, 0, 0), (.sipush 0, 0, 0, 0, 1), (.isub, 0, 0, 0, 0)]
theorem bk_X0_spreadOfLatest_8 : xm_okb cX0_spreadOfLatest 0 6 0 false 16 8 kX0_spreadOfLatest_8 = true := by decide +kernel
def kX0_spreadOfLatest_19 : List xm_I := [(.istore 0, 3, 0, 0, 0), (.iload 0, 3, 0, 0, 0), (.istore 0, 4, 0, 0, 0), (.aload 0, 0, 0, 0, 0), (.getfield 0, 0, 14, 0, 0), (.iload 0, 2, 0, 0, 0), (.isub, 0, 0, 0, 0), (.istore 0, 5, 0, 0, 0)]
theorem bk_X0_spreadOfLatest_19 : xm_okb cX0_spreadOfLatest 0 6 0 false 31 19 kX0_spreadOfLatest_19 = true := by decide +kernel
def kX0_spreadOfLatest_31 : List xm_I := [(.iload 0, 5, 0, 0, 0), (.aload 0, 0, 0, 0, 0), (.getfield 0, 0, 14, 0, 0), (.if_icmp .ge 0, 70, 0, 0, 0), (.iload 0, 3, 0, 0, 0), (.aload 0, 0, 0, 0, 0), (.iload 0, 5, 0, 0, 0)]
theorem bk_X0_spreadOfLatest_31 : xm_okb cX0_spreadOfLatest 0 6 0 false 44 31 kX0_spreadOfLatest_31 = true := by decide +kernel
def kX0_spreadOfLatest_50 : List xm_I := [(.istore 0, 3, 0, 0, 0), (.iload 0, 4, 0, 0, 0), (.aload 0, 0, 0, 0, 0), (.iload 0, 5, 0, 0, 0)]
theorem bk_X0_spreadOfLatest_50 : xm_okb cX0_spreadOfLatest 0 6 0 false 56 50 kX0_spreadOfLatest_50 = true := by decide +kernel
def kX0_spreadOfLatest_62 : List xm_I := [(.istore 0, 4, 0, 0, 0), (.iinc 0 0, 5, 0, 0, 1), (.goto 0, 31, 0, 0, 0)]
theorem bk_X0_spreadOfLatest_62 : xm_okb cX0_spreadOfLatest 0 6 0 false 70 62 kX0_spreadOfLatest_62 = true := by decide +kernel
def kX0_spreadOfLatest_70 : List xm_I := [(.iload 0, 3, 0, 0, 0), (.iload 0, 4, 0, 0, 0), (.isub, 0, 0, 0, 0), (.ireturn, 0, 0, 0, 0)]
theorem bk_X0_spreadOfLatest_70 : xm_okb cX0_spreadOfLatest 0 6 0 false 75 70 kX0_spreadOfLatest_70 = true := by decide +kernel

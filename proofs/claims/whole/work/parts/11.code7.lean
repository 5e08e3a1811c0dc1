/-! CODE of CheckWeigherModel: what is fixed of its methods, and their blocks, by program -/
abbrev mt_X7_init : xm_T4 := (yX7_init, cX7_init, 1, none)
theorem mo_X7_init : xm_mo mt_X7_init 7 0 3 true false := ⟨by decide +kernel, rfl, (fun _ => rfl), rfl, by decide, ⟨by decide +kernel, by decide +kernel, by decide +kernel⟩, (wq_at mw_7_0 0 rfl), (wq_at mw_7_6 28 rfl), (fun h => by cases h), (fun _ => (wq_at mw_7_0 1 rfl)), (fun h => by cases h.2)⟩
def kX7_init_0 : List xm_I := [(.aload 0, 0, 0, 0, 0)]
theorem bk_X7_init_0 : xm_okb cX7_init 7 1 3 true 1 0 kX7_init_0 = true := by decide +kernel
def kX7_init_4 : List xm_I := [(.aload 0, 0, 0, 0, 0), (.sipush 0, 0, 0, 0, 41)]
theorem bk_X7_init_4 : xm_okb cX7_init 7 1 3 true 7 4 kX7_init_4 = true := by decide +kernel
def kX7_init_9 : List xm_I := [(.putfield 0, 7, 1, 2, 0), (.aload 0, 0, 0, 0, 0), (.sipush 0, 0, 0, 0, 41)]
theorem bk_X7_init_9 : xm_okb cX7_init 7 1 3 true 15 9 kX7_init_9 = true := by decide +kernel
def kX7_init_17 : List xm_I := [(.putfield 0, 7, 2, 2, 0), (.aload 0, 0, 0, 0, 0), (.sipush 0, 0, 0, 0, 4641)]
theorem bk_X7_init_17 : xm_okb cX7_init 7 1 3 true 24 17 kX7_init_17 = true := by decide +kernel
def kX7_init_26 : List xm_I := [(.putfield 0, 7, 3, 2, 0), (.aload 0, 0, 0, 0, 0), (.sipush 0, 0, 0, 0, 4641)]
theorem bk_X7_init_26 : xm_okb cX7_init 7 1 3 true 33 26 kX7_init_26 = true := by decide +kernel
def kX7_init_35 : List xm_I := [(.putfield 0, 7, 4, 2, 0), (.aload 0, 0, 0, 0, 0), (.sipush 0, 0, 0, 0, 500)]
theorem bk_X7_init_35 : xm_okb cX7_init 7 1 3 true 42 35 kX7_init_35 = true := by decide +kernel
def kX7_init_44 : List xm_I := [(.putfield 0, 7, 5, 2, 0), (.aload 0, 0, 0, 0, 0), (.sipush 0, 0, 0, 0, (-1)), (.putfield 0, 7, 13, 0, 0), (.aload 0, 0, 0, 0, 0), (.sipush 0, 0, 0, 0, 1740)]
theorem bk_X7_init_44 : xm_okb cX7_init 7 1 3 true 56 44 kX7_init_44 = true := by decide +kernel
def kX7_init_58 : List xm_I := [(.putfield 0, 7, 14, 2, 0), (.aload 0, 0, 0, 0, 0)]
theorem bk_X7_init_58 : xm_okb cX7_init 7 1 3 true 62 58 kX7_init_58 = true := by decide +kernel
def kX7_init_65 : List xm_I := [(.aload 0, 0, 0, 0, 0), (.getfield 0, 7, 2, 2, 0), (.sipush 0, 0, 0, 0, 0), (.sipush 0, 0, 0, 0, 10), (.iastore, 0, 0, 0, 0), (.aload 0, 0, 0, 0, 0), (.getfield 0, 7, 2, 2, 0), (.sipush 0, 0, 0, 0, 1)]
theorem bk_X7_init_65 : xm_okb cX7_init 7 1 3 true 78 65 kX7_init_65 = true := by decide +kernel
def kX7_init_103 : List xm_I := [(.return_, 0, 0, 0, 0)]
theorem bk_X7_init_103 : xm_okb cX7_init 7 1 3 true 104 103 kX7_init_103 = true := by decide +kernel
def kX7_init_78 : List xm_I := [(.sipush 0, 0, 0, 0, 100), (.iastore, 0, 0, 0, 0), (.aload 0, 0, 0, 0, 0), (.getfield 0, 7, 2, 2, 0), (.sipush 0, 0, 0, 0, 2), (.sipush 0, 0, 0, 0, 200), (.iastore, 0, 0, 0, 0), (.aload 0, 0, 0, 0, 0)]
theorem bk_X7_init_78 : xm_okb cX7_init 7 1 3 true 91 78 kX7_init_78 = true := by decide +kernel
def kX7_init_91 : List xm_I := [(.getfield 0, 7, 2, 2, 0), (.sipush 0, 0, 0, 0, 3), (.sipush 0, 0, 0, 0, 300), (.iastore, 0, 0, 0, 0), (.aload 0, 0, 0, 0, 0)]
theorem bk_X7_init_91 : xm_okb cX7_init 7 1 3 true 100 91 kX7_init_91 = true := by decide +kernel
abbrev mt_X7_thrown : xm_T4 := (yX7_thrown, cX7_thrown, 1, (some .int))
theorem mo_X7_thrown : xm_mo mt_X7_thrown 7 0 0 false false := ⟨by decide +kernel, rfl, (fun h => by cases h), rfl, by decide, ⟨by decide +kernel, by decide +kernel, by decide +kernel⟩, (wq_at mw_7_0 2 rfl), (wq_at mw_7_6 28 rfl), (fun h => by cases h), (fun _ => (wq_at mw_7_0 3 rfl)), (fun _ => (wq_at mw_7_0 4 rfl))⟩
def kX7_thrown_0 : List xm_I := [(.aload 0, 0, 0, 0, 0), (.getfield 0, 7, 0, 0, 0), (.ireturn, 0, 0, 0, 0)]
theorem bk_X7_thrown_0 : xm_okb cX7_thrown 7 1 0 false 5 0 kX7_thrown_0 = true := by decide +kernel
abbrev mt_X7_isIn : xm_T4 := (yX7_isIn, cX7_isIn, 3, (some .boolean))
theorem mo_X7_isIn : xm_mo mt_X7_isIn 7 3 1 false true := ⟨by decide +kernel, rfl, (fun h => by cases h), rfl, by decide, ⟨by decide +kernel, by decide +kernel, by decide +kernel⟩, (wq_at mw_7_0 5 rfl), (wq_at mw_7_6 28 rfl), (fun _ => (wq_at mw_7_0 6 rfl)), (fun h => by cases h), (fun h => by cases h.1)⟩
def kX7_isIn_0 : List xm_I := [(.iload 0, 0, 0, 0, 0), (.iload 0, 1, 0, 0, 0), (.if_icmp .lt 0, 14, 0, 0, 0), (.iload 0, 0, 0, 0, 0), (.iload 0, 2, 0, 0, 0), (.if_icmp .gt 0, 14, 0, 0, 0), (.sipush 0, 0, 0, 0, 1), (.goto 0, 15, 0, 0, 0)]
theorem bk_X7_isIn_0 : xm_okb cX7_isIn 7 3 1 false 14 0 kX7_isIn_0 = true := by decide +kernel
def kX7_isIn_14 : List xm_I := [(.sipush 0, 0, 0, 0, 0)]
theorem bk_X7_isIn_14 : xm_okb cX7_isIn 7 3 1 false 15 14 kX7_isIn_14 = true := by decide +kernel
def kX7_isIn_15 : List xm_I := [(.ireturn, 1, 0, 0, 0)]
theorem bk_X7_isIn_15 : xm_okb cX7_isIn 7 3 1 false 16 15 kX7_isIn_15 = true := by decide +kernel
abbrev mt_X7_may : xm_T4 := (yX7_may, cX7_may, 3, (some .boolean))
theorem mo_X7_may : xm_mo mt_X7_may 7 2 1 false false := ⟨by decide +kernel, rfl, (fun h => by cases h), rfl, by decide, ⟨by decide +kernel, by decide +kernel, by decide +kernel⟩, (wq_at mw_7_0 7 rfl), (wq_at mw_7_6 28 rfl), (fun h => by cases h), (fun _ => (wq_at mw_7_0 8 rfl)), (fun _ => (wq_at mw_7_0 9 rfl))⟩
def kX7_may_0 : List xm_I := [(.iload 0, 1, 0, 0, 0), (.ifCond .ne 0, 16, 0, 0, 0), (.aload 0, 0, 0, 0, 0), (.getfield 0, 7, 0, 0, 0), (.ifCond .ne 0, 16, 0, 0, 0), (.aload 0, 0, 0, 0, 0), (.iload 0, 2, 0, 0, 0), (.putfield 0, 7, 0, 0, 0)]
theorem bk_X7_may_0 : xm_okb cX7_may 7 3 1 false 16 0 kX7_may_0 = true := by decide +kernel
def kX7_may_16 : List xm_I := [(.aload 0, 0, 0, 0, 0), (.getfield 0, 7, 0, 0, 0), (.ifCond .ne 0, 27, 0, 0, 0), (.sipush 0, 0, 0, 0, 1), (.goto 0, 28, 0, 0, 0)]
theorem bk_X7_may_16 : xm_okb cX7_may 7 3 1 false 27 16 kX7_may_16 = true := by decide +kernel
def kX7_may_27 : List xm_I := [(.sipush 0, 0, 0, 0, 0)]
theorem bk_X7_may_27 : xm_okb cX7_may 7 3 1 false 28 27 kX7_may_27 = true := by decide +kernel
def kX7_may_28 : List xm_I := [(.ireturn, 1, 0, 0, 0)]
theorem bk_X7_may_28 : xm_okb cX7_may 7 3 1 false 29 28 kX7_may_28 = true := by decide +kernel
abbrev mt_X7_lesser : xm_T4 := (yX7_lesser, cX7_lesser, 2, (some .int))
theorem mo_X7_lesser : xm_mo mt_X7_lesser 7 2 0 false true := ⟨by decide +kernel, rfl, (fun h => by cases h), rfl, by decide, ⟨by decide +kernel, by decide +kernel, by decide +kernel⟩, (wq_at mw_7_0 10 rfl), (wq_at mw_7_6 28 rfl), (fun _ => (wq_at mw_7_0 11 rfl)), (fun h => by cases h), (fun h => by cases h.1)⟩
def kX7_lesser_0 : List xm_I := [(.iload 0, 0, 0, 0, 0), (.iload 0, 1, 0, 0, 0), (.if_icmp .ge 0, 9, 0, 0, 0), (.iload 0, 0, 0, 0, 0), (.goto 0, 10, 0, 0, 0)]
theorem bk_X7_lesser_0 : xm_okb cX7_lesser 7 2 0 false 9 0 kX7_lesser_0 = true := by decide +kernel
def kX7_lesser_9 : List xm_I := [(.iload 0, 1, 0, 0, 0)]
theorem bk_X7_lesser_9 : xm_okb cX7_lesser 7 2 0 false 10 9 kX7_lesser_9 = true := by decide +kernel
def kX7_lesser_10 : List xm_I := [(.ireturn, 0, 0, 0, 0)]
theorem bk_X7_lesser_10 : xm_okb cX7_lesser 7 2 0 false 11 10 kX7_lesser_10 = true := by decide +kernel
abbrev mt_X7_greater : xm_T4 := (yX7_greater, cX7_greater, 2, (some .int))
theorem mo_X7_greater : xm_mo mt_X7_greater 7 2 0 false true := ⟨by decide +kernel, rfl, (fun h => by cases h), rfl, by decide, ⟨by decide +kernel, by decide +kernel, by decide +kernel⟩, (wq_at mw_7_0 12 rfl), (wq_at mw_7_6 28 rfl), (fun _ => (wq_at mw_7_0 13 rfl)), (fun h => by cases h), (fun h => by cases h.1)⟩
def kX7_greater_0 : List xm_I := [(.iload 0, 0, 0, 0, 0), (.iload 0, 1, 0, 0, 0), (.if_icmp .le 0, 9, 0, 0, 0), (.iload 0, 0, 0, 0, 0), (.goto 0, 10, 0, 0, 0)]
theorem bk_X7_greater_0 : xm_okb cX7_greater 7 2 0 false 9 0 kX7_greater_0 = true := by decide +kernel
def kX7_greater_9 : List xm_I := [(.iload 0, 1, 0, 0, 0)]
theorem bk_X7_greater_9 : xm_okb cX7_greater 7 2 0 false 10 9 kX7_greater_9 = true := by decide +kernel
def kX7_greater_10 : List xm_I := [(.ireturn, 0, 0, 0, 0)]
theorem bk_X7_greater_10 : xm_okb cX7_greater 7 2 0 false 11 10 kX7_greater_10 = true := by decide +kernel
abbrev mt_X7_plain : xm_T4 := (yX7_plain, cX7_plain, 2, none)
theorem mo_X7_plain : xm_mo mt_X7_plain 7 0 3 false false := ⟨by decide +kernel, rfl, (fun h => by cases h), rfl, by decide, ⟨by decide +kernel, by decide +kernel, by decide +kernel⟩, (wq_at mw_7_0 14 rfl), (wq_at mw_7_6 28 rfl), (fun h => by cases h), (fun _ => (wq_at mw_7_0 15 rfl)), (fun _ => (wq_at mw_7_0 16 rfl))⟩
def kX7_plain_0 : List xm_I := [(.sipush 0, 0, 0, 0, 0), (.istore 0, 1, 0, 0, 0)]
theorem bk_X7_plain_0 : xm_okb cX7_plain 7 2 3 false 2 0 kX7_plain_0 = true := by decide +kernel
def kX7_plain_2 : List xm_I := [(.iload 0, 1, 0, 0, 0), (.sipush 0, 0, 0, 0, 41), (.if_icmp .ge 0, 21, 0, 0, 0), (.aload 0, 0, 0, 0, 0), (.getfield 0, 7, 2, 2, 0), (.iload 0, 1, 0, 0, 0), (.sipush 0, 0, 0, 0, 0), (.iastore, 0, 0, 0, 0)]
theorem bk_X7_plain_2 : xm_okb cX7_plain 7 2 3 false 15 2 kX7_plain_2 = true := by decide +kernel
def kX7_plain_21 : List xm_I := [(.sipush 0, 0, 0, 0, 0), (.istore 0, 1, 0, 0, 0)]
theorem bk_X7_plain_21 : xm_okb cX7_plain 7 2 3 false 23 21 kX7_plain_21 = true := by decide +kernel
def kX7_plain_23 : List xm_I := [(.iload 0, 1, 0, 0, 0), (.sipush 0, 0, 0, 0, 4), (.if_icmp .ge 0, 44, 0, 0, 0), (.aload 0, 0, 0, 0, 0), (.getfield 0, 7, 2, 2, 0), (.sipush 0, 0, 0, 0, 37), (.iload 0, 1, 0, 0, 0), (.iadd, 0, 0, 0, 0)]
theorem bk_X7_plain_23 : xm_okb cX7_plain 7 2 3 false 36 23 kX7_plain_23 = true := by decide +kernel
def kX7_plain_44 : List xm_I := [(.aload 0, 0, 0, 0, 0), (.getfield 0, 7, 2, 2, 0), (.sipush 0, 0, 0, 0, 7), (.sipush 0, 0, 0, 0, 9999), (.iastore, 0, 0, 0, 0), (.aload 0, 0, 0, 0, 0), (.getfield 0, 7, 2, 2, 0), (.sipush 0, 0, 0, 0, 8)]
theorem bk_X7_plain_44 : xm_okb cX7_plain 7 2 3 false 60 44 kX7_plain_44 = true := by decide +kernel
def kX7_plain_15 : List xm_I := [(.iinc 0 0, 1, 0, 0, 1), (.goto 0, 2, 0, 0, 0)]
theorem bk_X7_plain_15 : xm_okb cX7_plain 7 2 3 false 21 15 kX7_plain_15 = true := by decide +kernel
def kX7_plain_36 : List xm_I := [(.sipush 0, 0, 0, 0, (-1)), (.iastore, 0, 0, 0, 0), (.iinc 0 0, 1, 0, 0, 1), (.goto 0, 23, 0, 0, 0)]
theorem bk_X7_plain_36 : xm_okb cX7_plain 7 2 3 false 44 36 kX7_plain_36 = true := by decide +kernel
def kX7_plain_60 : List xm_I := [(.sipush 0, 0, 0, 0, 20), (.iastore, 0, 0, 0, 0), (.aload 0, 0, 0, 0, 0), (.getfield 0, 7, 2, 2, 0), (.sipush 0, 0, 0, 0, 10), (.sipush 0, 0, 0, 0, 9999), (.iastore, 0, 0, 0, 0), (.aload 0, 0, 0, 0, 0)]
theorem bk_X7_plain_60 : xm_okb cX7_plain 7 2 3 false 74 60 kX7_plain_60 = true := by decide +kernel
def kX7_plain_74 : List xm_I := [(.getfield 0, 7, 2, 2, 0), (.sipush 0, 0, 0, 0, 11), (.sipush 0, 0, 0, 0, 1), (.iastore, 0, 0, 0, 0), (.aload 0, 0, 0, 0, 0), (.getfield 0, 7, 2, 2, 0), (.sipush 0, 0, 0, 0, 13), (.sipush 0, 0, 0, 0, 1)]
theorem bk_X7_plain_74 : xm_okb cX7_plain 7 2 3 false 88 74 kX7_plain_74 = true := by decide +kernel
def kX7_plain_88 : List xm_I := [(.iastore, 0, 0, 0, 0), (.aload 0, 0, 0, 0, 0), (.getfield 0, 7, 2, 2, 0), (.sipush 0, 0, 0, 0, 15), (.sipush 0, 0, 0, 0, 5), (.iastore, 0, 0, 0, 0), (.return_, 0, 0, 0, 0)]
theorem bk_X7_plain_88 : xm_okb cX7_plain 7 2 3 false 98 88 kX7_plain_88 = true := by decide +kernel
abbrev mt_X7_takes : xm_T4 := (yX7_takes, cX7_takes, 2, none)
theorem mo_X7_takes : xm_mo mt_X7_takes 7 0 3 false false := ⟨by decide +kernel, rfl, (fun h => by cases h), rfl, by decide, ⟨by decide +kernel, by decide +kernel, by decide +kernel⟩, (wq_at mw_7_0 17 rfl), (wq_at mw_7_6 28 rfl), (fun h => by cases h), (fun _ => (wq_at mw_7_0 18 rfl)), (fun _ => (wq_at mw_7_0 19 rfl))⟩
def kX7_takes_0 : List xm_I := [(.sipush 0, 0, 0, 0, 0), (.istore 0, 1, 0, 0, 0)]
theorem bk_X7_takes_0 : xm_okb cX7_takes 7 2 3 false 2 0 kX7_takes_0 = true := by decide +kernel
def kX7_takes_2 : List xm_I := [(.iload 0, 1, 0, 0, 0), (.sipush 0, 0, 0, 0, 41), (.if_icmp .ge 0, 26, 0, 0, 0), (.aload 0, 0, 0, 0, 0), (.getfield 0, 7, 1, 2, 0), (.iload 0, 1, 0, 0, 0), (.aload 0, 0, 0, 0, 0), (.getfield 0, 7, 2, 2, 0)]
theorem bk_X7_takes_2 : xm_okb cX7_takes 7 2 3 false 17 2 kX7_takes_2 = true := by decide +kernel
def kX7_takes_26 : List xm_I := [(.sipush 0, 0, 0, 0, 0), (.istore 0, 1, 0, 0, 0)]
theorem bk_X7_takes_26 : xm_okb cX7_takes 7 2 3 false 28 26 kX7_takes_26 = true := by decide +kernel
def kX7_takes_28 : List xm_I := [(.iload 0, 1, 0, 0, 0), (.sipush 0, 0, 0, 0, 4641), (.if_icmp .ge 0, 48, 0, 0, 0), (.aload 0, 0, 0, 0, 0), (.getfield 0, 7, 3, 2, 0), (.iload 0, 1, 0, 0, 0), (.sipush 0, 0, 0, 0, 0), (.iastore, 0, 0, 0, 0)]
theorem bk_X7_takes_28 : xm_okb cX7_takes 7 2 3 false 42 28 kX7_takes_28 = true := by decide +kernel
def kX7_takes_48 : List xm_I := [(.aload 0, 0, 0, 0, 0), (.getfield 0, 7, 3, 2, 0), (.sipush 0, 0, 0, 0, 4), (.aload 0, 0, 0, 0, 0), (.getfield 0, 7, 1, 2, 0), (.sipush 0, 0, 0, 0, 6), (.iaload, 0, 0, 0, 0), (.iastore, 0, 0, 0, 0)]
theorem bk_X7_takes_48 : xm_okb cX7_takes 7 2 3 false 61 48 kX7_takes_48 = true := by decide +kernel
def kX7_takes_17 : List xm_I := [(.iload 0, 1, 0, 0, 0), (.iaload, 0, 0, 0, 0), (.iastore, 0, 0, 0, 0), (.iinc 0 0, 1, 0, 0, 1), (.goto 0, 2, 0, 0, 0)]
theorem bk_X7_takes_17 : xm_okb cX7_takes 7 2 3 false 26 17 kX7_takes_17 = true := by decide +kernel
def kX7_takes_42 : List xm_I := [(.iinc 0 0, 1, 0, 0, 1), (.goto 0, 28, 0, 0, 0)]
theorem bk_X7_takes_42 : xm_okb cX7_takes 7 2 3 false 48 42 kX7_takes_42 = true := by decide +kernel
def kX7_takes_61 : List xm_I := [(.aload 0, 0, 0, 0, 0), (.getfield 0, 7, 3, 2, 0), (.sipush 0, 0, 0, 0, 5), (.aload 0, 0, 0, 0, 0), (.getfield 0, 7, 1, 2, 0), (.sipush 0, 0, 0, 0, 7), (.iaload, 0, 0, 0, 0), (.iastore, 0, 0, 0, 0)]
theorem bk_X7_takes_61 : xm_okb cX7_takes 7 2 3 false 74 61 kX7_takes_61 = true := by decide +kernel
def kX7_takes_74 : List xm_I := [(.return_, 0, 0, 0, 0)]
theorem bk_X7_takes_74 : xm_okb cX7_takes 7 2 3 false 75 74 kX7_takes_74 = true := by decide +kernel
abbrev mt_X7_append : xm_T4 := (yX7_append, cX7_append, 8, (some .int))
theorem mo_X7_append : xm_mo mt_X7_append 7 5 0 false false := ⟨by decide +kernel, rfl, (fun h => by cases h), rfl, by decide, ⟨by decide +kernel, by decide +kernel, by decide +kernel⟩, (wq_at mw_7_0 20 rfl), (wq_at mw_7_6 28 rfl), (fun h => by cases h), (fun _ => (wq_at mw_7_0 21 rfl)), (fun _ => (wq_at mw_7_0 22 rfl))⟩
def kX7_append_0 : List xm_I := [(.aload 0, 0, 0, 0, 0), (.sipush 0, 0, 0, 0, 0), (.putfield 0, 7, 0, 0, 0), (.aload 0, 0, 0, 0, 0), (.aload 0, 0, 0, 0, 0), (.getfield 0, 7, 6, 0, 0), (.sipush 0, 0, 0, 0, 20), (.iadd, 0, 0, 0, 0)]
theorem bk_X7_append_0 : xm_okb cX7_append 7 8 0 false 13 0 kX7_append_0 = true := by decide +kernel
def kX7_append_23 : List xm_I := [(.sipush 0, 0, 0, 0, 0)]
theorem bk_X7_append_23 : xm_okb cX7_append 7 8 0 false 24 23 kX7_append_23 = true := by decide +kernel
def kX7_append_24 : List xm_I := [(.sipush 0, 0, 0, 0, 1)]
theorem bk_X7_append_24 : xm_okb cX7_append 7 8 0 false 25 24 kX7_append_24 = true := by decide +kernel
def kX7_append_28 : List xm_I := [(.ifCond .ne 0, 33, 0, 0, 0), (.sipush 0, 0, 0, 0, 0), (.ireturn, 0, 0, 0, 0)]
theorem bk_X7_append_28 : xm_okb cX7_append 7 8 0 false 33 28 kX7_append_28 = true := by decide +kernel
def kX7_append_33 : List xm_I := [(.sipush 0, 0, 0, 0, 0), (.istore 0, 6, 0, 0, 0)]
theorem bk_X7_append_33 : xm_okb cX7_append 7 8 0 false 36 33 kX7_append_33 = true := by decide +kernel
def kX7_append_36 : List xm_I := [(.iload 0, 6, 0, 0, 0), (.sipush 0, 0, 0, 0, 20), (.if_icmp .ge 0, 126, 0, 0, 0), (.iload 0, 6, 0, 0, 0), (.sipush 0, 0, 0, 0, 4), (.if_icmp .ge 0, 53, 0, 0, 0), (.iload 0, 1, 0, 0, 0), (.goto 0, 89, 0, 0, 0)]
theorem bk_X7_append_36 : xm_okb cX7_append 7 8 0 false 53 36 kX7_append_36 = true := by decide +kernel
def kX7_append_53 : List xm_I := [(.iload 0, 6, 0, 0, 0), (.sipush 0, 0, 0, 0, 8), (.if_icmp .ge 0, 64, 0, 0, 0), (.iload 0, 2, 0, 0, 0), (.goto 0, 89, 0, 0, 0)]
theorem bk_X7_append_53 : xm_okb cX7_append 7 8 0 false 64 53 kX7_append_53 = true := by decide +kernel
def kX7_append_64 : List xm_I := [(.iload 0, 6, 0, 0, 0), (.sipush 0, 0, 0, 0, 12), (.if_icmp .ge 0, 75, 0, 0, 0), (.iload 0, 3, 0, 0, 0), (.goto 0, 89, 0, 0, 0)]
theorem bk_X7_append_64 : xm_okb cX7_append 7 8 0 false 75 64 kX7_append_64 = true := by decide +kernel
def kX7_append_75 : List xm_I := [(.iload 0, 6, 0, 0, 0), (.sipush 0, 0, 0, 0, 16), (.if_icmp .ge 0, 87, 0, 0, 0), (.iload 0, 4, 0, 0, 0), (.goto 0, 89, 0, 0, 0)]
theorem bk_X7_append_75 : xm_okb cX7_append 7 8 0 false 87 75 kX7_append_75 = true := by decide +kernel
def kX7_append_87 : List xm_I := [(.iload 0, 5, 0, 0, 0)]
theorem bk_X7_append_87 : xm_okb cX7_append 7 8 0 false 89 87 kX7_append_87 = true := by decide +kernel
def kX7_append_89 : List xm_I := [(.istore 0, 7, 0, 0, 0), (.aload 0, 0, 0, 0, 0), (.getfield 0, 7, 5, 2, 0), (.aload 0, 0, 0, 0, 0), (.getfield 0, 7, 6, 0, 0), (.iload 0, 6, 0, 0, 0), (.iadd, 0, 0, 0, 0), (.iload 0, 7, 0, 0, 0)]
theorem bk_X7_append_89 : xm_okb cX7_append 7 8 0 false 104 89 kX7_append_89 = true := by decide +kernel
def kX7_append_126 : List xm_I := [(.aload 0, 0, 0, 0, 0), (.dup, 0, 0, 0, 0), (.getfield 0, 7, 6, 0, 0), (.sipush 0, 0, 0, 0, 20), (.iadd, 0, 0, 0, 0), (.putfield 0, 7, 6, 0, 0), (.aload 0, 0, 0, 0, 0), (.getfield 0, 7, 6, 0, 0)]
theorem bk_X7_append_126 : xm_okb cX7_append 7 8 0 false 141 126 kX7_append_126 = true := by decide +kernel
def kX7_append_13 : List xm_I := [(.sipush 0, 0, 0, 0, 500), (.if_icmp .gt 0, 23, 0, 0, 0), (.sipush 0, 0, 0, 0, 1), (.goto 0, 24, 0, 0, 0)]
theorem bk_X7_append_13 : xm_okb cX7_append 7 8 0 false 23 13 kX7_append_13 = true := by decide +kernel
def kX7_append_104 : List xm_I := [(.sipush 0, 0, 0, 0, 24), (.sipush 0, 0, 0, 0, 8), (.iload 0, 6, 0, 0, 0), (.sipush 0, 0, 0, 0, 4), (.irem, 0, 0, 0, 0), (.imul, 0, 0, 0, 0), (.isub, 0, 0, 0, 0), (.ishr, 0, 0, 0, 0)]
theorem bk_X7_append_104 : xm_okb cX7_append 7 8 0 false 115 104 kX7_append_104 = true := by decide +kernel
def kX7_append_141 : List xm_I := [(.ireturn, 0, 0, 0, 0)]
theorem bk_X7_append_141 : xm_okb cX7_append 7 8 0 false 142 141 kX7_append_141 = true := by decide +kernel
def kX7_append_115 : List xm_I := [(.sipush 0, 0, 0, 0, 255), (.iand, 0, 0, 0, 0), (.iastore, 0, 0, 0, 0), (.iinc 0 0, 6, 0, 0, 1), (.goto 0, 36, 0, 0, 0)]
theorem bk_X7_append_115 : xm_okb cX7_append 7 8 0 false 126 115 kX7_append_115 = true := by decide +kernel
abbrev mt_X7_truncate : xm_T4 := (yX7_truncate, cX7_truncate, 2, (some .int))
theorem mo_X7_truncate : xm_mo mt_X7_truncate 7 1 0 false false := ⟨by decide +kernel, rfl, (fun h => by cases h), rfl, by decide, ⟨by decide +kernel, by decide +kernel, by decide +kernel⟩, (wq_at mw_7_0 23 rfl), (wq_at mw_7_6 28 rfl), (fun h => by cases h), (fun _ => (wq_at mw_7_0 24 rfl)), (fun _ => (wq_at mw_7_0 25 rfl))⟩
def kX7_truncate_0 : List xm_I := [(.aload 0, 0, 0, 0, 0), (.sipush 0, 0, 0, 0, 0), (.putfield 0, 7, 0, 0, 0), (.aload 0, 0, 0, 0, 0), (.iload 0, 1, 0, 0, 0), (.sipush 0, 0, 0, 0, 0), (.aload 0, 0, 0, 0, 0), (.getfield 0, 7, 6, 0, 0)]
theorem bk_X7_truncate_0 : xm_okb cX7_truncate 7 2 0 false 12 0 kX7_truncate_0 = true := by decide +kernel
def kX7_truncate_15 : List xm_I := [(.sipush 0, 0, 0, 0, 1)]
theorem bk_X7_truncate_15 : xm_okb cX7_truncate 7 2 0 false 16 15 kX7_truncate_15 = true := by decide +kernel
def kX7_truncate_19 : List xm_I := [(.ifCond .ne 0, 24, 0, 0, 0), (.sipush 0, 0, 0, 0, 0), (.ireturn, 0, 0, 0, 0)]
theorem bk_X7_truncate_19 : xm_okb cX7_truncate 7 2 0 false 24 19 kX7_truncate_19 = true := by decide +kernel
def kX7_truncate_24 : List xm_I := [(.aload 0, 0, 0, 0, 0), (.iload 0, 1, 0, 0, 0), (.putfield 0, 7, 6, 0, 0), (.iload 0, 1, 0, 0, 0), (.ireturn, 0, 0, 0, 0)]
theorem bk_X7_truncate_24 : xm_okb cX7_truncate 7 2 0 false 31 24 kX7_truncate_24 = true := by decide +kernel
abbrev mt_X7_at : xm_T4 := (yX7_at, cX7_at, 2, (some .int))
theorem mo_X7_at : xm_mo mt_X7_at 7 1 0 false false := ⟨by decide +kernel, rfl, (fun h => by cases h), rfl, by decide, ⟨by decide +kernel, by decide +kernel, by decide +kernel⟩, (wq_at mw_7_0 26 rfl), (wq_at mw_7_6 28 rfl), (fun h => by cases h), (fun _ => (wq_at mw_7_0 27 rfl)), (fun _ => (wq_at mw_7_0 28 rfl))⟩
def kX7_at_0 : List xm_I := [(.iload 0, 1, 0, 0, 0), (.aload 0, 0, 0, 0, 0), (.getfield 0, 7, 7, 0, 0), (.if_icmp .ge 0, 17, 0, 0, 0), (.aload 0, 0, 0, 0, 0), (.getfield 0, 7, 5, 2, 0), (.iload 0, 1, 0, 0, 0), (.iaload, 0, 0, 0, 0)]
theorem bk_X7_at_0 : xm_okb cX7_at 7 2 0 false 14 0 kX7_at_0 = true := by decide +kernel
def kX7_at_17 : List xm_I := [(.sipush 0, 0, 0, 0, (-1))]
theorem bk_X7_at_17 : xm_okb cX7_at 7 2 0 false 18 17 kX7_at_17 = true := by decide +kernel
def kX7_at_18 : List xm_I := [(.ireturn, 0, 0, 0, 0)]
theorem bk_X7_at_18 : xm_okb cX7_at 7 2 0 false 19 18 kX7_at_18 = true := by decide +kernel
def kX7_at_14 : List xm_I := [(.goto 0, 18, 0, 0, 0)]
theorem bk_X7_at_14 : xm_okb cX7_at 7 2 0 false 17 14 kX7_at_14 = true := by decide +kernel
abbrev mt_X7_isLetter : xm_T4 := (yX7_isLetter, cX7_isLetter, 1, (some .boolean))
theorem mo_X7_isLetter : xm_mo mt_X7_isLetter 7 1 1 false true := ⟨by decide +kernel, rfl, (fun h => by cases h), rfl, by decide, ⟨by decide +kernel, by decide +kernel, by decide +kernel⟩, (wq_at mw_7_0 29 rfl), (wq_at mw_7_6 28 rfl), (fun _ => (wq_at mw_7_0 30 rfl)), (fun h => by cases h), (fun h => by cases h.1)⟩
def kX7_isLetter_0 : List xm_I := [(.iload 0, 0, 0, 0, 0), (.sipush 0, 0, 0, 0, 97), (.if_icmp .lt 0, 16, 0, 0, 0), (.iload 0, 0, 0, 0, 0), (.sipush 0, 0, 0, 0, 122), (.if_icmp .gt 0, 16, 0, 0, 0), (.sipush 0, 0, 0, 0, 1), (.goto 0, 17, 0, 0, 0)]
theorem bk_X7_isLetter_0 : xm_okb cX7_isLetter 7 1 1 false 16 0 kX7_isLetter_0 = true := by decide +kernel
def kX7_isLetter_16 : List xm_I := [(.sipush 0, 0, 0, 0, 0)]
theorem bk_X7_isLetter_16 : xm_okb cX7_isLetter 7 1 1 false 17 16 kX7_isLetter_16 = true := by decide +kernel
def kX7_isLetter_17 : List xm_I := [(.ireturn, 1, 0, 0, 0)]
theorem bk_X7_isLetter_17 : xm_okb cX7_isLetter 7 1 1 false 18 17 kX7_isLetter_17 = true := by decide +kernel
abbrev mt_X7_isDigit : xm_T4 := (yX7_isDigit, cX7_isDigit, 1, (some .boolean))
theorem mo_X7_isDigit : xm_mo mt_X7_isDigit 7 1 1 false true := ⟨by decide +kernel, rfl, (fun h => by cases h), rfl, by decide, ⟨by decide +kernel, by decide +kernel, by decide +kernel⟩, (wq_at mw_7_0 31 rfl), (wq_at mw_7_6 28 rfl), (fun _ => (wq_at mw_7_0 32 rfl)), (fun h => by cases h), (fun h => by cases h.1)⟩
def kX7_isDigit_0 : List xm_I := [(.iload 0, 0, 0, 0, 0), (.sipush 0, 0, 0, 0, 48), (.if_icmp .lt 0, 16, 0, 0, 0), (.iload 0, 0, 0, 0, 0), (.sipush 0, 0, 0, 0, 57), (.if_icmp .gt 0, 16, 0, 0, 0), (.sipush 0, 0, 0, 0, 1), (.goto 0, 17, 0, 0, 0)]
theorem bk_X7_isDigit_0 : xm_okb cX7_isDigit 7 1 1 false 16 0 kX7_isDigit_0 = true := by decide +kernel
def kX7_isDigit_16 : List xm_I := [(.sipush 0, 0, 0, 0, 0)]
theorem bk_X7_isDigit_16 : xm_okb cX7_isDigit 7 1 1 false 17 16 kX7_isDigit_16 = true := by decide +kernel
def kX7_isDigit_17 : List xm_I := [(.ireturn, 1, 0, 0, 0)]
theorem bk_X7_isDigit_17 : xm_okb cX7_isDigit 7 1 1 false 18 17 kX7_isDigit_17 = true := by decide +kernel
abbrev mt_X7_token : xm_T4 := (yX7_token, cX7_token, 2, none)
theorem mo_X7_token : xm_mo mt_X7_token 7 0 3 false false := ⟨by decide +kernel, rfl, (fun h => by cases h), rfl, by decide, ⟨by decide +kernel, by decide +kernel, by decide +kernel⟩, (wq_at mw_7_0 33 rfl), (wq_at mw_7_6 28 rfl), (fun h => by cases h), (fun _ => (wq_at mw_7_0 34 rfl)), (fun _ => (wq_at mw_7_0 35 rfl))⟩
def kX7_token_0 : List xm_I := [(.aload 0, 0, 0, 0, 0), (.aload 0, 0, 0, 0, 0), (.getfield 0, 7, 8, 0, 0)]
theorem bk_X7_token_0 : xm_okb cX7_token 7 2 3 false 5 0 kX7_token_0 = true := by decide +kernel
def kX7_token_8 : List xm_I := [(.sipush 0, 0, 0, 0, 10), (.if_icmp .eq 0, 26, 0, 0, 0), (.aload 0, 0, 0, 0, 0), (.aload 0, 0, 0, 0, 0), (.getfield 0, 7, 8, 0, 0)]
theorem bk_X7_token_8 : xm_okb cX7_token 7 2 3 false 18 8 kX7_token_8 = true := by decide +kernel
def kX7_token_21 : List xm_I := [(.sipush 0, 0, 0, 0, 32), (.if_icmp .ne 0, 39, 0, 0, 0)]
theorem bk_X7_token_21 : xm_okb cX7_token 7 2 3 false 26 21 kX7_token_21 = true := by decide +kernel
def kX7_token_26 : List xm_I := [(.aload 0, 0, 0, 0, 0), (.dup, 0, 0, 0, 0), (.getfield 0, 7, 8, 0, 0), (.sipush 0, 0, 0, 0, 1), (.iadd, 0, 0, 0, 0), (.putfield 0, 7, 8, 0, 0), (.goto 0, 0, 0, 0, 0)]
theorem bk_X7_token_26 : xm_okb cX7_token 7 2 3 false 39 26 kX7_token_26 = true := by decide +kernel
def kX7_token_39 : List xm_I := [(.aload 0, 0, 0, 0, 0), (.aload 0, 0, 0, 0, 0), (.getfield 0, 7, 8, 0, 0), (.putfield 0, 7, 9, 0, 0), (.aload 0, 0, 0, 0, 0), (.aload 0, 0, 0, 0, 0), (.getfield 0, 7, 8, 0, 0)]
theorem bk_X7_token_39 : xm_okb cX7_token 7 2 3 false 52 39 kX7_token_39 = true := by decide +kernel
def kX7_token_55 : List xm_I := [(.istore 0, 1, 0, 0, 0), (.iload 0, 1, 0, 0, 0), (.sipush 0, 0, 0, 0, (-1)), (.if_icmp .ne 0, 69, 0, 0, 0), (.aload 0, 0, 0, 0, 0), (.sipush 0, 0, 0, 0, 0), (.putfield 0, 7, 10, 0, 0), (.goto 0, 236, 0, 0, 0)]
theorem bk_X7_token_55 : xm_okb cX7_token 7 2 3 false 69 55 kX7_token_55 = true := by decide +kernel
def kX7_token_69 : List xm_I := [(.iload 0, 1, 0, 0, 0)]
theorem bk_X7_token_69 : xm_okb cX7_token 7 2 3 false 70 69 kX7_token_69 = true := by decide +kernel
def kX7_token_73 : List xm_I := [(.ifCond .eq 0, 111, 0, 0, 0)]
theorem bk_X7_token_73 : xm_okb cX7_token 7 2 3 false 76 73 kX7_token_73 = true := by decide +kernel
def kX7_token_76 : List xm_I := [(.aload 0, 0, 0, 0, 0), (.aload 0, 0, 0, 0, 0), (.getfield 0, 7, 8, 0, 0)]
theorem bk_X7_token_76 : xm_okb cX7_token 7 2 3 false 81 76 kX7_token_76 = true := by decide +kernel
def kX7_token_87 : List xm_I := [(.ifCond .eq 0, 103, 0, 0, 0), (.aload 0, 0, 0, 0, 0), (.dup, 0, 0, 0, 0), (.getfield 0, 7, 8, 0, 0), (.sipush 0, 0, 0, 0, 1), (.iadd, 0, 0, 0, 0), (.putfield 0, 7, 8, 0, 0), (.goto 0, 76, 0, 0, 0)]
theorem bk_X7_token_87 : xm_okb cX7_token 7 2 3 false 103 87 kX7_token_87 = true := by decide +kernel
def kX7_token_103 : List xm_I := [(.aload 0, 0, 0, 0, 0), (.sipush 0, 0, 0, 0, 1), (.putfield 0, 7, 10, 0, 0), (.goto 0, 236, 0, 0, 0)]
theorem bk_X7_token_103 : xm_okb cX7_token 7 2 3 false 111 103 kX7_token_103 = true := by decide +kernel
def kX7_token_111 : List xm_I := [(.iload 0, 1, 0, 0, 0)]
theorem bk_X7_token_111 : xm_okb cX7_token 7 2 3 false 112 111 kX7_token_111 = true := by decide +kernel
def kX7_token_115 : List xm_I := [(.ifCond .eq 0, 211, 0, 0, 0), (.aload 0, 0, 0, 0, 0), (.sipush 0, 0, 0, 0, 0), (.putfield 0, 7, 11, 0, 0)]
theorem bk_X7_token_115 : xm_okb cX7_token 7 2 3 false 123 115 kX7_token_115 = true := by decide +kernel
def kX7_token_123 : List xm_I := [(.aload 0, 0, 0, 0, 0), (.aload 0, 0, 0, 0, 0), (.getfield 0, 7, 8, 0, 0)]
theorem bk_X7_token_123 : xm_okb cX7_token 7 2 3 false 128 123 kX7_token_123 = true := by decide +kernel
def kX7_token_134 : List xm_I := [(.ifCond .eq 0, 186, 0, 0, 0), (.aload 0, 0, 0, 0, 0), (.getfield 0, 7, 8, 0, 0), (.aload 0, 0, 0, 0, 0), (.getfield 0, 7, 9, 0, 0), (.isub, 0, 0, 0, 0), (.sipush 0, 0, 0, 0, 4), (.if_icmp .ge 0, 173, 0, 0, 0)]
theorem bk_X7_token_134 : xm_okb cX7_token 7 2 3 false 150 134 kX7_token_134 = true := by decide +kernel
def kX7_token_166 : List xm_I := [(.iadd, 0, 0, 0, 0), (.sipush 0, 0, 0, 0, 48), (.isub, 0, 0, 0, 0), (.putfield 0, 7, 11, 0, 0)]
theorem bk_X7_token_166 : xm_okb cX7_token 7 2 3 false 173 166 kX7_token_166 = true := by decide +kernel
def kX7_token_173 : List xm_I := [(.aload 0, 0, 0, 0, 0), (.dup, 0, 0, 0, 0), (.getfield 0, 7, 8, 0, 0), (.sipush 0, 0, 0, 0, 1), (.iadd, 0, 0, 0, 0), (.putfield 0, 7, 8, 0, 0), (.goto 0, 123, 0, 0, 0)]
theorem bk_X7_token_173 : xm_okb cX7_token 7 2 3 false 186 173 kX7_token_173 = true := by decide +kernel
def kX7_token_186 : List xm_I := [(.aload 0, 0, 0, 0, 0), (.aload 0, 0, 0, 0, 0), (.getfield 0, 7, 8, 0, 0), (.aload 0, 0, 0, 0, 0), (.getfield 0, 7, 9, 0, 0), (.isub, 0, 0, 0, 0), (.sipush 0, 0, 0, 0, 4), (.if_icmp .le 0, 204, 0, 0, 0)]
theorem bk_X7_token_186 : xm_okb cX7_token 7 2 3 false 200 186 kX7_token_186 = true := by decide +kernel
def kX7_token_204 : List xm_I := [(.sipush 0, 0, 0, 0, 2)]
theorem bk_X7_token_204 : xm_okb cX7_token 7 2 3 false 205 204 kX7_token_204 = true := by decide +kernel
def kX7_token_205 : List xm_I := [(.putfield 0, 7, 10, 0, 0), (.goto 0, 236, 0, 0, 0)]
theorem bk_X7_token_205 : xm_okb cX7_token 7 2 3 false 211 205 kX7_token_205 = true := by decide +kernel
def kX7_token_211 : List xm_I := [(.aload 0, 0, 0, 0, 0), (.dup, 0, 0, 0, 0), (.getfield 0, 7, 8, 0, 0), (.sipush 0, 0, 0, 0, 1), (.iadd, 0, 0, 0, 0), (.putfield 0, 7, 8, 0, 0), (.aload 0, 0, 0, 0, 0), (.iload 0, 1, 0, 0, 0)]
theorem bk_X7_token_211 : xm_okb cX7_token 7 2 3 false 223 211 kX7_token_211 = true := by decide +kernel
def kX7_token_232 : List xm_I := [(.sipush 0, 0, 0, 0, 4)]
theorem bk_X7_token_232 : xm_okb cX7_token 7 2 3 false 233 232 kX7_token_232 = true := by decide +kernel
def kX7_token_233 : List xm_I := [(.putfield 0, 7, 10, 0, 0)]
theorem bk_X7_token_233 : xm_okb cX7_token 7 2 3 false 236 233 kX7_token_233 = true := by decide +kernel
def kX7_token_236 : List xm_I := [(.return_, 0, 0, 0, 0)]
theorem bk_X7_token_236 : xm_okb cX7_token 7 2 3 false 237 236 kX7_token_236 = true := by decide +kernel
def kX7_token_150 : List xm_I := [(.aload 0, 0, 0, 0, 0), (.sipush 0, 0, 0, 0, 10), (.aload 0, 0, 0, 0, 0), (.getfield 0, 7, 11, 0, 0), (.imul, 0, 0, 0, 0), (.aload 0, 0, 0, 0, 0), (.aload 0, 0, 0, 0, 0), (.getfield 0, 7, 8, 0, 0)]
theorem bk_X7_token_150 : xm_okb cX7_token 7 2 3 false 163 150 kX7_token_150 = true := by decide +kernel
def kX7_token_200 : List xm_I := [(.sipush 0, 0, 0, 0, 4), (.goto 0, 205, 0, 0, 0)]
theorem bk_X7_token_200 : xm_okb cX7_token 7 2 3 false 204 200 kX7_token_200 = true := by decide +kernel
def kX7_token_223 : List xm_I := [(.sipush 0, 0, 0, 0, 59), (.if_icmp .ne 0, 232, 0, 0, 0), (.sipush 0, 0, 0, 0, 3), (.goto 0, 233, 0, 0, 0)]
theorem bk_X7_token_223 : xm_okb cX7_token 7 2 3 false 232 223 kX7_token_223 = true := by decide +kernel
abbrev mt_X7_isWrong : xm_T4 := (yX7_isWrong, cX7_isWrong, 1, (some .boolean))
theorem mo_X7_isWrong : xm_mo mt_X7_isWrong 7 0 1 false false := ⟨by decide +kernel, rfl, (fun h => by cases h), rfl, by decide, ⟨by decide +kernel, by decide +kernel, by decide +kernel⟩, (wq_at mw_7_0 36 rfl), (wq_at mw_7_6 28 rfl), (fun h => by cases h), (fun _ => (wq_at mw_7_0 37 rfl)), (fun _ => (wq_at mw_7_0 38 rfl))⟩
def kX7_isWrong_0 : List xm_I := [(.aload 0, 0, 0, 0, 0), (.getfield 0, 7, 12, 0, 0), (.ifCond .eq 0, 11, 0, 0, 0), (.sipush 0, 0, 0, 0, 1), (.goto 0, 12, 0, 0, 0)]
theorem bk_X7_isWrong_0 : xm_okb cX7_isWrong 7 1 1 false 11 0 kX7_isWrong_0 = true := by decide +kernel
def kX7_isWrong_11 : List xm_I := [(.sipush 0, 0, 0, 0, 0)]
theorem bk_X7_isWrong_11 : xm_okb cX7_isWrong 7 1 1 false 12 11 kX7_isWrong_11 = true := by decide +kernel
def kX7_isWrong_12 : List xm_I := [(.ireturn, 1, 0, 0, 0)]
theorem bk_X7_isWrong_12 : xm_okb cX7_isWrong 7 1 1 false 13 12 kX7_isWrong_12 = true := by decide +kernel
abbrev mt_X7_fails : xm_T4 := (yX7_fails, cX7_fails, 2, none)
theorem mo_X7_fails : xm_mo mt_X7_fails 7 1 3 false false := ⟨by decide +kernel, rfl, (fun h => by cases h), rfl, by decide, ⟨by decide +kernel, by decide +kernel, by decide +kernel⟩, (wq_at mw_7_0 39 rfl), (wq_at mw_7_6 28 rfl), (fun h => by cases h), (fun _ => (wq_at mw_7_1 0 rfl)), (fun _ => (wq_at mw_7_1 1 rfl))⟩
def kX7_fails_0 : List xm_I := [(.aload 0, 0, 0, 0, 0)]
theorem bk_X7_fails_0 : xm_okb cX7_fails 7 2 3 false 1 0 kX7_fails_0 = true := by decide +kernel
def kX7_fails_4 : List xm_I := [(.ifCond .eq 0, 8, 0, 0, 0), (.return_, 0, 0, 0, 0)]
theorem bk_X7_fails_4 : xm_okb cX7_fails 7 2 3 false 8 4 kX7_fails_4 = true := by decide +kernel
def kX7_fails_8 : List xm_I := [(.aload 0, 0, 0, 0, 0), (.iload 0, 1, 0, 0, 0), (.putfield 0, 7, 12, 0, 0), (.aload 0, 0, 0, 0, 0), (.aload 0, 0, 0, 0, 0), (.getfield 0, 7, 9, 0, 0), (.putfield 0, 7, 13, 0, 0), (.return_, 0, 0, 0, 0)]
theorem bk_X7_fails_8 : xm_okb cX7_fails 7 2 3 false 22 8 kX7_fails_8 = true := by decide +kernel
abbrev mt_X7_isWord : xm_T4 := (yX7_isWord, cX7_isWord, 3, (some .boolean))
theorem mo_X7_isWord : xm_mo mt_X7_isWord 7 1 1 false false := ⟨by decide +kernel, rfl, (fun h => by cases h), rfl, by decide, ⟨by decide +kernel, by decide +kernel, by decide +kernel⟩, (wq_at mw_7_1 2 rfl), (wq_at mw_7_6 28 rfl), (fun h => by cases h), (fun _ => (wq_at mw_7_1 3 rfl)), (fun _ => (wq_at mw_7_1 4 rfl))⟩
def kX7_isWord_0 : List xm_I := [(.aload 0, 0, 0, 0, 0)]
theorem bk_X7_isWord_0 : xm_okb cX7_isWord 7 3 1 false 1 0 kX7_isWord_0 = true := by decide +kernel
def kX7_isWord_4 : List xm_I := [(.ifCond .ne 0, 31, 0, 0, 0), (.aload 0, 0, 0, 0, 0), (.getfield 0, 7, 10, 0, 0), (.sipush 0, 0, 0, 0, 1), (.if_icmp .ne 0, 31, 0, 0, 0), (.aload 0, 0, 0, 0, 0), (.getfield 0, 7, 8, 0, 0), (.aload 0, 0, 0, 0, 0)]
theorem bk_X7_isWord_4 : xm_okb cX7_isWord 7 3 1 false 20 4 kX7_isWord_4 = true := by decide +kernel
def kX7_isWord_28 : List xm_I := [(.if_icmp .eq 0, 33, 0, 0, 0)]
theorem bk_X7_isWord_28 : xm_okb cX7_isWord 7 3 1 false 31 28 kX7_isWord_28 = true := by decide +kernel
def kX7_isWord_31 : List xm_I := [(.sipush 0, 0, 0, 0, 0), (.ireturn, 1, 0, 0, 0)]
theorem bk_X7_isWord_31 : xm_okb cX7_isWord 7 3 1 false 33 31 kX7_isWord_31 = true := by decide +kernel
def kX7_isWord_33 : List xm_I := [(.sipush 0, 0, 0, 0, 0), (.istore 0, 2, 0, 0, 0)]
theorem bk_X7_isWord_33 : xm_okb cX7_isWord 7 3 1 false 35 33 kX7_isWord_33 = true := by decide +kernel
def kX7_isWord_35 : List xm_I := [(.iload 0, 2, 0, 0, 0), (.aload 0, 1, 0, 0, 0)]
theorem bk_X7_isWord_35 : xm_okb cX7_isWord 7 3 1 false 37 35 kX7_isWord_35 = true := by decide +kernel
def kX7_isWord_40 : List xm_I := [(.if_icmp .ge 0, 69, 0, 0, 0), (.aload 0, 0, 0, 0, 0), (.aload 0, 0, 0, 0, 0), (.getfield 0, 7, 9, 0, 0), (.iload 0, 2, 0, 0, 0), (.iadd, 0, 0, 0, 0)]
theorem bk_X7_isWord_40 : xm_okb cX7_isWord 7 3 1 false 50 40 kX7_isWord_40 = true := by decide +kernel
def kX7_isWord_53 : List xm_I := [(.aload 0, 1, 0, 0, 0), (.iload 0, 2, 0, 0, 0)]
theorem bk_X7_isWord_53 : xm_okb cX7_isWord 7 3 1 false 55 53 kX7_isWord_53 = true := by decide +kernel
def kX7_isWord_58 : List xm_I := [(.if_icmp .eq 0, 63, 0, 0, 0), (.sipush 0, 0, 0, 0, 0), (.ireturn, 1, 0, 0, 0)]
theorem bk_X7_isWord_58 : xm_okb cX7_isWord 7 3 1 false 63 58 kX7_isWord_58 = true := by decide +kernel
def kX7_isWord_63 : List xm_I := [(.iinc 0 0, 2, 0, 0, 1), (.goto 0, 35, 0, 0, 0)]
theorem bk_X7_isWord_63 : xm_okb cX7_isWord 7 3 1 false 69 63 kX7_isWord_63 = true := by decide +kernel
def kX7_isWord_69 : List xm_I := [(.sipush 0, 0, 0, 0, 1), (.ireturn, 1, 0, 0, 0)]
theorem bk_X7_isWord_69 : xm_okb cX7_isWord 7 3 1 false 71 69 kX7_isWord_69 = true := by decide +kernel
def kX7_isWord_20 : List xm_I := [(.getfield 0, 7, 9, 0, 0), (.isub, 0, 0, 0, 0), (.aload 0, 1, 0, 0, 0)]
theorem bk_X7_isWord_20 : xm_okb cX7_isWord 7 3 1 false 25 20 kX7_isWord_20 = true := by decide +kernel
abbrev mt_X7_takesWord : xm_T4 := (yX7_takesWord, cX7_takesWord, 3, (some .boolean))
theorem mo_X7_takesWord : xm_mo mt_X7_takesWord 7 1 1 false false := ⟨by decide +kernel, rfl, (fun h => by cases h), rfl, by decide, ⟨by decide +kernel, by decide +kernel, by decide +kernel⟩, (wq_at mw_7_1 5 rfl), (wq_at mw_7_6 28 rfl), (fun h => by cases h), (fun _ => (wq_at mw_7_1 6 rfl)), (fun _ => (wq_at mw_7_1 7 rfl))⟩
def kX7_takesWord_0 : List xm_I := [(.aload 0, 0, 0, 0, 0), (.aload 0, 1, 0, 0, 0)]
theorem bk_X7_takesWord_0 : xm_okb cX7_takesWord 7 3 1 false 2 0 kX7_takesWord_0 = true := by decide +kernel
def kX7_takesWord_5 : List xm_I := [(.istore 0, 2, 0, 0, 0), (.iload 0, 2, 0, 0, 0), (.ifCond .eq 0, 14, 0, 0, 0), (.aload 0, 0, 0, 0, 0)]
theorem bk_X7_takesWord_5 : xm_okb cX7_takesWord 7 3 1 false 11 5 kX7_takesWord_5 = true := by decide +kernel
def kX7_takesWord_14 : List xm_I := [(.iload 0, 2, 0, 0, 0), (.ireturn, 1, 0, 0, 0)]
theorem bk_X7_takesWord_14 : xm_okb cX7_takesWord 7 3 1 false 16 14 kX7_takesWord_14 = true := by decide +kernel
abbrev mt_X7_figure : xm_T4 := (yX7_figure, cX7_figure, 4, (some .int))
theorem mo_X7_figure : xm_mo mt_X7_figure 7 2 0 false false := ⟨by decide +kernel, rfl, (fun h => by cases h), rfl, by decide, ⟨by decide +kernel, by decide +kernel, by decide +kernel⟩, (wq_at mw_7_1 8 rfl), (wq_at mw_7_6 28 rfl), (fun h => by cases h), (fun _ => (wq_at mw_7_1 9 rfl)), (fun _ => (wq_at mw_7_1 10 rfl))⟩
def kX7_figure_0 : List xm_I := [(.aload 0, 0, 0, 0, 0)]
theorem bk_X7_figure_0 : xm_okb cX7_figure 7 4 0 false 1 0 kX7_figure_0 = true := by decide +kernel
def kX7_figure_4 : List xm_I := [(.ifCond .eq 0, 9, 0, 0, 0), (.iload 0, 1, 0, 0, 0), (.ireturn, 0, 0, 0, 0)]
theorem bk_X7_figure_4 : xm_okb cX7_figure 7 4 0 false 9 4 kX7_figure_4 = true := by decide +kernel
def kX7_figure_9 : List xm_I := [(.aload 0, 0, 0, 0, 0), (.getfield 0, 7, 10, 0, 0), (.sipush 0, 0, 0, 0, 2), (.if_icmp .eq 0, 25, 0, 0, 0), (.aload 0, 0, 0, 0, 0), (.sipush 0, 0, 0, 0, 1)]
theorem bk_X7_figure_9 : xm_okb cX7_figure 7 4 0 false 19 9 kX7_figure_9 = true := by decide +kernel
def kX7_figure_22 : List xm_I := [(.goto 0, 42, 0, 0, 0)]
theorem bk_X7_figure_22 : xm_okb cX7_figure 7 4 0 false 25 22 kX7_figure_22 = true := by decide +kernel
def kX7_figure_25 : List xm_I := [(.aload 0, 0, 0, 0, 0), (.getfield 0, 7, 11, 0, 0), (.iload 0, 1, 0, 0, 0), (.iload 0, 2, 0, 0, 0)]
theorem bk_X7_figure_25 : xm_okb cX7_figure 7 4 0 false 31 25 kX7_figure_25 = true := by decide +kernel
def kX7_figure_34 : List xm_I := [(.ifCond .ne 0, 42, 0, 0, 0), (.aload 0, 0, 0, 0, 0), (.sipush 0, 0, 0, 0, 2)]
theorem bk_X7_figure_34 : xm_okb cX7_figure 7 4 0 false 39 34 kX7_figure_34 = true := by decide +kernel
def kX7_figure_42 : List xm_I := [(.aload 0, 0, 0, 0, 0), (.getfield 0, 7, 11, 0, 0), (.istore 0, 3, 0, 0, 0), (.aload 0, 0, 0, 0, 0)]
theorem bk_X7_figure_42 : xm_okb cX7_figure 7 4 0 false 48 42 kX7_figure_42 = true := by decide +kernel
def kX7_figure_51 : List xm_I := [(.ifCond .ne 0, 58, 0, 0, 0), (.aload 0, 0, 0, 0, 0)]
theorem bk_X7_figure_51 : xm_okb cX7_figure 7 4 0 false 55 51 kX7_figure_51 = true := by decide +kernel
def kX7_figure_58 : List xm_I := [(.iload 0, 3, 0, 0, 0), (.ireturn, 0, 0, 0, 0)]
theorem bk_X7_figure_58 : xm_okb cX7_figure 7 4 0 false 60 58 kX7_figure_58 = true := by decide +kernel
abbrev mt_X7_ends : xm_T4 := (yX7_ends, cX7_ends, 1, none)
theorem mo_X7_ends : xm_mo mt_X7_ends 7 0 3 false false := ⟨by decide +kernel, rfl, (fun h => by cases h), rfl, by decide, ⟨by decide +kernel, by decide +kernel, by decide +kernel⟩, (wq_at mw_7_1 11 rfl), (wq_at mw_7_6 28 rfl), (fun h => by cases h), (fun _ => (wq_at mw_7_1 12 rfl)), (fun _ => (wq_at mw_7_1 13 rfl))⟩
def kX7_ends_0 : List xm_I := [(.aload 0, 0, 0, 0, 0), (.getfield 0, 7, 10, 0, 0), (.sipush 0, 0, 0, 0, 3), (.if_icmp .eq 0, 13, 0, 0, 0), (.aload 0, 0, 0, 0, 0), (.sipush 0, 0, 0, 0, 1)]
theorem bk_X7_ends_0 : xm_okb cX7_ends 7 1 3 false 10 0 kX7_ends_0 = true := by decide +kernel
def kX7_ends_13 : List xm_I := [(.aload 0, 0, 0, 0, 0)]
theorem bk_X7_ends_13 : xm_okb cX7_ends 7 1 3 false 14 13 kX7_ends_13 = true := by decide +kernel
def kX7_ends_17 : List xm_I := [(.ifCond .ne 0, 24, 0, 0, 0), (.aload 0, 0, 0, 0, 0)]
theorem bk_X7_ends_17 : xm_okb cX7_ends 7 1 3 false 21 17 kX7_ends_17 = true := by decide +kernel
def kX7_ends_24 : List xm_I := [(.return_, 0, 0, 0, 0)]
theorem bk_X7_ends_24 : xm_okb cX7_ends 7 1 3 false 25 24 kX7_ends_24 = true := by decide +kernel
abbrev mt_X7_vibrationLine : xm_T4 := (yX7_vibrationLine, cX7_vibrationLine, 2, none)
theorem mo_X7_vibrationLine : xm_mo mt_X7_vibrationLine 7 0 3 false false := ⟨by decide +kernel, rfl, (fun h => by cases h), rfl, by decide, ⟨by decide +kernel, by decide +kernel, by decide +kernel⟩, (wq_at mw_7_1 14 rfl), (wq_at mw_7_6 28 rfl), (fun h => by cases h), (fun _ => (wq_at mw_7_1 15 rfl)), (fun _ => (wq_at mw_7_1 16 rfl))⟩
def kX7_vibrationLine_0 : List xm_I := [(.aload 0, 0, 0, 0, 0), (.getfield 0, 7, 2, 2, 0), (.sipush 0, 0, 0, 0, 4), (.iaload, 0, 0, 0, 0), (.sipush 0, 0, 0, 0, 4), (.if_icmp .ne 0, 15, 0, 0, 0), (.aload 0, 0, 0, 0, 0), (.sipush 0, 0, 0, 0, 4)]
theorem bk_X7_vibrationLine_0 : xm_okb cX7_vibrationLine 7 2 3 false 12 0 kX7_vibrationLine_0 = true := by decide +kernel
def kX7_vibrationLine_15 : List xm_I := [(.aload 0, 0, 0, 0, 0)]
theorem bk_X7_vibrationLine_15 : xm_okb cX7_vibrationLine 7 2 3 false 16 15 kX7_vibrationLine_15 = true := by decide +kernel
def kX7_vibrationLine_19 : List xm_I := [(.ifCond .eq 0, 23, 0, 0, 0), (.return_, 0, 0, 0, 0)]
theorem bk_X7_vibrationLine_19 : xm_okb cX7_vibrationLine 7 2 3 false 23 19 kX7_vibrationLine_19 = true := by decide +kernel
def kX7_vibrationLine_23 : List xm_I := [(.aload 0, 0, 0, 0, 0)]
theorem bk_X7_vibrationLine_23 : xm_okb cX7_vibrationLine 7 2 3 false 24 23 kX7_vibrationLine_23 = true := by decide +kernel
def kX7_vibrationLine_27 : List xm_I := [(.sipush 0, 0, 0, 0, 16), (.sipush 0, 0, 0, 0, 3), (.aload 0, 0, 0, 0, 0), (.getfield 0, 7, 2, 2, 0), (.sipush 0, 0, 0, 0, 4), (.iaload, 0, 0, 0, 0), (.imul, 0, 0, 0, 0), (.iadd, 0, 0, 0, 0)]
theorem bk_X7_vibrationLine_27 : xm_okb cX7_vibrationLine 7 2 3 false 38 27 kX7_vibrationLine_27 = true := by decide +kernel
def kX7_vibrationLine_52 : List xm_I := [(.iastore, 0, 0, 0, 0), (.aload 0, 0, 0, 0, 0)]
theorem bk_X7_vibrationLine_52 : xm_okb cX7_vibrationLine 7 2 3 false 54 52 kX7_vibrationLine_52 = true := by decide +kernel
def kX7_vibrationLine_57 : List xm_I := [(.ifCond .ne 0, 83, 0, 0, 0), (.aload 0, 0, 0, 0, 0), (.getfield 0, 7, 10, 0, 0), (.sipush 0, 0, 0, 0, 2), (.if_icmp .ne 0, 83, 0, 0, 0), (.aload 0, 0, 0, 0, 0), (.getfield 0, 7, 11, 0, 0), (.sipush 0, 0, 0, 0, 2)]
theorem bk_X7_vibrationLine_57 : xm_okb cX7_vibrationLine 7 2 3 false 73 57 kX7_vibrationLine_57 = true := by decide +kernel
def kX7_vibrationLine_83 : List xm_I := [(.aload 0, 0, 0, 0, 0), (.getfield 0, 7, 2, 2, 0), (.iload 0, 1, 0, 0, 0), (.sipush 0, 0, 0, 0, 1), (.iadd, 0, 0, 0, 0), (.aload 0, 0, 0, 0, 0), (.sipush 0, 0, 0, 0, 2), (.sipush 0, 0, 0, 0, 40)]
theorem bk_X7_vibrationLine_83 : xm_okb cX7_vibrationLine 7 2 3 false 94 83 kX7_vibrationLine_83 = true := by decide +kernel
def kX7_vibrationLine_97 : List xm_I := [(.iastore, 0, 0, 0, 0), (.aload 0, 0, 0, 0, 0), (.getfield 0, 7, 2, 2, 0), (.iload 0, 1, 0, 0, 0), (.sipush 0, 0, 0, 0, 2), (.iadd, 0, 0, 0, 0), (.aload 0, 0, 0, 0, 0), (.sipush 0, 0, 0, 0, 0)]
theorem bk_X7_vibrationLine_97 : xm_okb cX7_vibrationLine 7 2 3 false 107 97 kX7_vibrationLine_97 = true := by decide +kernel
def kX7_vibrationLine_120 : List xm_I := [(.iastore, 0, 0, 0, 0), (.aload 0, 0, 0, 0, 0), (.getfield 0, 7, 2, 2, 0), (.sipush 0, 0, 0, 0, 4), (.dup2, 0, 0, 0, 0), (.iaload, 0, 0, 0, 0), (.sipush 0, 0, 0, 0, 1), (.iadd, 0, 0, 0, 0)]
theorem bk_X7_vibrationLine_120 : xm_okb cX7_vibrationLine 7 2 3 false 130 120 kX7_vibrationLine_120 = true := by decide +kernel
def kX7_vibrationLine_135 : List xm_I := [(.return_, 0, 0, 0, 0)]
theorem bk_X7_vibrationLine_135 : xm_okb cX7_vibrationLine 7 2 3 false 136 135 kX7_vibrationLine_135 = true := by decide +kernel
def kX7_vibrationLine_38 : List xm_I := [(.istore 0, 1, 0, 0, 0), (.aload 0, 0, 0, 0, 0), (.getfield 0, 7, 2, 2, 0), (.iload 0, 1, 0, 0, 0), (.aload 0, 0, 0, 0, 0), (.sipush 0, 0, 0, 0, 1), (.sipush 0, 0, 0, 0, 999)]
theorem bk_X7_vibrationLine_38 : xm_okb cX7_vibrationLine 7 2 3 false 49 38 kX7_vibrationLine_38 = true := by decide +kernel
def kX7_vibrationLine_73 : List xm_I := [(.irem, 0, 0, 0, 0), (.sipush 0, 0, 0, 0, 1), (.if_icmp .ne 0, 83, 0, 0, 0), (.aload 0, 0, 0, 0, 0), (.sipush 0, 0, 0, 0, 2)]
theorem bk_X7_vibrationLine_73 : xm_okb cX7_vibrationLine 7 2 3 false 80 73 kX7_vibrationLine_73 = true := by decide +kernel
def kX7_vibrationLine_107 : List xm_I := [(.aload 0, 0, 0, 0, 0), (.getfield 0, 7, 2, 2, 0), (.iload 0, 1, 0, 0, 0), (.sipush 0, 0, 0, 0, 1), (.iadd, 0, 0, 0, 0), (.iaload, 0, 0, 0, 0), (.sipush 0, 0, 0, 0, 1), (.isub, 0, 0, 0, 0)]
theorem bk_X7_vibrationLine_107 : xm_okb cX7_vibrationLine 7 2 3 false 117 107 kX7_vibrationLine_107 = true := by decide +kernel
def kX7_vibrationLine_130 : List xm_I := [(.iastore, 0, 0, 0, 0), (.aload 0, 0, 0, 0, 0)]
theorem bk_X7_vibrationLine_130 : xm_okb cX7_vibrationLine 7 2 3 false 132 130 kX7_vibrationLine_130 = true := by decide +kernel
abbrev mt_X7_kindHere : xm_T4 := (yX7_kindHere, cX7_kindHere, 1, (some .int))
theorem mo_X7_kindHere : xm_mo mt_X7_kindHere 7 0 0 false false := ⟨by decide +kernel, rfl, (fun h => by cases h), rfl, by decide, ⟨by decide +kernel, by decide +kernel, by decide +kernel⟩, (wq_at mw_7_1 17 rfl), (wq_at mw_7_6 28 rfl), (fun h => by cases h), (fun _ => (wq_at mw_7_1 18 rfl)), (fun _ => (wq_at mw_7_1 19 rfl))⟩
def kX7_kindHere_0 : List xm_I := [(.aload 0, 0, 0, 0, 0)]
theorem bk_X7_kindHere_0 : xm_okb cX7_kindHere 7 1 0 false 1 0 kX7_kindHere_0 = true := by decide +kernel
def kX7_kindHere_6 : List xm_I := [(.ifCond .eq 0, 13, 0, 0, 0), (.sipush 0, 0, 0, 0, 0), (.goto 0, 40, 0, 0, 0)]
theorem bk_X7_kindHere_6 : xm_okb cX7_kindHere 7 1 0 false 13 6 kX7_kindHere_6 = true := by decide +kernel
def kX7_kindHere_13 : List xm_I := [(.aload 0, 0, 0, 0, 0)]
theorem bk_X7_kindHere_13 : xm_okb cX7_kindHere 7 1 0 false 14 13 kX7_kindHere_13 = true := by decide +kernel
def kX7_kindHere_19 : List xm_I := [(.ifCond .eq 0, 26, 0, 0, 0), (.sipush 0, 0, 0, 0, 2), (.goto 0, 40, 0, 0, 0)]
theorem bk_X7_kindHere_19 : xm_okb cX7_kindHere 7 1 0 false 26 19 kX7_kindHere_19 = true := by decide +kernel
def kX7_kindHere_26 : List xm_I := [(.aload 0, 0, 0, 0, 0)]
theorem bk_X7_kindHere_26 : xm_okb cX7_kindHere 7 1 0 false 27 26 kX7_kindHere_26 = true := by decide +kernel
def kX7_kindHere_32 : List xm_I := [(.ifCond .eq 0, 39, 0, 0, 0), (.sipush 0, 0, 0, 0, 3), (.goto 0, 40, 0, 0, 0)]
theorem bk_X7_kindHere_32 : xm_okb cX7_kindHere 7 1 0 false 39 32 kX7_kindHere_32 = true := by decide +kernel
def kX7_kindHere_39 : List xm_I := [(.sipush 0, 0, 0, 0, (-1))]
theorem bk_X7_kindHere_39 : xm_okb cX7_kindHere 7 1 0 false 40 39 kX7_kindHere_39 = true := by decide +kernel
def kX7_kindHere_40 : List xm_I := [(.ireturn, 0, 0, 0, 0)]
theorem bk_X7_kindHere_40 : xm_okb cX7_kindHere 7 1 0 false 41 40 kX7_kindHere_40 = true := by decide +kernel
abbrev mt_X7_gateLine : xm_T4 := (yX7_gateLine, cX7_gateLine, 4, none)
theorem mo_X7_gateLine : xm_mo mt_X7_gateLine 7 0 3 false false := ⟨by decide +kernel, rfl, (fun h => by cases h), rfl, by decide, ⟨by decide +kernel, by decide +kernel, by decide +kernel⟩, (wq_at mw_7_1 20 rfl), (wq_at mw_7_6 28 rfl), (fun h => by cases h), (fun _ => (wq_at mw_7_1 21 rfl)), (fun _ => (wq_at mw_7_1 22 rfl))⟩
def kX7_gateLine_0 : List xm_I := [(.aload 0, 0, 0, 0, 0)]
theorem bk_X7_gateLine_0 : xm_okb cX7_gateLine 7 4 3 false 1 0 kX7_gateLine_0 = true := by decide +kernel
def kX7_gateLine_4 : List xm_I := [(.aload 0, 0, 0, 0, 0)]
theorem bk_X7_gateLine_4 : xm_okb cX7_gateLine 7 4 3 false 5 4 kX7_gateLine_4 = true := by decide +kernel
def kX7_gateLine_8 : List xm_I := [(.istore 0, 1, 0, 0, 0), (.iload 0, 1, 0, 0, 0), (.sipush 0, 0, 0, 0, (-1)), (.if_icmp .ne 0, 22, 0, 0, 0), (.aload 0, 0, 0, 0, 0), (.sipush 0, 0, 0, 0, 1)]
theorem bk_X7_gateLine_8 : xm_okb cX7_gateLine 7 4 3 false 16 8 kX7_gateLine_8 = true := by decide +kernel
def kX7_gateLine_19 : List xm_I := [(.goto 0, 40, 0, 0, 0)]
theorem bk_X7_gateLine_19 : xm_okb cX7_gateLine 7 4 3 false 22 19 kX7_gateLine_19 = true := by decide +kernel
def kX7_gateLine_22 : List xm_I := [(.aload 0, 0, 0, 0, 0), (.getfield 0, 7, 2, 2, 0), (.sipush 0, 0, 0, 0, 37), (.iload 0, 1, 0, 0, 0), (.iadd, 0, 0, 0, 0), (.iaload, 0, 0, 0, 0), (.sipush 0, 0, 0, 0, (-1)), (.if_icmp .eq 0, 40, 0, 0, 0)]
theorem bk_X7_gateLine_22 : xm_okb cX7_gateLine 7 4 3 false 35 22 kX7_gateLine_22 = true := by decide +kernel
def kX7_gateLine_40 : List xm_I := [(.aload 0, 0, 0, 0, 0)]
theorem bk_X7_gateLine_40 : xm_okb cX7_gateLine 7 4 3 false 41 40 kX7_gateLine_40 = true := by decide +kernel
def kX7_gateLine_44 : List xm_I := [(.ifCond .eq 0, 48, 0, 0, 0), (.return_, 0, 0, 0, 0)]
theorem bk_X7_gateLine_44 : xm_okb cX7_gateLine 7 4 3 false 48 44 kX7_gateLine_44 = true := by decide +kernel
def kX7_gateLine_48 : List xm_I := [(.aload 0, 0, 0, 0, 0)]
theorem bk_X7_gateLine_48 : xm_okb cX7_gateLine 7 4 3 false 49 48 kX7_gateLine_48 = true := by decide +kernel
def kX7_gateLine_52 : List xm_I := [(.aload 0, 0, 0, 0, 0), (.getfield 0, 7, 2, 2, 0), (.sipush 0, 0, 0, 0, 5), (.iaload, 0, 0, 0, 0), (.istore 0, 2, 0, 0, 0), (.sipush 0, 0, 0, 0, 28), (.sipush 0, 0, 0, 0, 3), (.iload 0, 2, 0, 0, 0)]
theorem bk_X7_gateLine_52 : xm_okb cX7_gateLine 7 4 3 false 63 52 kX7_gateLine_52 = true := by decide +kernel
def kX7_gateLine_94 : List xm_I := [(.aload 0, 0, 0, 0, 0), (.getfield 0, 7, 2, 2, 0), (.iload 0, 3, 0, 0, 0), (.sipush 0, 0, 0, 0, 2), (.isub, 0, 0, 0, 0), (.iaload, 0, 0, 0, 0)]
theorem bk_X7_gateLine_94 : xm_okb cX7_gateLine 7 4 3 false 102 94 kX7_gateLine_94 = true := by decide +kernel
def kX7_gateLine_102 : List xm_I := [(.sipush 0, 0, 0, 0, 1), (.iadd, 0, 0, 0, 0), (.aload 0, 0, 0, 0, 0), (.getfield 0, 7, 2, 2, 0), (.sipush 0, 0, 0, 0, 3), (.iaload, 0, 0, 0, 0), (.sipush 0, 0, 0, 0, 1), (.isub, 0, 0, 0, 0)]
theorem bk_X7_gateLine_102 : xm_okb cX7_gateLine 7 4 3 false 112 102 kX7_gateLine_102 = true := by decide +kernel
def kX7_gateLine_115 : List xm_I := [(.iastore, 0, 0, 0, 0), (.aload 0, 0, 0, 0, 0), (.getfield 0, 7, 2, 2, 0), (.iload 0, 3, 0, 0, 0), (.sipush 0, 0, 0, 0, 2), (.iadd, 0, 0, 0, 0), (.aload 0, 0, 0, 0, 0), (.sipush 0, 0, 0, 0, 0)]
theorem bk_X7_gateLine_115 : xm_okb cX7_gateLine 7 4 3 false 125 115 kX7_gateLine_115 = true := by decide +kernel
def kX7_gateLine_130 : List xm_I := [(.iastore, 0, 0, 0, 0), (.aload 0, 0, 0, 0, 0), (.getfield 0, 7, 2, 2, 0), (.sipush 0, 0, 0, 0, 37), (.iload 0, 1, 0, 0, 0), (.iadd, 0, 0, 0, 0), (.iload 0, 2, 0, 0, 0), (.iastore, 0, 0, 0, 0)]
theorem bk_X7_gateLine_130 : xm_okb cX7_gateLine 7 4 3 false 141 130 kX7_gateLine_130 = true := by decide +kernel
def kX7_gateLine_155 : List xm_I := [(.return_, 0, 0, 0, 0)]
theorem bk_X7_gateLine_155 : xm_okb cX7_gateLine 7 4 3 false 156 155 kX7_gateLine_155 = true := by decide +kernel
def kX7_gateLine_35 : List xm_I := [(.aload 0, 0, 0, 0, 0), (.sipush 0, 0, 0, 0, 3)]
theorem bk_X7_gateLine_35 : xm_okb cX7_gateLine 7 4 3 false 37 35 kX7_gateLine_35 = true := by decide +kernel
def kX7_gateLine_63 : List xm_I := [(.imul, 0, 0, 0, 0), (.iadd, 0, 0, 0, 0), (.istore 0, 3, 0, 0, 0), (.aload 0, 0, 0, 0, 0), (.getfield 0, 7, 2, 2, 0), (.iload 0, 3, 0, 0, 0), (.iload 0, 1, 0, 0, 0), (.iastore, 0, 0, 0, 0)]
theorem bk_X7_gateLine_63 : xm_okb cX7_gateLine 7 4 3 false 73 63 kX7_gateLine_63 = true := by decide +kernel
def kX7_gateLine_125 : List xm_I := [(.sipush 0, 0, 0, 0, 50)]
theorem bk_X7_gateLine_125 : xm_okb cX7_gateLine 7 4 3 false 127 125 kX7_gateLine_125 = true := by decide +kernel
def kX7_gateLine_141 : List xm_I := [(.aload 0, 0, 0, 0, 0), (.getfield 0, 7, 2, 2, 0), (.sipush 0, 0, 0, 0, 5), (.dup2, 0, 0, 0, 0), (.iaload, 0, 0, 0, 0), (.sipush 0, 0, 0, 0, 1), (.iadd, 0, 0, 0, 0), (.iastore, 0, 0, 0, 0)]
theorem bk_X7_gateLine_141 : xm_okb cX7_gateLine 7 4 3 false 151 141 kX7_gateLine_141 = true := by decide +kernel
def kX7_gateLine_73 : List xm_I := [(.aload 0, 0, 0, 0, 0), (.getfield 0, 7, 2, 2, 0), (.iload 0, 3, 0, 0, 0), (.sipush 0, 0, 0, 0, 1), (.iadd, 0, 0, 0, 0), (.aload 0, 0, 0, 0, 0), (.iload 0, 2, 0, 0, 0), (.ifCond .ne 0, 94, 0, 0, 0)]
theorem bk_X7_gateLine_73 : xm_okb cX7_gateLine 7 4 3 false 85 73 kX7_gateLine_73 = true := by decide +kernel
def kX7_gateLine_151 : List xm_I := [(.aload 0, 0, 0, 0, 0)]
theorem bk_X7_gateLine_151 : xm_okb cX7_gateLine 7 4 3 false 152 151 kX7_gateLine_151 = true := by decide +kernel
def kX7_gateLine_85 : List xm_I := [(.aload 0, 0, 0, 0, 0), (.getfield 0, 7, 2, 2, 0), (.sipush 0, 0, 0, 0, 2), (.iaload, 0, 0, 0, 0), (.goto 0, 102, 0, 0, 0)]
theorem bk_X7_gateLine_85 : xm_okb cX7_gateLine 7 4 3 false 94 85 kX7_gateLine_85 = true := by decide +kernel
abbrev mt_X7_setting : xm_T4 := (yX7_setting, cX7_setting, 1, (some .int))
theorem mo_X7_setting : xm_mo mt_X7_setting 7 0 0 false false := ⟨by decide +kernel, rfl, (fun h => by cases h), rfl, by decide, ⟨by decide +kernel, by decide +kernel, by decide +kernel⟩, (wq_at mw_7_1 23 rfl), (wq_at mw_7_6 28 rfl), (fun h => by cases h), (fun _ => (wq_at mw_7_1 24 rfl)), (fun _ => (wq_at mw_7_1 25 rfl))⟩
def kX7_setting_0 : List xm_I := [(.aload 0, 0, 0, 0, 0)]
theorem bk_X7_setting_0 : xm_okb cX7_setting 7 1 0 false 1 0 kX7_setting_0 = true := by decide +kernel
def kX7_setting_6 : List xm_I := [(.ifCond .eq 0, 12, 0, 0, 0), (.sipush 0, 0, 0, 0, 6), (.ireturn, 0, 0, 0, 0)]
theorem bk_X7_setting_6 : xm_okb cX7_setting 7 1 0 false 12 6 kX7_setting_6 = true := by decide +kernel
def kX7_setting_12 : List xm_I := [(.aload 0, 0, 0, 0, 0)]
theorem bk_X7_setting_12 : xm_okb cX7_setting 7 1 0 false 13 12 kX7_setting_12 = true := by decide +kernel
def kX7_setting_18 : List xm_I := [(.ifCond .eq 0, 24, 0, 0, 0), (.sipush 0, 0, 0, 0, 8), (.ireturn, 0, 0, 0, 0)]
theorem bk_X7_setting_18 : xm_okb cX7_setting 7 1 0 false 24 18 kX7_setting_18 = true := by decide +kernel
def kX7_setting_24 : List xm_I := [(.aload 0, 0, 0, 0, 0)]
theorem bk_X7_setting_24 : xm_okb cX7_setting 7 1 0 false 25 24 kX7_setting_24 = true := by decide +kernel
def kX7_setting_30 : List xm_I := [(.ifCond .eq 0, 36, 0, 0, 0), (.sipush 0, 0, 0, 0, 9), (.ireturn, 0, 0, 0, 0)]
theorem bk_X7_setting_30 : xm_okb cX7_setting 7 1 0 false 36 30 kX7_setting_30 = true := by decide +kernel
def kX7_setting_36 : List xm_I := [(.aload 0, 0, 0, 0, 0)]
theorem bk_X7_setting_36 : xm_okb cX7_setting 7 1 0 false 37 36 kX7_setting_36 = true := by decide +kernel
def kX7_setting_42 : List xm_I := [(.ifCond .eq 0, 48, 0, 0, 0), (.sipush 0, 0, 0, 0, 10), (.ireturn, 0, 0, 0, 0)]
theorem bk_X7_setting_42 : xm_okb cX7_setting 7 1 0 false 48 42 kX7_setting_42 = true := by decide +kernel
def kX7_setting_48 : List xm_I := [(.aload 0, 0, 0, 0, 0)]
theorem bk_X7_setting_48 : xm_okb cX7_setting 7 1 0 false 49 48 kX7_setting_48 = true := by decide +kernel
def kX7_setting_54 : List xm_I := [(.ifCond .eq 0, 60, 0, 0, 0), (.sipush 0, 0, 0, 0, 11), (.ireturn, 0, 0, 0, 0)]
theorem bk_X7_setting_54 : xm_okb cX7_setting 7 1 0 false 60 54 kX7_setting_54 = true := by decide +kernel
def kX7_setting_60 : List xm_I := [(.aload 0, 0, 0, 0, 0)]
theorem bk_X7_setting_60 : xm_okb cX7_setting 7 1 0 false 61 60 kX7_setting_60 = true := by decide +kernel
def kX7_setting_66 : List xm_I := [(.ifCond .eq 0, 72, 0, 0, 0), (.sipush 0, 0, 0, 0, 12), (.ireturn, 0, 0, 0, 0)]
theorem bk_X7_setting_66 : xm_okb cX7_setting 7 1 0 false 72 66 kX7_setting_66 = true := by decide +kernel
def kX7_setting_72 : List xm_I := [(.aload 0, 0, 0, 0, 0)]
theorem bk_X7_setting_72 : xm_okb cX7_setting 7 1 0 false 73 72 kX7_setting_72 = true := by decide +kernel
def kX7_setting_78 : List xm_I := [(.ifCond .eq 0, 84, 0, 0, 0), (.sipush 0, 0, 0, 0, 14), (.ireturn, 0, 0, 0, 0)]
theorem bk_X7_setting_78 : xm_okb cX7_setting 7 1 0 false 84 78 kX7_setting_78 = true := by decide +kernel
def kX7_setting_84 : List xm_I := [(.aload 0, 0, 0, 0, 0)]
theorem bk_X7_setting_84 : xm_okb cX7_setting 7 1 0 false 85 84 kX7_setting_84 = true := by decide +kernel
def kX7_setting_90 : List xm_I := [(.ifCond .eq 0, 98, 0, 0, 0), (.sipush 0, 0, 0, 0, 15), (.goto 0, 99, 0, 0, 0)]
theorem bk_X7_setting_90 : xm_okb cX7_setting 7 1 0 false 98 90 kX7_setting_90 = true := by decide +kernel
def kX7_setting_98 : List xm_I := [(.sipush 0, 0, 0, 0, (-1))]
theorem bk_X7_setting_98 : xm_okb cX7_setting 7 1 0 false 99 98 kX7_setting_98 = true := by decide +kernel
def kX7_setting_99 : List xm_I := [(.ireturn, 0, 0, 0, 0)]
theorem bk_X7_setting_99 : xm_okb cX7_setting 7 1 0 false 100 99 kX7_setting_99 = true := by decide +kernel
abbrev mt_X7_notch : xm_T4 := (yX7_notch, cX7_notch, 1, none)
theorem mo_X7_notch : xm_mo mt_X7_notch 7 0 3 false false := ⟨by decide +kernel, rfl, (fun h => by cases h), rfl, by decide, ⟨by decide +kernel, by decide +kernel, by decide +kernel⟩, (wq_at mw_7_1 26 rfl), (wq_at mw_7_6 28 rfl), (fun h => by cases h), (fun _ => (wq_at mw_7_1 27 rfl)), (fun _ => (wq_at mw_7_1 28 rfl))⟩
def kX7_notch_0 : List xm_I := [(.aload 0, 0, 0, 0, 0)]
theorem bk_X7_notch_0 : xm_okb cX7_notch 7 1 3 false 1 0 kX7_notch_0 = true := by decide +kernel
def kX7_notch_6 : List xm_I := [(.ifCond .eq 0, 20, 0, 0, 0), (.aload 0, 0, 0, 0, 0), (.getfield 0, 7, 2, 2, 0), (.sipush 0, 0, 0, 0, 9), (.sipush 0, 0, 0, 0, 1), (.iastore, 0, 0, 0, 0), (.goto 0, 34, 0, 0, 0)]
theorem bk_X7_notch_6 : xm_okb cX7_notch 7 1 3 false 20 6 kX7_notch_6 = true := by decide +kernel
def kX7_notch_20 : List xm_I := [(.aload 0, 0, 0, 0, 0)]
theorem bk_X7_notch_20 : xm_okb cX7_notch 7 1 3 false 21 20 kX7_notch_20 = true := by decide +kernel
def kX7_notch_26 : List xm_I := [(.ifCond .ne 0, 34, 0, 0, 0), (.aload 0, 0, 0, 0, 0), (.sipush 0, 0, 0, 0, 1)]
theorem bk_X7_notch_26 : xm_okb cX7_notch 7 1 3 false 31 26 kX7_notch_26 = true := by decide +kernel
def kX7_notch_34 : List xm_I := [(.return_, 0, 0, 0, 0)]
theorem bk_X7_notch_34 : xm_okb cX7_notch 7 1 3 false 35 34 kX7_notch_34 = true := by decide +kernel
abbrev mt_X7_value : xm_T4 := (yX7_value, cX7_value, 2, none)
theorem mo_X7_value : xm_mo mt_X7_value 7 1 3 false false := ⟨by decide +kernel, rfl, (fun h => by cases h), rfl, by decide, ⟨by decide +kernel, by decide +kernel, by decide +kernel⟩, (wq_at mw_7_1 29 rfl), (wq_at mw_7_6 28 rfl), (fun h => by cases h), (fun _ => (wq_at mw_7_1 30 rfl)), (fun _ => (wq_at mw_7_1 31 rfl))⟩
def kX7_value_0 : List xm_I := [(.iload 0, 1, 0, 0, 0)]
theorem bk_X7_value_0 : xm_okb cX7_value 7 2 3 false 1 0 kX7_value_0 = true := by decide +kernel
def kX7_value_56 : List xm_I := [(.aload 0, 0, 0, 0, 0), (.getfield 0, 7, 2, 2, 0), (.sipush 0, 0, 0, 0, 6), (.aload 0, 0, 0, 0, 0), (.sipush 0, 0, 0, 0, 0), (.sipush 0, 0, 0, 0, 9999)]
theorem bk_X7_value_56 : xm_okb cX7_value 7 2 3 false 67 56 kX7_value_56 = true := by decide +kernel
def kX7_value_70 : List xm_I := [(.iastore, 0, 0, 0, 0), (.aload 0, 0, 0, 0, 0), (.getfield 0, 7, 2, 2, 0), (.sipush 0, 0, 0, 0, 7), (.aload 0, 0, 0, 0, 0), (.aload 0, 0, 0, 0, 0), (.getfield 0, 7, 2, 2, 0), (.sipush 0, 0, 0, 0, 6)]
theorem bk_X7_value_70 : xm_okb cX7_value 7 2 3 false 84 70 kX7_value_70 = true := by decide +kernel
def kX7_value_91 : List xm_I := [(.iastore, 0, 0, 0, 0), (.goto 0, 199, 0, 0, 0)]
theorem bk_X7_value_91 : xm_okb cX7_value 7 2 3 false 95 91 kX7_value_91 = true := by decide +kernel
def kX7_value_95 : List xm_I := [(.aload 0, 0, 0, 0, 0)]
theorem bk_X7_value_95 : xm_okb cX7_value 7 2 3 false 96 95 kX7_value_95 = true := by decide +kernel
def kX7_value_99 : List xm_I := [(.goto 0, 199, 0, 0, 0)]
theorem bk_X7_value_99 : xm_okb cX7_value 7 2 3 false 102 99 kX7_value_99 = true := by decide +kernel
def kX7_value_102 : List xm_I := [(.aload 0, 0, 0, 0, 0), (.getfield 0, 7, 2, 2, 0), (.sipush 0, 0, 0, 0, 12), (.aload 0, 0, 0, 0, 0), (.sipush 0, 0, 0, 0, 0), (.sipush 0, 0, 0, 0, 99)]
theorem bk_X7_value_102 : xm_okb cX7_value 7 2 3 false 112 102 kX7_value_102 = true := by decide +kernel
def kX7_value_115 : List xm_I := [(.iastore, 0, 0, 0, 0), (.aload 0, 0, 0, 0, 0), (.getfield 0, 7, 2, 2, 0), (.sipush 0, 0, 0, 0, 13), (.aload 0, 0, 0, 0, 0), (.sipush 0, 0, 0, 0, 1), (.sipush 0, 0, 0, 0, 999)]
theorem bk_X7_value_115 : xm_okb cX7_value 7 2 3 false 127 115 kX7_value_115 = true := by decide +kernel
def kX7_value_130 : List xm_I := [(.iastore, 0, 0, 0, 0), (.goto 0, 199, 0, 0, 0)]
theorem bk_X7_value_130 : xm_okb cX7_value 7 2 3 false 134 130 kX7_value_130 = true := by decide +kernel
def kX7_value_134 : List xm_I := [(.aload 0, 0, 0, 0, 0), (.getfield 0, 7, 2, 2, 0), (.sipush 0, 0, 0, 0, 10), (.aload 0, 0, 0, 0, 0), (.sipush 0, 0, 0, 0, 0), (.sipush 0, 0, 0, 0, 9999)]
theorem bk_X7_value_134 : xm_okb cX7_value 7 2 3 false 145 134 kX7_value_134 = true := by decide +kernel
def kX7_value_148 : List xm_I := [(.iastore, 0, 0, 0, 0), (.goto 0, 199, 0, 0, 0)]
theorem bk_X7_value_148 : xm_okb cX7_value 7 2 3 false 152 148 kX7_value_148 = true := by decide +kernel
def kX7_value_152 : List xm_I := [(.aload 0, 0, 0, 0, 0), (.getfield 0, 7, 2, 2, 0), (.sipush 0, 0, 0, 0, 14), (.aload 0, 0, 0, 0, 0), (.sipush 0, 0, 0, 0, 0), (.sipush 0, 0, 0, 0, 60)]
theorem bk_X7_value_152 : xm_okb cX7_value 7 2 3 false 162 152 kX7_value_152 = true := by decide +kernel
def kX7_value_165 : List xm_I := [(.iastore, 0, 0, 0, 0), (.goto 0, 199, 0, 0, 0)]
theorem bk_X7_value_165 : xm_okb cX7_value 7 2 3 false 169 165 kX7_value_165 = true := by decide +kernel
def kX7_value_169 : List xm_I := [(.aload 0, 0, 0, 0, 0), (.getfield 0, 7, 2, 2, 0), (.sipush 0, 0, 0, 0, 15), (.aload 0, 0, 0, 0, 0), (.sipush 0, 0, 0, 0, 1), (.sipush 0, 0, 0, 0, 99)]
theorem bk_X7_value_169 : xm_okb cX7_value 7 2 3 false 179 169 kX7_value_169 = true := by decide +kernel
def kX7_value_182 : List xm_I := [(.iastore, 0, 0, 0, 0), (.goto 0, 199, 0, 0, 0)]
theorem bk_X7_value_182 : xm_okb cX7_value 7 2 3 false 186 182 kX7_value_182 = true := by decide +kernel
def kX7_value_186 : List xm_I := [(.aload 0, 0, 0, 0, 0), (.getfield 0, 7, 2, 2, 0), (.iload 0, 1, 0, 0, 0), (.aload 0, 0, 0, 0, 0), (.sipush 0, 0, 0, 0, 1), (.sipush 0, 0, 0, 0, 60)]
theorem bk_X7_value_186 : xm_okb cX7_value 7 2 3 false 195 186 kX7_value_186 = true := by decide +kernel
def kX7_value_198 : List xm_I := [(.iastore, 0, 0, 0, 0)]
theorem bk_X7_value_198 : xm_okb cX7_value 7 2 3 false 199 198 kX7_value_198 = true := by decide +kernel
def kX7_value_199 : List xm_I := [(.return_, 0, 0, 0, 0)]
theorem bk_X7_value_199 : xm_okb cX7_value 7 2 3 false 200 199 kX7_value_199 = true := by decide +kernel
def kX7_value_84 : List xm_I := [(.iaload, 0, 0, 0, 0), (.sipush 0, 0, 0, 0, 9999)]
theorem bk_X7_value_84 : xm_okb cX7_value 7 2 3 false 88 84 kX7_value_84 = true := by decide +kernel
abbrev mt_X7_reads : xm_T4 := (yX7_reads, cX7_reads, 3, none)
theorem mo_X7_reads : xm_mo mt_X7_reads 7 0 3 false false := ⟨by decide +kernel, rfl, (fun h => by cases h), rfl, by decide, ⟨by decide +kernel, by decide +kernel, by decide +kernel⟩, (wq_at mw_7_1 32 rfl), (wq_at mw_7_6 28 rfl), (fun h => by cases h), (fun _ => (wq_at mw_7_1 33 rfl)), (fun _ => (wq_at mw_7_1 34 rfl))⟩
def kX7_reads_0 : List xm_I := [(.aload 0, 0, 0, 0, 0)]
theorem bk_X7_reads_0 : xm_okb cX7_reads 7 3 3 false 1 0 kX7_reads_0 = true := by decide +kernel
def kX7_reads_6 : List xm_I := [(.ifCond .ne 0, 14, 0, 0, 0), (.aload 0, 0, 0, 0, 0), (.sipush 0, 0, 0, 0, 1)]
theorem bk_X7_reads_6 : xm_okb cX7_reads 7 3 3 false 11 6 kX7_reads_6 = true := by decide +kernel
def kX7_reads_14 : List xm_I := [(.aload 0, 0, 0, 0, 0), (.getfield 0, 7, 2, 2, 0), (.sipush 0, 0, 0, 0, 0), (.aload 0, 0, 0, 0, 0), (.sipush 0, 0, 0, 0, 1), (.sipush 0, 0, 0, 0, 100)]
theorem bk_X7_reads_14 : xm_okb cX7_reads 7 3 3 false 23 14 kX7_reads_14 = true := by decide +kernel
def kX7_reads_26 : List xm_I := [(.iastore, 0, 0, 0, 0), (.aload 0, 0, 0, 0, 0), (.getfield 0, 7, 2, 2, 0), (.sipush 0, 0, 0, 0, 1), (.aload 0, 0, 0, 0, 0), (.sipush 0, 0, 0, 0, 1), (.sipush 0, 0, 0, 0, 2000)]
theorem bk_X7_reads_26 : xm_okb cX7_reads 7 3 3 false 37 26 kX7_reads_26 = true := by decide +kernel
def kX7_reads_40 : List xm_I := [(.iastore, 0, 0, 0, 0), (.aload 0, 0, 0, 0, 0), (.getfield 0, 7, 2, 2, 0), (.sipush 0, 0, 0, 0, 2), (.aload 0, 0, 0, 0, 0), (.aload 0, 0, 0, 0, 0), (.getfield 0, 7, 2, 2, 0), (.sipush 0, 0, 0, 0, 1)]
theorem bk_X7_reads_40 : xm_okb cX7_reads 7 3 3 false 52 40 kX7_reads_40 = true := by decide +kernel
def kX7_reads_61 : List xm_I := [(.iastore, 0, 0, 0, 0), (.aload 0, 0, 0, 0, 0), (.getfield 0, 7, 2, 2, 0), (.sipush 0, 0, 0, 0, 3), (.aload 0, 0, 0, 0, 0), (.aload 0, 0, 0, 0, 0), (.getfield 0, 7, 2, 2, 0), (.sipush 0, 0, 0, 0, 2)]
theorem bk_X7_reads_61 : xm_okb cX7_reads 7 3 3 false 73 61 kX7_reads_61 = true := by decide +kernel
def kX7_reads_82 : List xm_I := [(.iastore, 0, 0, 0, 0), (.aload 0, 0, 0, 0, 0)]
theorem bk_X7_reads_82 : xm_okb cX7_reads 7 3 3 false 84 82 kX7_reads_82 = true := by decide +kernel
def kX7_reads_87 : List xm_I := [(.aload 0, 0, 0, 0, 0)]
theorem bk_X7_reads_87 : xm_okb cX7_reads 7 3 3 false 88 87 kX7_reads_87 = true := by decide +kernel
def kX7_reads_93 : List xm_I := [(.ifCond .eq 0, 103, 0, 0, 0), (.aload 0, 0, 0, 0, 0)]
theorem bk_X7_reads_93 : xm_okb cX7_reads 7 3 3 false 97 93 kX7_reads_93 = true := by decide +kernel
def kX7_reads_100 : List xm_I := [(.goto 0, 87, 0, 0, 0)]
theorem bk_X7_reads_100 : xm_okb cX7_reads 7 3 3 false 103 100 kX7_reads_100 = true := by decide +kernel
def kX7_reads_103 : List xm_I := [(.aload 0, 0, 0, 0, 0)]
theorem bk_X7_reads_103 : xm_okb cX7_reads 7 3 3 false 104 103 kX7_reads_103 = true := by decide +kernel
def kX7_reads_109 : List xm_I := [(.ifCond .eq 0, 119, 0, 0, 0), (.aload 0, 0, 0, 0, 0)]
theorem bk_X7_reads_109 : xm_okb cX7_reads 7 3 3 false 113 109 kX7_reads_109 = true := by decide +kernel
def kX7_reads_116 : List xm_I := [(.goto 0, 103, 0, 0, 0)]
theorem bk_X7_reads_116 : xm_okb cX7_reads 7 3 3 false 119 116 kX7_reads_116 = true := by decide +kernel
def kX7_reads_119 : List xm_I := [(.sipush 0, 0, 0, 0, 0), (.istore 0, 1, 0, 0, 0), (.aload 0, 0, 0, 0, 0)]
theorem bk_X7_reads_119 : xm_okb cX7_reads 7 3 3 false 122 119 kX7_reads_119 = true := by decide +kernel
def kX7_reads_125 : List xm_I := [(.istore 0, 2, 0, 0, 0)]
theorem bk_X7_reads_125 : xm_okb cX7_reads 7 3 3 false 126 125 kX7_reads_125 = true := by decide +kernel
def kX7_reads_126 : List xm_I := [(.iload 0, 2, 0, 0, 0), (.sipush 0, 0, 0, 0, (-1)), (.if_icmp .eq 0, 180, 0, 0, 0), (.iload 0, 1, 0, 0, 0), (.iload 0, 2, 0, 0, 0), (.ishr, 0, 0, 0, 0), (.sipush 0, 0, 0, 0, 1), (.iand, 0, 0, 0, 0)]
theorem bk_X7_reads_126 : xm_okb cX7_reads 7 3 3 false 136 126 kX7_reads_126 = true := by decide +kernel
def kX7_reads_145 : List xm_I := [(.iload 0, 1, 0, 0, 0), (.sipush 0, 0, 0, 0, 1), (.iload 0, 2, 0, 0, 0), (.ishl, 0, 0, 0, 0), (.ior, 0, 0, 0, 0), (.istore 0, 1, 0, 0, 0), (.aload 0, 0, 0, 0, 0)]
theorem bk_X7_reads_145 : xm_okb cX7_reads 7 3 3 false 152 145 kX7_reads_145 = true := by decide +kernel
def kX7_reads_155 : List xm_I := [(.ifCond .eq 0, 159, 0, 0, 0), (.return_, 0, 0, 0, 0)]
theorem bk_X7_reads_155 : xm_okb cX7_reads 7 3 3 false 159 155 kX7_reads_155 = true := by decide +kernel
def kX7_reads_159 : List xm_I := [(.aload 0, 0, 0, 0, 0)]
theorem bk_X7_reads_159 : xm_okb cX7_reads 7 3 3 false 160 159 kX7_reads_159 = true := by decide +kernel
def kX7_reads_163 : List xm_I := [(.aload 0, 0, 0, 0, 0), (.iload 0, 2, 0, 0, 0)]
theorem bk_X7_reads_163 : xm_okb cX7_reads 7 3 3 false 165 163 kX7_reads_163 = true := by decide +kernel
def kX7_reads_168 : List xm_I := [(.aload 0, 0, 0, 0, 0)]
theorem bk_X7_reads_168 : xm_okb cX7_reads 7 3 3 false 169 168 kX7_reads_168 = true := by decide +kernel
def kX7_reads_172 : List xm_I := [(.aload 0, 0, 0, 0, 0)]
theorem bk_X7_reads_172 : xm_okb cX7_reads 7 3 3 false 173 172 kX7_reads_172 = true := by decide +kernel
def kX7_reads_176 : List xm_I := [(.istore 0, 2, 0, 0, 0), (.goto 0, 126, 0, 0, 0)]
theorem bk_X7_reads_176 : xm_okb cX7_reads 7 3 3 false 180 176 kX7_reads_176 = true := by decide +kernel
def kX7_reads_180 : List xm_I := [(.aload 0, 0, 0, 0, 0), (.getfield 0, 7, 10, 0, 0), (.ifCond .eq 0, 192, 0, 0, 0), (.aload 0, 0, 0, 0, 0), (.sipush 0, 0, 0, 0, 1)]
theorem bk_X7_reads_180 : xm_okb cX7_reads 7 3 3 false 189 180 kX7_reads_180 = true := by decide +kernel
def kX7_reads_192 : List xm_I := [(.return_, 0, 0, 0, 0)]
theorem bk_X7_reads_192 : xm_okb cX7_reads 7 3 3 false 193 192 kX7_reads_192 = true := by decide +kernel
def kX7_reads_52 : List xm_I := [(.iaload, 0, 0, 0, 0), (.sipush 0, 0, 0, 0, 1), (.iadd, 0, 0, 0, 0), (.sipush 0, 0, 0, 0, 4000)]
theorem bk_X7_reads_52 : xm_okb cX7_reads 7 3 3 false 58 52 kX7_reads_52 = true := by decide +kernel
def kX7_reads_73 : List xm_I := [(.iaload, 0, 0, 0, 0), (.sipush 0, 0, 0, 0, 1), (.iadd, 0, 0, 0, 0), (.sipush 0, 0, 0, 0, 9000)]
theorem bk_X7_reads_73 : xm_okb cX7_reads 7 3 3 false 79 73 kX7_reads_73 = true := by decide +kernel
def kX7_reads_136 : List xm_I := [(.sipush 0, 0, 0, 0, 1), (.if_icmp .ne 0, 145, 0, 0, 0), (.aload 0, 0, 0, 0, 0), (.sipush 0, 0, 0, 0, 3)]
theorem bk_X7_reads_136 : xm_okb cX7_reads 7 3 3 false 142 136 kX7_reads_136 = true := by decide +kernel
abbrev mt_X7_load : xm_T4 := (yX7_load, cX7_load, 1, (some .int))
theorem mo_X7_load : xm_mo mt_X7_load 7 0 0 false false := ⟨by decide +kernel, rfl, (fun h => by cases h), rfl, by decide, ⟨by decide +kernel, by decide +kernel, by decide +kernel⟩, (wq_at mw_7_1 35 rfl), (wq_at mw_7_6 28 rfl), (fun h => by cases h), (fun _ => (wq_at mw_7_1 36 rfl)), (fun _ => (wq_at mw_7_1 37 rfl))⟩
def kX7_load_0 : List xm_I := [(.aload 0, 0, 0, 0, 0), (.sipush 0, 0, 0, 0, 0), (.putfield 0, 7, 0, 0, 0), (.aload 0, 0, 0, 0, 0), (.aload 0, 0, 0, 0, 0), (.getfield 0, 7, 6, 0, 0), (.putfield 0, 7, 7, 0, 0), (.aload 0, 0, 0, 0, 0)]
theorem bk_X7_load_0 : xm_okb cX7_load 7 1 0 false 14 0 kX7_load_0 = true := by decide +kernel
def kX7_load_37 : List xm_I := [(.aload 0, 0, 0, 0, 0)]
theorem bk_X7_load_37 : xm_okb cX7_load 7 1 0 false 38 37 kX7_load_37 = true := by decide +kernel
def kX7_load_41 : List xm_I := [(.aload 0, 0, 0, 0, 0)]
theorem bk_X7_load_41 : xm_okb cX7_load 7 1 0 false 42 41 kX7_load_41 = true := by decide +kernel
def kX7_load_45 : List xm_I := [(.aload 0, 0, 0, 0, 0), (.aload 0, 0, 0, 0, 0)]
theorem bk_X7_load_45 : xm_okb cX7_load 7 1 0 false 47 45 kX7_load_45 = true := by decide +kernel
def kX7_load_50 : List xm_I := [(.ifCond .ne 0, 57, 0, 0, 0), (.sipush 0, 0, 0, 0, 1), (.goto 0, 58, 0, 0, 0)]
theorem bk_X7_load_50 : xm_okb cX7_load 7 1 0 false 57 50 kX7_load_50 = true := by decide +kernel
def kX7_load_57 : List xm_I := [(.sipush 0, 0, 0, 0, 0)]
theorem bk_X7_load_57 : xm_okb cX7_load 7 1 0 false 58 57 kX7_load_57 = true := by decide +kernel
def kX7_load_58 : List xm_I := [(.sipush 0, 0, 0, 0, 1)]
theorem bk_X7_load_58 : xm_okb cX7_load 7 1 0 false 59 58 kX7_load_58 = true := by decide +kernel
def kX7_load_62 : List xm_I := [(.ifCond .ne 0, 67, 0, 0, 0), (.sipush 0, 0, 0, 0, 0), (.ireturn, 0, 0, 0, 0)]
theorem bk_X7_load_62 : xm_okb cX7_load 7 1 0 false 67 62 kX7_load_62 = true := by decide +kernel
def kX7_load_67 : List xm_I := [(.aload 0, 0, 0, 0, 0)]
theorem bk_X7_load_67 : xm_okb cX7_load 7 1 0 false 68 67 kX7_load_67 = true := by decide +kernel
def kX7_load_71 : List xm_I := [(.aload 0, 0, 0, 0, 0), (.getfield 0, 7, 1, 2, 0), (.sipush 0, 0, 0, 0, 5), (.iaload, 0, 0, 0, 0), (.ireturn, 0, 0, 0, 0)]
theorem bk_X7_load_71 : xm_okb cX7_load 7 1 0 false 78 71 kX7_load_71 = true := by decide +kernel
def kX7_load_14 : List xm_I := [(.sipush 0, 0, 0, 0, 0), (.putfield 0, 7, 6, 0, 0), (.aload 0, 0, 0, 0, 0), (.sipush 0, 0, 0, 0, 0), (.putfield 0, 7, 8, 0, 0), (.aload 0, 0, 0, 0, 0), (.sipush 0, 0, 0, 0, 0), (.putfield 0, 7, 12, 0, 0)]
theorem bk_X7_load_14 : xm_okb cX7_load 7 1 0 false 28 14 kX7_load_14 = true := by decide +kernel
def kX7_load_28 : List xm_I := [(.aload 0, 0, 0, 0, 0), (.sipush 0, 0, 0, 0, (-1)), (.putfield 0, 7, 13, 0, 0), (.aload 0, 0, 0, 0, 0)]
theorem bk_X7_load_28 : xm_okb cX7_load 7 1 0 false 34 28 kX7_load_28 = true := by decide +kernel
abbrev mt_X7_errorCode : xm_T4 := (yX7_errorCode, cX7_errorCode, 1, (some .int))
theorem mo_X7_errorCode : xm_mo mt_X7_errorCode 7 0 0 false false := ⟨by decide +kernel, rfl, (fun h => by cases h), rfl, by decide, ⟨by decide +kernel, by decide +kernel, by decide +kernel⟩, (wq_at mw_7_1 38 rfl), (wq_at mw_7_6 28 rfl), (fun h => by cases h), (fun _ => (wq_at mw_7_1 39 rfl)), (fun _ => (wq_at mw_7_2 0 rfl))⟩
def kX7_errorCode_0 : List xm_I := [(.aload 0, 0, 0, 0, 0), (.sipush 0, 0, 0, 0, 0), (.putfield 0, 7, 0, 0, 0), (.aload 0, 0, 0, 0, 0), (.getfield 0, 7, 12, 0, 0), (.ireturn, 0, 0, 0, 0)]
theorem bk_X7_errorCode_0 : xm_okb cX7_errorCode 7 1 0 false 10 0 kX7_errorCode_0 = true := by decide +kernel
abbrev mt_X7_errorPosition : xm_T4 := (yX7_errorPosition, cX7_errorPosition, 1, (some .int))
theorem mo_X7_errorPosition : xm_mo mt_X7_errorPosition 7 0 0 false false := ⟨by decide +kernel, rfl, (fun h => by cases h), rfl, by decide, ⟨by decide +kernel, by decide +kernel, by decide +kernel⟩, (wq_at mw_7_2 1 rfl), (wq_at mw_7_6 28 rfl), (fun h => by cases h), (fun _ => (wq_at mw_7_2 2 rfl)), (fun _ => (wq_at mw_7_2 3 rfl))⟩
def kX7_errorPosition_0 : List xm_I := [(.aload 0, 0, 0, 0, 0), (.sipush 0, 0, 0, 0, 0), (.putfield 0, 7, 0, 0, 0), (.aload 0, 0, 0, 0, 0), (.getfield 0, 7, 13, 0, 0), (.ireturn, 0, 0, 0, 0)]
theorem bk_X7_errorPosition_0 : xm_okb cX7_errorPosition 7 1 0 false 10 0 kX7_errorPosition_0 = true := by decide +kernel
abbrev mt_X7_of : xm_T4 := (yX7_of, cX7_of, 3, (some .int))
theorem mo_X7_of : xm_mo mt_X7_of 7 2 0 false false := ⟨by decide +kernel, rfl, (fun h => by cases h), rfl, by decide, ⟨by decide +kernel, by decide +kernel, by decide +kernel⟩, (wq_at mw_7_2 4 rfl), (wq_at mw_7_6 28 rfl), (fun h => by cases h), (fun _ => (wq_at mw_7_2 5 rfl)), (fun _ => (wq_at mw_7_2 6 rfl))⟩
def kX7_of_0 : List xm_I := [(.aload 0, 0, 0, 0, 0), (.getfield 0, 7, 3, 2, 0), (.sipush 0, 0, 0, 0, 81), (.sipush 0, 0, 0, 0, 76), (.iload 0, 1, 0, 0, 0), (.imul, 0, 0, 0, 0), (.iadd, 0, 0, 0, 0), (.iload 0, 2, 0, 0, 0)]
theorem bk_X7_of_0 : xm_okb cX7_of 7 3 0 false 12 0 kX7_of_0 = true := by decide +kernel
def kX7_of_12 : List xm_I := [(.iadd, 0, 0, 0, 0), (.iaload, 0, 0, 0, 0), (.ireturn, 0, 0, 0, 0)]
theorem bk_X7_of_12 : xm_okb cX7_of 7 3 0 false 15 12 kX7_of_12 = true := by decide +kernel
abbrev mt_X7_lays : xm_T4 := (yX7_lays, cX7_lays, 4, none)
theorem mo_X7_lays : xm_mo mt_X7_lays 7 3 3 false false := ⟨by decide +kernel, rfl, (fun h => by cases h), rfl, by decide, ⟨by decide +kernel, by decide +kernel, by decide +kernel⟩, (wq_at mw_7_2 7 rfl), (wq_at mw_7_6 28 rfl), (fun h => by cases h), (fun _ => (wq_at mw_7_2 8 rfl)), (fun _ => (wq_at mw_7_2 9 rfl))⟩
def kX7_lays_0 : List xm_I := [(.aload 0, 0, 0, 0, 0), (.getfield 0, 7, 3, 2, 0), (.sipush 0, 0, 0, 0, 81), (.sipush 0, 0, 0, 0, 76), (.iload 0, 1, 0, 0, 0), (.imul, 0, 0, 0, 0), (.iadd, 0, 0, 0, 0), (.iload 0, 2, 0, 0, 0)]
theorem bk_X7_lays_0 : xm_okb cX7_lays 7 4 3 false 12 0 kX7_lays_0 = true := by decide +kernel
def kX7_lays_12 : List xm_I := [(.iadd, 0, 0, 0, 0), (.iload 0, 3, 0, 0, 0), (.iastore, 0, 0, 0, 0), (.return_, 0, 0, 0, 0)]
theorem bk_X7_lays_12 : xm_okb cX7_lays 7 4 3 false 16 12 kX7_lays_12 = true := by decide +kernel
abbrev mt_X7_gateNow : xm_T4 := (yX7_gateNow, cX7_gateNow, 3, (some .int))
theorem mo_X7_gateNow : xm_mo mt_X7_gateNow 7 2 0 false false := ⟨by decide +kernel, rfl, (fun h => by cases h), rfl, by decide, ⟨by decide +kernel, by decide +kernel, by decide +kernel⟩, (wq_at mw_7_2 10 rfl), (wq_at mw_7_6 28 rfl), (fun h => by cases h), (fun _ => (wq_at mw_7_2 11 rfl)), (fun _ => (wq_at mw_7_2 12 rfl))⟩
def kX7_gateNow_0 : List xm_I := [(.aload 0, 0, 0, 0, 0), (.getfield 0, 7, 3, 2, 0), (.sipush 0, 0, 0, 0, 6), (.sipush 0, 0, 0, 0, 5), (.iload 0, 1, 0, 0, 0), (.imul, 0, 0, 0, 0), (.iadd, 0, 0, 0, 0), (.iload 0, 2, 0, 0, 0)]
theorem bk_X7_gateNow_0 : xm_okb cX7_gateNow 7 3 0 false 11 0 kX7_gateNow_0 = true := by decide +kernel
def kX7_gateNow_11 : List xm_I := [(.iadd, 0, 0, 0, 0), (.iaload, 0, 0, 0, 0), (.ireturn, 0, 0, 0, 0)]
theorem bk_X7_gateNow_11 : xm_okb cX7_gateNow 7 3 0 false 14 11 kX7_gateNow_11 = true := by decide +kernel
abbrev mt_X7_counts : xm_T4 := (yX7_counts, cX7_counts, 3, none)
theorem mo_X7_counts : xm_mo mt_X7_counts 7 2 3 false false := ⟨by decide +kernel, rfl, (fun h => by cases h), rfl, by decide, ⟨by decide +kernel, by decide +kernel, by decide +kernel⟩, (wq_at mw_7_2 13 rfl), (wq_at mw_7_6 28 rfl), (fun h => by cases h), (fun _ => (wq_at mw_7_2 14 rfl)), (fun _ => (wq_at mw_7_2 15 rfl))⟩
def kX7_counts_0 : List xm_I := [(.aload 0, 0, 0, 0, 0), (.getfield 0, 7, 3, 2, 0), (.sipush 0, 0, 0, 0, 6), (.sipush 0, 0, 0, 0, 5), (.iload 0, 1, 0, 0, 0), (.imul, 0, 0, 0, 0), (.iadd, 0, 0, 0, 0), (.iload 0, 2, 0, 0, 0)]
theorem bk_X7_counts_0 : xm_okb cX7_counts 7 3 3 false 11 0 kX7_counts_0 = true := by decide +kernel
def kX7_counts_11 : List xm_I := [(.iadd, 0, 0, 0, 0), (.dup2, 0, 0, 0, 0), (.iaload, 0, 0, 0, 0), (.sipush 0, 0, 0, 0, 1), (.iadd, 0, 0, 0, 0), (.iastore, 0, 0, 0, 0), (.return_, 0, 0, 0, 0)]
theorem bk_X7_counts_11 : xm_okb cX7_counts 7 3 3 false 18 11 kX7_counts_11 = true := by decide +kernel
abbrev mt_X7_gateOf : xm_T4 := (yX7_gateOf, cX7_gateOf, 3, (some .int))
theorem mo_X7_gateOf : xm_mo mt_X7_gateOf 7 2 0 false false := ⟨by decide +kernel, rfl, (fun h => by cases h), rfl, by decide, ⟨by decide +kernel, by decide +kernel, by decide +kernel⟩, (wq_at mw_7_2 16 rfl), (wq_at mw_7_6 28 rfl), (fun h => by cases h), (fun _ => (wq_at mw_7_2 17 rfl)), (fun _ => (wq_at mw_7_2 18 rfl))⟩
def kX7_gateOf_0 : List xm_I := [(.aload 0, 0, 0, 0, 0), (.getfield 0, 7, 1, 2, 0), (.sipush 0, 0, 0, 0, 28), (.sipush 0, 0, 0, 0, 3), (.iload 0, 1, 0, 0, 0), (.imul, 0, 0, 0, 0), (.iadd, 0, 0, 0, 0), (.iload 0, 2, 0, 0, 0)]
theorem bk_X7_gateOf_0 : xm_okb cX7_gateOf 7 3 0 false 11 0 kX7_gateOf_0 = true := by decide +kernel
def kX7_gateOf_11 : List xm_I := [(.iadd, 0, 0, 0, 0), (.iaload, 0, 0, 0, 0), (.ireturn, 0, 0, 0, 0)]
theorem bk_X7_gateOf_11 : xm_okb cX7_gateOf 7 3 0 false 14 11 kX7_gateOf_11 = true := by decide +kernel
abbrev mt_X7_isGate : xm_T4 := (yX7_isGate, cX7_isGate, 2, (some .boolean))
theorem mo_X7_isGate : xm_mo mt_X7_isGate 7 1 1 false false := ⟨by decide +kernel, rfl, (fun h => by cases h), rfl, by decide, ⟨by decide +kernel, by decide +kernel, by decide +kernel⟩, (wq_at mw_7_2 19 rfl), (wq_at mw_7_6 28 rfl), (fun h => by cases h), (fun _ => (wq_at mw_7_2 20 rfl)), (fun _ => (wq_at mw_7_2 21 rfl))⟩
def kX7_isGate_0 : List xm_I := [(.iload 0, 1, 0, 0, 0), (.sipush 0, 0, 0, 0, 0), (.aload 0, 0, 0, 0, 0), (.getfield 0, 7, 1, 2, 0), (.sipush 0, 0, 0, 0, 5), (.iaload, 0, 0, 0, 0), (.sipush 0, 0, 0, 0, 1), (.isub, 0, 0, 0, 0)]
theorem bk_X7_isGate_0 : xm_okb cX7_isGate 7 2 1 false 10 0 kX7_isGate_0 = true := by decide +kernel
def kX7_isGate_13 : List xm_I := [(.ireturn, 1, 0, 0, 0)]
theorem bk_X7_isGate_13 : xm_okb cX7_isGate 7 2 1 false 14 13 kX7_isGate_13 = true := by decide +kernel
abbrev mt_X7_isItem : xm_T4 := (yX7_isItem, cX7_isItem, 2, (some .boolean))
theorem mo_X7_isItem : xm_mo mt_X7_isItem 7 1 1 false false := ⟨by decide +kernel, rfl, (fun h => by cases h), rfl, by decide, ⟨by decide +kernel, by decide +kernel, by decide +kernel⟩, (wq_at mw_7_2 22 rfl), (wq_at mw_7_6 28 rfl), (fun h => by cases h), (fun _ => (wq_at mw_7_2 23 rfl)), (fun _ => (wq_at mw_7_2 24 rfl))⟩
def kX7_isItem_0 : List xm_I := [(.iload 0, 1, 0, 0, 0), (.sipush 0, 0, 0, 0, 0), (.aload 0, 0, 0, 0, 0), (.getfield 0, 7, 3, 2, 0), (.sipush 0, 0, 0, 0, 2), (.iaload, 0, 0, 0, 0), (.sipush 0, 0, 0, 0, 1), (.isub, 0, 0, 0, 0)]
theorem bk_X7_isItem_0 : xm_okb cX7_isItem 7 2 1 false 10 0 kX7_isItem_0 = true := by decide +kernel
def kX7_isItem_13 : List xm_I := [(.ireturn, 1, 0, 0, 0)]
theorem bk_X7_isItem_13 : xm_okb cX7_isItem 7 2 1 false 14 13 kX7_isItem_13 = true := by decide +kernel
abbrev mt_X7_isOnBelt : xm_T4 := (yX7_isOnBelt, cX7_isOnBelt, 2, (some .boolean))
theorem mo_X7_isOnBelt : xm_mo mt_X7_isOnBelt 7 1 1 false false := ⟨by decide +kernel, rfl, (fun h => by cases h), rfl, by decide, ⟨by decide +kernel, by decide +kernel, by decide +kernel⟩, (wq_at mw_7_2 25 rfl), (wq_at mw_7_6 28 rfl), (fun h => by cases h), (fun _ => (wq_at mw_7_2 26 rfl)), (fun _ => (wq_at mw_7_2 27 rfl))⟩
def kX7_isOnBelt_0 : List xm_I := [(.aload 0, 0, 0, 0, 0), (.iload 0, 1, 0, 0, 0), (.sipush 0, 0, 0, 0, 3)]
theorem bk_X7_isOnBelt_0 : xm_okb cX7_isOnBelt 7 2 1 false 3 0 kX7_isOnBelt_0 = true := by decide +kernel
def kX7_isOnBelt_6 : List xm_I := [(.sipush 0, 0, 0, 0, 2), (.if_icmp .ge 0, 14, 0, 0, 0), (.sipush 0, 0, 0, 0, 1), (.goto 0, 15, 0, 0, 0)]
theorem bk_X7_isOnBelt_6 : xm_okb cX7_isOnBelt 7 2 1 false 14 6 kX7_isOnBelt_6 = true := by decide +kernel
def kX7_isOnBelt_14 : List xm_I := [(.sipush 0, 0, 0, 0, 0)]
theorem bk_X7_isOnBelt_14 : xm_okb cX7_isOnBelt 7 2 1 false 15 14 kX7_isOnBelt_14 = true := by decide +kernel
def kX7_isOnBelt_15 : List xm_I := [(.ireturn, 1, 0, 0, 0)]
theorem bk_X7_isOnBelt_15 : xm_okb cX7_isOnBelt 7 2 1 false 16 15 kX7_isOnBelt_15 = true := by decide +kernel
abbrev mt_X7_rear : xm_T4 := (yX7_rear, cX7_rear, 2, (some .int))
theorem mo_X7_rear : xm_mo mt_X7_rear 7 1 0 false false := ⟨by decide +kernel, rfl, (fun h => by cases h), rfl, by decide, ⟨by decide +kernel, by decide +kernel, by decide +kernel⟩, (wq_at mw_7_2 28 rfl), (wq_at mw_7_6 28 rfl), (fun h => by cases h), (fun _ => (wq_at mw_7_2 29 rfl)), (fun _ => (wq_at mw_7_2 30 rfl))⟩
def kX7_rear_0 : List xm_I := [(.aload 0, 0, 0, 0, 0), (.iload 0, 1, 0, 0, 0), (.sipush 0, 0, 0, 0, 2)]
theorem bk_X7_rear_0 : xm_okb cX7_rear 7 2 0 false 3 0 kX7_rear_0 = true := by decide +kernel
def kX7_rear_6 : List xm_I := [(.aload 0, 0, 0, 0, 0), (.iload 0, 1, 0, 0, 0), (.sipush 0, 0, 0, 0, 1)]
theorem bk_X7_rear_6 : xm_okb cX7_rear 7 2 0 false 9 6 kX7_rear_6 = true := by decide +kernel
def kX7_rear_12 : List xm_I := [(.isub, 0, 0, 0, 0), (.ireturn, 0, 0, 0, 0)]
theorem bk_X7_rear_12 : xm_okb cX7_rear 7 2 0 false 14 12 kX7_rear_12 = true := by decide +kernel
abbrev mt_X7_isInPart : xm_T4 := (yX7_isInPart, cX7_isInPart, 2, (some .boolean))
theorem mo_X7_isInPart : xm_mo mt_X7_isInPart 7 1 1 false false := ⟨by decide +kernel, rfl, (fun h => by cases h), rfl, by decide, ⟨by decide +kernel, by decide +kernel, by decide +kernel⟩, (wq_at mw_7_2 31 rfl), (wq_at mw_7_6 28 rfl), (fun h => by cases h), (fun _ => (wq_at mw_7_2 32 rfl)), (fun _ => (wq_at mw_7_2 33 rfl))⟩
def kX7_isInPart_0 : List xm_I := [(.aload 0, 0, 0, 0, 0), (.iload 0, 1, 0, 0, 0)]
theorem bk_X7_isInPart_0 : xm_okb cX7_isInPart 7 2 1 false 2 0 kX7_isInPart_0 = true := by decide +kernel
def kX7_isInPart_5 : List xm_I := [(.ifCond .eq 0, 41, 0, 0, 0), (.aload 0, 0, 0, 0, 0), (.iload 0, 1, 0, 0, 0), (.sipush 0, 0, 0, 0, 2)]
theorem bk_X7_isInPart_5 : xm_okb cX7_isInPart 7 2 1 false 11 5 kX7_isInPart_5 = true := by decide +kernel
def kX7_isInPart_14 : List xm_I := [(.aload 0, 0, 0, 0, 0), (.getfield 0, 7, 1, 2, 0), (.sipush 0, 0, 0, 0, 1), (.iaload, 0, 0, 0, 0), (.if_icmp .le 0, 41, 0, 0, 0), (.aload 0, 0, 0, 0, 0), (.iload 0, 1, 0, 0, 0)]
theorem bk_X7_isInPart_14 : xm_okb cX7_isInPart 7 2 1 false 25 14 kX7_isInPart_14 = true := by decide +kernel
def kX7_isInPart_28 : List xm_I := [(.aload 0, 0, 0, 0, 0), (.getfield 0, 7, 1, 2, 0), (.sipush 0, 0, 0, 0, 2), (.iaload, 0, 0, 0, 0), (.if_icmp .ge 0, 41, 0, 0, 0), (.sipush 0, 0, 0, 0, 1), (.goto 0, 42, 0, 0, 0)]
theorem bk_X7_isInPart_28 : xm_okb cX7_isInPart 7 2 1 false 41 28 kX7_isInPart_28 = true := by decide +kernel
def kX7_isInPart_41 : List xm_I := [(.sipush 0, 0, 0, 0, 0)]
theorem bk_X7_isInPart_41 : xm_okb cX7_isInPart 7 2 1 false 42 41 kX7_isInPart_41 = true := by decide +kernel
def kX7_isInPart_42 : List xm_I := [(.ireturn, 1, 0, 0, 0)]
theorem bk_X7_isInPart_42 : xm_okb cX7_isInPart 7 2 1 false 43 42 kX7_isInPart_42 = true := by decide +kernel
abbrev mt_X7_isWhole : xm_T4 := (yX7_isWhole, cX7_isWhole, 2, (some .boolean))
theorem mo_X7_isWhole : xm_mo mt_X7_isWhole 7 1 1 false false := ⟨by decide +kernel, rfl, (fun h => by cases h), rfl, by decide, ⟨by decide +kernel, by decide +kernel, by decide +kernel⟩, (wq_at mw_7_2 34 rfl), (wq_at mw_7_6 28 rfl), (fun h => by cases h), (fun _ => (wq_at mw_7_2 35 rfl)), (fun _ => (wq_at mw_7_2 36 rfl))⟩
def kX7_isWhole_0 : List xm_I := [(.aload 0, 0, 0, 0, 0), (.iload 0, 1, 0, 0, 0)]
theorem bk_X7_isWhole_0 : xm_okb cX7_isWhole 7 2 1 false 2 0 kX7_isWhole_0 = true := by decide +kernel
def kX7_isWhole_5 : List xm_I := [(.ifCond .eq 0, 41, 0, 0, 0), (.aload 0, 0, 0, 0, 0), (.iload 0, 1, 0, 0, 0)]
theorem bk_X7_isWhole_5 : xm_okb cX7_isWhole 7 2 1 false 10 5 kX7_isWhole_5 = true := by decide +kernel
def kX7_isWhole_13 : List xm_I := [(.aload 0, 0, 0, 0, 0), (.getfield 0, 7, 1, 2, 0), (.sipush 0, 0, 0, 0, 1), (.iaload, 0, 0, 0, 0), (.if_icmp .lt 0, 41, 0, 0, 0), (.aload 0, 0, 0, 0, 0), (.iload 0, 1, 0, 0, 0), (.sipush 0, 0, 0, 0, 2)]
theorem bk_X7_isWhole_13 : xm_okb cX7_isWhole 7 2 1 false 25 13 kX7_isWhole_13 = true := by decide +kernel
def kX7_isWhole_28 : List xm_I := [(.aload 0, 0, 0, 0, 0), (.getfield 0, 7, 1, 2, 0), (.sipush 0, 0, 0, 0, 2), (.iaload, 0, 0, 0, 0), (.if_icmp .gt 0, 41, 0, 0, 0), (.sipush 0, 0, 0, 0, 1), (.goto 0, 42, 0, 0, 0)]
theorem bk_X7_isWhole_28 : xm_okb cX7_isWhole 7 2 1 false 41 28 kX7_isWhole_28 = true := by decide +kernel
def kX7_isWhole_41 : List xm_I := [(.sipush 0, 0, 0, 0, 0)]
theorem bk_X7_isWhole_41 : xm_okb cX7_isWhole 7 2 1 false 42 41 kX7_isWhole_41 = true := by decide +kernel
def kX7_isWhole_42 : List xm_I := [(.ireturn, 1, 0, 0, 0)]
theorem bk_X7_isWhole_42 : xm_okb cX7_isWhole 7 2 1 false 43 42 kX7_isWhole_42 = true := by decide +kernel
abbrev mt_X7_isCommanded : xm_T4 := (yX7_isCommanded, cX7_isCommanded, 4, (some .boolean))
theorem mo_X7_isCommanded : xm_mo mt_X7_isCommanded 7 2 1 false false := ⟨by decide +kernel, rfl, (fun h => by cases h), rfl, by decide, ⟨by decide +kernel, by decide +kernel, by decide +kernel⟩, (wq_at mw_7_2 37 rfl), (wq_at mw_7_6 28 rfl), (fun h => by cases h), (fun _ => (wq_at mw_7_2 38 rfl)), (fun _ => (wq_at mw_7_2 39 rfl))⟩
def kX7_isCommanded_0 : List xm_I := [(.sipush 0, 0, 0, 0, 0), (.istore 0, 3, 0, 0, 0)]
theorem bk_X7_isCommanded_0 : xm_okb cX7_isCommanded 7 4 1 false 2 0 kX7_isCommanded_0 = true := by decide +kernel
def kX7_isCommanded_2 : List xm_I := [(.iload 0, 3, 0, 0, 0), (.aload 0, 0, 0, 0, 0), (.getfield 0, 7, 3, 2, 0), (.sipush 0, 0, 0, 0, 2), (.iaload, 0, 0, 0, 0), (.if_icmp .ge 0, 53, 0, 0, 0), (.aload 0, 0, 0, 0, 0), (.iload 0, 3, 0, 0, 0)]
theorem bk_X7_isCommanded_2 : xm_okb cX7_isCommanded 7 4 1 false 14 2 kX7_isCommanded_2 = true := by decide +kernel
def kX7_isCommanded_19 : List xm_I := [(.iload 0, 1, 0, 0, 0), (.if_icmp .ne 0, 47, 0, 0, 0), (.iload 0, 2, 0, 0, 0), (.aload 0, 0, 0, 0, 0), (.iload 0, 3, 0, 0, 0), (.sipush 0, 0, 0, 0, 10)]
theorem bk_X7_isCommanded_19 : xm_okb cX7_isCommanded 7 4 1 false 28 19 kX7_isCommanded_19 = true := by decide +kernel
def kX7_isCommanded_31 : List xm_I := [(.if_icmp .lt 0, 47, 0, 0, 0), (.iload 0, 2, 0, 0, 0), (.aload 0, 0, 0, 0, 0), (.iload 0, 3, 0, 0, 0), (.sipush 0, 0, 0, 0, 11)]
theorem bk_X7_isCommanded_31 : xm_okb cX7_isCommanded 7 4 1 false 39 31 kX7_isCommanded_31 = true := by decide +kernel
def kX7_isCommanded_42 : List xm_I := [(.if_icmp .ge 0, 47, 0, 0, 0), (.sipush 0, 0, 0, 0, 1), (.ireturn, 1, 0, 0, 0)]
theorem bk_X7_isCommanded_42 : xm_okb cX7_isCommanded 7 4 1 false 47 42 kX7_isCommanded_42 = true := by decide +kernel
def kX7_isCommanded_47 : List xm_I := [(.iinc 0 0, 3, 0, 0, 1), (.goto 0, 2, 0, 0, 0)]
theorem bk_X7_isCommanded_47 : xm_okb cX7_isCommanded 7 4 1 false 53 47 kX7_isCommanded_47 = true := by decide +kernel
def kX7_isCommanded_53 : List xm_I := [(.sipush 0, 0, 0, 0, 0), (.ireturn, 1, 0, 0, 0)]
theorem bk_X7_isCommanded_53 : xm_okb cX7_isCommanded 7 4 1 false 55 53 kX7_isCommanded_53 = true := by decide +kernel
def kX7_isCommanded_14 : List xm_I := [(.sipush 0, 0, 0, 0, 7)]
theorem bk_X7_isCommanded_14 : xm_okb cX7_isCommanded 7 4 1 false 16 14 kX7_isCommanded_14 = true := by decide +kernel
abbrev mt_X7_isOpen : xm_T4 := (yX7_isOpen, cX7_isOpen, 2, (some .boolean))
theorem mo_X7_isOpen : xm_mo mt_X7_isOpen 7 1 1 false false := ⟨by decide +kernel, rfl, (fun h => by cases h), rfl, by decide, ⟨by decide +kernel, by decide +kernel, by decide +kernel⟩, (wq_at mw_7_3 0 rfl), (wq_at mw_7_6 28 rfl), (fun h => by cases h), (fun _ => (wq_at mw_7_3 1 rfl)), (fun _ => (wq_at mw_7_3 2 rfl))⟩
def kX7_isOpen_0 : List xm_I := [(.aload 0, 0, 0, 0, 0), (.iload 0, 1, 0, 0, 0), (.aload 0, 0, 0, 0, 0), (.getfield 0, 7, 3, 2, 0), (.sipush 0, 0, 0, 0, 0), (.iaload, 0, 0, 0, 0)]
theorem bk_X7_isOpen_0 : xm_okb cX7_isOpen 7 2 1 false 8 0 kX7_isOpen_0 = true := by decide +kernel
def kX7_isOpen_11 : List xm_I := [(.ifCond .eq 0, 27, 0, 0, 0), (.aload 0, 0, 0, 0, 0), (.iload 0, 1, 0, 0, 0), (.sipush 0, 0, 0, 0, 0)]
theorem bk_X7_isOpen_11 : xm_okb cX7_isOpen 7 2 1 false 17 11 kX7_isOpen_11 = true := by decide +kernel
def kX7_isOpen_20 : List xm_I := [(.ifCond .ne 0, 27, 0, 0, 0), (.sipush 0, 0, 0, 0, 1), (.goto 0, 28, 0, 0, 0)]
theorem bk_X7_isOpen_20 : xm_okb cX7_isOpen 7 2 1 false 27 20 kX7_isOpen_20 = true := by decide +kernel
def kX7_isOpen_27 : List xm_I := [(.sipush 0, 0, 0, 0, 0)]
theorem bk_X7_isOpen_27 : xm_okb cX7_isOpen 7 2 1 false 28 27 kX7_isOpen_27 = true := by decide +kernel
def kX7_isOpen_28 : List xm_I := [(.ireturn, 1, 0, 0, 0)]
theorem bk_X7_isOpen_28 : xm_okb cX7_isOpen 7 2 1 false 29 28 kX7_isOpen_28 = true := by decide +kernel
abbrev mt_X7_countOf : xm_T4 := (yX7_countOf, cX7_countOf, 4, (some .int))
theorem mo_X7_countOf : xm_mo mt_X7_countOf 7 1 0 false false := ⟨by decide +kernel, rfl, (fun h => by cases h), rfl, by decide, ⟨by decide +kernel, by decide +kernel, by decide +kernel⟩, (wq_at mw_7_3 3 rfl), (wq_at mw_7_6 28 rfl), (fun h => by cases h), (fun _ => (wq_at mw_7_3 4 rfl)), (fun _ => (wq_at mw_7_3 5 rfl))⟩
def kX7_countOf_0 : List xm_I := [(.sipush 0, 0, 0, 0, 0), (.istore 0, 2, 0, 0, 0), (.sipush 0, 0, 0, 0, 0), (.istore 0, 3, 0, 0, 0)]
theorem bk_X7_countOf_0 : xm_okb cX7_countOf 7 4 0 false 4 0 kX7_countOf_0 = true := by decide +kernel
def kX7_countOf_4 : List xm_I := [(.iload 0, 3, 0, 0, 0), (.aload 0, 0, 0, 0, 0), (.getfield 0, 7, 3, 2, 0), (.sipush 0, 0, 0, 0, 2), (.iaload, 0, 0, 0, 0), (.if_icmp .ge 0, 38, 0, 0, 0), (.iload 0, 2, 0, 0, 0), (.aload 0, 0, 0, 0, 0)]
theorem bk_X7_countOf_4 : xm_okb cX7_countOf 7 4 0 false 16 4 kX7_countOf_4 = true := by decide +kernel
def kX7_countOf_21 : List xm_I := [(.iload 0, 1, 0, 0, 0), (.if_icmp .ne 0, 29, 0, 0, 0), (.sipush 0, 0, 0, 0, 1), (.goto 0, 30, 0, 0, 0)]
theorem bk_X7_countOf_21 : xm_okb cX7_countOf 7 4 0 false 29 21 kX7_countOf_21 = true := by decide +kernel
def kX7_countOf_29 : List xm_I := [(.sipush 0, 0, 0, 0, 0)]
theorem bk_X7_countOf_29 : xm_okb cX7_countOf 7 4 0 false 30 29 kX7_countOf_29 = true := by decide +kernel
def kX7_countOf_30 : List xm_I := [(.iadd, 0, 0, 0, 0), (.istore 0, 2, 0, 0, 0), (.iinc 0 0, 3, 0, 0, 1), (.goto 0, 4, 0, 0, 0)]
theorem bk_X7_countOf_30 : xm_okb cX7_countOf 7 4 0 false 38 30 kX7_countOf_30 = true := by decide +kernel
def kX7_countOf_38 : List xm_I := [(.iload 0, 2, 0, 0, 0), (.ireturn, 0, 0, 0, 0)]
theorem bk_X7_countOf_38 : xm_okb cX7_countOf 7 4 0 false 40 38 kX7_countOf_38 = true := by decide +kernel
def kX7_countOf_16 : List xm_I := [(.iload 0, 3, 0, 0, 0), (.sipush 0, 0, 0, 0, 3)]
theorem bk_X7_countOf_16 : xm_okb cX7_countOf 7 4 0 false 18 16 kX7_countOf_16 = true := by decide +kernel
abbrev mt_X7_waiting : xm_T4 := (yX7_waiting, cX7_waiting, 3, (some .int))
theorem mo_X7_waiting : xm_mo mt_X7_waiting 7 0 0 false false := ⟨by decide +kernel, rfl, (fun h => by cases h), rfl, by decide, ⟨by decide +kernel, by decide +kernel, by decide +kernel⟩, (wq_at mw_7_3 6 rfl), (wq_at mw_7_6 28 rfl), (fun h => by cases h), (fun _ => (wq_at mw_7_3 7 rfl)), (fun _ => (wq_at mw_7_3 8 rfl))⟩
def kX7_waiting_0 : List xm_I := [(.sipush 0, 0, 0, 0, 0), (.istore 0, 1, 0, 0, 0), (.sipush 0, 0, 0, 0, 0), (.istore 0, 2, 0, 0, 0)]
theorem bk_X7_waiting_0 : xm_okb cX7_waiting 7 3 0 false 4 0 kX7_waiting_0 = true := by decide +kernel
def kX7_waiting_4 : List xm_I := [(.iload 0, 2, 0, 0, 0), (.aload 0, 0, 0, 0, 0), (.getfield 0, 7, 3, 2, 0), (.sipush 0, 0, 0, 0, 2), (.iaload, 0, 0, 0, 0), (.if_icmp .ge 0, 44, 0, 0, 0), (.iload 0, 1, 0, 0, 0), (.aload 0, 0, 0, 0, 0)]
theorem bk_X7_waiting_4 : xm_okb cX7_waiting 7 3 0 false 16 4 kX7_waiting_4 = true := by decide +kernel
def kX7_waiting_22 : List xm_I := [(.aload 0, 0, 0, 0, 0), (.getfield 0, 7, 3, 2, 0), (.sipush 0, 0, 0, 0, 0), (.iaload, 0, 0, 0, 0), (.if_icmp .le 0, 35, 0, 0, 0), (.sipush 0, 0, 0, 0, 1), (.goto 0, 36, 0, 0, 0)]
theorem bk_X7_waiting_22 : xm_okb cX7_waiting 7 3 0 false 35 22 kX7_waiting_22 = true := by decide +kernel
def kX7_waiting_35 : List xm_I := [(.sipush 0, 0, 0, 0, 0)]
theorem bk_X7_waiting_35 : xm_okb cX7_waiting 7 3 0 false 36 35 kX7_waiting_35 = true := by decide +kernel
def kX7_waiting_36 : List xm_I := [(.iadd, 0, 0, 0, 0), (.istore 0, 1, 0, 0, 0), (.iinc 0 0, 2, 0, 0, 1), (.goto 0, 4, 0, 0, 0)]
theorem bk_X7_waiting_36 : xm_okb cX7_waiting 7 3 0 false 44 36 kX7_waiting_36 = true := by decide +kernel
def kX7_waiting_44 : List xm_I := [(.iload 0, 1, 0, 0, 0), (.ireturn, 0, 0, 0, 0)]
theorem bk_X7_waiting_44 : xm_okb cX7_waiting 7 3 0 false 46 44 kX7_waiting_44 = true := by decide +kernel
def kX7_waiting_16 : List xm_I := [(.iload 0, 2, 0, 0, 0), (.sipush 0, 0, 0, 0, 12)]
theorem bk_X7_waiting_16 : xm_okb cX7_waiting 7 3 0 false 19 16 kX7_waiting_16 = true := by decide +kernel
abbrev mt_X7_alarms : xm_T4 := (yX7_alarms, cX7_alarms, 1, (some .int))
theorem mo_X7_alarms : xm_mo mt_X7_alarms 7 0 0 false false := ⟨by decide +kernel, rfl, (fun h => by cases h), rfl, by decide, ⟨by decide +kernel, by decide +kernel, by decide +kernel⟩, (wq_at mw_7_3 9 rfl), (wq_at mw_7_6 28 rfl), (fun h => by cases h), (fun _ => (wq_at mw_7_3 10 rfl)), (fun _ => (wq_at mw_7_3 11 rfl))⟩
def kX7_alarms_0 : List xm_I := [(.aload 0, 0, 0, 0, 0), (.sipush 0, 0, 0, 0, 0), (.sipush 0, 0, 0, 0, 4)]
theorem bk_X7_alarms_0 : xm_okb cX7_alarms 7 1 0 false 3 0 kX7_alarms_0 = true := by decide +kernel
def kX7_alarms_6 : List xm_I := [(.aload 0, 0, 0, 0, 0), (.sipush 0, 0, 0, 0, 1), (.sipush 0, 0, 0, 0, 4)]
theorem bk_X7_alarms_6 : xm_okb cX7_alarms 7 1 0 false 9 6 kX7_alarms_6 = true := by decide +kernel
def kX7_alarms_12 : List xm_I := [(.iadd, 0, 0, 0, 0), (.aload 0, 0, 0, 0, 0), (.sipush 0, 0, 0, 0, 2), (.sipush 0, 0, 0, 0, 4)]
theorem bk_X7_alarms_12 : xm_okb cX7_alarms 7 1 0 false 16 12 kX7_alarms_12 = true := by decide +kernel
def kX7_alarms_19 : List xm_I := [(.iadd, 0, 0, 0, 0), (.ireturn, 0, 0, 0, 0)]
theorem bk_X7_alarms_19 : xm_okb cX7_alarms 7 1 0 false 21 19 kX7_alarms_19 = true := by decide +kernel
abbrev mt_X7_windowNow : xm_T4 := (yX7_windowNow, cX7_windowNow, 4, (some .int))
theorem mo_X7_windowNow : xm_mo mt_X7_windowNow 7 0 0 false false := ⟨by decide +kernel, rfl, (fun h => by cases h), rfl, by decide, ⟨by decide +kernel, by decide +kernel, by decide +kernel⟩, (wq_at mw_7_3 12 rfl), (wq_at mw_7_6 28 rfl), (fun h => by cases h), (fun _ => (wq_at mw_7_3 13 rfl)), (fun _ => (wq_at mw_7_3 14 rfl))⟩
def kX7_windowNow_0 : List xm_I := [(.aload 0, 0, 0, 0, 0), (.getfield 0, 7, 1, 2, 0), (.sipush 0, 0, 0, 0, 9), (.iaload, 0, 0, 0, 0), (.ifCond .ne 0, 18, 0, 0, 0), (.aload 0, 0, 0, 0, 0), (.getfield 0, 7, 1, 2, 0), (.sipush 0, 0, 0, 0, 8)]
theorem bk_X7_windowNow_0 : xm_okb cX7_windowNow 7 4 0 false 16 0 kX7_windowNow_0 = true := by decide +kernel
def kX7_windowNow_18 : List xm_I := [(.aload 0, 0, 0, 0, 0), (.getfield 0, 7, 1, 2, 0), (.sipush 0, 0, 0, 0, 8), (.iaload, 0, 0, 0, 0), (.istore 0, 1, 0, 0, 0)]
theorem bk_X7_windowNow_18 : xm_okb cX7_windowNow 7 4 0 false 26 18 kX7_windowNow_18 = true := by decide +kernel
def kX7_windowNow_26 : List xm_I := [(.iload 0, 1, 0, 0, 0), (.ifCond .le 0, 90, 0, 0, 0), (.sipush 0, 0, 0, 0, 1), (.istore 0, 2, 0, 0, 0), (.sipush 0, 0, 0, 0, 0), (.istore 0, 3, 0, 0, 0)]
theorem bk_X7_windowNow_26 : xm_okb cX7_windowNow 7 4 0 false 34 26 kX7_windowNow_26 = true := by decide +kernel
def kX7_windowNow_34 : List xm_I := [(.iload 0, 3, 0, 0, 0), (.aload 0, 0, 0, 0, 0), (.getfield 0, 7, 1, 2, 0), (.sipush 0, 0, 0, 0, 4), (.iaload, 0, 0, 0, 0), (.if_icmp .ge 0, 78, 0, 0, 0), (.iload 0, 2, 0, 0, 0), (.ifCond .eq 0, 70, 0, 0, 0)]
theorem bk_X7_windowNow_34 : xm_okb cX7_windowNow 7 4 0 false 48 34 kX7_windowNow_34 = true := by decide +kernel
def kX7_windowNow_70 : List xm_I := [(.sipush 0, 0, 0, 0, 0)]
theorem bk_X7_windowNow_70 : xm_okb cX7_windowNow 7 4 0 false 71 70 kX7_windowNow_70 = true := by decide +kernel
def kX7_windowNow_71 : List xm_I := [(.istore 0, 2, 0, 0, 0), (.iinc 0 0, 3, 0, 0, 1), (.goto 0, 34, 0, 0, 0)]
theorem bk_X7_windowNow_71 : xm_okb cX7_windowNow 7 4 0 false 78 71 kX7_windowNow_71 = true := by decide +kernel
def kX7_windowNow_78 : List xm_I := [(.iload 0, 2, 0, 0, 0), (.ifCond .eq 0, 84, 0, 0, 0), (.iload 0, 1, 0, 0, 0), (.ireturn, 0, 0, 0, 0)]
theorem bk_X7_windowNow_78 : xm_okb cX7_windowNow 7 4 0 false 84 78 kX7_windowNow_78 = true := by decide +kernel
def kX7_windowNow_84 : List xm_I := [(.iinc 0 0, 1, 0, 0, (-1)), (.goto 0, 26, 0, 0, 0)]
theorem bk_X7_windowNow_84 : xm_okb cX7_windowNow 7 4 0 false 90 84 kX7_windowNow_84 = true := by decide +kernel
def kX7_windowNow_90 : List xm_I := [(.aload 0, 0, 0, 0, 0), (.getfield 0, 7, 1, 2, 0), (.sipush 0, 0, 0, 0, 8), (.iaload, 0, 0, 0, 0), (.ireturn, 0, 0, 0, 0)]
theorem bk_X7_windowNow_90 : xm_okb cX7_windowNow 7 4 0 false 98 90 kX7_windowNow_90 = true := by decide +kernel
def kX7_windowNow_16 : List xm_I := [(.iaload, 0, 0, 0, 0), (.ireturn, 0, 0, 0, 0)]
theorem bk_X7_windowNow_16 : xm_okb cX7_windowNow 7 4 0 false 18 16 kX7_windowNow_16 = true := by decide +kernel
def kX7_windowNow_48 : List xm_I := [(.iload 0, 1, 0, 0, 0), (.aload 0, 0, 0, 0, 0), (.getfield 0, 7, 1, 2, 0), (.sipush 0, 0, 0, 0, 16), (.sipush 0, 0, 0, 0, 3), (.iload 0, 3, 0, 0, 0), (.imul, 0, 0, 0, 0), (.iadd, 0, 0, 0, 0)]
theorem bk_X7_windowNow_48 : xm_okb cX7_windowNow 7 4 0 false 59 48 kX7_windowNow_48 = true := by decide +kernel
def kX7_windowNow_59 : List xm_I := [(.sipush 0, 0, 0, 0, 1), (.iadd, 0, 0, 0, 0), (.iaload, 0, 0, 0, 0), (.irem, 0, 0, 0, 0), (.ifCond .ne 0, 70, 0, 0, 0), (.sipush 0, 0, 0, 0, 1), (.goto 0, 71, 0, 0, 0)]
theorem bk_X7_windowNow_59 : xm_okb cX7_windowNow 7 4 0 false 70 59 kX7_windowNow_59 = true := by decide +kernel
abbrev mt_X7_report : xm_T4 := (yX7_report, cX7_report, 2, (some .int))
theorem mo_X7_report : xm_mo mt_X7_report 7 1 0 false false := ⟨by decide +kernel, rfl, (fun h => by cases h), rfl, by decide, ⟨by decide +kernel, by decide +kernel, by decide +kernel⟩, (wq_at mw_7_3 15 rfl), (wq_at mw_7_6 28 rfl), (fun h => by cases h), (fun _ => (wq_at mw_7_3 16 rfl)), (fun _ => (wq_at mw_7_3 17 rfl))⟩
def kX7_report_0 : List xm_I := [(.aload 0, 0, 0, 0, 0), (.sipush 0, 0, 0, 0, 0), (.putfield 0, 7, 0, 0, 0), (.aload 0, 0, 0, 0, 0), (.iload 0, 1, 0, 0, 0), (.sipush 0, 0, 0, 0, 0), (.sipush 0, 0, 0, 0, 11)]
theorem bk_X7_report_0 : xm_okb cX7_report 7 2 0 false 10 0 kX7_report_0 = true := by decide +kernel
def kX7_report_13 : List xm_I := [(.sipush 0, 0, 0, 0, 1)]
theorem bk_X7_report_13 : xm_okb cX7_report 7 2 0 false 14 13 kX7_report_13 = true := by decide +kernel
def kX7_report_17 : List xm_I := [(.ifCond .ne 0, 22, 0, 0, 0), (.sipush 0, 0, 0, 0, 0), (.ireturn, 0, 0, 0, 0)]
theorem bk_X7_report_17 : xm_okb cX7_report 7 2 0 false 22 17 kX7_report_17 = true := by decide +kernel
def kX7_report_22 : List xm_I := [(.iload 0, 1, 0, 0, 0)]
theorem bk_X7_report_22 : xm_okb cX7_report 7 2 0 false 23 22 kX7_report_22 = true := by decide +kernel
def kX7_report_80 : List xm_I := [(.aload 0, 0, 0, 0, 0), (.getfield 0, 7, 3, 2, 0), (.sipush 0, 0, 0, 0, 0), (.iaload, 0, 0, 0, 0), (.ireturn, 0, 0, 0, 0)]
theorem bk_X7_report_80 : xm_okb cX7_report 7 2 0 false 87 80 kX7_report_80 = true := by decide +kernel
def kX7_report_87 : List xm_I := [(.aload 0, 0, 0, 0, 0), (.getfield 0, 7, 1, 2, 0), (.sipush 0, 0, 0, 0, 0), (.iaload, 0, 0, 0, 0), (.ireturn, 0, 0, 0, 0)]
theorem bk_X7_report_87 : xm_okb cX7_report 7 2 0 false 94 87 kX7_report_87 = true := by decide +kernel
def kX7_report_94 : List xm_I := [(.aload 0, 0, 0, 0, 0), (.getfield 0, 7, 1, 2, 0), (.sipush 0, 0, 0, 0, 4), (.iaload, 0, 0, 0, 0), (.ireturn, 0, 0, 0, 0)]
theorem bk_X7_report_94 : xm_okb cX7_report 7 2 0 false 101 94 kX7_report_94 = true := by decide +kernel
def kX7_report_101 : List xm_I := [(.aload 0, 0, 0, 0, 0), (.getfield 0, 7, 1, 2, 0), (.sipush 0, 0, 0, 0, 5), (.iaload, 0, 0, 0, 0), (.ireturn, 0, 0, 0, 0)]
theorem bk_X7_report_101 : xm_okb cX7_report 7 2 0 false 108 101 kX7_report_101 = true := by decide +kernel
def kX7_report_108 : List xm_I := [(.aload 0, 0, 0, 0, 0), (.getfield 0, 7, 3, 2, 0), (.sipush 0, 0, 0, 0, 4), (.iaload, 0, 0, 0, 0), (.ireturn, 0, 0, 0, 0)]
theorem bk_X7_report_108 : xm_okb cX7_report 7 2 0 false 115 108 kX7_report_108 = true := by decide +kernel
def kX7_report_115 : List xm_I := [(.aload 0, 0, 0, 0, 0), (.getfield 0, 7, 3, 2, 0), (.sipush 0, 0, 0, 0, 5), (.iaload, 0, 0, 0, 0), (.ireturn, 0, 0, 0, 0)]
theorem bk_X7_report_115 : xm_okb cX7_report 7 2 0 false 122 115 kX7_report_115 = true := by decide +kernel
def kX7_report_122 : List xm_I := [(.aload 0, 0, 0, 0, 0)]
theorem bk_X7_report_122 : xm_okb cX7_report 7 2 0 false 123 122 kX7_report_122 = true := by decide +kernel
def kX7_report_126 : List xm_I := [(.ireturn, 0, 0, 0, 0)]
theorem bk_X7_report_126 : xm_okb cX7_report 7 2 0 false 127 126 kX7_report_126 = true := by decide +kernel
def kX7_report_127 : List xm_I := [(.aload 0, 0, 0, 0, 0), (.getfield 0, 7, 3, 2, 0), (.sipush 0, 0, 0, 0, 1), (.iaload, 0, 0, 0, 0), (.ireturn, 0, 0, 0, 0)]
theorem bk_X7_report_127 : xm_okb cX7_report 7 2 0 false 134 127 kX7_report_127 = true := by decide +kernel
def kX7_report_134 : List xm_I := [(.aload 0, 0, 0, 0, 0), (.getfield 0, 7, 3, 2, 0), (.sipush 0, 0, 0, 0, 2), (.iaload, 0, 0, 0, 0), (.ireturn, 0, 0, 0, 0)]
theorem bk_X7_report_134 : xm_okb cX7_report 7 2 0 false 141 134 kX7_report_134 = true := by decide +kernel
def kX7_report_141 : List xm_I := [(.aload 0, 0, 0, 0, 0), (.sipush 0, 0, 0, 0, 0)]
theorem bk_X7_report_141 : xm_okb cX7_report 7 2 0 false 143 141 kX7_report_141 = true := by decide +kernel
def kX7_report_146 : List xm_I := [(.aload 0, 0, 0, 0, 0), (.sipush 0, 0, 0, 0, 1)]
theorem bk_X7_report_146 : xm_okb cX7_report 7 2 0 false 148 146 kX7_report_146 = true := by decide +kernel
def kX7_report_151 : List xm_I := [(.iadd, 0, 0, 0, 0), (.ireturn, 0, 0, 0, 0)]
theorem bk_X7_report_151 : xm_okb cX7_report 7 2 0 false 153 151 kX7_report_151 = true := by decide +kernel
def kX7_report_153 : List xm_I := [(.aload 0, 0, 0, 0, 0)]
theorem bk_X7_report_153 : xm_okb cX7_report 7 2 0 false 154 153 kX7_report_153 = true := by decide +kernel
def kX7_report_157 : List xm_I := [(.ireturn, 0, 0, 0, 0)]
theorem bk_X7_report_157 : xm_okb cX7_report 7 2 0 false 158 157 kX7_report_157 = true := by decide +kernel
def kX7_report_158 : List xm_I := [(.aload 0, 0, 0, 0, 0)]
theorem bk_X7_report_158 : xm_okb cX7_report 7 2 0 false 159 158 kX7_report_158 = true := by decide +kernel
def kX7_report_162 : List xm_I := [(.ireturn, 0, 0, 0, 0)]
theorem bk_X7_report_162 : xm_okb cX7_report 7 2 0 false 163 162 kX7_report_162 = true := by decide +kernel
abbrev mt_X7_gate : xm_T4 := (yX7_gate, cX7_gate, 3, (some .int))
theorem mo_X7_gate : xm_mo mt_X7_gate 7 2 0 false false := ⟨by decide +kernel, rfl, (fun h => by cases h), rfl, by decide, ⟨by decide +kernel, by decide +kernel, by decide +kernel⟩, (wq_at mw_7_3 18 rfl), (wq_at mw_7_6 28 rfl), (fun h => by cases h), (fun _ => (wq_at mw_7_3 19 rfl)), (fun _ => (wq_at mw_7_3 20 rfl))⟩
def kX7_gate_0 : List xm_I := [(.aload 0, 0, 0, 0, 0), (.sipush 0, 0, 0, 0, 0), (.putfield 0, 7, 0, 0, 0), (.aload 0, 0, 0, 0, 0), (.aload 0, 0, 0, 0, 0), (.iload 0, 1, 0, 0, 0)]
theorem bk_X7_gate_0 : xm_okb cX7_gate 7 3 0 false 8 0 kX7_gate_0 = true := by decide +kernel
def kX7_gate_11 : List xm_I := [(.sipush 0, 0, 0, 0, 1)]
theorem bk_X7_gate_11 : xm_okb cX7_gate 7 3 0 false 12 11 kX7_gate_11 = true := by decide +kernel
def kX7_gate_15 : List xm_I := [(.ifCond .eq 0, 33, 0, 0, 0), (.aload 0, 0, 0, 0, 0), (.iload 0, 2, 0, 0, 0), (.sipush 0, 0, 0, 0, 0), (.sipush 0, 0, 0, 0, 8)]
theorem bk_X7_gate_15 : xm_okb cX7_gate 7 3 0 false 23 15 kX7_gate_15 = true := by decide +kernel
def kX7_gate_26 : List xm_I := [(.sipush 0, 0, 0, 0, 2)]
theorem bk_X7_gate_26 : xm_okb cX7_gate 7 3 0 false 27 26 kX7_gate_26 = true := by decide +kernel
def kX7_gate_30 : List xm_I := [(.ifCond .ne 0, 35, 0, 0, 0)]
theorem bk_X7_gate_30 : xm_okb cX7_gate 7 3 0 false 33 30 kX7_gate_30 = true := by decide +kernel
def kX7_gate_33 : List xm_I := [(.sipush 0, 0, 0, 0, 0), (.ireturn, 0, 0, 0, 0)]
theorem bk_X7_gate_33 : xm_okb cX7_gate 7 3 0 false 35 33 kX7_gate_33 = true := by decide +kernel
def kX7_gate_35 : List xm_I := [(.iload 0, 2, 0, 0, 0)]
theorem bk_X7_gate_35 : xm_okb cX7_gate 7 3 0 false 36 35 kX7_gate_35 = true := by decide +kernel
def kX7_gate_64 : List xm_I := [(.aload 0, 0, 0, 0, 0), (.iload 0, 1, 0, 0, 0)]
theorem bk_X7_gate_64 : xm_okb cX7_gate 7 3 0 false 66 64 kX7_gate_64 = true := by decide +kernel
def kX7_gate_69 : List xm_I := [(.ifCond .eq 0, 76, 0, 0, 0), (.sipush 0, 0, 0, 0, 1), (.goto 0, 77, 0, 0, 0)]
theorem bk_X7_gate_69 : xm_okb cX7_gate 7 3 0 false 76 69 kX7_gate_69 = true := by decide +kernel
def kX7_gate_76 : List xm_I := [(.sipush 0, 0, 0, 0, 0)]
theorem bk_X7_gate_76 : xm_okb cX7_gate 7 3 0 false 77 76 kX7_gate_76 = true := by decide +kernel
def kX7_gate_77 : List xm_I := [(.ireturn, 0, 0, 0, 0)]
theorem bk_X7_gate_77 : xm_okb cX7_gate 7 3 0 false 78 77 kX7_gate_77 = true := by decide +kernel
def kX7_gate_78 : List xm_I := [(.aload 0, 0, 0, 0, 0), (.iload 0, 1, 0, 0, 0), (.sipush 0, 0, 0, 0, 0)]
theorem bk_X7_gate_78 : xm_okb cX7_gate 7 3 0 false 81 78 kX7_gate_78 = true := by decide +kernel
def kX7_gate_84 : List xm_I := [(.ireturn, 0, 0, 0, 0)]
theorem bk_X7_gate_84 : xm_okb cX7_gate 7 3 0 false 85 84 kX7_gate_84 = true := by decide +kernel
def kX7_gate_85 : List xm_I := [(.aload 0, 0, 0, 0, 0), (.iload 0, 1, 0, 0, 0), (.sipush 0, 0, 0, 0, 1)]
theorem bk_X7_gate_85 : xm_okb cX7_gate 7 3 0 false 88 85 kX7_gate_85 = true := by decide +kernel
def kX7_gate_91 : List xm_I := [(.ireturn, 0, 0, 0, 0)]
theorem bk_X7_gate_91 : xm_okb cX7_gate 7 3 0 false 92 91 kX7_gate_91 = true := by decide +kernel
def kX7_gate_92 : List xm_I := [(.iload 0, 2, 0, 0, 0), (.sipush 0, 0, 0, 0, 3), (.if_icmp .ge 0, 106, 0, 0, 0), (.aload 0, 0, 0, 0, 0), (.iload 0, 1, 0, 0, 0), (.iload 0, 2, 0, 0, 0)]
theorem bk_X7_gate_92 : xm_okb cX7_gate 7 3 0 false 100 92 kX7_gate_92 = true := by decide +kernel
def kX7_gate_103 : List xm_I := [(.goto 0, 116, 0, 0, 0)]
theorem bk_X7_gate_103 : xm_okb cX7_gate 7 3 0 false 106 103 kX7_gate_103 = true := by decide +kernel
def kX7_gate_106 : List xm_I := [(.aload 0, 0, 0, 0, 0), (.iload 0, 1, 0, 0, 0), (.sipush 0, 0, 0, 0, 2), (.iload 0, 2, 0, 0, 0), (.iadd, 0, 0, 0, 0), (.sipush 0, 0, 0, 0, 3), (.isub, 0, 0, 0, 0)]
theorem bk_X7_gate_106 : xm_okb cX7_gate 7 3 0 false 113 106 kX7_gate_106 = true := by decide +kernel
def kX7_gate_116 : List xm_I := [(.ireturn, 0, 0, 0, 0)]
theorem bk_X7_gate_116 : xm_okb cX7_gate 7 3 0 false 117 116 kX7_gate_116 = true := by decide +kernel
abbrev mt_X7_put : xm_T4 := (yX7_put, cX7_put, 6, (some .int))
theorem mo_X7_put : xm_mo mt_X7_put 7 2 0 false false := ⟨by decide +kernel, rfl, (fun h => by cases h), rfl, by decide, ⟨by decide +kernel, by decide +kernel, by decide +kernel⟩, (wq_at mw_7_3 21 rfl), (wq_at mw_7_6 28 rfl), (fun h => by cases h), (fun _ => (wq_at mw_7_3 22 rfl)), (fun _ => (wq_at mw_7_3 23 rfl))⟩
def kX7_put_0 : List xm_I := [(.aload 0, 0, 0, 0, 0), (.sipush 0, 0, 0, 0, 0), (.putfield 0, 7, 0, 0, 0), (.aload 0, 0, 0, 0, 0), (.iload 0, 1, 0, 0, 0), (.sipush 0, 0, 0, 0, 1), (.sipush 0, 0, 0, 0, 9999)]
theorem bk_X7_put_0 : xm_okb cX7_put 7 6 0 false 11 0 kX7_put_0 = true := by decide +kernel
def kX7_put_14 : List xm_I := [(.ifCond .eq 0, 32, 0, 0, 0), (.iload 0, 2, 0, 0, 0), (.sipush 0, 0, 0, 0, 1), (.sipush 0, 0, 0, 0, 2000)]
theorem bk_X7_put_14 : xm_okb cX7_put 7 6 0 false 22 14 kX7_put_14 = true := by decide +kernel
def kX7_put_25 : List xm_I := [(.ifCond .eq 0, 32, 0, 0, 0), (.sipush 0, 0, 0, 0, 1), (.goto 0, 33, 0, 0, 0)]
theorem bk_X7_put_25 : xm_okb cX7_put 7 6 0 false 32 25 kX7_put_25 = true := by decide +kernel
def kX7_put_32 : List xm_I := [(.sipush 0, 0, 0, 0, 0)]
theorem bk_X7_put_32 : xm_okb cX7_put 7 6 0 false 33 32 kX7_put_32 = true := by decide +kernel
def kX7_put_33 : List xm_I := [(.sipush 0, 0, 0, 0, 1)]
theorem bk_X7_put_33 : xm_okb cX7_put 7 6 0 false 34 33 kX7_put_33 = true := by decide +kernel
def kX7_put_37 : List xm_I := [(.ifCond .ne 0, 42, 0, 0, 0), (.sipush 0, 0, 0, 0, 0), (.ireturn, 0, 0, 0, 0)]
theorem bk_X7_put_37 : xm_okb cX7_put 7 6 0 false 42 37 kX7_put_37 = true := by decide +kernel
def kX7_put_42 : List xm_I := [(.aload 0, 0, 0, 0, 0), (.getfield 0, 7, 3, 2, 0), (.sipush 0, 0, 0, 0, 2), (.iaload, 0, 0, 0, 0), (.istore 0, 3, 0, 0, 0), (.iload 0, 3, 0, 0, 0), (.ifCond .eq 0, 73, 0, 0, 0), (.aload 0, 0, 0, 0, 0)]
theorem bk_X7_put_42 : xm_okb cX7_put 7 6 0 false 54 42 kX7_put_42 = true := by decide +kernel
def kX7_put_60 : List xm_I := [(.ifCond .eq 0, 73, 0, 0, 0), (.aload 0, 0, 0, 0, 0), (.iload 0, 3, 0, 0, 0), (.sipush 0, 0, 0, 0, 1), (.isub, 0, 0, 0, 0)]
theorem bk_X7_put_60 : xm_okb cX7_put 7 6 0 false 67 60 kX7_put_60 = true := by decide +kernel
def kX7_put_70 : List xm_I := [(.ifCond .lt 0, 77, 0, 0, 0)]
theorem bk_X7_put_70 : xm_okb cX7_put 7 6 0 false 73 70 kX7_put_70 = true := by decide +kernel
def kX7_put_73 : List xm_I := [(.sipush 0, 0, 0, 0, 1), (.goto 0, 78, 0, 0, 0)]
theorem bk_X7_put_73 : xm_okb cX7_put 7 6 0 false 77 73 kX7_put_73 = true := by decide +kernel
def kX7_put_77 : List xm_I := [(.sipush 0, 0, 0, 0, 0)]
theorem bk_X7_put_77 : xm_okb cX7_put 7 6 0 false 78 77 kX7_put_77 = true := by decide +kernel
def kX7_put_78 : List xm_I := [(.istore 0, 4, 0, 0, 0), (.aload 0, 0, 0, 0, 0), (.iload 0, 4, 0, 0, 0), (.ifCond .eq 0, 96, 0, 0, 0), (.iload 0, 3, 0, 0, 0), (.sipush 0, 0, 0, 0, 60), (.if_icmp .ge 0, 96, 0, 0, 0), (.sipush 0, 0, 0, 0, 1)]
theorem bk_X7_put_78 : xm_okb cX7_put 7 6 0 false 93 78 kX7_put_78 = true := by decide +kernel
def kX7_put_96 : List xm_I := [(.sipush 0, 0, 0, 0, 0)]
theorem bk_X7_put_96 : xm_okb cX7_put 7 6 0 false 97 96 kX7_put_96 = true := by decide +kernel
def kX7_put_97 : List xm_I := [(.sipush 0, 0, 0, 0, 2)]
theorem bk_X7_put_97 : xm_okb cX7_put 7 6 0 false 98 97 kX7_put_97 = true := by decide +kernel
def kX7_put_101 : List xm_I := [(.ifCond .ne 0, 106, 0, 0, 0), (.sipush 0, 0, 0, 0, 0), (.ireturn, 0, 0, 0, 0)]
theorem bk_X7_put_101 : xm_okb cX7_put 7 6 0 false 106 101 kX7_put_101 = true := by decide +kernel
def kX7_put_106 : List xm_I := [(.aload 0, 0, 0, 0, 0), (.getfield 0, 7, 3, 2, 0), (.sipush 0, 0, 0, 0, 2), (.dup2, 0, 0, 0, 0), (.iaload, 0, 0, 0, 0), (.sipush 0, 0, 0, 0, 1), (.iadd, 0, 0, 0, 0), (.iastore, 0, 0, 0, 0)]
theorem bk_X7_put_106 : xm_okb cX7_put 7 6 0 false 116 106 kX7_put_106 = true := by decide +kernel
def kX7_put_119 : List xm_I := [(.iload 0, 5, 0, 0, 0), (.sipush 0, 0, 0, 0, 76), (.if_icmp .ge 0, 140, 0, 0, 0), (.aload 0, 0, 0, 0, 0), (.iload 0, 3, 0, 0, 0), (.iload 0, 5, 0, 0, 0), (.sipush 0, 0, 0, 0, 0)]
theorem bk_X7_put_119 : xm_okb cX7_put 7 6 0 false 131 119 kX7_put_119 = true := by decide +kernel
def kX7_put_134 : List xm_I := [(.iinc 0 0, 5, 0, 0, 1), (.goto 0, 119, 0, 0, 0)]
theorem bk_X7_put_134 : xm_okb cX7_put 7 6 0 false 140 134 kX7_put_134 = true := by decide +kernel
def kX7_put_140 : List xm_I := [(.aload 0, 0, 0, 0, 0), (.iload 0, 3, 0, 0, 0), (.sipush 0, 0, 0, 0, 0), (.iload 0, 1, 0, 0, 0)]
theorem bk_X7_put_140 : xm_okb cX7_put 7 6 0 false 144 140 kX7_put_140 = true := by decide +kernel
def kX7_put_147 : List xm_I := [(.aload 0, 0, 0, 0, 0), (.iload 0, 3, 0, 0, 0), (.sipush 0, 0, 0, 0, 1), (.iload 0, 2, 0, 0, 0)]
theorem bk_X7_put_147 : xm_okb cX7_put 7 6 0 false 151 147 kX7_put_147 = true := by decide +kernel
def kX7_put_154 : List xm_I := [(.aload 0, 0, 0, 0, 0), (.iload 0, 3, 0, 0, 0), (.sipush 0, 0, 0, 0, 6), (.sipush 0, 0, 0, 0, (-1))]
theorem bk_X7_put_154 : xm_okb cX7_put 7 6 0 false 159 154 kX7_put_154 = true := by decide +kernel
def kX7_put_162 : List xm_I := [(.aload 0, 0, 0, 0, 0), (.iload 0, 3, 0, 0, 0), (.sipush 0, 0, 0, 0, 7), (.sipush 0, 0, 0, 0, (-1))]
theorem bk_X7_put_162 : xm_okb cX7_put 7 6 0 false 167 162 kX7_put_162 = true := by decide +kernel
def kX7_put_170 : List xm_I := [(.aload 0, 0, 0, 0, 0), (.iload 0, 3, 0, 0, 0), (.sipush 0, 0, 0, 0, 8), (.sipush 0, 0, 0, 0, (-1))]
theorem bk_X7_put_170 : xm_okb cX7_put 7 6 0 false 175 170 kX7_put_170 = true := by decide +kernel
def kX7_put_178 : List xm_I := [(.aload 0, 0, 0, 0, 0), (.iload 0, 3, 0, 0, 0), (.sipush 0, 0, 0, 0, 9), (.sipush 0, 0, 0, 0, (-1))]
theorem bk_X7_put_178 : xm_okb cX7_put 7 6 0 false 183 178 kX7_put_178 = true := by decide +kernel
def kX7_put_186 : List xm_I := [(.iload 0, 3, 0, 0, 0), (.ireturn, 0, 0, 0, 0)]
theorem bk_X7_put_186 : xm_okb cX7_put 7 6 0 false 188 186 kX7_put_186 = true := by decide +kernel
def kX7_put_54 : List xm_I := [(.iload 0, 3, 0, 0, 0), (.sipush 0, 0, 0, 0, 1), (.isub, 0, 0, 0, 0)]
theorem bk_X7_put_54 : xm_okb cX7_put 7 6 0 false 57 54 kX7_put_54 = true := by decide +kernel
def kX7_put_93 : List xm_I := [(.goto 0, 97, 0, 0, 0)]
theorem bk_X7_put_93 : xm_okb cX7_put 7 6 0 false 96 93 kX7_put_93 = true := by decide +kernel
def kX7_put_116 : List xm_I := [(.sipush 0, 0, 0, 0, 0), (.istore 0, 5, 0, 0, 0)]
theorem bk_X7_put_116 : xm_okb cX7_put 7 6 0 false 119 116 kX7_put_116 = true := by decide +kernel
abbrev mt_X7_shaken : xm_T4 := (yX7_shaken, cX7_shaken, 5, (some .int))
theorem mo_X7_shaken : xm_mo mt_X7_shaken 7 1 0 false false := ⟨by decide +kernel, rfl, (fun h => by cases h), rfl, by decide, ⟨by decide +kernel, by decide +kernel, by decide +kernel⟩, (wq_at mw_7_3 24 rfl), (wq_at mw_7_6 28 rfl), (fun h => by cases h), (fun _ => (wq_at mw_7_3 25 rfl)), (fun _ => (wq_at mw_7_3 26 rfl))⟩
def kX7_shaken_0 : List xm_I := [(.sipush 0, 0, 0, 0, 0), (.istore 0, 2, 0, 0, 0), (.sipush 0, 0, 0, 0, 0), (.istore 0, 3, 0, 0, 0)]
theorem bk_X7_shaken_0 : xm_okb cX7_shaken 7 5 0 false 4 0 kX7_shaken_0 = true := by decide +kernel
def kX7_shaken_4 : List xm_I := [(.iload 0, 3, 0, 0, 0), (.aload 0, 0, 0, 0, 0), (.getfield 0, 7, 1, 2, 0), (.sipush 0, 0, 0, 0, 4), (.iaload, 0, 0, 0, 0), (.if_icmp .ge 0, 84, 0, 0, 0), (.sipush 0, 0, 0, 0, 16), (.sipush 0, 0, 0, 0, 3)]
theorem bk_X7_shaken_4 : xm_okb cX7_shaken 7 5 0 false 17 4 kX7_shaken_4 = true := by decide +kernel
def kX7_shaken_68 : List xm_I := [(.aload 0, 0, 0, 0, 0), (.getfield 0, 7, 1, 2, 0), (.iload 0, 4, 0, 0, 0), (.iaload, 0, 0, 0, 0), (.ineg, 0, 0, 0, 0)]
theorem bk_X7_shaken_68 : xm_okb cX7_shaken 7 5 0 false 76 68 kX7_shaken_68 = true := by decide +kernel
def kX7_shaken_76 : List xm_I := [(.iadd, 0, 0, 0, 0), (.istore 0, 2, 0, 0, 0), (.iinc 0 0, 3, 0, 0, 1), (.goto 0, 4, 0, 0, 0)]
theorem bk_X7_shaken_76 : xm_okb cX7_shaken 7 5 0 false 84 76 kX7_shaken_76 = true := by decide +kernel
def kX7_shaken_84 : List xm_I := [(.iload 0, 2, 0, 0, 0), (.ireturn, 0, 0, 0, 0)]
theorem bk_X7_shaken_84 : xm_okb cX7_shaken 7 5 0 false 86 84 kX7_shaken_84 = true := by decide +kernel
def kX7_shaken_17 : List xm_I := [(.iload 0, 3, 0, 0, 0), (.imul, 0, 0, 0, 0), (.iadd, 0, 0, 0, 0), (.istore 0, 4, 0, 0, 0), (.iload 0, 2, 0, 0, 0), (.iload 0, 1, 0, 0, 0), (.aload 0, 0, 0, 0, 0), (.getfield 0, 7, 1, 2, 0)]
theorem bk_X7_shaken_17 : xm_okb cX7_shaken 7 5 0 false 28 17 kX7_shaken_17 = true := by decide +kernel
def kX7_shaken_28 : List xm_I := [(.iload 0, 4, 0, 0, 0), (.sipush 0, 0, 0, 0, 2), (.iadd, 0, 0, 0, 0), (.iaload, 0, 0, 0, 0), (.iadd, 0, 0, 0, 0), (.aload 0, 0, 0, 0, 0), (.getfield 0, 7, 1, 2, 0), (.iload 0, 4, 0, 0, 0)]
theorem bk_X7_shaken_28 : xm_okb cX7_shaken 7 5 0 false 40 28 kX7_shaken_28 = true := by decide +kernel
def kX7_shaken_40 : List xm_I := [(.sipush 0, 0, 0, 0, 1), (.iadd, 0, 0, 0, 0), (.iaload, 0, 0, 0, 0), (.irem, 0, 0, 0, 0), (.aload 0, 0, 0, 0, 0), (.getfield 0, 7, 1, 2, 0), (.iload 0, 4, 0, 0, 0), (.sipush 0, 0, 0, 0, 1)]
theorem bk_X7_shaken_40 : xm_okb cX7_shaken 7 5 0 false 51 40 kX7_shaken_40 = true := by decide +kernel
def kX7_shaken_51 : List xm_I := [(.iadd, 0, 0, 0, 0), (.iaload, 0, 0, 0, 0), (.sipush 0, 0, 0, 0, 2), (.idiv, 0, 0, 0, 0), (.if_icmp .ge 0, 68, 0, 0, 0), (.aload 0, 0, 0, 0, 0), (.getfield 0, 7, 1, 2, 0), (.iload 0, 4, 0, 0, 0)]
theorem bk_X7_shaken_51 : xm_okb cX7_shaken 7 5 0 false 64 51 kX7_shaken_51 = true := by decide +kernel
def kX7_shaken_64 : List xm_I := [(.iaload, 0, 0, 0, 0), (.goto 0, 76, 0, 0, 0)]
theorem bk_X7_shaken_64 : xm_okb cX7_shaken 7 5 0 false 68 64 kX7_shaken_64 = true := by decide +kernel
abbrev mt_X7_sampled : xm_T4 := (yX7_sampled, cX7_sampled, 3, (some .int))
theorem mo_X7_sampled : xm_mo mt_X7_sampled 7 0 0 false false := ⟨by decide +kernel, rfl, (fun h => by cases h), rfl, by decide, ⟨by decide +kernel, by decide +kernel, by decide +kernel⟩, (wq_at mw_7_3 27 rfl), (wq_at mw_7_6 28 rfl), (fun h => by cases h), (fun _ => (wq_at mw_7_3 28 rfl)), (fun _ => (wq_at mw_7_3 29 rfl))⟩
def kX7_sampled_0 : List xm_I := [(.aload 0, 0, 0, 0, 0), (.getfield 0, 7, 1, 2, 0), (.sipush 0, 0, 0, 0, 12), (.iaload, 0, 0, 0, 0), (.aload 0, 0, 0, 0, 0), (.getfield 0, 7, 3, 2, 0), (.sipush 0, 0, 0, 0, 0), (.iaload, 0, 0, 0, 0)]
theorem bk_X7_sampled_0 : xm_okb cX7_sampled 7 3 0 false 13 0 kX7_sampled_0 = true := by decide +kernel
def kX7_sampled_32 : List xm_I := [(.iadd, 0, 0, 0, 0), (.istore 0, 1, 0, 0, 0), (.sipush 0, 0, 0, 0, 0), (.istore 0, 2, 0, 0, 0)]
theorem bk_X7_sampled_32 : xm_okb cX7_sampled 7 3 0 false 36 32 kX7_sampled_32 = true := by decide +kernel
def kX7_sampled_36 : List xm_I := [(.iload 0, 2, 0, 0, 0), (.aload 0, 0, 0, 0, 0), (.getfield 0, 7, 3, 2, 0), (.sipush 0, 0, 0, 0, 2), (.iaload, 0, 0, 0, 0), (.if_icmp .ge 0, 110, 0, 0, 0), (.aload 0, 0, 0, 0, 0), (.iload 0, 2, 0, 0, 0)]
theorem bk_X7_sampled_36 : xm_okb cX7_sampled 7 3 0 false 48 36 kX7_sampled_36 = true := by decide +kernel
def kX7_sampled_51 : List xm_I := [(.ifCond .ne 0, 57, 0, 0, 0), (.goto 0, 104, 0, 0, 0)]
theorem bk_X7_sampled_51 : xm_okb cX7_sampled 7 3 0 false 57 51 kX7_sampled_51 = true := by decide +kernel
def kX7_sampled_57 : List xm_I := [(.iload 0, 1, 0, 0, 0), (.aload 0, 0, 0, 0, 0), (.iload 0, 2, 0, 0, 0), (.sipush 0, 0, 0, 0, 0)]
theorem bk_X7_sampled_57 : xm_okb cX7_sampled 7 3 0 false 61 57 kX7_sampled_57 = true := by decide +kernel
def kX7_sampled_64 : List xm_I := [(.aload 0, 0, 0, 0, 0), (.iload 0, 2, 0, 0, 0), (.sipush 0, 0, 0, 0, 2)]
theorem bk_X7_sampled_64 : xm_okb cX7_sampled 7 3 0 false 67 64 kX7_sampled_64 = true := by decide +kernel
def kX7_sampled_70 : List xm_I := [(.aload 0, 0, 0, 0, 0), (.getfield 0, 7, 1, 2, 0), (.sipush 0, 0, 0, 0, 2), (.iaload, 0, 0, 0, 0)]
theorem bk_X7_sampled_70 : xm_okb cX7_sampled 7 3 0 false 76 70 kX7_sampled_70 = true := by decide +kernel
def kX7_sampled_79 : List xm_I := [(.aload 0, 0, 0, 0, 0), (.iload 0, 2, 0, 0, 0)]
theorem bk_X7_sampled_79 : xm_okb cX7_sampled 7 3 0 false 81 79 kX7_sampled_79 = true := by decide +kernel
def kX7_sampled_84 : List xm_I := [(.aload 0, 0, 0, 0, 0), (.getfield 0, 7, 1, 2, 0), (.sipush 0, 0, 0, 0, 1), (.iaload, 0, 0, 0, 0)]
theorem bk_X7_sampled_84 : xm_okb cX7_sampled 7 3 0 false 90 84 kX7_sampled_84 = true := by decide +kernel
def kX7_sampled_93 : List xm_I := [(.isub, 0, 0, 0, 0), (.imul, 0, 0, 0, 0), (.aload 0, 0, 0, 0, 0), (.iload 0, 2, 0, 0, 0), (.sipush 0, 0, 0, 0, 1)]
theorem bk_X7_sampled_93 : xm_okb cX7_sampled 7 3 0 false 98 93 kX7_sampled_93 = true := by decide +kernel
def kX7_sampled_101 : List xm_I := [(.idiv, 0, 0, 0, 0), (.iadd, 0, 0, 0, 0), (.istore 0, 1, 0, 0, 0)]
theorem bk_X7_sampled_101 : xm_okb cX7_sampled 7 3 0 false 104 101 kX7_sampled_101 = true := by decide +kernel
def kX7_sampled_104 : List xm_I := [(.iinc 0 0, 2, 0, 0, 1), (.goto 0, 36, 0, 0, 0)]
theorem bk_X7_sampled_104 : xm_okb cX7_sampled 7 3 0 false 110 104 kX7_sampled_104 = true := by decide +kernel
def kX7_sampled_110 : List xm_I := [(.iload 0, 1, 0, 0, 0), (.ireturn, 0, 0, 0, 0)]
theorem bk_X7_sampled_110 : xm_okb cX7_sampled 7 3 0 false 112 110 kX7_sampled_110 = true := by decide +kernel
def kX7_sampled_13 : List xm_I := [(.imul, 0, 0, 0, 0), (.aload 0, 0, 0, 0, 0), (.getfield 0, 7, 1, 2, 0), (.sipush 0, 0, 0, 0, 13), (.iaload, 0, 0, 0, 0), (.idiv, 0, 0, 0, 0), (.aload 0, 0, 0, 0, 0), (.aload 0, 0, 0, 0, 0)]
theorem bk_X7_sampled_13 : xm_okb cX7_sampled 7 3 0 false 24 13 kX7_sampled_13 = true := by decide +kernel
def kX7_sampled_24 : List xm_I := [(.getfield 0, 7, 3, 2, 0), (.sipush 0, 0, 0, 0, 0), (.iaload, 0, 0, 0, 0)]
theorem bk_X7_sampled_24 : xm_okb cX7_sampled 7 3 0 false 29 24 kX7_sampled_24 = true := by decide +kernel
abbrev mt_X7_inPart : xm_T4 := (yX7_inPart, cX7_inPart, 3, (some .int))
theorem mo_X7_inPart : xm_mo mt_X7_inPart 7 0 0 false false := ⟨by decide +kernel, rfl, (fun h => by cases h), rfl, by decide, ⟨by decide +kernel, by decide +kernel, by decide +kernel⟩, (wq_at mw_7_3 30 rfl), (wq_at mw_7_6 28 rfl), (fun h => by cases h), (fun _ => (wq_at mw_7_3 31 rfl)), (fun _ => (wq_at mw_7_3 32 rfl))⟩
def kX7_inPart_0 : List xm_I := [(.sipush 0, 0, 0, 0, 0), (.istore 0, 1, 0, 0, 0), (.sipush 0, 0, 0, 0, 0), (.istore 0, 2, 0, 0, 0)]
theorem bk_X7_inPart_0 : xm_okb cX7_inPart 7 3 0 false 4 0 kX7_inPart_0 = true := by decide +kernel
def kX7_inPart_4 : List xm_I := [(.iload 0, 2, 0, 0, 0), (.aload 0, 0, 0, 0, 0), (.getfield 0, 7, 3, 2, 0), (.sipush 0, 0, 0, 0, 2), (.iaload, 0, 0, 0, 0), (.if_icmp .ge 0, 36, 0, 0, 0), (.iload 0, 1, 0, 0, 0), (.aload 0, 0, 0, 0, 0)]
theorem bk_X7_inPart_4 : xm_okb cX7_inPart 7 3 0 false 16 4 kX7_inPart_4 = true := by decide +kernel
def kX7_inPart_20 : List xm_I := [(.ifCond .eq 0, 27, 0, 0, 0), (.sipush 0, 0, 0, 0, 1), (.goto 0, 28, 0, 0, 0)]
theorem bk_X7_inPart_20 : xm_okb cX7_inPart 7 3 0 false 27 20 kX7_inPart_20 = true := by decide +kernel
def kX7_inPart_27 : List xm_I := [(.sipush 0, 0, 0, 0, 0)]
theorem bk_X7_inPart_27 : xm_okb cX7_inPart 7 3 0 false 28 27 kX7_inPart_27 = true := by decide +kernel
def kX7_inPart_28 : List xm_I := [(.iadd, 0, 0, 0, 0), (.istore 0, 1, 0, 0, 0), (.iinc 0 0, 2, 0, 0, 1), (.goto 0, 4, 0, 0, 0)]
theorem bk_X7_inPart_28 : xm_okb cX7_inPart 7 3 0 false 36 28 kX7_inPart_28 = true := by decide +kernel
def kX7_inPart_36 : List xm_I := [(.iload 0, 1, 0, 0, 0), (.ireturn, 0, 0, 0, 0)]
theorem bk_X7_inPart_36 : xm_okb cX7_inPart 7 3 0 false 38 36 kX7_inPart_36 = true := by decide +kernel
def kX7_inPart_16 : List xm_I := [(.iload 0, 2, 0, 0, 0)]
theorem bk_X7_inPart_16 : xm_okb cX7_inPart 7 3 0 false 17 16 kX7_inPart_16 = true := by decide +kernel
abbrev mt_X7_gives : xm_T4 := (yX7_gives, cX7_gives, 5, none)
theorem mo_X7_gives : xm_mo mt_X7_gives 7 2 3 false false := ⟨by decide +kernel, rfl, (fun h => by cases h), rfl, by decide, ⟨by decide +kernel, by decide +kernel, by decide +kernel⟩, (wq_at mw_7_3 33 rfl), (wq_at mw_7_6 28 rfl), (fun h => by cases h), (fun _ => (wq_at mw_7_3 34 rfl)), (fun _ => (wq_at mw_7_3 35 rfl))⟩
def kX7_gives_0 : List xm_I := [(.aload 0, 0, 0, 0, 0), (.iload 0, 1, 0, 0, 0), (.sipush 0, 0, 0, 0, 4)]
theorem bk_X7_gives_0 : xm_okb cX7_gives 7 5 3 false 3 0 kX7_gives_0 = true := by decide +kernel
def kX7_gives_6 : List xm_I := [(.istore 0, 3, 0, 0, 0), (.iload 0, 3, 0, 0, 0), (.sipush 0, 0, 0, 0, 60), (.if_icmp .ne 0, 53, 0, 0, 0), (.iinc 0 0, 3, 0, 0, (-1)), (.sipush 0, 0, 0, 0, 0), (.istore 0, 4, 0, 0, 0)]
theorem bk_X7_gives_6 : xm_okb cX7_gives 7 5 3 false 19 6 kX7_gives_6 = true := by decide +kernel
def kX7_gives_19 : List xm_I := [(.iload 0, 4, 0, 0, 0), (.iload 0, 3, 0, 0, 0), (.if_icmp .ge 0, 53, 0, 0, 0), (.aload 0, 0, 0, 0, 0), (.iload 0, 1, 0, 0, 0), (.sipush 0, 0, 0, 0, 16), (.iload 0, 4, 0, 0, 0), (.iadd, 0, 0, 0, 0)]
theorem bk_X7_gives_19 : xm_okb cX7_gives 7 5 3 false 32 19 kX7_gives_19 = true := by decide +kernel
def kX7_gives_47 : List xm_I := [(.iinc 0 0, 4, 0, 0, 1), (.goto 0, 19, 0, 0, 0)]
theorem bk_X7_gives_47 : xm_okb cX7_gives 7 5 3 false 53 47 kX7_gives_47 = true := by decide +kernel
def kX7_gives_53 : List xm_I := [(.aload 0, 0, 0, 0, 0), (.iload 0, 1, 0, 0, 0), (.sipush 0, 0, 0, 0, 16), (.iload 0, 3, 0, 0, 0), (.iadd, 0, 0, 0, 0), (.iload 0, 2, 0, 0, 0)]
theorem bk_X7_gives_53 : xm_okb cX7_gives 7 5 3 false 60 53 kX7_gives_53 = true := by decide +kernel
def kX7_gives_63 : List xm_I := [(.aload 0, 0, 0, 0, 0), (.iload 0, 1, 0, 0, 0), (.sipush 0, 0, 0, 0, 4), (.iload 0, 3, 0, 0, 0), (.sipush 0, 0, 0, 0, 1), (.iadd, 0, 0, 0, 0)]
theorem bk_X7_gives_63 : xm_okb cX7_gives 7 5 3 false 69 63 kX7_gives_63 = true := by decide +kernel
def kX7_gives_72 : List xm_I := [(.return_, 0, 0, 0, 0)]
theorem bk_X7_gives_72 : xm_okb cX7_gives 7 5 3 false 73 72 kX7_gives_72 = true := by decide +kernel
def kX7_gives_32 : List xm_I := [(.aload 0, 0, 0, 0, 0), (.iload 0, 1, 0, 0, 0), (.sipush 0, 0, 0, 0, 16), (.iload 0, 4, 0, 0, 0), (.iadd, 0, 0, 0, 0), (.sipush 0, 0, 0, 0, 1), (.iadd, 0, 0, 0, 0)]
theorem bk_X7_gives_32 : xm_okb cX7_gives 7 5 3 false 41 32 kX7_gives_32 = true := by decide +kernel
abbrev mt_X7_meanOf : xm_T4 := (yX7_meanOf, cX7_meanOf, 6, (some .int))
theorem mo_X7_meanOf : xm_mo mt_X7_meanOf 7 2 0 false false := ⟨by decide +kernel, rfl, (fun h => by cases h), rfl, by decide, ⟨by decide +kernel, by decide +kernel, by decide +kernel⟩, (wq_at mw_7_3 36 rfl), (wq_at mw_7_6 28 rfl), (fun h => by cases h), (fun _ => (wq_at mw_7_3 37 rfl)), (fun _ => (wq_at mw_7_3 38 rfl))⟩
def kX7_meanOf_0 : List xm_I := [(.aload 0, 0, 0, 0, 0), (.iload 0, 1, 0, 0, 0), (.sipush 0, 0, 0, 0, 4)]
theorem bk_X7_meanOf_0 : xm_okb cX7_meanOf 7 6 0 false 3 0 kX7_meanOf_0 = true := by decide +kernel
def kX7_meanOf_6 : List xm_I := [(.iload 0, 2, 0, 0, 0)]
theorem bk_X7_meanOf_6 : xm_okb cX7_meanOf 7 6 0 false 7 6 kX7_meanOf_6 = true := by decide +kernel
def kX7_meanOf_10 : List xm_I := [(.istore 0, 3, 0, 0, 0), (.sipush 0, 0, 0, 0, 0), (.istore 0, 4, 0, 0, 0), (.aload 0, 0, 0, 0, 0), (.iload 0, 1, 0, 0, 0), (.sipush 0, 0, 0, 0, 4)]
theorem bk_X7_meanOf_10 : xm_okb cX7_meanOf 7 6 0 false 17 10 kX7_meanOf_10 = true := by decide +kernel
def kX7_meanOf_20 : List xm_I := [(.iload 0, 3, 0, 0, 0), (.isub, 0, 0, 0, 0), (.istore 0, 5, 0, 0, 0)]
theorem bk_X7_meanOf_20 : xm_okb cX7_meanOf 7 6 0 false 24 20 kX7_meanOf_20 = true := by decide +kernel
def kX7_meanOf_24 : List xm_I := [(.iload 0, 5, 0, 0, 0), (.aload 0, 0, 0, 0, 0), (.iload 0, 1, 0, 0, 0), (.sipush 0, 0, 0, 0, 4)]
theorem bk_X7_meanOf_24 : xm_okb cX7_meanOf 7 6 0 false 29 24 kX7_meanOf_24 = true := by decide +kernel
def kX7_meanOf_32 : List xm_I := [(.if_icmp .ge 0, 56, 0, 0, 0), (.iload 0, 4, 0, 0, 0), (.aload 0, 0, 0, 0, 0), (.iload 0, 1, 0, 0, 0), (.sipush 0, 0, 0, 0, 16), (.iload 0, 5, 0, 0, 0), (.iadd, 0, 0, 0, 0)]
theorem bk_X7_meanOf_32 : xm_okb cX7_meanOf 7 6 0 false 44 32 kX7_meanOf_32 = true := by decide +kernel
def kX7_meanOf_47 : List xm_I := [(.iadd, 0, 0, 0, 0), (.istore 0, 4, 0, 0, 0), (.iinc 0 0, 5, 0, 0, 1), (.goto 0, 24, 0, 0, 0)]
theorem bk_X7_meanOf_47 : xm_okb cX7_meanOf 7 6 0 false 56 47 kX7_meanOf_47 = true := by decide +kernel
def kX7_meanOf_56 : List xm_I := [(.iload 0, 4, 0, 0, 0), (.iload 0, 3, 0, 0, 0), (.idiv, 0, 0, 0, 0), (.aload 0, 0, 0, 0, 0), (.getfield 0, 7, 3, 2, 0), (.sipush 0, 0, 0, 0, 1), (.iaload, 0, 0, 0, 0), (.isub, 0, 0, 0, 0)]
theorem bk_X7_meanOf_56 : xm_okb cX7_meanOf 7 6 0 false 67 56 kX7_meanOf_56 = true := by decide +kernel
def kX7_meanOf_67 : List xm_I := [(.ireturn, 0, 0, 0, 0)]
theorem bk_X7_meanOf_67 : xm_okb cX7_meanOf 7 6 0 false 68 67 kX7_meanOf_67 = true := by decide +kernel
abbrev mt_X7_spreadOf : xm_T4 := (yX7_spreadOf, cX7_spreadOf, 7, (some .int))
theorem mo_X7_spreadOf : xm_mo mt_X7_spreadOf 7 2 0 false false := ⟨by decide +kernel, rfl, (fun h => by cases h), rfl, by decide, ⟨by decide +kernel, by decide +kernel, by decide +kernel⟩, (wq_at mw_7_3 39 rfl), (wq_at mw_7_6 28 rfl), (fun h => by cases h), (fun _ => (wq_at mw_7_4 0 rfl)), (fun _ => (wq_at mw_7_4 1 rfl))⟩
def kX7_spreadOf_0 : List xm_I := [(.aload 0, 0, 0, 0, 0), (.iload 0, 1, 0, 0, 0), (.sipush 0, 0, 0, 0, 4)]
theorem bk_X7_spreadOf_0 : xm_okb cX7_spreadOf 7 7 0 false 3 0 kX7_spreadOf_0 = true := by decide +kernel
def kX7_spreadOf_6 : List xm_I := [(.iload 0, 2, 0, 0, 0)]
theorem bk_X7_spreadOf_6 : xm_okb cX7_spreadOf 7 7 0 false 7 6 kX7_spreadOf_6 = true := by decide +kernel
def kX7_spreadOf_10 : List xm_I := [(.istore 0, 3, 0, 0, 0), (.aload 0, 0, 0, 0, 0), (.iload 0, 1, 0, 0, 0), (.sipush 0, 0, 0, 0, 16), (.aload 0, 0, 0, 0, 0), (.iload 0, 1, 0, 0, 0), (.sipush 0, 0, 0, 0, 4)]
theorem bk_X7_spreadOf_10 : xm_okb cX7_spreadOf 7 7 0 false 18 10 kX7_spreadOf_10 = true := by decide +kernel
def kX7_spreadOf_21 : List xm_I := [(.iadd, 0, 0, 0, 0), (.iload 0, 3, 0, 0, 0), (.isub, 0, 0, 0, 0)]
theorem bk_X7_spreadOf_21 : xm_okb cX7_spreadOf 7 7 0 false 24 21 kX7_spreadOf_21 = true := by decide +kernel
def kX7_spreadOf_27 : List xm_I := [(.istore 0, 4, 0, 0, 0), (.iload 0, 4, 0, 0, 0), (.istore 0, 5, 0, 0, 0), (.aload 0, 0, 0, 0, 0), (.iload 0, 1, 0, 0, 0), (.sipush 0, 0, 0, 0, 4)]
theorem bk_X7_spreadOf_27 : xm_okb cX7_spreadOf 7 7 0 false 36 27 kX7_spreadOf_27 = true := by decide +kernel
def kX7_spreadOf_39 : List xm_I := [(.iload 0, 3, 0, 0, 0), (.isub, 0, 0, 0, 0), (.istore 0, 6, 0, 0, 0)]
theorem bk_X7_spreadOf_39 : xm_okb cX7_spreadOf 7 7 0 false 43 39 kX7_spreadOf_39 = true := by decide +kernel
def kX7_spreadOf_43 : List xm_I := [(.iload 0, 6, 0, 0, 0), (.aload 0, 0, 0, 0, 0), (.iload 0, 1, 0, 0, 0), (.sipush 0, 0, 0, 0, 4)]
theorem bk_X7_spreadOf_43 : xm_okb cX7_spreadOf 7 7 0 false 48 43 kX7_spreadOf_43 = true := by decide +kernel
def kX7_spreadOf_51 : List xm_I := [(.if_icmp .ge 0, 94, 0, 0, 0), (.iload 0, 4, 0, 0, 0), (.aload 0, 0, 0, 0, 0), (.iload 0, 1, 0, 0, 0), (.sipush 0, 0, 0, 0, 16), (.iload 0, 6, 0, 0, 0), (.iadd, 0, 0, 0, 0)]
theorem bk_X7_spreadOf_51 : xm_okb cX7_spreadOf 7 7 0 false 63 51 kX7_spreadOf_51 = true := by decide +kernel
def kX7_spreadOf_69 : List xm_I := [(.istore 0, 4, 0, 0, 0), (.iload 0, 5, 0, 0, 0), (.aload 0, 0, 0, 0, 0), (.iload 0, 1, 0, 0, 0), (.sipush 0, 0, 0, 0, 16), (.iload 0, 6, 0, 0, 0), (.iadd, 0, 0, 0, 0)]
theorem bk_X7_spreadOf_69 : xm_okb cX7_spreadOf 7 7 0 false 80 69 kX7_spreadOf_69 = true := by decide +kernel
def kX7_spreadOf_86 : List xm_I := [(.istore 0, 5, 0, 0, 0), (.iinc 0 0, 6, 0, 0, 1), (.goto 0, 43, 0, 0, 0)]
theorem bk_X7_spreadOf_86 : xm_okb cX7_spreadOf 7 7 0 false 94 86 kX7_spreadOf_86 = true := by decide +kernel
def kX7_spreadOf_94 : List xm_I := [(.iload 0, 5, 0, 0, 0), (.iload 0, 4, 0, 0, 0), (.isub, 0, 0, 0, 0), (.ireturn, 0, 0, 0, 0)]
theorem bk_X7_spreadOf_94 : xm_okb cX7_spreadOf 7 7 0 false 100 94 kX7_spreadOf_94 = true := by decide +kernel
abbrev mt_X7_classOf : xm_T4 := (yX7_classOf, cX7_classOf, 3, (some .int))
theorem mo_X7_classOf : xm_mo mt_X7_classOf 7 2 0 false false := ⟨by decide +kernel, rfl, (fun h => by cases h), rfl, by decide, ⟨by decide +kernel, by decide +kernel, by decide +kernel⟩, (wq_at mw_7_4 2 rfl), (wq_at mw_7_6 28 rfl), (fun h => by cases h), (fun _ => (wq_at mw_7_4 3 rfl)), (fun _ => (wq_at mw_7_4 4 rfl))⟩
def kX7_classOf_0 : List xm_I := [(.aload 0, 0, 0, 0, 0), (.iload 0, 1, 0, 0, 0), (.sipush 0, 0, 0, 0, 5)]
theorem bk_X7_classOf_0 : xm_okb cX7_classOf 7 3 0 false 3 0 kX7_classOf_0 = true := by decide +kernel
def kX7_classOf_6 : List xm_I := [(.sipush 0, 0, 0, 0, 1), (.if_icmp .eq 0, 42, 0, 0, 0), (.aload 0, 0, 0, 0, 0), (.iload 0, 1, 0, 0, 0), (.sipush 0, 0, 0, 0, 4)]
theorem bk_X7_classOf_6 : xm_okb cX7_classOf 7 3 0 false 13 6 kX7_classOf_6 = true := by decide +kernel
def kX7_classOf_16 : List xm_I := [(.aload 0, 0, 0, 0, 0), (.getfield 0, 7, 1, 2, 0), (.sipush 0, 0, 0, 0, 11), (.iaload, 0, 0, 0, 0), (.if_icmp .lt 0, 42, 0, 0, 0), (.aload 0, 0, 0, 0, 0), (.iload 0, 1, 0, 0, 0), (.iload 0, 2, 0, 0, 0)]
theorem bk_X7_classOf_16 : xm_okb cX7_classOf 7 3 0 false 29 16 kX7_classOf_16 = true := by decide +kernel
def kX7_classOf_32 : List xm_I := [(.aload 0, 0, 0, 0, 0), (.getfield 0, 7, 1, 2, 0), (.sipush 0, 0, 0, 0, 10), (.iaload, 0, 0, 0, 0), (.if_icmp .le 0, 44, 0, 0, 0)]
theorem bk_X7_classOf_32 : xm_okb cX7_classOf 7 3 0 false 42 32 kX7_classOf_32 = true := by decide +kernel
def kX7_classOf_42 : List xm_I := [(.sipush 0, 0, 0, 0, 3), (.ireturn, 0, 0, 0, 0)]
theorem bk_X7_classOf_42 : xm_okb cX7_classOf 7 3 0 false 44 42 kX7_classOf_42 = true := by decide +kernel
def kX7_classOf_44 : List xm_I := [(.aload 0, 0, 0, 0, 0), (.iload 0, 1, 0, 0, 0), (.sipush 0, 0, 0, 0, 14)]
theorem bk_X7_classOf_44 : xm_okb cX7_classOf 7 3 0 false 48 44 kX7_classOf_44 = true := by decide +kernel
def kX7_classOf_51 : List xm_I := [(.aload 0, 0, 0, 0, 0), (.getfield 0, 7, 3, 2, 0), (.sipush 0, 0, 0, 0, 4), (.iaload, 0, 0, 0, 0), (.if_icmp .ge 0, 64, 0, 0, 0), (.sipush 0, 0, 0, 0, 0), (.goto 0, 85, 0, 0, 0)]
theorem bk_X7_classOf_51 : xm_okb cX7_classOf 7 3 0 false 64 51 kX7_classOf_51 = true := by decide +kernel
def kX7_classOf_64 : List xm_I := [(.aload 0, 0, 0, 0, 0), (.iload 0, 1, 0, 0, 0), (.sipush 0, 0, 0, 0, 14)]
theorem bk_X7_classOf_64 : xm_okb cX7_classOf 7 3 0 false 68 64 kX7_classOf_64 = true := by decide +kernel
def kX7_classOf_71 : List xm_I := [(.aload 0, 0, 0, 0, 0), (.getfield 0, 7, 3, 2, 0), (.sipush 0, 0, 0, 0, 5), (.iaload, 0, 0, 0, 0), (.if_icmp .le 0, 84, 0, 0, 0), (.sipush 0, 0, 0, 0, 2), (.goto 0, 85, 0, 0, 0)]
theorem bk_X7_classOf_71 : xm_okb cX7_classOf 7 3 0 false 84 71 kX7_classOf_71 = true := by decide +kernel
def kX7_classOf_84 : List xm_I := [(.sipush 0, 0, 0, 0, 1)]
theorem bk_X7_classOf_84 : xm_okb cX7_classOf 7 3 0 false 85 84 kX7_classOf_84 = true := by decide +kernel
def kX7_classOf_85 : List xm_I := [(.ireturn, 0, 0, 0, 0)]
theorem bk_X7_classOf_85 : xm_okb cX7_classOf 7 3 0 false 86 85 kX7_classOf_85 = true := by decide +kernel
abbrev mt_X7_roundedUp : xm_T4 := (yX7_roundedUp, cX7_roundedUp, 2, (some .int))
theorem mo_X7_roundedUp : xm_mo mt_X7_roundedUp 7 2 0 false true := ⟨by decide +kernel, rfl, (fun h => by cases h), rfl, by decide, ⟨by decide +kernel, by decide +kernel, by decide +kernel⟩, (wq_at mw_7_4 5 rfl), (wq_at mw_7_6 28 rfl), (fun _ => (wq_at mw_7_4 6 rfl)), (fun h => by cases h), (fun h => by cases h.1)⟩
def kX7_roundedUp_0 : List xm_I := [(.iload 0, 0, 0, 0, 0), (.ifCond .gt 0, 8, 0, 0, 0), (.sipush 0, 0, 0, 0, 0), (.goto 0, 15, 0, 0, 0)]
theorem bk_X7_roundedUp_0 : xm_okb cX7_roundedUp 7 2 0 false 8 0 kX7_roundedUp_0 = true := by decide +kernel
def kX7_roundedUp_8 : List xm_I := [(.iload 0, 0, 0, 0, 0), (.iload 0, 1, 0, 0, 0), (.iadd, 0, 0, 0, 0), (.sipush 0, 0, 0, 0, 1), (.isub, 0, 0, 0, 0), (.iload 0, 1, 0, 0, 0), (.idiv, 0, 0, 0, 0)]
theorem bk_X7_roundedUp_8 : xm_okb cX7_roundedUp 7 2 0 false 15 8 kX7_roundedUp_8 = true := by decide +kernel
def kX7_roundedUp_15 : List xm_I := [(.ireturn, 0, 0, 0, 0)]
theorem bk_X7_roundedUp_15 : xm_okb cX7_roundedUp 7 2 0 false 16 15 kX7_roundedUp_15 = true := by decide +kernel
abbrev mt_X7_decides : xm_T4 := (yX7_decides, cX7_decides, 6, none)
theorem mo_X7_decides : xm_mo mt_X7_decides 7 1 3 false false := ⟨by decide +kernel, rfl, (fun h => by cases h), rfl, by decide, ⟨by decide +kernel, by decide +kernel, by decide +kernel⟩, (wq_at mw_7_4 7 rfl), (wq_at mw_7_6 28 rfl), (fun h => by cases h), (fun _ => (wq_at mw_7_4 8 rfl)), (fun _ => (wq_at mw_7_4 9 rfl))⟩
def kX7_decides_0 : List xm_I := [(.aload 0, 0, 0, 0, 0)]
theorem bk_X7_decides_0 : xm_okb cX7_decides 7 6 3 false 1 0 kX7_decides_0 = true := by decide +kernel
def kX7_decides_4 : List xm_I := [(.istore 0, 2, 0, 0, 0), (.aload 0, 0, 0, 0, 0), (.iload 0, 1, 0, 0, 0), (.sipush 0, 0, 0, 0, 4)]
theorem bk_X7_decides_4 : xm_okb cX7_decides 7 6 3 false 8 4 kX7_decides_4 = true := by decide +kernel
def kX7_decides_11 : List xm_I := [(.ifCond .le 0, 27, 0, 0, 0), (.aload 0, 0, 0, 0, 0), (.iload 0, 1, 0, 0, 0), (.sipush 0, 0, 0, 0, 14), (.aload 0, 0, 0, 0, 0), (.iload 0, 1, 0, 0, 0), (.iload 0, 2, 0, 0, 0)]
theorem bk_X7_decides_11 : xm_okb cX7_decides 7 6 3 false 21 11 kX7_decides_11 = true := by decide +kernel
def kX7_decides_27 : List xm_I := [(.aload 0, 0, 0, 0, 0), (.iload 0, 1, 0, 0, 0), (.iload 0, 2, 0, 0, 0)]
theorem bk_X7_decides_27 : xm_okb cX7_decides 7 6 3 false 30 27 kX7_decides_27 = true := by decide +kernel
def kX7_decides_33 : List xm_I := [(.istore 0, 3, 0, 0, 0), (.aload 0, 0, 0, 0, 0), (.iload 0, 1, 0, 0, 0), (.sipush 0, 0, 0, 0, 6), (.iload 0, 3, 0, 0, 0)]
theorem bk_X7_decides_33 : xm_okb cX7_decides 7 6 3 false 39 33 kX7_decides_33 = true := by decide +kernel
def kX7_decides_42 : List xm_I := [(.aload 0, 0, 0, 0, 0), (.iload 0, 1, 0, 0, 0), (.sipush 0, 0, 0, 0, 3), (.sipush 0, 0, 0, 0, 1)]
theorem bk_X7_decides_42 : xm_okb cX7_decides 7 6 3 false 46 42 kX7_decides_42 = true := by decide +kernel
def kX7_decides_49 : List xm_I := [(.aload 0, 0, 0, 0, 0), (.iload 0, 1, 0, 0, 0), (.sipush 0, 0, 0, 0, 8), (.aload 0, 0, 0, 0, 0), (.getfield 0, 7, 3, 2, 0), (.sipush 0, 0, 0, 0, 0), (.iaload, 0, 0, 0, 0)]
theorem bk_X7_decides_49 : xm_okb cX7_decides 7 6 3 false 59 49 kX7_decides_49 = true := by decide +kernel
def kX7_decides_62 : List xm_I := [(.aload 0, 0, 0, 0, 0), (.getfield 0, 7, 1, 2, 0), (.sipush 0, 0, 0, 0, 37), (.iload 0, 3, 0, 0, 0), (.iadd, 0, 0, 0, 0), (.iaload, 0, 0, 0, 0), (.istore 0, 4, 0, 0, 0), (.aload 0, 0, 0, 0, 0)]
theorem bk_X7_decides_62 : xm_okb cX7_decides 7 6 3 false 74 62 kX7_decides_62 = true := by decide +kernel
def kX7_decides_82 : List xm_I := [(.iload 0, 4, 0, 0, 0), (.sipush 0, 0, 0, 0, (-1)), (.if_icmp .ne 0, 89, 0, 0, 0), (.return_, 0, 0, 0, 0)]
theorem bk_X7_decides_82 : xm_okb cX7_decides 7 6 3 false 89 82 kX7_decides_82 = true := by decide +kernel
def kX7_decides_89 : List xm_I := [(.aload 0, 0, 0, 0, 0), (.getfield 0, 7, 3, 2, 0), (.sipush 0, 0, 0, 0, 0), (.iaload, 0, 0, 0, 0), (.aload 0, 0, 0, 0, 0), (.iload 0, 4, 0, 0, 0), (.sipush 0, 0, 0, 0, 1)]
theorem bk_X7_decides_89 : xm_okb cX7_decides 7 6 3 false 99 89 kX7_decides_89 = true := by decide +kernel
def kX7_decides_102 : List xm_I := [(.aload 0, 0, 0, 0, 0), (.iload 0, 1, 0, 0, 0), (.sipush 0, 0, 0, 0, 2)]
theorem bk_X7_decides_102 : xm_okb cX7_decides 7 6 3 false 105 102 kX7_decides_102 = true := by decide +kernel
def kX7_decides_108 : List xm_I := [(.isub, 0, 0, 0, 0), (.aload 0, 0, 0, 0, 0), (.getfield 0, 7, 1, 2, 0), (.sipush 0, 0, 0, 0, 0), (.iaload, 0, 0, 0, 0)]
theorem bk_X7_decides_108 : xm_okb cX7_decides 7 6 3 false 115 108 kX7_decides_108 = true := by decide +kernel
def kX7_decides_118 : List xm_I := [(.iadd, 0, 0, 0, 0), (.istore 0, 5, 0, 0, 0), (.aload 0, 0, 0, 0, 0), (.iload 0, 1, 0, 0, 0), (.sipush 0, 0, 0, 0, 10), (.iload 0, 5, 0, 0, 0), (.aload 0, 0, 0, 0, 0), (.getfield 0, 7, 3, 2, 0)]
theorem bk_X7_decides_118 : xm_okb cX7_decides 7 6 3 false 131 118 kX7_decides_118 = true := by decide +kernel
def kX7_decides_140 : List xm_I := [(.iadd, 0, 0, 0, 0)]
theorem bk_X7_decides_140 : xm_okb cX7_decides 7 6 3 false 141 140 kX7_decides_140 = true := by decide +kernel
def kX7_decides_147 : List xm_I := [(.aload 0, 0, 0, 0, 0), (.iload 0, 1, 0, 0, 0), (.sipush 0, 0, 0, 0, 11), (.iload 0, 5, 0, 0, 0), (.aload 0, 0, 0, 0, 0), (.iload 0, 1, 0, 0, 0), (.sipush 0, 0, 0, 0, 1)]
theorem bk_X7_decides_147 : xm_okb cX7_decides 7 6 3 false 156 147 kX7_decides_147 = true := by decide +kernel
def kX7_decides_159 : List xm_I := [(.aload 0, 0, 0, 0, 0), (.getfield 0, 7, 1, 2, 0), (.sipush 0, 0, 0, 0, 0), (.iaload, 0, 0, 0, 0)]
theorem bk_X7_decides_159 : xm_okb cX7_decides 7 6 3 false 165 159 kX7_decides_159 = true := by decide +kernel
def kX7_decides_168 : List xm_I := [(.iadd, 0, 0, 0, 0)]
theorem bk_X7_decides_168 : xm_okb cX7_decides 7 6 3 false 169 168 kX7_decides_168 = true := by decide +kernel
def kX7_decides_172 : List xm_I := [(.return_, 0, 0, 0, 0)]
theorem bk_X7_decides_172 : xm_okb cX7_decides 7 6 3 false 173 172 kX7_decides_172 = true := by decide +kernel
def kX7_decides_74 : List xm_I := [(.iload 0, 1, 0, 0, 0), (.sipush 0, 0, 0, 0, 7), (.iload 0, 4, 0, 0, 0)]
theorem bk_X7_decides_74 : xm_okb cX7_decides 7 6 3 false 79 74 kX7_decides_74 = true := by decide +kernel
def kX7_decides_131 : List xm_I := [(.sipush 0, 0, 0, 0, 0), (.iaload, 0, 0, 0, 0), (.aload 0, 0, 0, 0, 0), (.iload 0, 4, 0, 0, 0), (.sipush 0, 0, 0, 0, 2)]
theorem bk_X7_decides_131 : xm_okb cX7_decides 7 6 3 false 137 131 kX7_decides_131 = true := by decide +kernel
abbrev mt_X7_leaves : xm_T4 := (yX7_leaves, cX7_leaves, 3, none)
theorem mo_X7_leaves : xm_mo mt_X7_leaves 7 2 3 false false := ⟨by decide +kernel, rfl, (fun h => by cases h), rfl, by decide, ⟨by decide +kernel, by decide +kernel, by decide +kernel⟩, (wq_at mw_7_4 10 rfl), (wq_at mw_7_6 28 rfl), (fun h => by cases h), (fun _ => (wq_at mw_7_4 11 rfl)), (fun _ => (wq_at mw_7_4 12 rfl))⟩
def kX7_leaves_0 : List xm_I := [(.aload 0, 0, 0, 0, 0), (.iload 0, 1, 0, 0, 0), (.sipush 0, 0, 0, 0, 3), (.iload 0, 2, 0, 0, 0)]
theorem bk_X7_leaves_0 : xm_okb cX7_leaves 7 3 3 false 4 0 kX7_leaves_0 = true := by decide +kernel
def kX7_leaves_7 : List xm_I := [(.aload 0, 0, 0, 0, 0), (.iload 0, 1, 0, 0, 0), (.sipush 0, 0, 0, 0, 9), (.aload 0, 0, 0, 0, 0), (.getfield 0, 7, 3, 2, 0), (.sipush 0, 0, 0, 0, 0), (.iaload, 0, 0, 0, 0)]
theorem bk_X7_leaves_7 : xm_okb cX7_leaves 7 3 3 false 17 7 kX7_leaves_7 = true := by decide +kernel
def kX7_leaves_20 : List xm_I := [(.return_, 0, 0, 0, 0)]
theorem bk_X7_leaves_20 : xm_okb cX7_leaves 7 3 3 false 21 20 kX7_leaves_20 = true := by decide +kernel
abbrev mt_X7_meetsGates : xm_T4 := (yX7_meetsGates, cX7_meetsGates, 4, none)
theorem mo_X7_meetsGates : xm_mo mt_X7_meetsGates 7 1 3 false false := ⟨by decide +kernel, rfl, (fun h => by cases h), rfl, by decide, ⟨by decide +kernel, by decide +kernel, by decide +kernel⟩, (wq_at mw_7_4 13 rfl), (wq_at mw_7_6 28 rfl), (fun h => by cases h), (fun _ => (wq_at mw_7_4 14 rfl)), (fun _ => (wq_at mw_7_4 15 rfl))⟩
def kX7_meetsGates_0 : List xm_I := [(.sipush 0, 0, 0, 0, 0), (.istore 0, 2, 0, 0, 0)]
theorem bk_X7_meetsGates_0 : xm_okb cX7_meetsGates 7 4 3 false 2 0 kX7_meetsGates_0 = true := by decide +kernel
def kX7_meetsGates_2 : List xm_I := [(.iload 0, 2, 0, 0, 0), (.aload 0, 0, 0, 0, 0), (.getfield 0, 7, 1, 2, 0), (.sipush 0, 0, 0, 0, 5), (.iaload, 0, 0, 0, 0), (.if_icmp .ge 0, 140, 0, 0, 0), (.aload 0, 0, 0, 0, 0), (.iload 0, 1, 0, 0, 0)]
theorem bk_X7_meetsGates_2 : xm_okb cX7_meetsGates 7 4 3 false 14 2 kX7_meetsGates_2 = true := by decide +kernel
def kX7_meetsGates_17 : List xm_I := [(.ifCond .eq 0, 140, 0, 0, 0), (.aload 0, 0, 0, 0, 0), (.iload 0, 1, 0, 0, 0), (.sipush 0, 0, 0, 0, 2)]
theorem bk_X7_meetsGates_17 : xm_okb cX7_meetsGates 7 4 3 false 23 17 kX7_meetsGates_17 = true := by decide +kernel
def kX7_meetsGates_26 : List xm_I := [(.aload 0, 0, 0, 0, 0), (.iload 0, 2, 0, 0, 0), (.sipush 0, 0, 0, 0, 1)]
theorem bk_X7_meetsGates_26 : xm_okb cX7_meetsGates 7 4 3 false 29 26 kX7_meetsGates_26 = true := by decide +kernel
def kX7_meetsGates_32 : List xm_I := [(.if_icmp .lt 0, 61, 0, 0, 0), (.aload 0, 0, 0, 0, 0), (.iload 0, 1, 0, 0, 0), (.sipush 0, 0, 0, 0, 2)]
theorem bk_X7_meetsGates_32 : xm_okb cX7_meetsGates 7 4 3 false 38 32 kX7_meetsGates_32 = true := by decide +kernel
def kX7_meetsGates_41 : List xm_I := [(.aload 0, 0, 0, 0, 0), (.getfield 0, 7, 1, 2, 0), (.sipush 0, 0, 0, 0, 0), (.iaload, 0, 0, 0, 0), (.isub, 0, 0, 0, 0), (.aload 0, 0, 0, 0, 0), (.iload 0, 2, 0, 0, 0), (.sipush 0, 0, 0, 0, 1)]
theorem bk_X7_meetsGates_41 : xm_okb cX7_meetsGates 7 4 3 false 51 41 kX7_meetsGates_41 = true := by decide +kernel
def kX7_meetsGates_54 : List xm_I := [(.if_icmp .ge 0, 61, 0, 0, 0), (.sipush 0, 0, 0, 0, 1), (.goto 0, 62, 0, 0, 0)]
theorem bk_X7_meetsGates_54 : xm_okb cX7_meetsGates 7 4 3 false 61 54 kX7_meetsGates_54 = true := by decide +kernel
def kX7_meetsGates_61 : List xm_I := [(.sipush 0, 0, 0, 0, 0)]
theorem bk_X7_meetsGates_61 : xm_okb cX7_meetsGates 7 4 3 false 62 61 kX7_meetsGates_61 = true := by decide +kernel
def kX7_meetsGates_62 : List xm_I := [(.istore 0, 3, 0, 0, 0), (.iload 0, 3, 0, 0, 0), (.ifCond .eq 0, 134, 0, 0, 0), (.aload 0, 0, 0, 0, 0), (.iload 0, 2, 0, 0, 0)]
theorem bk_X7_meetsGates_62 : xm_okb cX7_meetsGates 7 4 3 false 69 62 kX7_meetsGates_62 = true := by decide +kernel
def kX7_meetsGates_72 : List xm_I := [(.ifCond .ne 0, 78, 0, 0, 0), (.goto 0, 134, 0, 0, 0)]
theorem bk_X7_meetsGates_72 : xm_okb cX7_meetsGates 7 4 3 false 78 72 kX7_meetsGates_72 = true := by decide +kernel
def kX7_meetsGates_78 : List xm_I := [(.aload 0, 0, 0, 0, 0), (.iload 0, 1, 0, 0, 0), (.aload 0, 0, 0, 0, 0), (.iload 0, 1, 0, 0, 0), (.sipush 0, 0, 0, 0, 7)]
theorem bk_X7_meetsGates_78 : xm_okb cX7_meetsGates 7 4 3 false 84 78 kX7_meetsGates_78 = true := by decide +kernel
def kX7_meetsGates_87 : List xm_I := [(.iload 0, 2, 0, 0, 0), (.if_icmp .ne 0, 95, 0, 0, 0), (.sipush 0, 0, 0, 0, 3), (.goto 0, 96, 0, 0, 0)]
theorem bk_X7_meetsGates_87 : xm_okb cX7_meetsGates 7 4 3 false 95 87 kX7_meetsGates_87 = true := by decide +kernel
def kX7_meetsGates_95 : List xm_I := [(.sipush 0, 0, 0, 0, 4)]
theorem bk_X7_meetsGates_95 : xm_okb cX7_meetsGates 7 4 3 false 96 95 kX7_meetsGates_95 = true := by decide +kernel
def kX7_meetsGates_99 : List xm_I := [(.aload 0, 0, 0, 0, 0), (.iload 0, 2, 0, 0, 0), (.sipush 0, 0, 0, 0, 2)]
theorem bk_X7_meetsGates_99 : xm_okb cX7_meetsGates 7 4 3 false 102 99 kX7_meetsGates_99 = true := by decide +kernel
def kX7_meetsGates_105 : List xm_I := [(.aload 0, 0, 0, 0, 0), (.iload 0, 1, 0, 0, 0), (.sipush 0, 0, 0, 0, 13), (.iload 0, 2, 0, 0, 0)]
theorem bk_X7_meetsGates_105 : xm_okb cX7_meetsGates 7 4 3 false 110 105 kX7_meetsGates_105 = true := by decide +kernel
def kX7_meetsGates_113 : List xm_I := [(.aload 0, 0, 0, 0, 0), (.iload 0, 1, 0, 0, 0), (.sipush 0, 0, 0, 0, 12), (.aload 0, 0, 0, 0, 0), (.getfield 0, 7, 3, 2, 0), (.sipush 0, 0, 0, 0, 0), (.iaload, 0, 0, 0, 0), (.aload 0, 0, 0, 0, 0)]
theorem bk_X7_meetsGates_113 : xm_okb cX7_meetsGates 7 4 3 false 124 113 kX7_meetsGates_113 = true := by decide +kernel
def kX7_meetsGates_134 : List xm_I := [(.iinc 0 0, 2, 0, 0, 1), (.goto 0, 2, 0, 0, 0)]
theorem bk_X7_meetsGates_134 : xm_okb cX7_meetsGates 7 4 3 false 140 134 kX7_meetsGates_134 = true := by decide +kernel
def kX7_meetsGates_140 : List xm_I := [(.return_, 0, 0, 0, 0)]
theorem bk_X7_meetsGates_140 : xm_okb cX7_meetsGates 7 4 3 false 141 140 kX7_meetsGates_140 = true := by decide +kernel
def kX7_meetsGates_124 : List xm_I := [(.getfield 0, 7, 1, 2, 0), (.sipush 0, 0, 0, 0, 15), (.iaload, 0, 0, 0, 0), (.iadd, 0, 0, 0, 0)]
theorem bk_X7_meetsGates_124 : xm_okb cX7_meetsGates 7 4 3 false 131 124 kX7_meetsGates_124 = true := by decide +kernel
abbrev mt_X7_zeroes : xm_T4 := (yX7_zeroes, cX7_zeroes, 4, none)
theorem mo_X7_zeroes : xm_mo mt_X7_zeroes 7 1 3 false false := ⟨by decide +kernel, rfl, (fun h => by cases h), rfl, by decide, ⟨by decide +kernel, by decide +kernel, by decide +kernel⟩, (wq_at mw_7_4 16 rfl), (wq_at mw_7_6 28 rfl), (fun h => by cases h), (fun _ => (wq_at mw_7_4 17 rfl)), (fun _ => (wq_at mw_7_4 18 rfl))⟩
def kX7_zeroes_0 : List xm_I := [(.aload 0, 0, 0, 0, 0), (.getfield 0, 7, 3, 2, 0), (.sipush 0, 0, 0, 0, 3), (.iload 0, 1, 0, 0, 0), (.ifCond .eq 0, 20, 0, 0, 0), (.aload 0, 0, 0, 0, 0), (.getfield 0, 7, 3, 2, 0), (.sipush 0, 0, 0, 0, 3)]
theorem bk_X7_zeroes_0 : xm_okb cX7_zeroes 7 4 3 false 14 0 kX7_zeroes_0 = true := by decide +kernel
def kX7_zeroes_20 : List xm_I := [(.sipush 0, 0, 0, 0, 0)]
theorem bk_X7_zeroes_20 : xm_okb cX7_zeroes 7 4 3 false 21 20 kX7_zeroes_20 = true := by decide +kernel
def kX7_zeroes_21 : List xm_I := [(.iastore, 0, 0, 0, 0), (.aload 0, 0, 0, 0, 0), (.getfield 0, 7, 1, 2, 0), (.sipush 0, 0, 0, 0, 14), (.iaload, 0, 0, 0, 0), (.ifCond .eq 0, 48, 0, 0, 0), (.aload 0, 0, 0, 0, 0), (.getfield 0, 7, 3, 2, 0)]
theorem bk_X7_zeroes_21 : xm_okb cX7_zeroes 7 4 3 false 36 21 kX7_zeroes_21 = true := by decide +kernel
def kX7_zeroes_48 : List xm_I := [(.return_, 0, 0, 0, 0)]
theorem bk_X7_zeroes_48 : xm_okb cX7_zeroes 7 4 3 false 49 48 kX7_zeroes_48 = true := by decide +kernel
def kX7_zeroes_49 : List xm_I := [(.sipush 0, 0, 0, 0, 0), (.istore 0, 2, 0, 0, 0), (.sipush 0, 0, 0, 0, 0), (.istore 0, 3, 0, 0, 0)]
theorem bk_X7_zeroes_49 : xm_okb cX7_zeroes 7 4 3 false 53 49 kX7_zeroes_49 = true := by decide +kernel
def kX7_zeroes_53 : List xm_I := [(.iload 0, 3, 0, 0, 0), (.aload 0, 0, 0, 0, 0), (.getfield 0, 7, 1, 2, 0), (.sipush 0, 0, 0, 0, 14), (.iaload, 0, 0, 0, 0), (.if_icmp .ge 0, 82, 0, 0, 0), (.iload 0, 2, 0, 0, 0), (.aload 0, 0, 0, 0, 0)]
theorem bk_X7_zeroes_53 : xm_okb cX7_zeroes 7 4 3 false 66 53 kX7_zeroes_53 = true := by decide +kernel
def kX7_zeroes_82 : List xm_I := [(.aload 0, 0, 0, 0, 0), (.getfield 0, 7, 3, 2, 0), (.sipush 0, 0, 0, 0, 1), (.iload 0, 2, 0, 0, 0), (.aload 0, 0, 0, 0, 0), (.getfield 0, 7, 1, 2, 0), (.sipush 0, 0, 0, 0, 14), (.iaload, 0, 0, 0, 0)]
theorem bk_X7_zeroes_82 : xm_okb cX7_zeroes 7 4 3 false 95 82 kX7_zeroes_82 = true := by decide +kernel
def kX7_zeroes_14 : List xm_I := [(.iaload, 0, 0, 0, 0), (.sipush 0, 0, 0, 0, 1), (.iadd, 0, 0, 0, 0), (.goto 0, 21, 0, 0, 0)]
theorem bk_X7_zeroes_14 : xm_okb cX7_zeroes 7 4 3 false 20 14 kX7_zeroes_14 = true := by decide +kernel
def kX7_zeroes_36 : List xm_I := [(.sipush 0, 0, 0, 0, 3), (.iaload, 0, 0, 0, 0), (.aload 0, 0, 0, 0, 0), (.getfield 0, 7, 1, 2, 0), (.sipush 0, 0, 0, 0, 14), (.iaload, 0, 0, 0, 0), (.if_icmp .ge 0, 49, 0, 0, 0)]
theorem bk_X7_zeroes_36 : xm_okb cX7_zeroes 7 4 3 false 48 36 kX7_zeroes_36 = true := by decide +kernel
def kX7_zeroes_66 : List xm_I := [(.getfield 0, 7, 3, 2, 0), (.sipush 0, 0, 0, 0, 21), (.iload 0, 3, 0, 0, 0), (.iadd, 0, 0, 0, 0), (.iaload, 0, 0, 0, 0), (.iadd, 0, 0, 0, 0), (.istore 0, 2, 0, 0, 0), (.iinc 0 0, 3, 0, 0, 1)]
theorem bk_X7_zeroes_66 : xm_okb cX7_zeroes 7 4 3 false 79 66 kX7_zeroes_66 = true := by decide +kernel
def kX7_zeroes_95 : List xm_I := [(.idiv, 0, 0, 0, 0), (.iastore, 0, 0, 0, 0), (.return_, 0, 0, 0, 0)]
theorem bk_X7_zeroes_95 : xm_okb cX7_zeroes 7 4 3 false 98 95 kX7_zeroes_95 = true := by decide +kernel
def kX7_zeroes_79 : List xm_I := [(.goto 0, 53, 0, 0, 0)]
theorem bk_X7_zeroes_79 : xm_okb cX7_zeroes 7 4 3 false 82 79 kX7_zeroes_79 = true := by decide +kernel
abbrev mt_X7_tick : xm_T4 := (yX7_tick, cX7_tick, 4, (some .int))
theorem mo_X7_tick : xm_mo mt_X7_tick 7 0 0 false false := ⟨by decide +kernel, rfl, (fun h => by cases h), rfl, by decide, ⟨by decide +kernel, by decide +kernel, by decide +kernel⟩, (wq_at mw_7_4 19 rfl), (wq_at mw_7_6 28 rfl), (fun h => by cases h), (fun _ => (wq_at mw_7_4 20 rfl)), (fun _ => (wq_at mw_7_4 21 rfl))⟩
def kX7_tick_0 : List xm_I := [(.aload 0, 0, 0, 0, 0), (.getfield 0, 7, 3, 2, 0), (.sipush 0, 0, 0, 0, 0), (.dup2, 0, 0, 0, 0), (.iaload, 0, 0, 0, 0), (.sipush 0, 0, 0, 0, 1), (.iadd, 0, 0, 0, 0), (.iastore, 0, 0, 0, 0)]
theorem bk_X7_tick_0 : xm_okb cX7_tick 7 4 0 false 10 0 kX7_tick_0 = true := by decide +kernel
def kX7_tick_12 : List xm_I := [(.iload 0, 1, 0, 0, 0), (.aload 0, 0, 0, 0, 0), (.getfield 0, 7, 3, 2, 0), (.sipush 0, 0, 0, 0, 2), (.iaload, 0, 0, 0, 0), (.if_icmp .ge 0, 55, 0, 0, 0), (.aload 0, 0, 0, 0, 0), (.iload 0, 1, 0, 0, 0)]
theorem bk_X7_tick_12 : xm_okb cX7_tick 7 4 0 false 24 12 kX7_tick_12 = true := by decide +kernel
def kX7_tick_27 : List xm_I := [(.ifCond .eq 0, 49, 0, 0, 0), (.aload 0, 0, 0, 0, 0), (.iload 0, 1, 0, 0, 0), (.sipush 0, 0, 0, 0, 2), (.aload 0, 0, 0, 0, 0), (.iload 0, 1, 0, 0, 0), (.sipush 0, 0, 0, 0, 2)]
theorem bk_X7_tick_27 : xm_okb cX7_tick 7 4 0 false 36 27 kX7_tick_27 = true := by decide +kernel
def kX7_tick_39 : List xm_I := [(.aload 0, 0, 0, 0, 0), (.getfield 0, 7, 1, 2, 0), (.sipush 0, 0, 0, 0, 0), (.iaload, 0, 0, 0, 0), (.iadd, 0, 0, 0, 0)]
theorem bk_X7_tick_39 : xm_okb cX7_tick 7 4 0 false 46 39 kX7_tick_39 = true := by decide +kernel
def kX7_tick_49 : List xm_I := [(.iinc 0 0, 1, 0, 0, 1), (.goto 0, 12, 0, 0, 0)]
theorem bk_X7_tick_49 : xm_okb cX7_tick 7 4 0 false 55 49 kX7_tick_49 = true := by decide +kernel
def kX7_tick_55 : List xm_I := [(.sipush 0, 0, 0, 0, 59), (.istore 0, 1, 0, 0, 0)]
theorem bk_X7_tick_55 : xm_okb cX7_tick 7 4 0 false 58 55 kX7_tick_55 = true := by decide +kernel
def kX7_tick_58 : List xm_I := [(.iload 0, 1, 0, 0, 0), (.ifCond .le 0, 88, 0, 0, 0), (.aload 0, 0, 0, 0, 0), (.getfield 0, 7, 3, 2, 0), (.sipush 0, 0, 0, 0, 21), (.iload 0, 1, 0, 0, 0), (.iadd, 0, 0, 0, 0), (.aload 0, 0, 0, 0, 0)]
theorem bk_X7_tick_58 : xm_okb cX7_tick 7 4 0 false 71 58 kX7_tick_58 = true := by decide +kernel
def kX7_tick_88 : List xm_I := [(.aload 0, 0, 0, 0, 0), (.getfield 0, 7, 3, 2, 0), (.sipush 0, 0, 0, 0, 21), (.aload 0, 0, 0, 0, 0)]
theorem bk_X7_tick_88 : xm_okb cX7_tick 7 4 0 false 95 88 kX7_tick_88 = true := by decide +kernel
def kX7_tick_98 : List xm_I := [(.iastore, 0, 0, 0, 0), (.aload 0, 0, 0, 0, 0)]
theorem bk_X7_tick_98 : xm_okb cX7_tick 7 4 0 false 100 98 kX7_tick_98 = true := by decide +kernel
def kX7_tick_103 : List xm_I := [(.istore 0, 1, 0, 0, 0), (.sipush 0, 0, 0, 0, 0), (.istore 0, 2, 0, 0, 0)]
theorem bk_X7_tick_103 : xm_okb cX7_tick 7 4 0 false 106 103 kX7_tick_103 = true := by decide +kernel
def kX7_tick_106 : List xm_I := [(.iload 0, 2, 0, 0, 0), (.aload 0, 0, 0, 0, 0), (.getfield 0, 7, 3, 2, 0), (.sipush 0, 0, 0, 0, 2), (.iaload, 0, 0, 0, 0), (.if_icmp .ge 0, 160, 0, 0, 0), (.aload 0, 0, 0, 0, 0), (.iload 0, 2, 0, 0, 0)]
theorem bk_X7_tick_106 : xm_okb cX7_tick 7 4 0 false 118 106 kX7_tick_106 = true := by decide +kernel
def kX7_tick_121 : List xm_I := [(.ifCond .ne 0, 127, 0, 0, 0), (.goto 0, 154, 0, 0, 0)]
theorem bk_X7_tick_121 : xm_okb cX7_tick 7 4 0 false 127 121 kX7_tick_121 = true := by decide +kernel
def kX7_tick_127 : List xm_I := [(.iload 0, 1, 0, 0, 0), (.sipush 0, 0, 0, 0, 1), (.if_icmp .ne 0, 147, 0, 0, 0), (.aload 0, 0, 0, 0, 0), (.iload 0, 2, 0, 0, 0), (.aload 0, 0, 0, 0, 0), (.getfield 0, 7, 3, 2, 0), (.sipush 0, 0, 0, 0, 21)]
theorem bk_X7_tick_127 : xm_okb cX7_tick 7 4 0 false 140 127 kX7_tick_127 = true := by decide +kernel
def kX7_tick_144 : List xm_I := [(.goto 0, 154, 0, 0, 0)]
theorem bk_X7_tick_144 : xm_okb cX7_tick 7 4 0 false 147 144 kX7_tick_144 = true := by decide +kernel
def kX7_tick_147 : List xm_I := [(.aload 0, 0, 0, 0, 0), (.iload 0, 2, 0, 0, 0), (.sipush 0, 0, 0, 0, 5), (.sipush 0, 0, 0, 0, 1)]
theorem bk_X7_tick_147 : xm_okb cX7_tick 7 4 0 false 151 147 kX7_tick_147 = true := by decide +kernel
def kX7_tick_154 : List xm_I := [(.iinc 0 0, 2, 0, 0, 1), (.goto 0, 106, 0, 0, 0)]
theorem bk_X7_tick_154 : xm_okb cX7_tick 7 4 0 false 160 154 kX7_tick_154 = true := by decide +kernel
def kX7_tick_160 : List xm_I := [(.sipush 0, 0, 0, 0, 0), (.istore 0, 2, 0, 0, 0), (.sipush 0, 0, 0, 0, 0), (.istore 0, 3, 0, 0, 0)]
theorem bk_X7_tick_160 : xm_okb cX7_tick 7 4 0 false 164 160 kX7_tick_160 = true := by decide +kernel
def kX7_tick_164 : List xm_I := [(.iload 0, 3, 0, 0, 0), (.aload 0, 0, 0, 0, 0), (.getfield 0, 7, 3, 2, 0), (.sipush 0, 0, 0, 0, 2), (.iaload, 0, 0, 0, 0), (.if_icmp .ge 0, 215, 0, 0, 0), (.aload 0, 0, 0, 0, 0), (.iload 0, 3, 0, 0, 0)]
theorem bk_X7_tick_164 : xm_okb cX7_tick 7 4 0 false 176 164 kX7_tick_164 = true := by decide +kernel
def kX7_tick_180 : List xm_I := [(.ifCond .ne 0, 209, 0, 0, 0), (.aload 0, 0, 0, 0, 0), (.iload 0, 3, 0, 0, 0), (.sipush 0, 0, 0, 0, 2)]
theorem bk_X7_tick_180 : xm_okb cX7_tick 7 4 0 false 186 180 kX7_tick_180 = true := by decide +kernel
def kX7_tick_189 : List xm_I := [(.aload 0, 0, 0, 0, 0), (.getfield 0, 7, 1, 2, 0), (.sipush 0, 0, 0, 0, 2), (.iaload, 0, 0, 0, 0), (.if_icmp .gt 0, 201, 0, 0, 0), (.goto 0, 209, 0, 0, 0)]
theorem bk_X7_tick_189 : xm_okb cX7_tick 7 4 0 false 201 189 kX7_tick_189 = true := by decide +kernel
def kX7_tick_201 : List xm_I := [(.aload 0, 0, 0, 0, 0), (.iload 0, 3, 0, 0, 0)]
theorem bk_X7_tick_201 : xm_okb cX7_tick 7 4 0 false 203 201 kX7_tick_201 = true := by decide +kernel
def kX7_tick_206 : List xm_I := [(.iinc 0 0, 2, 0, 0, 1)]
theorem bk_X7_tick_206 : xm_okb cX7_tick 7 4 0 false 209 206 kX7_tick_206 = true := by decide +kernel
def kX7_tick_209 : List xm_I := [(.iinc 0 0, 3, 0, 0, 1), (.goto 0, 164, 0, 0, 0)]
theorem bk_X7_tick_209 : xm_okb cX7_tick 7 4 0 false 215 209 kX7_tick_209 = true := by decide +kernel
def kX7_tick_215 : List xm_I := [(.sipush 0, 0, 0, 0, 0), (.istore 0, 3, 0, 0, 0)]
theorem bk_X7_tick_215 : xm_okb cX7_tick 7 4 0 false 217 215 kX7_tick_215 = true := by decide +kernel
def kX7_tick_217 : List xm_I := [(.iload 0, 3, 0, 0, 0), (.aload 0, 0, 0, 0, 0), (.getfield 0, 7, 3, 2, 0), (.sipush 0, 0, 0, 0, 2), (.iaload, 0, 0, 0, 0), (.if_icmp .ge 0, 246, 0, 0, 0), (.aload 0, 0, 0, 0, 0), (.iload 0, 3, 0, 0, 0)]
theorem bk_X7_tick_217 : xm_okb cX7_tick 7 4 0 false 229 217 kX7_tick_217 = true := by decide +kernel
def kX7_tick_232 : List xm_I := [(.ifCond .eq 0, 240, 0, 0, 0), (.aload 0, 0, 0, 0, 0), (.iload 0, 3, 0, 0, 0)]
theorem bk_X7_tick_232 : xm_okb cX7_tick 7 4 0 false 237 232 kX7_tick_232 = true := by decide +kernel
def kX7_tick_240 : List xm_I := [(.iinc 0 0, 3, 0, 0, 1), (.goto 0, 217, 0, 0, 0)]
theorem bk_X7_tick_240 : xm_okb cX7_tick 7 4 0 false 246 240 kX7_tick_240 = true := by decide +kernel
def kX7_tick_246 : List xm_I := [(.sipush 0, 0, 0, 0, 0), (.istore 0, 3, 0, 0, 0)]
theorem bk_X7_tick_246 : xm_okb cX7_tick 7 4 0 false 248 246 kX7_tick_246 = true := by decide +kernel
def kX7_tick_248 : List xm_I := [(.iload 0, 3, 0, 0, 0), (.aload 0, 0, 0, 0, 0), (.getfield 0, 7, 3, 2, 0), (.sipush 0, 0, 0, 0, 2), (.iaload, 0, 0, 0, 0), (.if_icmp .ge 0, 308, 0, 0, 0), (.aload 0, 0, 0, 0, 0), (.iload 0, 3, 0, 0, 0)]
theorem bk_X7_tick_248 : xm_okb cX7_tick 7 4 0 false 260 248 kX7_tick_248 = true := by decide +kernel
def kX7_tick_263 : List xm_I := [(.ifCond .eq 0, 302, 0, 0, 0), (.aload 0, 0, 0, 0, 0), (.iload 0, 3, 0, 0, 0), (.sipush 0, 0, 0, 0, 2)]
theorem bk_X7_tick_263 : xm_okb cX7_tick 7 4 0 false 269 263 kX7_tick_263 = true := by decide +kernel
def kX7_tick_272 : List xm_I := [(.aload 0, 0, 0, 0, 0), (.getfield 0, 7, 1, 2, 0), (.sipush 0, 0, 0, 0, 3), (.iaload, 0, 0, 0, 0), (.if_icmp .lt 0, 302, 0, 0, 0), (.aload 0, 0, 0, 0, 0), (.iload 0, 3, 0, 0, 0), (.aload 0, 0, 0, 0, 0)]
theorem bk_X7_tick_272 : xm_okb cX7_tick 7 4 0 false 284 272 kX7_tick_272 = true := by decide +kernel
def kX7_tick_290 : List xm_I := [(.sipush 0, 0, 0, 0, (-1)), (.if_icmp .ne 0, 298, 0, 0, 0), (.sipush 0, 0, 0, 0, 2), (.goto 0, 299, 0, 0, 0)]
theorem bk_X7_tick_290 : xm_okb cX7_tick 7 4 0 false 298 290 kX7_tick_290 = true := by decide +kernel
def kX7_tick_298 : List xm_I := [(.sipush 0, 0, 0, 0, 5)]
theorem bk_X7_tick_298 : xm_okb cX7_tick 7 4 0 false 299 298 kX7_tick_298 = true := by decide +kernel
def kX7_tick_302 : List xm_I := [(.iinc 0 0, 3, 0, 0, 1), (.goto 0, 248, 0, 0, 0)]
theorem bk_X7_tick_302 : xm_okb cX7_tick 7 4 0 false 308 302 kX7_tick_302 = true := by decide +kernel
def kX7_tick_308 : List xm_I := [(.aload 0, 0, 0, 0, 0), (.iload 0, 1, 0, 0, 0), (.ifCond .ne 0, 317, 0, 0, 0), (.sipush 0, 0, 0, 0, 1), (.goto 0, 318, 0, 0, 0)]
theorem bk_X7_tick_308 : xm_okb cX7_tick 7 4 0 false 317 308 kX7_tick_308 = true := by decide +kernel
def kX7_tick_317 : List xm_I := [(.sipush 0, 0, 0, 0, 0)]
theorem bk_X7_tick_317 : xm_okb cX7_tick 7 4 0 false 318 317 kX7_tick_317 = true := by decide +kernel
def kX7_tick_321 : List xm_I := [(.sipush 0, 0, 0, 0, 0), (.istore 0, 3, 0, 0, 0)]
theorem bk_X7_tick_321 : xm_okb cX7_tick 7 4 0 false 323 321 kX7_tick_321 = true := by decide +kernel
def kX7_tick_323 : List xm_I := [(.iload 0, 3, 0, 0, 0), (.aload 0, 0, 0, 0, 0), (.getfield 0, 7, 3, 2, 0), (.sipush 0, 0, 0, 0, 2), (.iaload, 0, 0, 0, 0), (.if_icmp .ge 0, 387, 0, 0, 0), (.aload 0, 0, 0, 0, 0), (.iload 0, 3, 0, 0, 0)]
theorem bk_X7_tick_323 : xm_okb cX7_tick 7 4 0 false 335 323 kX7_tick_323 = true := by decide +kernel
def kX7_tick_340 : List xm_I := [(.aload 0, 0, 0, 0, 0), (.getfield 0, 7, 3, 2, 0), (.sipush 0, 0, 0, 0, 0), (.iaload, 0, 0, 0, 0), (.if_icmp .ne 0, 381, 0, 0, 0), (.aload 0, 0, 0, 0, 0), (.aload 0, 0, 0, 0, 0), (.iload 0, 3, 0, 0, 0)]
theorem bk_X7_tick_340 : xm_okb cX7_tick 7 4 0 false 352 340 kX7_tick_340 = true := by decide +kernel
def kX7_tick_357 : List xm_I := [(.aload 0, 0, 0, 0, 0), (.aload 0, 0, 0, 0, 0), (.iload 0, 3, 0, 0, 0), (.sipush 0, 0, 0, 0, 13)]
theorem bk_X7_tick_357 : xm_okb cX7_tick 7 4 0 false 362 357 kX7_tick_357 = true := by decide +kernel
def kX7_tick_365 : List xm_I := [(.sipush 0, 0, 0, 0, 1)]
theorem bk_X7_tick_365 : xm_okb cX7_tick 7 4 0 false 366 365 kX7_tick_365 = true := by decide +kernel
def kX7_tick_369 : List xm_I := [(.sipush 0, 0, 0, 0, 1), (.if_icmp .ne 0, 377, 0, 0, 0), (.sipush 0, 0, 0, 0, 4), (.goto 0, 378, 0, 0, 0)]
theorem bk_X7_tick_369 : xm_okb cX7_tick 7 4 0 false 377 369 kX7_tick_369 = true := by decide +kernel
def kX7_tick_377 : List xm_I := [(.sipush 0, 0, 0, 0, 3)]
theorem bk_X7_tick_377 : xm_okb cX7_tick 7 4 0 false 378 377 kX7_tick_377 = true := by decide +kernel
def kX7_tick_381 : List xm_I := [(.iinc 0 0, 3, 0, 0, 1), (.goto 0, 323, 0, 0, 0)]
theorem bk_X7_tick_381 : xm_okb cX7_tick 7 4 0 false 387 381 kX7_tick_381 = true := by decide +kernel
def kX7_tick_387 : List xm_I := [(.iload 0, 2, 0, 0, 0), (.ireturn, 0, 0, 0, 0)]
theorem bk_X7_tick_387 : xm_okb cX7_tick 7 4 0 false 389 387 kX7_tick_387 = true := by decide +kernel
def kX7_tick_10 : List xm_I := [(.sipush 0, 0, 0, 0, 0), (.istore 0, 1, 0, 0, 0)]
theorem bk_X7_tick_10 : xm_okb cX7_tick 7 4 0 false 12 10 kX7_tick_10 = true := by decide +kernel
def kX7_tick_71 : List xm_I := [(.getfield 0, 7, 3, 2, 0), (.sipush 0, 0, 0, 0, 21), (.iload 0, 1, 0, 0, 0), (.iadd, 0, 0, 0, 0), (.sipush 0, 0, 0, 0, 1), (.isub, 0, 0, 0, 0), (.iaload, 0, 0, 0, 0), (.iastore, 0, 0, 0, 0)]
theorem bk_X7_tick_71 : xm_okb cX7_tick 7 4 0 false 82 71 kX7_tick_71 = true := by decide +kernel
def kX7_tick_140 : List xm_I := [(.iaload, 0, 0, 0, 0)]
theorem bk_X7_tick_140 : xm_okb cX7_tick 7 4 0 false 141 140 kX7_tick_140 = true := by decide +kernel
def kX7_tick_176 : List xm_I := [(.sipush 0, 0, 0, 0, 3)]
theorem bk_X7_tick_176 : xm_okb cX7_tick 7 4 0 false 177 176 kX7_tick_176 = true := by decide +kernel
def kX7_tick_284 : List xm_I := [(.iload 0, 3, 0, 0, 0), (.sipush 0, 0, 0, 0, 7)]
theorem bk_X7_tick_284 : xm_okb cX7_tick 7 4 0 false 287 284 kX7_tick_284 = true := by decide +kernel
def kX7_tick_335 : List xm_I := [(.sipush 0, 0, 0, 0, 12)]
theorem bk_X7_tick_335 : xm_okb cX7_tick 7 4 0 false 337 335 kX7_tick_335 = true := by decide +kernel
def kX7_tick_352 : List xm_I := [(.sipush 0, 0, 0, 0, 13)]
theorem bk_X7_tick_352 : xm_okb cX7_tick 7 4 0 false 354 352 kX7_tick_352 = true := by decide +kernel
def kX7_tick_82 : List xm_I := [(.iinc 0 0, 1, 0, 0, (-1)), (.goto 0, 58, 0, 0, 0)]
theorem bk_X7_tick_82 : xm_okb cX7_tick 7 4 0 false 88 82 kX7_tick_82 = true := by decide +kernel
abbrev mt_X7_step : xm_T4 := (yX7_step, cX7_step, 4, (some .int))
theorem mo_X7_step : xm_mo mt_X7_step 7 1 0 false false := ⟨by decide +kernel, rfl, (fun h => by cases h), rfl, by decide, ⟨by decide +kernel, by decide +kernel, by decide +kernel⟩, (wq_at mw_7_4 22 rfl), (wq_at mw_7_6 28 rfl), (fun h => by cases h), (fun _ => (wq_at mw_7_4 23 rfl)), (fun _ => (wq_at mw_7_4 24 rfl))⟩
def kX7_step_0 : List xm_I := [(.aload 0, 0, 0, 0, 0), (.sipush 0, 0, 0, 0, 0), (.putfield 0, 7, 0, 0, 0), (.aload 0, 0, 0, 0, 0), (.iload 0, 1, 0, 0, 0), (.sipush 0, 0, 0, 0, 1), (.sipush 0, 0, 0, 0, 500)]
theorem bk_X7_step_0 : xm_okb cX7_step 7 4 0 false 11 0 kX7_step_0 = true := by decide +kernel
def kX7_step_14 : List xm_I := [(.sipush 0, 0, 0, 0, 1)]
theorem bk_X7_step_14 : xm_okb cX7_step 7 4 0 false 15 14 kX7_step_14 = true := by decide +kernel
def kX7_step_18 : List xm_I := [(.ifCond .eq 0, 48, 0, 0, 0), (.aload 0, 0, 0, 0, 0), (.aload 0, 0, 0, 0, 0), (.getfield 0, 7, 3, 2, 0), (.sipush 0, 0, 0, 0, 0), (.iaload, 0, 0, 0, 0), (.iload 0, 1, 0, 0, 0), (.iadd, 0, 0, 0, 0)]
theorem bk_X7_step_18 : xm_okb cX7_step 7 4 0 false 30 18 kX7_step_18 = true := by decide +kernel
def kX7_step_40 : List xm_I := [(.sipush 0, 0, 0, 0, 0)]
theorem bk_X7_step_40 : xm_okb cX7_step 7 4 0 false 41 40 kX7_step_40 = true := by decide +kernel
def kX7_step_41 : List xm_I := [(.sipush 0, 0, 0, 0, 2)]
theorem bk_X7_step_41 : xm_okb cX7_step 7 4 0 false 42 41 kX7_step_41 = true := by decide +kernel
def kX7_step_45 : List xm_I := [(.ifCond .ne 0, 50, 0, 0, 0)]
theorem bk_X7_step_45 : xm_okb cX7_step 7 4 0 false 48 45 kX7_step_45 = true := by decide +kernel
def kX7_step_48 : List xm_I := [(.sipush 0, 0, 0, 0, 0), (.ireturn, 0, 0, 0, 0)]
theorem bk_X7_step_48 : xm_okb cX7_step 7 4 0 false 50 48 kX7_step_48 = true := by decide +kernel
def kX7_step_50 : List xm_I := [(.sipush 0, 0, 0, 0, 0), (.istore 0, 2, 0, 0, 0), (.sipush 0, 0, 0, 0, 0), (.istore 0, 3, 0, 0, 0)]
theorem bk_X7_step_50 : xm_okb cX7_step 7 4 0 false 54 50 kX7_step_50 = true := by decide +kernel
def kX7_step_54 : List xm_I := [(.iload 0, 3, 0, 0, 0), (.iload 0, 1, 0, 0, 0), (.if_icmp .ge 0, 72, 0, 0, 0), (.iload 0, 2, 0, 0, 0), (.aload 0, 0, 0, 0, 0)]
theorem bk_X7_step_54 : xm_okb cX7_step 7 4 0 false 61 54 kX7_step_54 = true := by decide +kernel
def kX7_step_64 : List xm_I := [(.iadd, 0, 0, 0, 0), (.istore 0, 2, 0, 0, 0), (.iinc 0 0, 3, 0, 0, 1), (.goto 0, 54, 0, 0, 0)]
theorem bk_X7_step_64 : xm_okb cX7_step 7 4 0 false 72 64 kX7_step_64 = true := by decide +kernel
def kX7_step_72 : List xm_I := [(.iload 0, 2, 0, 0, 0), (.ireturn, 0, 0, 0, 0)]
theorem bk_X7_step_72 : xm_okb cX7_step 7 4 0 false 74 72 kX7_step_72 = true := by decide +kernel
def kX7_step_30 : List xm_I := [(.sipush 0, 0, 0, 0, 20000), (.if_icmp .gt 0, 40, 0, 0, 0), (.sipush 0, 0, 0, 0, 1), (.goto 0, 41, 0, 0, 0)]
theorem bk_X7_step_30 : xm_okb cX7_step 7 4 0 false 40 30 kX7_step_30 = true := by decide +kernel
abbrev mt_X7_changes : xm_T4 := (yX7_changes, cX7_changes, 5, (some .boolean))
theorem mo_X7_changes : xm_mo mt_X7_changes 7 3 1 false false := ⟨by decide +kernel, rfl, (fun h => by cases h), rfl, by decide, ⟨by decide +kernel, by decide +kernel, by decide +kernel⟩, (wq_at mw_7_4 25 rfl), (wq_at mw_7_6 28 rfl), (fun h => by cases h), (fun _ => (wq_at mw_7_4 26 rfl)), (fun _ => (wq_at mw_7_4 27 rfl))⟩
def kX7_changes_0 : List xm_I := [(.iload 0, 3, 0, 0, 0), (.ifCond .eq 0, 8, 0, 0, 0), (.sipush 0, 0, 0, 0, 1), (.goto 0, 9, 0, 0, 0)]
theorem bk_X7_changes_0 : xm_okb cX7_changes 7 5 1 false 8 0 kX7_changes_0 = true := by decide +kernel
def kX7_changes_8 : List xm_I := [(.sipush 0, 0, 0, 0, 0)]
theorem bk_X7_changes_8 : xm_okb cX7_changes 7 5 1 false 9 8 kX7_changes_8 = true := by decide +kernel
def kX7_changes_9 : List xm_I := [(.istore 0, 4, 0, 0, 0), (.aload 0, 0, 0, 0, 0), (.aload 0, 0, 0, 0, 0), (.iload 0, 1, 0, 0, 0)]
theorem bk_X7_changes_9 : xm_okb cX7_changes 7 5 1 false 14 9 kX7_changes_9 = true := by decide +kernel
def kX7_changes_17 : List xm_I := [(.sipush 0, 0, 0, 0, 1)]
theorem bk_X7_changes_17 : xm_okb cX7_changes 7 5 1 false 18 17 kX7_changes_17 = true := by decide +kernel
def kX7_changes_21 : List xm_I := [(.ifCond .eq 0, 35, 0, 0, 0), (.aload 0, 0, 0, 0, 0), (.iload 0, 1, 0, 0, 0), (.iload 0, 2, 0, 0, 0)]
theorem bk_X7_changes_21 : xm_okb cX7_changes 7 5 1 false 27 21 kX7_changes_21 = true := by decide +kernel
def kX7_changes_30 : List xm_I := [(.iload 0, 4, 0, 0, 0), (.if_icmp .ne 0, 37, 0, 0, 0)]
theorem bk_X7_changes_30 : xm_okb cX7_changes 7 5 1 false 35 30 kX7_changes_30 = true := by decide +kernel
def kX7_changes_35 : List xm_I := [(.sipush 0, 0, 0, 0, 0), (.ireturn, 1, 0, 0, 0)]
theorem bk_X7_changes_35 : xm_okb cX7_changes 7 5 1 false 37 35 kX7_changes_35 = true := by decide +kernel
def kX7_changes_37 : List xm_I := [(.aload 0, 0, 0, 0, 0), (.getfield 0, 7, 3, 2, 0), (.sipush 0, 0, 0, 0, 6), (.sipush 0, 0, 0, 0, 5), (.iload 0, 1, 0, 0, 0), (.imul, 0, 0, 0, 0), (.iadd, 0, 0, 0, 0), (.iload 0, 2, 0, 0, 0)]
theorem bk_X7_changes_37 : xm_okb cX7_changes 7 5 1 false 48 37 kX7_changes_37 = true := by decide +kernel
def kX7_changes_48 : List xm_I := [(.iadd, 0, 0, 0, 0), (.iload 0, 4, 0, 0, 0), (.iastore, 0, 0, 0, 0), (.sipush 0, 0, 0, 0, 1), (.ireturn, 1, 0, 0, 0)]
theorem bk_X7_changes_48 : xm_okb cX7_changes 7 5 1 false 54 48 kX7_changes_48 = true := by decide +kernel
abbrev mt_X7_jam : xm_T4 := (yX7_jam, cX7_jam, 3, (some .boolean))
theorem mo_X7_jam : xm_mo mt_X7_jam 7 2 1 false false := ⟨by decide +kernel, rfl, (fun h => by cases h), rfl, by decide, ⟨by decide +kernel, by decide +kernel, by decide +kernel⟩, (wq_at mw_7_4 28 rfl), (wq_at mw_7_6 28 rfl), (fun h => by cases h), (fun _ => (wq_at mw_7_4 29 rfl)), (fun _ => (wq_at mw_7_4 30 rfl))⟩
def kX7_jam_0 : List xm_I := [(.aload 0, 0, 0, 0, 0), (.sipush 0, 0, 0, 0, 0), (.putfield 0, 7, 0, 0, 0), (.aload 0, 0, 0, 0, 0), (.iload 0, 1, 0, 0, 0), (.sipush 0, 0, 0, 0, 0), (.iload 0, 2, 0, 0, 0)]
theorem bk_X7_jam_0 : xm_okb cX7_jam 7 3 1 false 9 0 kX7_jam_0 = true := by decide +kernel
def kX7_jam_12 : List xm_I := [(.ireturn, 1, 0, 0, 0)]
theorem bk_X7_jam_12 : xm_okb cX7_jam 7 3 1 false 13 12 kX7_jam_12 = true := by decide +kernel
abbrev mt_X7_sensor : xm_T4 := (yX7_sensor, cX7_sensor, 3, (some .boolean))
theorem mo_X7_sensor : xm_mo mt_X7_sensor 7 2 1 false false := ⟨by decide +kernel, rfl, (fun h => by cases h), rfl, by decide, ⟨by decide +kernel, by decide +kernel, by decide +kernel⟩, (wq_at mw_7_4 31 rfl), (wq_at mw_7_6 28 rfl), (fun h => by cases h), (fun _ => (wq_at mw_7_4 32 rfl)), (fun _ => (wq_at mw_7_4 33 rfl))⟩
def kX7_sensor_0 : List xm_I := [(.aload 0, 0, 0, 0, 0), (.sipush 0, 0, 0, 0, 0), (.putfield 0, 7, 0, 0, 0), (.aload 0, 0, 0, 0, 0), (.iload 0, 1, 0, 0, 0), (.sipush 0, 0, 0, 0, 1), (.iload 0, 2, 0, 0, 0)]
theorem bk_X7_sensor_0 : xm_okb cX7_sensor 7 3 1 false 9 0 kX7_sensor_0 = true := by decide +kernel
def kX7_sensor_12 : List xm_I := [(.ireturn, 1, 0, 0, 0)]
theorem bk_X7_sensor_12 : xm_okb cX7_sensor 7 3 1 false 13 12 kX7_sensor_12 = true := by decide +kernel
abbrev mt_X7_setLimits : xm_T4 := (yX7_setLimits, cX7_setLimits, 3, none)
theorem mo_X7_setLimits : xm_mo mt_X7_setLimits 7 2 3 false false := ⟨by decide +kernel, rfl, (fun h => by cases h), rfl, by decide, ⟨by decide +kernel, by decide +kernel, by decide +kernel⟩, (wq_at mw_7_4 34 rfl), (wq_at mw_7_6 28 rfl), (fun h => by cases h), (fun _ => (wq_at mw_7_4 35 rfl)), (fun _ => (wq_at mw_7_4 36 rfl))⟩
def kX7_setLimits_0 : List xm_I := [(.aload 0, 0, 0, 0, 0), (.sipush 0, 0, 0, 0, 0), (.putfield 0, 7, 0, 0, 0), (.aload 0, 0, 0, 0, 0), (.iload 0, 1, 0, 0, 0), (.sipush 0, 0, 0, 0, 0), (.sipush 0, 0, 0, 0, 9999)]
theorem bk_X7_setLimits_0 : xm_okb cX7_setLimits 7 3 3 false 11 0 kX7_setLimits_0 = true := by decide +kernel
def kX7_setLimits_14 : List xm_I := [(.ifCond .eq 0, 32, 0, 0, 0), (.iload 0, 2, 0, 0, 0), (.iload 0, 1, 0, 0, 0), (.sipush 0, 0, 0, 0, 9999)]
theorem bk_X7_setLimits_14 : xm_okb cX7_setLimits 7 3 3 false 22 14 kX7_setLimits_14 = true := by decide +kernel
def kX7_setLimits_25 : List xm_I := [(.ifCond .eq 0, 32, 0, 0, 0), (.sipush 0, 0, 0, 0, 1), (.goto 0, 33, 0, 0, 0)]
theorem bk_X7_setLimits_25 : xm_okb cX7_setLimits 7 3 3 false 32 25 kX7_setLimits_25 = true := by decide +kernel
def kX7_setLimits_32 : List xm_I := [(.sipush 0, 0, 0, 0, 0)]
theorem bk_X7_setLimits_32 : xm_okb cX7_setLimits 7 3 3 false 33 32 kX7_setLimits_32 = true := by decide +kernel
def kX7_setLimits_33 : List xm_I := [(.sipush 0, 0, 0, 0, 1)]
theorem bk_X7_setLimits_33 : xm_okb cX7_setLimits 7 3 3 false 34 33 kX7_setLimits_33 = true := by decide +kernel
def kX7_setLimits_37 : List xm_I := [(.ifCond .ne 0, 41, 0, 0, 0), (.return_, 0, 0, 0, 0)]
theorem bk_X7_setLimits_37 : xm_okb cX7_setLimits 7 3 3 false 41 37 kX7_setLimits_37 = true := by decide +kernel
def kX7_setLimits_41 : List xm_I := [(.aload 0, 0, 0, 0, 0), (.getfield 0, 7, 3, 2, 0), (.sipush 0, 0, 0, 0, 4), (.iload 0, 1, 0, 0, 0), (.iastore, 0, 0, 0, 0), (.aload 0, 0, 0, 0, 0), (.getfield 0, 7, 3, 2, 0), (.sipush 0, 0, 0, 0, 5)]
theorem bk_X7_setLimits_41 : xm_okb cX7_setLimits 7 3 3 false 53 41 kX7_setLimits_41 = true := by decide +kernel
def kX7_setLimits_53 : List xm_I := [(.iload 0, 2, 0, 0, 0), (.iastore, 0, 0, 0, 0), (.return_, 0, 0, 0, 0)]
theorem bk_X7_setLimits_53 : xm_okb cX7_setLimits 7 3 3 false 56 53 kX7_setLimits_53 = true := by decide +kernel
abbrev mt_X7_setTare : xm_T4 := (yX7_setTare, cX7_setTare, 3, (some .int))
theorem mo_X7_setTare : xm_mo mt_X7_setTare 7 1 0 false false := ⟨by decide +kernel, rfl, (fun h => by cases h), rfl, by decide, ⟨by decide +kernel, by decide +kernel, by decide +kernel⟩, (wq_at mw_7_4 37 rfl), (wq_at mw_7_6 28 rfl), (fun h => by cases h), (fun _ => (wq_at mw_7_4 38 rfl)), (fun _ => (wq_at mw_7_4 39 rfl))⟩
def kX7_setTare_0 : List xm_I := [(.aload 0, 0, 0, 0, 0), (.sipush 0, 0, 0, 0, 0), (.putfield 0, 7, 0, 0, 0), (.aload 0, 0, 0, 0, 0), (.iload 0, 1, 0, 0, 0), (.sipush 0, 0, 0, 0, (-9999)), (.sipush 0, 0, 0, 0, 9999)]
theorem bk_X7_setTare_0 : xm_okb cX7_setTare 7 3 0 false 13 0 kX7_setTare_0 = true := by decide +kernel
def kX7_setTare_16 : List xm_I := [(.sipush 0, 0, 0, 0, 1)]
theorem bk_X7_setTare_16 : xm_okb cX7_setTare 7 3 0 false 17 16 kX7_setTare_16 = true := by decide +kernel
def kX7_setTare_20 : List xm_I := [(.ifCond .ne 0, 25, 0, 0, 0), (.sipush 0, 0, 0, 0, 0), (.ireturn, 0, 0, 0, 0)]
theorem bk_X7_setTare_20 : xm_okb cX7_setTare 7 3 0 false 25 20 kX7_setTare_20 = true := by decide +kernel
def kX7_setTare_25 : List xm_I := [(.aload 0, 0, 0, 0, 0), (.getfield 0, 7, 3, 2, 0), (.sipush 0, 0, 0, 0, 1), (.iaload, 0, 0, 0, 0), (.istore 0, 2, 0, 0, 0), (.aload 0, 0, 0, 0, 0), (.getfield 0, 7, 3, 2, 0), (.sipush 0, 0, 0, 0, 1)]
theorem bk_X7_setTare_25 : xm_okb cX7_setTare 7 3 0 false 37 25 kX7_setTare_25 = true := by decide +kernel
def kX7_setTare_37 : List xm_I := [(.iload 0, 1, 0, 0, 0), (.iastore, 0, 0, 0, 0), (.iload 0, 2, 0, 0, 0), (.ireturn, 0, 0, 0, 0)]
theorem bk_X7_setTare_37 : xm_okb cX7_setTare 7 3 0 false 41 37 kX7_setTare_37 = true := by decide +kernel
abbrev mt_X7_item : xm_T4 := (yX7_item, cX7_item, 3, (some .int))
theorem mo_X7_item : xm_mo mt_X7_item 7 2 0 false false := ⟨by decide +kernel, rfl, (fun h => by cases h), rfl, by decide, ⟨by decide +kernel, by decide +kernel, by decide +kernel⟩, (wq_at mw_7_5 0 rfl), (wq_at mw_7_6 28 rfl), (fun h => by cases h), (fun _ => (wq_at mw_7_5 1 rfl)), (fun _ => (wq_at mw_7_5 2 rfl))⟩
def kX7_item_0 : List xm_I := [(.aload 0, 0, 0, 0, 0), (.sipush 0, 0, 0, 0, 0), (.putfield 0, 7, 0, 0, 0), (.aload 0, 0, 0, 0, 0), (.aload 0, 0, 0, 0, 0), (.iload 0, 1, 0, 0, 0)]
theorem bk_X7_item_0 : xm_okb cX7_item 7 3 0 false 8 0 kX7_item_0 = true := by decide +kernel
def kX7_item_11 : List xm_I := [(.sipush 0, 0, 0, 0, 1)]
theorem bk_X7_item_11 : xm_okb cX7_item 7 3 0 false 12 11 kX7_item_11 = true := by decide +kernel
def kX7_item_15 : List xm_I := [(.ifCond .eq 0, 42, 0, 0, 0), (.aload 0, 0, 0, 0, 0), (.iload 0, 2, 0, 0, 0), (.sipush 0, 0, 0, 0, 0), (.sipush 0, 0, 0, 0, 9)]
theorem bk_X7_item_15 : xm_okb cX7_item 7 3 0 false 23 15 kX7_item_15 = true := by decide +kernel
def kX7_item_26 : List xm_I := [(.sipush 0, 0, 0, 0, 2)]
theorem bk_X7_item_26 : xm_okb cX7_item 7 3 0 false 27 26 kX7_item_26 = true := by decide +kernel
def kX7_item_30 : List xm_I := [(.ifCond .eq 0, 42, 0, 0, 0), (.aload 0, 0, 0, 0, 0), (.iload 0, 1, 0, 0, 0), (.iload 0, 2, 0, 0, 0)]
theorem bk_X7_item_30 : xm_okb cX7_item 7 3 0 false 36 30 kX7_item_30 = true := by decide +kernel
def kX7_item_39 : List xm_I := [(.goto 0, 43, 0, 0, 0)]
theorem bk_X7_item_39 : xm_okb cX7_item 7 3 0 false 42 39 kX7_item_39 = true := by decide +kernel
def kX7_item_42 : List xm_I := [(.sipush 0, 0, 0, 0, 0)]
theorem bk_X7_item_42 : xm_okb cX7_item 7 3 0 false 43 42 kX7_item_42 = true := by decide +kernel
def kX7_item_43 : List xm_I := [(.ireturn, 0, 0, 0, 0)]
theorem bk_X7_item_43 : xm_okb cX7_item 7 3 0 false 44 43 kX7_item_43 = true := by decide +kernel
abbrev mt_X7_isMeasured : xm_T4 := (yX7_isMeasured, cX7_isMeasured, 2, (some .boolean))
theorem mo_X7_isMeasured : xm_mo mt_X7_isMeasured 7 1 1 false false := ⟨by decide +kernel, rfl, (fun h => by cases h), rfl, by decide, ⟨by decide +kernel, by decide +kernel, by decide +kernel⟩, (wq_at mw_7_5 3 rfl), (wq_at mw_7_6 28 rfl), (fun h => by cases h), (fun _ => (wq_at mw_7_5 4 rfl)), (fun _ => (wq_at mw_7_5 5 rfl))⟩
def kX7_isMeasured_0 : List xm_I := [(.aload 0, 0, 0, 0, 0), (.iload 0, 1, 0, 0, 0), (.sipush 0, 0, 0, 0, 6)]
theorem bk_X7_isMeasured_0 : xm_okb cX7_isMeasured 7 2 1 false 4 0 kX7_isMeasured_0 = true := by decide +kernel
def kX7_isMeasured_7 : List xm_I := [(.sipush 0, 0, 0, 0, (-1)), (.if_icmp .eq 0, 24, 0, 0, 0), (.aload 0, 0, 0, 0, 0), (.iload 0, 1, 0, 0, 0), (.sipush 0, 0, 0, 0, 4)]
theorem bk_X7_isMeasured_7 : xm_okb cX7_isMeasured 7 2 1 false 14 7 kX7_isMeasured_7 = true := by decide +kernel
def kX7_isMeasured_17 : List xm_I := [(.ifCond .le 0, 24, 0, 0, 0), (.sipush 0, 0, 0, 0, 1), (.goto 0, 25, 0, 0, 0)]
theorem bk_X7_isMeasured_17 : xm_okb cX7_isMeasured 7 2 1 false 24 17 kX7_isMeasured_17 = true := by decide +kernel
def kX7_isMeasured_24 : List xm_I := [(.sipush 0, 0, 0, 0, 0)]
theorem bk_X7_isMeasured_24 : xm_okb cX7_isMeasured 7 2 1 false 25 24 kX7_isMeasured_24 = true := by decide +kernel
def kX7_isMeasured_25 : List xm_I := [(.ireturn, 1, 0, 0, 0)]
theorem bk_X7_isMeasured_25 : xm_okb cX7_isMeasured 7 2 1 false 26 25 kX7_isMeasured_25 = true := by decide +kernel
abbrev mt_X7_measured : xm_T4 := (yX7_measured, cX7_measured, 2, (some .int))
theorem mo_X7_measured : xm_mo mt_X7_measured 7 1 0 false false := ⟨by decide +kernel, rfl, (fun h => by cases h), rfl, by decide, ⟨by decide +kernel, by decide +kernel, by decide +kernel⟩, (wq_at mw_7_5 6 rfl), (wq_at mw_7_6 28 rfl), (fun h => by cases h), (fun _ => (wq_at mw_7_5 7 rfl)), (fun _ => (wq_at mw_7_5 8 rfl))⟩
def kX7_measured_0 : List xm_I := [(.aload 0, 0, 0, 0, 0), (.sipush 0, 0, 0, 0, 0), (.putfield 0, 7, 0, 0, 0), (.aload 0, 0, 0, 0, 0), (.aload 0, 0, 0, 0, 0), (.iload 0, 1, 0, 0, 0)]
theorem bk_X7_measured_0 : xm_okb cX7_measured 7 2 0 false 8 0 kX7_measured_0 = true := by decide +kernel
def kX7_measured_11 : List xm_I := [(.sipush 0, 0, 0, 0, 1)]
theorem bk_X7_measured_11 : xm_okb cX7_measured 7 2 0 false 12 11 kX7_measured_11 = true := by decide +kernel
def kX7_measured_15 : List xm_I := [(.ifCond .eq 0, 41, 0, 0, 0), (.aload 0, 0, 0, 0, 0), (.aload 0, 0, 0, 0, 0), (.iload 0, 1, 0, 0, 0)]
theorem bk_X7_measured_15 : xm_okb cX7_measured 7 2 0 false 21 15 kX7_measured_15 = true := by decide +kernel
def kX7_measured_24 : List xm_I := [(.sipush 0, 0, 0, 0, 2)]
theorem bk_X7_measured_24 : xm_okb cX7_measured 7 2 0 false 25 24 kX7_measured_24 = true := by decide +kernel
def kX7_measured_28 : List xm_I := [(.ifCond .eq 0, 41, 0, 0, 0), (.aload 0, 0, 0, 0, 0), (.iload 0, 1, 0, 0, 0), (.sipush 0, 0, 0, 0, 14)]
theorem bk_X7_measured_28 : xm_okb cX7_measured 7 2 0 false 35 28 kX7_measured_28 = true := by decide +kernel
def kX7_measured_38 : List xm_I := [(.goto 0, 42, 0, 0, 0)]
theorem bk_X7_measured_38 : xm_okb cX7_measured 7 2 0 false 41 38 kX7_measured_38 = true := by decide +kernel
def kX7_measured_41 : List xm_I := [(.sipush 0, 0, 0, 0, 0)]
theorem bk_X7_measured_41 : xm_okb cX7_measured 7 2 0 false 42 41 kX7_measured_41 = true := by decide +kernel
def kX7_measured_42 : List xm_I := [(.ireturn, 0, 0, 0, 0)]
theorem bk_X7_measured_42 : xm_okb cX7_measured 7 2 0 false 43 42 kX7_measured_42 = true := by decide +kernel
abbrev mt_X7_sampleOf : xm_T4 := (yX7_sampleOf, cX7_sampleOf, 3, (some .int))
theorem mo_X7_sampleOf : xm_mo mt_X7_sampleOf 7 2 0 false false := ⟨by decide +kernel, rfl, (fun h => by cases h), rfl, by decide, ⟨by decide +kernel, by decide +kernel, by decide +kernel⟩, (wq_at mw_7_5 9 rfl), (wq_at mw_7_6 28 rfl), (fun h => by cases h), (fun _ => (wq_at mw_7_5 10 rfl)), (fun _ => (wq_at mw_7_5 11 rfl))⟩
def kX7_sampleOf_0 : List xm_I := [(.aload 0, 0, 0, 0, 0), (.sipush 0, 0, 0, 0, 0), (.putfield 0, 7, 0, 0, 0), (.aload 0, 0, 0, 0, 0), (.aload 0, 0, 0, 0, 0), (.iload 0, 1, 0, 0, 0)]
theorem bk_X7_sampleOf_0 : xm_okb cX7_sampleOf 7 3 0 false 8 0 kX7_sampleOf_0 = true := by decide +kernel
def kX7_sampleOf_11 : List xm_I := [(.ifCond .eq 0, 34, 0, 0, 0), (.iload 0, 2, 0, 0, 0), (.sipush 0, 0, 0, 0, 0), (.aload 0, 0, 0, 0, 0), (.iload 0, 1, 0, 0, 0), (.sipush 0, 0, 0, 0, 4)]
theorem bk_X7_sampleOf_11 : xm_okb cX7_sampleOf 7 3 0 false 19 11 kX7_sampleOf_11 = true := by decide +kernel
def kX7_sampleOf_22 : List xm_I := [(.sipush 0, 0, 0, 0, 1), (.isub, 0, 0, 0, 0)]
theorem bk_X7_sampleOf_22 : xm_okb cX7_sampleOf 7 3 0 false 24 22 kX7_sampleOf_22 = true := by decide +kernel
def kX7_sampleOf_27 : List xm_I := [(.ifCond .eq 0, 34, 0, 0, 0), (.sipush 0, 0, 0, 0, 1), (.goto 0, 35, 0, 0, 0)]
theorem bk_X7_sampleOf_27 : xm_okb cX7_sampleOf 7 3 0 false 34 27 kX7_sampleOf_27 = true := by decide +kernel
def kX7_sampleOf_34 : List xm_I := [(.sipush 0, 0, 0, 0, 0)]
theorem bk_X7_sampleOf_34 : xm_okb cX7_sampleOf 7 3 0 false 35 34 kX7_sampleOf_34 = true := by decide +kernel
def kX7_sampleOf_35 : List xm_I := [(.sipush 0, 0, 0, 0, 1)]
theorem bk_X7_sampleOf_35 : xm_okb cX7_sampleOf 7 3 0 false 36 35 kX7_sampleOf_35 = true := by decide +kernel
def kX7_sampleOf_39 : List xm_I := [(.ifCond .eq 0, 54, 0, 0, 0), (.aload 0, 0, 0, 0, 0), (.iload 0, 1, 0, 0, 0), (.sipush 0, 0, 0, 0, 16), (.iload 0, 2, 0, 0, 0), (.iadd, 0, 0, 0, 0)]
theorem bk_X7_sampleOf_39 : xm_okb cX7_sampleOf 7 3 0 false 48 39 kX7_sampleOf_39 = true := by decide +kernel
def kX7_sampleOf_51 : List xm_I := [(.goto 0, 55, 0, 0, 0)]
theorem bk_X7_sampleOf_51 : xm_okb cX7_sampleOf 7 3 0 false 54 51 kX7_sampleOf_51 = true := by decide +kernel
def kX7_sampleOf_54 : List xm_I := [(.sipush 0, 0, 0, 0, 0)]
theorem bk_X7_sampleOf_54 : xm_okb cX7_sampleOf 7 3 0 false 55 54 kX7_sampleOf_54 = true := by decide +kernel
def kX7_sampleOf_55 : List xm_I := [(.ireturn, 0, 0, 0, 0)]
theorem bk_X7_sampleOf_55 : xm_okb cX7_sampleOf 7 3 0 false 56 55 kX7_sampleOf_55 = true := by decide +kernel
abbrev mt_X7_sample : xm_T4 := (yX7_sample, cX7_sample, 2, (some .int))
theorem mo_X7_sample : xm_mo mt_X7_sample 7 1 0 false false := ⟨by decide +kernel, rfl, (fun h => by cases h), rfl, by decide, ⟨by decide +kernel, by decide +kernel, by decide +kernel⟩, (wq_at mw_7_5 12 rfl), (wq_at mw_7_6 28 rfl), (fun h => by cases h), (fun _ => (wq_at mw_7_5 13 rfl)), (fun _ => (wq_at mw_7_5 14 rfl))⟩
def kX7_sample_0 : List xm_I := [(.aload 0, 0, 0, 0, 0), (.sipush 0, 0, 0, 0, 0), (.putfield 0, 7, 0, 0, 0), (.aload 0, 0, 0, 0, 0), (.iload 0, 1, 0, 0, 0), (.sipush 0, 0, 0, 0, 0), (.sipush 0, 0, 0, 0, 59)]
theorem bk_X7_sample_0 : xm_okb cX7_sample 7 2 0 false 10 0 kX7_sample_0 = true := by decide +kernel
def kX7_sample_13 : List xm_I := [(.sipush 0, 0, 0, 0, 1)]
theorem bk_X7_sample_13 : xm_okb cX7_sample 7 2 0 false 14 13 kX7_sample_13 = true := by decide +kernel
def kX7_sample_17 : List xm_I := [(.ifCond .eq 0, 55, 0, 0, 0), (.aload 0, 0, 0, 0, 0), (.iload 0, 1, 0, 0, 0), (.aload 0, 0, 0, 0, 0), (.getfield 0, 7, 3, 2, 0), (.sipush 0, 0, 0, 0, 0), (.iaload, 0, 0, 0, 0), (.if_icmp .ge 0, 35, 0, 0, 0)]
theorem bk_X7_sample_17 : xm_okb cX7_sample 7 2 0 false 31 17 kX7_sample_17 = true := by decide +kernel
def kX7_sample_35 : List xm_I := [(.sipush 0, 0, 0, 0, 0)]
theorem bk_X7_sample_35 : xm_okb cX7_sample 7 2 0 false 36 35 kX7_sample_35 = true := by decide +kernel
def kX7_sample_36 : List xm_I := [(.sipush 0, 0, 0, 0, 2)]
theorem bk_X7_sample_36 : xm_okb cX7_sample 7 2 0 false 37 36 kX7_sample_36 = true := by decide +kernel
def kX7_sample_40 : List xm_I := [(.ifCond .eq 0, 55, 0, 0, 0), (.aload 0, 0, 0, 0, 0), (.getfield 0, 7, 3, 2, 0), (.sipush 0, 0, 0, 0, 21), (.iload 0, 1, 0, 0, 0), (.iadd, 0, 0, 0, 0), (.iaload, 0, 0, 0, 0), (.goto 0, 56, 0, 0, 0)]
theorem bk_X7_sample_40 : xm_okb cX7_sample 7 2 0 false 55 40 kX7_sample_40 = true := by decide +kernel
def kX7_sample_55 : List xm_I := [(.sipush 0, 0, 0, 0, 0)]
theorem bk_X7_sample_55 : xm_okb cX7_sample 7 2 0 false 56 55 kX7_sample_55 = true := by decide +kernel
def kX7_sample_56 : List xm_I := [(.ireturn, 0, 0, 0, 0)]
theorem bk_X7_sample_56 : xm_okb cX7_sample 7 2 0 false 57 56 kX7_sample_56 = true := by decide +kernel
def kX7_sample_31 : List xm_I := [(.sipush 0, 0, 0, 0, 1), (.goto 0, 36, 0, 0, 0)]
theorem bk_X7_sample_31 : xm_okb cX7_sample 7 2 0 false 35 31 kX7_sample_31 = true := by decide +kernel
abbrev mt_X7_count : xm_T4 := (yX7_count, cX7_count, 2, (some .int))
theorem mo_X7_count : xm_mo mt_X7_count 7 1 0 false false := ⟨by decide +kernel, rfl, (fun h => by cases h), rfl, by decide, ⟨by decide +kernel, by decide +kernel, by decide +kernel⟩, (wq_at mw_7_5 15 rfl), (wq_at mw_7_6 28 rfl), (fun h => by cases h), (fun _ => (wq_at mw_7_5 16 rfl)), (fun _ => (wq_at mw_7_5 17 rfl))⟩
def kX7_count_0 : List xm_I := [(.aload 0, 0, 0, 0, 0), (.sipush 0, 0, 0, 0, 0), (.putfield 0, 7, 0, 0, 0), (.aload 0, 0, 0, 0, 0), (.iload 0, 1, 0, 0, 0), (.sipush 0, 0, 0, 0, 0), (.sipush 0, 0, 0, 0, 5)]
theorem bk_X7_count_0 : xm_okb cX7_count 7 2 0 false 9 0 kX7_count_0 = true := by decide +kernel
def kX7_count_12 : List xm_I := [(.sipush 0, 0, 0, 0, 1)]
theorem bk_X7_count_12 : xm_okb cX7_count 7 2 0 false 13 12 kX7_count_12 = true := by decide +kernel
def kX7_count_16 : List xm_I := [(.ifCond .eq 0, 27, 0, 0, 0), (.aload 0, 0, 0, 0, 0), (.iload 0, 1, 0, 0, 0)]
theorem bk_X7_count_16 : xm_okb cX7_count 7 2 0 false 21 16 kX7_count_16 = true := by decide +kernel
def kX7_count_24 : List xm_I := [(.goto 0, 28, 0, 0, 0)]
theorem bk_X7_count_24 : xm_okb cX7_count 7 2 0 false 27 24 kX7_count_24 = true := by decide +kernel
def kX7_count_27 : List xm_I := [(.sipush 0, 0, 0, 0, 0)]
theorem bk_X7_count_27 : xm_okb cX7_count 7 2 0 false 28 27 kX7_count_27 = true := by decide +kernel
def kX7_count_28 : List xm_I := [(.ireturn, 0, 0, 0, 0)]
theorem bk_X7_count_28 : xm_okb cX7_count 7 2 0 false 29 28 kX7_count_28 = true := by decide +kernel
abbrev mt_X7_decided : xm_T4 := (yX7_decided, cX7_decided, 4, (some .int))
theorem mo_X7_decided : xm_mo mt_X7_decided 7 1 0 false false := ⟨by decide +kernel, rfl, (fun h => by cases h), rfl, by decide, ⟨by decide +kernel, by decide +kernel, by decide +kernel⟩, (wq_at mw_7_5 18 rfl), (wq_at mw_7_6 28 rfl), (fun h => by cases h), (fun _ => (wq_at mw_7_5 19 rfl)), (fun _ => (wq_at mw_7_5 20 rfl))⟩
def kX7_decided_0 : List xm_I := [(.aload 0, 0, 0, 0, 0), (.sipush 0, 0, 0, 0, 0), (.putfield 0, 7, 0, 0, 0), (.aload 0, 0, 0, 0, 0), (.iload 0, 1, 0, 0, 0), (.sipush 0, 0, 0, 0, 0), (.sipush 0, 0, 0, 0, 3)]
theorem bk_X7_decided_0 : xm_okb cX7_decided 7 4 0 false 9 0 kX7_decided_0 = true := by decide +kernel
def kX7_decided_12 : List xm_I := [(.sipush 0, 0, 0, 0, 1)]
theorem bk_X7_decided_12 : xm_okb cX7_decided 7 4 0 false 13 12 kX7_decided_12 = true := by decide +kernel
def kX7_decided_16 : List xm_I := [(.ifCond .ne 0, 21, 0, 0, 0), (.sipush 0, 0, 0, 0, 0), (.ireturn, 0, 0, 0, 0)]
theorem bk_X7_decided_16 : xm_okb cX7_decided 7 4 0 false 21 16 kX7_decided_16 = true := by decide +kernel
def kX7_decided_21 : List xm_I := [(.sipush 0, 0, 0, 0, 0), (.istore 0, 2, 0, 0, 0), (.sipush 0, 0, 0, 0, 0), (.istore 0, 3, 0, 0, 0)]
theorem bk_X7_decided_21 : xm_okb cX7_decided 7 4 0 false 25 21 kX7_decided_21 = true := by decide +kernel
def kX7_decided_25 : List xm_I := [(.iload 0, 3, 0, 0, 0), (.aload 0, 0, 0, 0, 0), (.getfield 0, 7, 3, 2, 0), (.sipush 0, 0, 0, 0, 2), (.iaload, 0, 0, 0, 0), (.if_icmp .ge 0, 60, 0, 0, 0), (.iload 0, 2, 0, 0, 0), (.aload 0, 0, 0, 0, 0)]
theorem bk_X7_decided_25 : xm_okb cX7_decided 7 4 0 false 37 25 kX7_decided_25 = true := by decide +kernel
def kX7_decided_43 : List xm_I := [(.iload 0, 1, 0, 0, 0), (.if_icmp .ne 0, 51, 0, 0, 0), (.sipush 0, 0, 0, 0, 1), (.goto 0, 52, 0, 0, 0)]
theorem bk_X7_decided_43 : xm_okb cX7_decided 7 4 0 false 51 43 kX7_decided_43 = true := by decide +kernel
def kX7_decided_51 : List xm_I := [(.sipush 0, 0, 0, 0, 0)]
theorem bk_X7_decided_51 : xm_okb cX7_decided 7 4 0 false 52 51 kX7_decided_51 = true := by decide +kernel
def kX7_decided_52 : List xm_I := [(.iadd, 0, 0, 0, 0), (.istore 0, 2, 0, 0, 0), (.iinc 0 0, 3, 0, 0, 1), (.goto 0, 25, 0, 0, 0)]
theorem bk_X7_decided_52 : xm_okb cX7_decided 7 4 0 false 60 52 kX7_decided_52 = true := by decide +kernel
def kX7_decided_60 : List xm_I := [(.iload 0, 2, 0, 0, 0), (.ireturn, 0, 0, 0, 0)]
theorem bk_X7_decided_60 : xm_okb cX7_decided 7 4 0 false 62 60 kX7_decided_60 = true := by decide +kernel
def kX7_decided_37 : List xm_I := [(.iload 0, 3, 0, 0, 0), (.sipush 0, 0, 0, 0, 6)]
theorem bk_X7_decided_37 : xm_okb cX7_decided 7 4 0 false 40 37 kX7_decided_37 = true := by decide +kernel
abbrev mt_X7_meanGood : xm_T4 := (yX7_meanGood, cX7_meanGood, 4, (some .double))
theorem mo_X7_meanGood : xm_mo mt_X7_meanGood 7 0 4 false false := ⟨by decide +kernel, rfl, (fun h => by cases h), rfl, by decide, ⟨by decide +kernel, by decide +kernel, by decide +kernel⟩, (wq_at mw_7_5 21 rfl), (wq_at mw_7_6 28 rfl), (fun h => by cases h), (fun _ => (wq_at mw_7_5 22 rfl)), (fun _ => (wq_at mw_7_5 23 rfl))⟩
def kX7_meanGood_0 : List xm_I := [(.aload 0, 0, 0, 0, 0), (.sipush 0, 0, 0, 0, 0), (.putfield 0, 7, 0, 0, 0), (.sipush 0, 0, 0, 0, 0), (.istore 0, 1, 0, 0, 0), (.sipush 0, 0, 0, 0, 0), (.istore 0, 2, 0, 0, 0), (.sipush 0, 0, 0, 0, 0)]
theorem bk_X7_meanGood_0 : xm_okb cX7_meanGood 7 4 4 false 10 0 kX7_meanGood_0 = true := by decide +kernel
def kX7_meanGood_11 : List xm_I := [(.iload 0, 3, 0, 0, 0), (.aload 0, 0, 0, 0, 0), (.getfield 0, 7, 3, 2, 0), (.sipush 0, 0, 0, 0, 2), (.iaload, 0, 0, 0, 0), (.if_icmp .ge 0, 54, 0, 0, 0), (.aload 0, 0, 0, 0, 0), (.iload 0, 3, 0, 0, 0)]
theorem bk_X7_meanGood_11 : xm_okb cX7_meanGood 7 4 4 false 23 11 kX7_meanGood_11 = true := by decide +kernel
def kX7_meanGood_28 : List xm_I := [(.sipush 0, 0, 0, 0, 1), (.if_icmp .eq 0, 35, 0, 0, 0), (.goto 0, 48, 0, 0, 0)]
theorem bk_X7_meanGood_28 : xm_okb cX7_meanGood 7 4 4 false 35 28 kX7_meanGood_28 = true := by decide +kernel
def kX7_meanGood_35 : List xm_I := [(.iinc 0 0, 1, 0, 0, 1), (.iload 0, 2, 0, 0, 0), (.aload 0, 0, 0, 0, 0), (.iload 0, 3, 0, 0, 0), (.sipush 0, 0, 0, 0, 14)]
theorem bk_X7_meanGood_35 : xm_okb cX7_meanGood 7 4 4 false 43 35 kX7_meanGood_35 = true := by decide +kernel
def kX7_meanGood_46 : List xm_I := [(.iadd, 0, 0, 0, 0), (.istore 0, 2, 0, 0, 0)]
theorem bk_X7_meanGood_46 : xm_okb cX7_meanGood 7 4 4 false 48 46 kX7_meanGood_46 = true := by decide +kernel
def kX7_meanGood_48 : List xm_I := [(.iinc 0 0, 3, 0, 0, 1), (.goto 0, 11, 0, 0, 0)]
theorem bk_X7_meanGood_48 : xm_okb cX7_meanGood 7 4 4 false 54 48 kX7_meanGood_48 = true := by decide +kernel
def kX7_meanGood_54 : List xm_I := [(.aload 0, 0, 0, 0, 0), (.iload 0, 1, 0, 0, 0), (.ifCond .le 0, 63, 0, 0, 0), (.sipush 0, 0, 0, 0, 1), (.goto 0, 64, 0, 0, 0)]
theorem bk_X7_meanGood_54 : xm_okb cX7_meanGood 7 4 4 false 63 54 kX7_meanGood_54 = true := by decide +kernel
def kX7_meanGood_63 : List xm_I := [(.sipush 0, 0, 0, 0, 0)]
theorem bk_X7_meanGood_63 : xm_okb cX7_meanGood 7 4 4 false 64 63 kX7_meanGood_63 = true := by decide +kernel
def kX7_meanGood_64 : List xm_I := [(.sipush 0, 0, 0, 0, 1)]
theorem bk_X7_meanGood_64 : xm_okb cX7_meanGood 7 4 4 false 65 64 kX7_meanGood_64 = true := by decide +kernel
def kX7_meanGood_68 : List xm_I := [(.ifCond .eq 0, 79, 0, 0, 0), (.iload 0, 2, 0, 0, 0), (.i2d, 0, 0, 0, 0), (.iload 0, 1, 0, 0, 0), (.i2d, 0, 0, 0, 0)]
theorem bk_X7_meanGood_68 : xm_okb cX7_meanGood 7 4 4 false 75 68 kX7_meanGood_68 = true := by decide +kernel
def kX7_meanGood_76 : List xm_I := [(.goto 0, 80, 0, 0, 0)]
theorem bk_X7_meanGood_76 : xm_okb cX7_meanGood 7 4 4 false 79 76 kX7_meanGood_76 = true := by decide +kernel
def kX7_meanGood_80 : List xm_I := [(.ireturn, 4, 0, 0, 0)]
theorem bk_X7_meanGood_80 : xm_okb cX7_meanGood 7 4 4 false 81 80 kX7_meanGood_80 = true := by decide +kernel
def kX7_meanGood_10 : List xm_I := [(.istore 0, 3, 0, 0, 0)]
theorem bk_X7_meanGood_10 : xm_okb cX7_meanGood 7 4 4 false 11 10 kX7_meanGood_10 = true := by decide +kernel
def kX7_meanGood_23 : List xm_I := [(.sipush 0, 0, 0, 0, 6)]
theorem bk_X7_meanGood_23 : xm_okb cX7_meanGood 7 4 4 false 25 23 kX7_meanGood_23 = true := by decide +kernel
abbrev mt_X7_meanError : xm_T4 := (yX7_meanError, cX7_meanError, 5, (some .double))
theorem mo_X7_meanError : xm_mo mt_X7_meanError 7 0 4 false false := ⟨by decide +kernel, rfl, (fun h => by cases h), rfl, by decide, ⟨by decide +kernel, by decide +kernel, by decide +kernel⟩, (wq_at mw_7_5 24 rfl), (wq_at mw_7_6 28 rfl), (fun h => by cases h), (fun _ => (wq_at mw_7_5 25 rfl)), (fun _ => (wq_at mw_7_5 26 rfl))⟩
def kX7_meanError_0 : List xm_I := [(.aload 0, 0, 0, 0, 0), (.sipush 0, 0, 0, 0, 0), (.putfield 0, 7, 0, 0, 0), (.sipush 0, 0, 0, 0, 0), (.istore 0, 1, 0, 0, 0), (.sipush 0, 0, 0, 0, 0), (.istore 0, 2, 0, 0, 0), (.sipush 0, 0, 0, 0, 0)]
theorem bk_X7_meanError_0 : xm_okb cX7_meanError 7 5 4 false 10 0 kX7_meanError_0 = true := by decide +kernel
def kX7_meanError_11 : List xm_I := [(.iload 0, 3, 0, 0, 0), (.aload 0, 0, 0, 0, 0), (.getfield 0, 7, 3, 2, 0), (.sipush 0, 0, 0, 0, 2), (.iaload, 0, 0, 0, 0), (.if_icmp .ge 0, 73, 0, 0, 0), (.aload 0, 0, 0, 0, 0), (.iload 0, 3, 0, 0, 0)]
theorem bk_X7_meanError_11 : xm_okb cX7_meanError 7 5 4 false 23 11 kX7_meanError_11 = true := by decide +kernel
def kX7_meanError_26 : List xm_I := [(.ifCond .ne 0, 32, 0, 0, 0), (.goto 0, 67, 0, 0, 0)]
theorem bk_X7_meanError_26 : xm_okb cX7_meanError 7 5 4 false 32 26 kX7_meanError_26 = true := by decide +kernel
def kX7_meanError_32 : List xm_I := [(.aload 0, 0, 0, 0, 0), (.iload 0, 3, 0, 0, 0), (.sipush 0, 0, 0, 0, 14)]
theorem bk_X7_meanError_32 : xm_okb cX7_meanError 7 5 4 false 36 32 kX7_meanError_32 = true := by decide +kernel
def kX7_meanError_39 : List xm_I := [(.aload 0, 0, 0, 0, 0), (.iload 0, 3, 0, 0, 0), (.sipush 0, 0, 0, 0, 0)]
theorem bk_X7_meanError_39 : xm_okb cX7_meanError 7 5 4 false 42 39 kX7_meanError_39 = true := by decide +kernel
def kX7_meanError_45 : List xm_I := [(.isub, 0, 0, 0, 0), (.istore 0, 4, 0, 0, 0), (.iinc 0 0, 1, 0, 0, 1), (.iload 0, 2, 0, 0, 0), (.iload 0, 4, 0, 0, 0), (.ifCond .ge 0, 63, 0, 0, 0), (.iload 0, 4, 0, 0, 0), (.ineg, 0, 0, 0, 0)]
theorem bk_X7_meanError_45 : xm_okb cX7_meanError 7 5 4 false 60 45 kX7_meanError_45 = true := by decide +kernel
def kX7_meanError_63 : List xm_I := [(.iload 0, 4, 0, 0, 0)]
theorem bk_X7_meanError_63 : xm_okb cX7_meanError 7 5 4 false 65 63 kX7_meanError_63 = true := by decide +kernel
def kX7_meanError_65 : List xm_I := [(.iadd, 0, 0, 0, 0), (.istore 0, 2, 0, 0, 0)]
theorem bk_X7_meanError_65 : xm_okb cX7_meanError 7 5 4 false 67 65 kX7_meanError_65 = true := by decide +kernel
def kX7_meanError_67 : List xm_I := [(.iinc 0 0, 3, 0, 0, 1), (.goto 0, 11, 0, 0, 0)]
theorem bk_X7_meanError_67 : xm_okb cX7_meanError 7 5 4 false 73 67 kX7_meanError_67 = true := by decide +kernel
def kX7_meanError_73 : List xm_I := [(.aload 0, 0, 0, 0, 0), (.iload 0, 1, 0, 0, 0), (.ifCond .le 0, 82, 0, 0, 0), (.sipush 0, 0, 0, 0, 1), (.goto 0, 83, 0, 0, 0)]
theorem bk_X7_meanError_73 : xm_okb cX7_meanError 7 5 4 false 82 73 kX7_meanError_73 = true := by decide +kernel
def kX7_meanError_82 : List xm_I := [(.sipush 0, 0, 0, 0, 0)]
theorem bk_X7_meanError_82 : xm_okb cX7_meanError 7 5 4 false 83 82 kX7_meanError_82 = true := by decide +kernel
def kX7_meanError_83 : List xm_I := [(.sipush 0, 0, 0, 0, 1)]
theorem bk_X7_meanError_83 : xm_okb cX7_meanError 7 5 4 false 84 83 kX7_meanError_83 = true := by decide +kernel
def kX7_meanError_87 : List xm_I := [(.ifCond .eq 0, 98, 0, 0, 0), (.iload 0, 2, 0, 0, 0), (.i2d, 0, 0, 0, 0), (.iload 0, 1, 0, 0, 0), (.i2d, 0, 0, 0, 0)]
theorem bk_X7_meanError_87 : xm_okb cX7_meanError 7 5 4 false 94 87 kX7_meanError_87 = true := by decide +kernel
def kX7_meanError_95 : List xm_I := [(.goto 0, 99, 0, 0, 0)]
theorem bk_X7_meanError_95 : xm_okb cX7_meanError 7 5 4 false 98 95 kX7_meanError_95 = true := by decide +kernel
def kX7_meanError_99 : List xm_I := [(.ireturn, 4, 0, 0, 0)]
theorem bk_X7_meanError_99 : xm_okb cX7_meanError 7 5 4 false 100 99 kX7_meanError_99 = true := by decide +kernel
def kX7_meanError_10 : List xm_I := [(.istore 0, 3, 0, 0, 0)]
theorem bk_X7_meanError_10 : xm_okb cX7_meanError 7 5 4 false 11 10 kX7_meanError_10 = true := by decide +kernel
def kX7_meanError_60 : List xm_I := [(.goto 0, 65, 0, 0, 0)]
theorem bk_X7_meanError_60 : xm_okb cX7_meanError 7 5 4 false 63 60 kX7_meanError_60 = true := by decide +kernel
abbrev mt_X7_vibration : xm_T4 := (yX7_vibration, cX7_vibration, 2, (some .int))
theorem mo_X7_vibration : xm_mo mt_X7_vibration 7 1 0 false false := ⟨by decide +kernel, rfl, (fun h => by cases h), rfl, by decide, ⟨by decide +kernel, by decide +kernel, by decide +kernel⟩, (wq_at mw_7_5 27 rfl), (wq_at mw_7_6 28 rfl), (fun h => by cases h), (fun _ => (wq_at mw_7_5 28 rfl)), (fun _ => (wq_at mw_7_5 29 rfl))⟩
def kX7_vibration_0 : List xm_I := [(.aload 0, 0, 0, 0, 0), (.sipush 0, 0, 0, 0, 0), (.putfield 0, 7, 0, 0, 0), (.aload 0, 0, 0, 0, 0), (.iload 0, 1, 0, 0, 0), (.sipush 0, 0, 0, 0, 0), (.sipush 0, 0, 0, 0, 20000)]
theorem bk_X7_vibration_0 : xm_okb cX7_vibration 7 2 0 false 11 0 kX7_vibration_0 = true := by decide +kernel
def kX7_vibration_14 : List xm_I := [(.sipush 0, 0, 0, 0, 1)]
theorem bk_X7_vibration_14 : xm_okb cX7_vibration 7 2 0 false 15 14 kX7_vibration_14 = true := by decide +kernel
def kX7_vibration_18 : List xm_I := [(.ifCond .eq 0, 29, 0, 0, 0), (.aload 0, 0, 0, 0, 0), (.iload 0, 1, 0, 0, 0)]
theorem bk_X7_vibration_18 : xm_okb cX7_vibration 7 2 0 false 23 18 kX7_vibration_18 = true := by decide +kernel
def kX7_vibration_26 : List xm_I := [(.goto 0, 30, 0, 0, 0)]
theorem bk_X7_vibration_26 : xm_okb cX7_vibration 7 2 0 false 29 26 kX7_vibration_26 = true := by decide +kernel
def kX7_vibration_29 : List xm_I := [(.sipush 0, 0, 0, 0, 0)]
theorem bk_X7_vibration_29 : xm_okb cX7_vibration 7 2 0 false 30 29 kX7_vibration_29 = true := by decide +kernel
def kX7_vibration_30 : List xm_I := [(.ireturn, 0, 0, 0, 0)]
theorem bk_X7_vibration_30 : xm_okb cX7_vibration 7 2 0 false 31 30 kX7_vibration_30 = true := by decide +kernel
abbrev mt_X7_laysSwings : xm_T4 := (yX7_laysSwings, cX7_laysSwings, 2, none)
theorem mo_X7_laysSwings : xm_mo mt_X7_laysSwings 7 0 3 false false := ⟨by decide +kernel, rfl, (fun h => by cases h), rfl, by decide, ⟨by decide +kernel, by decide +kernel, by decide +kernel⟩, (wq_at mw_7_5 30 rfl), (wq_at mw_7_6 28 rfl), (fun h => by cases h), (fun _ => (wq_at mw_7_5 31 rfl)), (fun _ => (wq_at mw_7_5 32 rfl))⟩
def kX7_laysSwings_0 : List xm_I := [(.sipush 0, 0, 0, 0, 0), (.istore 0, 1, 0, 0, 0)]
theorem bk_X7_laysSwings_0 : xm_okb cX7_laysSwings 7 2 3 false 2 0 kX7_laysSwings_0 = true := by decide +kernel
def kX7_laysSwings_2 : List xm_I := [(.iload 0, 1, 0, 0, 0), (.sipush 0, 0, 0, 0, 1740), (.if_icmp .ge 0, 26, 0, 0, 0), (.aload 0, 0, 0, 0, 0), (.getfield 0, 7, 14, 2, 0), (.iload 0, 1, 0, 0, 0), (.aload 0, 0, 0, 0, 0), (.iload 0, 1, 0, 0, 0)]
theorem bk_X7_laysSwings_2 : xm_okb cX7_laysSwings 7 2 3 false 16 2 kX7_laysSwings_2 = true := by decide +kernel
def kX7_laysSwings_19 : List xm_I := [(.iastore, 0, 0, 0, 0), (.iinc 0 0, 1, 0, 0, 1), (.goto 0, 2, 0, 0, 0)]
theorem bk_X7_laysSwings_19 : xm_okb cX7_laysSwings 7 2 3 false 26 19 kX7_laysSwings_19 = true := by decide +kernel
def kX7_laysSwings_26 : List xm_I := [(.return_, 0, 0, 0, 0)]
theorem bk_X7_laysSwings_26 : xm_okb cX7_laysSwings 7 2 3 false 27 26 kX7_laysSwings_26 = true := by decide +kernel
abbrev mt_X7_worstOf : xm_T4 := (yX7_worstOf, cX7_worstOf, 5, (some .int))
theorem mo_X7_worstOf : xm_mo mt_X7_worstOf 7 1 0 false false := ⟨by decide +kernel, rfl, (fun h => by cases h), rfl, by decide, ⟨by decide +kernel, by decide +kernel, by decide +kernel⟩, (wq_at mw_7_5 33 rfl), (wq_at mw_7_6 28 rfl), (fun h => by cases h), (fun _ => (wq_at mw_7_5 34 rfl)), (fun _ => (wq_at mw_7_5 35 rfl))⟩
def kX7_worstOf_0 : List xm_I := [(.sipush 0, 0, 0, 0, 0), (.istore 0, 2, 0, 0, 0), (.sipush 0, 0, 0, 0, 0), (.istore 0, 3, 0, 0, 0)]
theorem bk_X7_worstOf_0 : xm_okb cX7_worstOf 7 5 0 false 4 0 kX7_worstOf_0 = true := by decide +kernel
def kX7_worstOf_4 : List xm_I := [(.iload 0, 3, 0, 0, 0), (.iload 0, 1, 0, 0, 0), (.if_icmp .ge 0, 24, 0, 0, 0), (.iload 0, 2, 0, 0, 0), (.aload 0, 0, 0, 0, 0), (.getfield 0, 7, 14, 2, 0), (.iload 0, 3, 0, 0, 0), (.iaload, 0, 0, 0, 0)]
theorem bk_X7_worstOf_4 : xm_okb cX7_worstOf 7 5 0 false 16 4 kX7_worstOf_4 = true := by decide +kernel
def kX7_worstOf_24 : List xm_I := [(.sipush 0, 0, 0, 0, 0), (.istore 0, 3, 0, 0, 0), (.sipush 0, 0, 0, 0, 0), (.istore 0, 4, 0, 0, 0)]
theorem bk_X7_worstOf_24 : xm_okb cX7_worstOf 7 5 0 false 29 24 kX7_worstOf_24 = true := by decide +kernel
def kX7_worstOf_29 : List xm_I := [(.iload 0, 4, 0, 0, 0), (.sipush 0, 0, 0, 0, 1680), (.if_icmp .ge 0, 78, 0, 0, 0), (.iload 0, 3, 0, 0, 0), (.iload 0, 2, 0, 0, 0), (.ifCond .ge 0, 47, 0, 0, 0), (.iload 0, 2, 0, 0, 0), (.ineg, 0, 0, 0, 0)]
theorem bk_X7_worstOf_29 : xm_okb cX7_worstOf 7 5 0 false 44 29 kX7_worstOf_29 = true := by decide +kernel
def kX7_worstOf_47 : List xm_I := [(.iload 0, 2, 0, 0, 0)]
theorem bk_X7_worstOf_47 : xm_okb cX7_worstOf 7 5 0 false 48 47 kX7_worstOf_47 = true := by decide +kernel
def kX7_worstOf_51 : List xm_I := [(.istore 0, 3, 0, 0, 0), (.iload 0, 2, 0, 0, 0), (.aload 0, 0, 0, 0, 0), (.getfield 0, 7, 14, 2, 0), (.iload 0, 4, 0, 0, 0), (.iload 0, 1, 0, 0, 0), (.iadd, 0, 0, 0, 0), (.iaload, 0, 0, 0, 0)]
theorem bk_X7_worstOf_51 : xm_okb cX7_worstOf 7 5 0 false 62 51 kX7_worstOf_51 = true := by decide +kernel
def kX7_worstOf_78 : List xm_I := [(.iload 0, 3, 0, 0, 0), (.ireturn, 0, 0, 0, 0)]
theorem bk_X7_worstOf_78 : xm_okb cX7_worstOf 7 5 0 false 80 78 kX7_worstOf_78 = true := by decide +kernel
def kX7_worstOf_16 : List xm_I := [(.iadd, 0, 0, 0, 0), (.istore 0, 2, 0, 0, 0), (.iinc 0 0, 3, 0, 0, 1), (.goto 0, 4, 0, 0, 0)]
theorem bk_X7_worstOf_16 : xm_okb cX7_worstOf 7 5 0 false 24 16 kX7_worstOf_16 = true := by decide +kernel
def kX7_worstOf_44 : List xm_I := [(.goto 0, 48, 0, 0, 0)]
theorem bk_X7_worstOf_44 : xm_okb cX7_worstOf 7 5 0 false 47 44 kX7_worstOf_44 = true := by decide +kernel
def kX7_worstOf_62 : List xm_I := [(.aload 0, 0, 0, 0, 0), (.getfield 0, 7, 14, 2, 0), (.iload 0, 4, 0, 0, 0), (.iaload, 0, 0, 0, 0), (.isub, 0, 0, 0, 0), (.iadd, 0, 0, 0, 0), (.istore 0, 2, 0, 0, 0), (.iinc 0 0, 4, 0, 0, 1)]
theorem bk_X7_worstOf_62 : xm_okb cX7_worstOf 7 5 0 false 75 62 kX7_worstOf_62 = true := by decide +kernel
def kX7_worstOf_75 : List xm_I := [(.goto 0, 29, 0, 0, 0)]
theorem bk_X7_worstOf_75 : xm_okb cX7_worstOf 7 5 0 false 78 75 kX7_worstOf_75 = true := by decide +kernel
abbrev mt_X7_common : xm_T4 := (yX7_common, cX7_common, 5, (some .int))
theorem mo_X7_common : xm_mo mt_X7_common 7 2 0 false true := ⟨by decide +kernel, rfl, (fun h => by cases h), rfl, by decide, ⟨by decide +kernel, by decide +kernel, by decide +kernel⟩, (wq_at mw_7_5 36 rfl), (wq_at mw_7_6 28 rfl), (fun _ => (wq_at mw_7_5 37 rfl)), (fun h => by cases h), (fun h => by cases h.1)⟩
def kX7_common_0 : List xm_I := [(.iload 0, 0, 0, 0, 0), (.istore 0, 2, 0, 0, 0), (.iload 0, 1, 0, 0, 0), (.istore 0, 3, 0, 0, 0)]
theorem bk_X7_common_0 : xm_okb cX7_common 7 5 0 false 4 0 kX7_common_0 = true := by decide +kernel
def kX7_common_4 : List xm_I := [(.iload 0, 3, 0, 0, 0), (.ifCond .eq 0, 21, 0, 0, 0), (.iload 0, 2, 0, 0, 0), (.iload 0, 3, 0, 0, 0), (.irem, 0, 0, 0, 0), (.istore 0, 4, 0, 0, 0), (.iload 0, 3, 0, 0, 0), (.istore 0, 2, 0, 0, 0)]
theorem bk_X7_common_4 : xm_okb cX7_common 7 5 0 false 15 4 kX7_common_4 = true := by decide +kernel
def kX7_common_21 : List xm_I := [(.iload 0, 2, 0, 0, 0), (.ireturn, 0, 0, 0, 0)]
theorem bk_X7_common_21 : xm_okb cX7_common 7 5 0 false 23 21 kX7_common_21 = true := by decide +kernel
def kX7_common_15 : List xm_I := [(.iload 0, 4, 0, 0, 0), (.istore 0, 3, 0, 0, 0), (.goto 0, 4, 0, 0, 0)]
theorem bk_X7_common_15 : xm_okb cX7_common 7 5 0 false 21 15 kX7_common_15 = true := by decide +kernel
abbrev mt_X7_residue : xm_T4 := (yX7_residue, cX7_residue, 4, (some .int))
theorem mo_X7_residue : xm_mo mt_X7_residue 7 2 0 false false := ⟨by decide +kernel, rfl, (fun h => by cases h), rfl, by decide, ⟨by decide +kernel, by decide +kernel, by decide +kernel⟩, (wq_at mw_7_5 38 rfl), (wq_at mw_7_6 28 rfl), (fun h => by cases h), (fun _ => (wq_at mw_7_5 39 rfl)), (fun _ => (wq_at mw_7_6 0 rfl))⟩
def kX7_residue_0 : List xm_I := [(.aload 0, 0, 0, 0, 0), (.sipush 0, 0, 0, 0, 0), (.putfield 0, 7, 0, 0, 0), (.aload 0, 0, 0, 0, 0), (.iload 0, 1, 0, 0, 0), (.sipush 0, 0, 0, 0, 1), (.sipush 0, 0, 0, 0, 60)]
theorem bk_X7_residue_0 : xm_okb cX7_residue 7 4 0 false 10 0 kX7_residue_0 = true := by decide +kernel
def kX7_residue_13 : List xm_I := [(.ifCond .eq 0, 29, 0, 0, 0), (.iload 0, 2, 0, 0, 0), (.sipush 0, 0, 0, 0, 0), (.sipush 0, 0, 0, 0, 1)]
theorem bk_X7_residue_13 : xm_okb cX7_residue 7 4 0 false 19 13 kX7_residue_13 = true := by decide +kernel
def kX7_residue_22 : List xm_I := [(.ifCond .eq 0, 29, 0, 0, 0), (.sipush 0, 0, 0, 0, 1), (.goto 0, 30, 0, 0, 0)]
theorem bk_X7_residue_22 : xm_okb cX7_residue 7 4 0 false 29 22 kX7_residue_22 = true := by decide +kernel
def kX7_residue_29 : List xm_I := [(.sipush 0, 0, 0, 0, 0)]
theorem bk_X7_residue_29 : xm_okb cX7_residue 7 4 0 false 30 29 kX7_residue_29 = true := by decide +kernel
def kX7_residue_30 : List xm_I := [(.sipush 0, 0, 0, 0, 1)]
theorem bk_X7_residue_30 : xm_okb cX7_residue 7 4 0 false 31 30 kX7_residue_30 = true := by decide +kernel
def kX7_residue_34 : List xm_I := [(.ifCond .ne 0, 39, 0, 0, 0), (.sipush 0, 0, 0, 0, 0), (.ireturn, 0, 0, 0, 0)]
theorem bk_X7_residue_34 : xm_okb cX7_residue 7 4 0 false 39 34 kX7_residue_34 = true := by decide +kernel
def kX7_residue_39 : List xm_I := [(.aload 0, 0, 0, 0, 0)]
theorem bk_X7_residue_39 : xm_okb cX7_residue 7 4 0 false 40 39 kX7_residue_39 = true := by decide +kernel
def kX7_residue_43 : List xm_I := [(.aload 0, 0, 0, 0, 0), (.iload 0, 1, 0, 0, 0)]
theorem bk_X7_residue_43 : xm_okb cX7_residue 7 4 0 false 45 43 kX7_residue_43 = true := by decide +kernel
def kX7_residue_48 : List xm_I := [(.istore 0, 3, 0, 0, 0), (.iload 0, 2, 0, 0, 0), (.ifCond .ne 0, 57, 0, 0, 0), (.iload 0, 3, 0, 0, 0), (.goto 0, 58, 0, 0, 0)]
theorem bk_X7_residue_48 : xm_okb cX7_residue 7 4 0 false 57 48 kX7_residue_48 = true := by decide +kernel
def kX7_residue_57 : List xm_I := [(.iload 0, 1, 0, 0, 0)]
theorem bk_X7_residue_57 : xm_okb cX7_residue 7 4 0 false 58 57 kX7_residue_57 = true := by decide +kernel
def kX7_residue_58 : List xm_I := [(.iload 0, 3, 0, 0, 0), (.iload 0, 1, 0, 0, 0)]
theorem bk_X7_residue_58 : xm_okb cX7_residue 7 4 0 false 60 58 kX7_residue_58 = true := by decide +kernel
def kX7_residue_63 : List xm_I := [(.idiv, 0, 0, 0, 0), (.ireturn, 0, 0, 0, 0)]
theorem bk_X7_residue_63 : xm_okb cX7_residue 7 4 0 false 65 63 kX7_residue_63 = true := by decide +kernel
abbrev mt_X7_bestWindow : xm_T4 := (yX7_bestWindow, cX7_bestWindow, 6, (some .int))
theorem mo_X7_bestWindow : xm_mo mt_X7_bestWindow 7 1 0 false false := ⟨by decide +kernel, rfl, (fun h => by cases h), rfl, by decide, ⟨by decide +kernel, by decide +kernel, by decide +kernel⟩, (wq_at mw_7_6 1 rfl), (wq_at mw_7_6 28 rfl), (fun h => by cases h), (fun _ => (wq_at mw_7_6 2 rfl)), (fun _ => (wq_at mw_7_6 3 rfl))⟩
def kX7_bestWindow_0 : List xm_I := [(.aload 0, 0, 0, 0, 0), (.sipush 0, 0, 0, 0, 0), (.putfield 0, 7, 0, 0, 0), (.aload 0, 0, 0, 0, 0), (.iload 0, 1, 0, 0, 0), (.sipush 0, 0, 0, 0, 1), (.sipush 0, 0, 0, 0, 60)]
theorem bk_X7_bestWindow_0 : xm_okb cX7_bestWindow 7 6 0 false 10 0 kX7_bestWindow_0 = true := by decide +kernel
def kX7_bestWindow_13 : List xm_I := [(.sipush 0, 0, 0, 0, 1)]
theorem bk_X7_bestWindow_13 : xm_okb cX7_bestWindow 7 6 0 false 14 13 kX7_bestWindow_13 = true := by decide +kernel
def kX7_bestWindow_17 : List xm_I := [(.ifCond .ne 0, 22, 0, 0, 0), (.sipush 0, 0, 0, 0, 0), (.ireturn, 0, 0, 0, 0)]
theorem bk_X7_bestWindow_17 : xm_okb cX7_bestWindow 7 6 0 false 22 17 kX7_bestWindow_17 = true := by decide +kernel
def kX7_bestWindow_22 : List xm_I := [(.aload 0, 0, 0, 0, 0)]
theorem bk_X7_bestWindow_22 : xm_okb cX7_bestWindow 7 6 0 false 23 22 kX7_bestWindow_22 = true := by decide +kernel
def kX7_bestWindow_26 : List xm_I := [(.sipush 0, 0, 0, 0, 1), (.istore 0, 2, 0, 0, 0), (.aload 0, 0, 0, 0, 0), (.sipush 0, 0, 0, 0, 1)]
theorem bk_X7_bestWindow_26 : xm_okb cX7_bestWindow 7 6 0 false 30 26 kX7_bestWindow_26 = true := by decide +kernel
def kX7_bestWindow_33 : List xm_I := [(.istore 0, 3, 0, 0, 0), (.sipush 0, 0, 0, 0, 2), (.istore 0, 4, 0, 0, 0)]
theorem bk_X7_bestWindow_33 : xm_okb cX7_bestWindow 7 6 0 false 37 33 kX7_bestWindow_33 = true := by decide +kernel
def kX7_bestWindow_37 : List xm_I := [(.iload 0, 4, 0, 0, 0), (.iload 0, 1, 0, 0, 0), (.if_icmp .gt 0, 77, 0, 0, 0), (.aload 0, 0, 0, 0, 0), (.iload 0, 4, 0, 0, 0)]
theorem bk_X7_bestWindow_37 : xm_okb cX7_bestWindow 7 6 0 false 46 37 kX7_bestWindow_37 = true := by decide +kernel
def kX7_bestWindow_49 : List xm_I := [(.istore 0, 5, 0, 0, 0), (.iload 0, 5, 0, 0, 0), (.iload 0, 2, 0, 0, 0), (.imul, 0, 0, 0, 0), (.iload 0, 3, 0, 0, 0), (.iload 0, 4, 0, 0, 0), (.imul, 0, 0, 0, 0), (.if_icmp .le 0, 65, 0, 0, 0)]
theorem bk_X7_bestWindow_49 : xm_okb cX7_bestWindow 7 6 0 false 62 49 kX7_bestWindow_49 = true := by decide +kernel
def kX7_bestWindow_65 : List xm_I := [(.iload 0, 4, 0, 0, 0), (.istore 0, 2, 0, 0, 0), (.iload 0, 5, 0, 0, 0), (.istore 0, 3, 0, 0, 0)]
theorem bk_X7_bestWindow_65 : xm_okb cX7_bestWindow 7 6 0 false 71 65 kX7_bestWindow_65 = true := by decide +kernel
def kX7_bestWindow_71 : List xm_I := [(.iinc 0 0, 4, 0, 0, 1), (.goto 0, 37, 0, 0, 0)]
theorem bk_X7_bestWindow_71 : xm_okb cX7_bestWindow 7 6 0 false 77 71 kX7_bestWindow_71 = true := by decide +kernel
def kX7_bestWindow_77 : List xm_I := [(.iload 0, 2, 0, 0, 0), (.ireturn, 0, 0, 0, 0)]
theorem bk_X7_bestWindow_77 : xm_okb cX7_bestWindow 7 6 0 false 79 77 kX7_bestWindow_77 = true := by decide +kernel
def kX7_bestWindow_62 : List xm_I := [(.goto 0, 71, 0, 0, 0)]
theorem bk_X7_bestWindow_62 : xm_okb cX7_bestWindow 7 6 0 false 65 62 kX7_bestWindow_62 = true := by decide +kernel
abbrev mt_X7_weightWith : xm_T4 := (yX7_weightWith, cX7_weightWith, 3, (some .int))
theorem mo_X7_weightWith : xm_mo mt_X7_weightWith 7 2 0 false false := ⟨by decide +kernel, rfl, (fun h => by cases h), rfl, by decide, ⟨by decide +kernel, by decide +kernel, by decide +kernel⟩, (wq_at mw_7_6 4 rfl), (wq_at mw_7_6 28 rfl), (fun h => by cases h), (fun _ => (wq_at mw_7_6 5 rfl)), (fun _ => (wq_at mw_7_6 6 rfl))⟩
def kX7_weightWith_0 : List xm_I := [(.aload 0, 0, 0, 0, 0), (.sipush 0, 0, 0, 0, 0), (.putfield 0, 7, 0, 0, 0), (.aload 0, 0, 0, 0, 0), (.aload 0, 0, 0, 0, 0), (.iload 0, 1, 0, 0, 0)]
theorem bk_X7_weightWith_0 : xm_okb cX7_weightWith 7 3 0 false 8 0 kX7_weightWith_0 = true := by decide +kernel
def kX7_weightWith_11 : List xm_I := [(.sipush 0, 0, 0, 0, 1)]
theorem bk_X7_weightWith_11 : xm_okb cX7_weightWith 7 3 0 false 12 11 kX7_weightWith_11 = true := by decide +kernel
def kX7_weightWith_15 : List xm_I := [(.ifCond .eq 0, 64, 0, 0, 0), (.aload 0, 0, 0, 0, 0), (.iload 0, 2, 0, 0, 0), (.sipush 0, 0, 0, 0, 1), (.sipush 0, 0, 0, 0, 60)]
theorem bk_X7_weightWith_15 : xm_okb cX7_weightWith 7 3 0 false 23 15 kX7_weightWith_15 = true := by decide +kernel
def kX7_weightWith_26 : List xm_I := [(.sipush 0, 0, 0, 0, 2)]
theorem bk_X7_weightWith_26 : xm_okb cX7_weightWith 7 3 0 false 27 26 kX7_weightWith_26 = true := by decide +kernel
def kX7_weightWith_30 : List xm_I := [(.ifCond .eq 0, 64, 0, 0, 0), (.aload 0, 0, 0, 0, 0), (.aload 0, 0, 0, 0, 0), (.iload 0, 1, 0, 0, 0), (.sipush 0, 0, 0, 0, 4)]
theorem bk_X7_weightWith_30 : xm_okb cX7_weightWith 7 3 0 false 37 30 kX7_weightWith_30 = true := by decide +kernel
def kX7_weightWith_40 : List xm_I := [(.ifCond .le 0, 47, 0, 0, 0), (.sipush 0, 0, 0, 0, 1), (.goto 0, 48, 0, 0, 0)]
theorem bk_X7_weightWith_40 : xm_okb cX7_weightWith 7 3 0 false 47 40 kX7_weightWith_40 = true := by decide +kernel
def kX7_weightWith_47 : List xm_I := [(.sipush 0, 0, 0, 0, 0)]
theorem bk_X7_weightWith_47 : xm_okb cX7_weightWith 7 3 0 false 48 47 kX7_weightWith_47 = true := by decide +kernel
def kX7_weightWith_48 : List xm_I := [(.sipush 0, 0, 0, 0, 3)]
theorem bk_X7_weightWith_48 : xm_okb cX7_weightWith 7 3 0 false 49 48 kX7_weightWith_48 = true := by decide +kernel
def kX7_weightWith_52 : List xm_I := [(.ifCond .eq 0, 64, 0, 0, 0), (.aload 0, 0, 0, 0, 0), (.iload 0, 1, 0, 0, 0), (.iload 0, 2, 0, 0, 0)]
theorem bk_X7_weightWith_52 : xm_okb cX7_weightWith 7 3 0 false 58 52 kX7_weightWith_52 = true := by decide +kernel
def kX7_weightWith_61 : List xm_I := [(.goto 0, 65, 0, 0, 0)]
theorem bk_X7_weightWith_61 : xm_okb cX7_weightWith 7 3 0 false 64 61 kX7_weightWith_61 = true := by decide +kernel
def kX7_weightWith_64 : List xm_I := [(.sipush 0, 0, 0, 0, 0)]
theorem bk_X7_weightWith_64 : xm_okb cX7_weightWith 7 3 0 false 65 64 kX7_weightWith_64 = true := by decide +kernel
def kX7_weightWith_65 : List xm_I := [(.ireturn, 0, 0, 0, 0)]
theorem bk_X7_weightWith_65 : xm_okb cX7_weightWith 7 3 0 false 66 65 kX7_weightWith_65 = true := by decide +kernel
abbrev mt_X7_samplesFor : xm_T4 := (yX7_samplesFor, cX7_samplesFor, 4, (some .int))
theorem mo_X7_samplesFor : xm_mo mt_X7_samplesFor 7 1 0 false false := ⟨by decide +kernel, rfl, (fun h => by cases h), rfl, by decide, ⟨by decide +kernel, by decide +kernel, by decide +kernel⟩, (wq_at mw_7_6 7 rfl), (wq_at mw_7_6 28 rfl), (fun h => by cases h), (fun _ => (wq_at mw_7_6 8 rfl)), (fun _ => (wq_at mw_7_6 9 rfl))⟩
def kX7_samplesFor_0 : List xm_I := [(.aload 0, 0, 0, 0, 0), (.sipush 0, 0, 0, 0, 0), (.putfield 0, 7, 0, 0, 0), (.aload 0, 0, 0, 0, 0), (.iload 0, 1, 0, 0, 0), (.sipush 0, 0, 0, 0, 1), (.sipush 0, 0, 0, 0, 2000)]
theorem bk_X7_samplesFor_0 : xm_okb cX7_samplesFor 7 4 0 false 11 0 kX7_samplesFor_0 = true := by decide +kernel
def kX7_samplesFor_14 : List xm_I := [(.sipush 0, 0, 0, 0, 1)]
theorem bk_X7_samplesFor_14 : xm_okb cX7_samplesFor 7 4 0 false 15 14 kX7_samplesFor_14 = true := by decide +kernel
def kX7_samplesFor_18 : List xm_I := [(.ifCond .ne 0, 23, 0, 0, 0), (.sipush 0, 0, 0, 0, 0), (.ireturn, 0, 0, 0, 0)]
theorem bk_X7_samplesFor_18 : xm_okb cX7_samplesFor 7 4 0 false 23 18 kX7_samplesFor_18 = true := by decide +kernel
def kX7_samplesFor_23 : List xm_I := [(.sipush 0, 0, 0, 0, 0), (.istore 0, 2, 0, 0, 0), (.aload 0, 0, 0, 0, 0), (.getfield 0, 7, 1, 2, 0), (.sipush 0, 0, 0, 0, 0), (.iaload, 0, 0, 0, 0), (.istore 0, 3, 0, 0, 0)]
theorem bk_X7_samplesFor_23 : xm_okb cX7_samplesFor 7 4 0 false 32 23 kX7_samplesFor_23 = true := by decide +kernel
def kX7_samplesFor_32 : List xm_I := [(.iload 0, 3, 0, 0, 0), (.aload 0, 0, 0, 0, 0), (.getfield 0, 7, 1, 2, 0), (.sipush 0, 0, 0, 0, 2), (.iaload, 0, 0, 0, 0), (.if_icmp .gt 0, 74, 0, 0, 0), (.iload 0, 2, 0, 0, 0), (.iload 0, 3, 0, 0, 0)]
theorem bk_X7_samplesFor_32 : xm_okb cX7_samplesFor 7 4 0 false 44 32 kX7_samplesFor_32 = true := by decide +kernel
def kX7_samplesFor_59 : List xm_I := [(.sipush 0, 0, 0, 0, 0)]
theorem bk_X7_samplesFor_59 : xm_okb cX7_samplesFor 7 4 0 false 60 59 kX7_samplesFor_59 = true := by decide +kernel
def kX7_samplesFor_60 : List xm_I := [(.iadd, 0, 0, 0, 0), (.istore 0, 2, 0, 0, 0), (.iload 0, 3, 0, 0, 0), (.aload 0, 0, 0, 0, 0), (.getfield 0, 7, 1, 2, 0), (.sipush 0, 0, 0, 0, 0), (.iaload, 0, 0, 0, 0), (.iadd, 0, 0, 0, 0)]
theorem bk_X7_samplesFor_60 : xm_okb cX7_samplesFor 7 4 0 false 70 60 kX7_samplesFor_60 = true := by decide +kernel
def kX7_samplesFor_74 : List xm_I := [(.iload 0, 2, 0, 0, 0), (.ireturn, 0, 0, 0, 0)]
theorem bk_X7_samplesFor_74 : xm_okb cX7_samplesFor 7 4 0 false 76 74 kX7_samplesFor_74 = true := by decide +kernel
def kX7_samplesFor_44 : List xm_I := [(.iload 0, 1, 0, 0, 0), (.isub, 0, 0, 0, 0), (.aload 0, 0, 0, 0, 0), (.getfield 0, 7, 1, 2, 0), (.sipush 0, 0, 0, 0, 1), (.iaload, 0, 0, 0, 0), (.if_icmp .lt 0, 59, 0, 0, 0), (.sipush 0, 0, 0, 0, 1)]
theorem bk_X7_samplesFor_44 : xm_okb cX7_samplesFor 7 4 0 false 56 44 kX7_samplesFor_44 = true := by decide +kernel
def kX7_samplesFor_70 : List xm_I := [(.istore 0, 3, 0, 0, 0), (.goto 0, 32, 0, 0, 0)]
theorem bk_X7_samplesFor_70 : xm_okb cX7_samplesFor 7 4 0 false 74 70 kX7_samplesFor_70 = true := by decide +kernel
def kX7_samplesFor_56 : List xm_I := [(.goto 0, 60, 0, 0, 0)]
theorem bk_X7_samplesFor_56 : xm_okb cX7_samplesFor 7 4 0 false 59 56 kX7_samplesFor_56 = true := by decide +kernel
abbrev mt_X7_arrival : xm_T4 := (yX7_arrival, cX7_arrival, 3, (some .int))
theorem mo_X7_arrival : xm_mo mt_X7_arrival 7 2 0 false false := ⟨by decide +kernel, rfl, (fun h => by cases h), rfl, by decide, ⟨by decide +kernel, by decide +kernel, by decide +kernel⟩, (wq_at mw_7_6 10 rfl), (wq_at mw_7_6 28 rfl), (fun h => by cases h), (fun _ => (wq_at mw_7_6 11 rfl)), (fun _ => (wq_at mw_7_6 12 rfl))⟩
def kX7_arrival_0 : List xm_I := [(.aload 0, 0, 0, 0, 0), (.sipush 0, 0, 0, 0, 0), (.putfield 0, 7, 0, 0, 0), (.aload 0, 0, 0, 0, 0), (.aload 0, 0, 0, 0, 0), (.iload 0, 1, 0, 0, 0)]
theorem bk_X7_arrival_0 : xm_okb cX7_arrival 7 3 0 false 8 0 kX7_arrival_0 = true := by decide +kernel
def kX7_arrival_11 : List xm_I := [(.ifCond .eq 0, 26, 0, 0, 0), (.aload 0, 0, 0, 0, 0), (.iload 0, 2, 0, 0, 0)]
theorem bk_X7_arrival_11 : xm_okb cX7_arrival 7 3 0 false 16 11 kX7_arrival_11 = true := by decide +kernel
def kX7_arrival_19 : List xm_I := [(.ifCond .eq 0, 26, 0, 0, 0), (.sipush 0, 0, 0, 0, 1), (.goto 0, 27, 0, 0, 0)]
theorem bk_X7_arrival_19 : xm_okb cX7_arrival 7 3 0 false 26 19 kX7_arrival_19 = true := by decide +kernel
def kX7_arrival_26 : List xm_I := [(.sipush 0, 0, 0, 0, 0)]
theorem bk_X7_arrival_26 : xm_okb cX7_arrival 7 3 0 false 27 26 kX7_arrival_26 = true := by decide +kernel
def kX7_arrival_27 : List xm_I := [(.sipush 0, 0, 0, 0, 1)]
theorem bk_X7_arrival_27 : xm_okb cX7_arrival 7 3 0 false 28 27 kX7_arrival_27 = true := by decide +kernel
def kX7_arrival_31 : List xm_I := [(.ifCond .eq 0, 70, 0, 0, 0), (.aload 0, 0, 0, 0, 0), (.aload 0, 0, 0, 0, 0), (.iload 0, 1, 0, 0, 0)]
theorem bk_X7_arrival_31 : xm_okb cX7_arrival 7 3 0 false 37 31 kX7_arrival_31 = true := by decide +kernel
def kX7_arrival_40 : List xm_I := [(.ifCond .eq 0, 62, 0, 0, 0), (.aload 0, 0, 0, 0, 0), (.iload 0, 1, 0, 0, 0), (.sipush 0, 0, 0, 0, 2)]
theorem bk_X7_arrival_40 : xm_okb cX7_arrival 7 3 0 false 46 40 kX7_arrival_40 = true := by decide +kernel
def kX7_arrival_49 : List xm_I := [(.aload 0, 0, 0, 0, 0), (.iload 0, 2, 0, 0, 0), (.sipush 0, 0, 0, 0, 1)]
theorem bk_X7_arrival_49 : xm_okb cX7_arrival 7 3 0 false 52 49 kX7_arrival_49 = true := by decide +kernel
def kX7_arrival_55 : List xm_I := [(.if_icmp .ge 0, 62, 0, 0, 0), (.sipush 0, 0, 0, 0, 1), (.goto 0, 63, 0, 0, 0)]
theorem bk_X7_arrival_55 : xm_okb cX7_arrival 7 3 0 false 62 55 kX7_arrival_55 = true := by decide +kernel
def kX7_arrival_62 : List xm_I := [(.sipush 0, 0, 0, 0, 0)]
theorem bk_X7_arrival_62 : xm_okb cX7_arrival 7 3 0 false 63 62 kX7_arrival_62 = true := by decide +kernel
def kX7_arrival_63 : List xm_I := [(.sipush 0, 0, 0, 0, 2)]
theorem bk_X7_arrival_63 : xm_okb cX7_arrival 7 3 0 false 64 63 kX7_arrival_63 = true := by decide +kernel
def kX7_arrival_67 : List xm_I := [(.ifCond .ne 0, 72, 0, 0, 0)]
theorem bk_X7_arrival_67 : xm_okb cX7_arrival 7 3 0 false 70 67 kX7_arrival_67 = true := by decide +kernel
def kX7_arrival_70 : List xm_I := [(.sipush 0, 0, 0, 0, 0), (.ireturn, 0, 0, 0, 0)]
theorem bk_X7_arrival_70 : xm_okb cX7_arrival 7 3 0 false 72 70 kX7_arrival_70 = true := by decide +kernel
def kX7_arrival_72 : List xm_I := [(.aload 0, 0, 0, 0, 0), (.iload 0, 2, 0, 0, 0), (.sipush 0, 0, 0, 0, 1)]
theorem bk_X7_arrival_72 : xm_okb cX7_arrival 7 3 0 false 75 72 kX7_arrival_72 = true := by decide +kernel
def kX7_arrival_78 : List xm_I := [(.aload 0, 0, 0, 0, 0), (.iload 0, 1, 0, 0, 0), (.sipush 0, 0, 0, 0, 2)]
theorem bk_X7_arrival_78 : xm_okb cX7_arrival 7 3 0 false 81 78 kX7_arrival_78 = true := by decide +kernel
def kX7_arrival_84 : List xm_I := [(.isub, 0, 0, 0, 0), (.aload 0, 0, 0, 0, 0), (.getfield 0, 7, 1, 2, 0), (.sipush 0, 0, 0, 0, 0), (.iaload, 0, 0, 0, 0)]
theorem bk_X7_arrival_84 : xm_okb cX7_arrival 7 3 0 false 91 84 kX7_arrival_84 = true := by decide +kernel
def kX7_arrival_94 : List xm_I := [(.ireturn, 0, 0, 0, 0)]
theorem bk_X7_arrival_94 : xm_okb cX7_arrival 7 3 0 false 95 94 kX7_arrival_94 = true := by decide +kernel
abbrev mt_X7_lastCommanded : xm_T4 := (yX7_lastCommanded, cX7_lastCommanded, 3, (some .int))
theorem mo_X7_lastCommanded : xm_mo mt_X7_lastCommanded 7 0 0 false false := ⟨by decide +kernel, rfl, (fun h => by cases h), rfl, by decide, ⟨by decide +kernel, by decide +kernel, by decide +kernel⟩, (wq_at mw_7_6 13 rfl), (wq_at mw_7_6 28 rfl), (fun h => by cases h), (fun _ => (wq_at mw_7_6 14 rfl)), (fun _ => (wq_at mw_7_6 15 rfl))⟩
def kX7_lastCommanded_0 : List xm_I := [(.aload 0, 0, 0, 0, 0), (.getfield 0, 7, 3, 2, 0), (.sipush 0, 0, 0, 0, 0), (.iaload, 0, 0, 0, 0), (.istore 0, 1, 0, 0, 0), (.sipush 0, 0, 0, 0, 0), (.istore 0, 2, 0, 0, 0)]
theorem bk_X7_lastCommanded_0 : xm_okb cX7_lastCommanded 7 3 0 false 9 0 kX7_lastCommanded_0 = true := by decide +kernel
def kX7_lastCommanded_9 : List xm_I := [(.iload 0, 2, 0, 0, 0), (.aload 0, 0, 0, 0, 0), (.getfield 0, 7, 3, 2, 0), (.sipush 0, 0, 0, 0, 2), (.iaload, 0, 0, 0, 0), (.if_icmp .ge 0, 37, 0, 0, 0), (.iload 0, 1, 0, 0, 0), (.aload 0, 0, 0, 0, 0)]
theorem bk_X7_lastCommanded_9 : xm_okb cX7_lastCommanded 7 3 0 false 21 9 kX7_lastCommanded_9 = true := by decide +kernel
def kX7_lastCommanded_30 : List xm_I := [(.istore 0, 1, 0, 0, 0), (.iinc 0 0, 2, 0, 0, 1), (.goto 0, 9, 0, 0, 0)]
theorem bk_X7_lastCommanded_30 : xm_okb cX7_lastCommanded 7 3 0 false 37 30 kX7_lastCommanded_30 = true := by decide +kernel
def kX7_lastCommanded_37 : List xm_I := [(.iload 0, 1, 0, 0, 0), (.ireturn, 0, 0, 0, 0)]
theorem bk_X7_lastCommanded_37 : xm_okb cX7_lastCommanded 7 3 0 false 39 37 kX7_lastCommanded_37 = true := by decide +kernel
def kX7_lastCommanded_21 : List xm_I := [(.iload 0, 2, 0, 0, 0), (.sipush 0, 0, 0, 0, 11)]
theorem bk_X7_lastCommanded_21 : xm_okb cX7_lastCommanded 7 3 0 false 24 21 kX7_lastCommanded_21 = true := by decide +kernel
abbrev mt_X7_openTicks : xm_T4 := (yX7_openTicks, cX7_openTicks, 4, (some .int))
theorem mo_X7_openTicks : xm_mo mt_X7_openTicks 7 1 0 false false := ⟨by decide +kernel, rfl, (fun h => by cases h), rfl, by decide, ⟨by decide +kernel, by decide +kernel, by decide +kernel⟩, (wq_at mw_7_6 16 rfl), (wq_at mw_7_6 28 rfl), (fun h => by cases h), (fun _ => (wq_at mw_7_6 17 rfl)), (fun _ => (wq_at mw_7_6 18 rfl))⟩
def kX7_openTicks_0 : List xm_I := [(.aload 0, 0, 0, 0, 0), (.sipush 0, 0, 0, 0, 0), (.putfield 0, 7, 0, 0, 0), (.aload 0, 0, 0, 0, 0), (.aload 0, 0, 0, 0, 0), (.iload 0, 1, 0, 0, 0)]
theorem bk_X7_openTicks_0 : xm_okb cX7_openTicks 7 4 0 false 8 0 kX7_openTicks_0 = true := by decide +kernel
def kX7_openTicks_11 : List xm_I := [(.sipush 0, 0, 0, 0, 1)]
theorem bk_X7_openTicks_11 : xm_okb cX7_openTicks 7 4 0 false 12 11 kX7_openTicks_11 = true := by decide +kernel
def kX7_openTicks_15 : List xm_I := [(.ifCond .ne 0, 20, 0, 0, 0), (.sipush 0, 0, 0, 0, 0), (.ireturn, 0, 0, 0, 0)]
theorem bk_X7_openTicks_15 : xm_okb cX7_openTicks 7 4 0 false 20 15 kX7_openTicks_15 = true := by decide +kernel
def kX7_openTicks_20 : List xm_I := [(.sipush 0, 0, 0, 0, 0), (.istore 0, 2, 0, 0, 0), (.aload 0, 0, 0, 0, 0), (.getfield 0, 7, 3, 2, 0), (.sipush 0, 0, 0, 0, 0), (.iaload, 0, 0, 0, 0), (.sipush 0, 0, 0, 0, 1), (.iadd, 0, 0, 0, 0)]
theorem bk_X7_openTicks_20 : xm_okb cX7_openTicks 7 4 0 false 30 20 kX7_openTicks_20 = true := by decide +kernel
def kX7_openTicks_31 : List xm_I := [(.iload 0, 3, 0, 0, 0), (.aload 0, 0, 0, 0, 0)]
theorem bk_X7_openTicks_31 : xm_okb cX7_openTicks 7 4 0 false 33 31 kX7_openTicks_31 = true := by decide +kernel
def kX7_openTicks_36 : List xm_I := [(.if_icmp .gt 0, 62, 0, 0, 0), (.iload 0, 2, 0, 0, 0), (.aload 0, 0, 0, 0, 0), (.iload 0, 1, 0, 0, 0), (.iload 0, 3, 0, 0, 0)]
theorem bk_X7_openTicks_36 : xm_okb cX7_openTicks 7 4 0 false 43 36 kX7_openTicks_36 = true := by decide +kernel
def kX7_openTicks_46 : List xm_I := [(.ifCond .eq 0, 53, 0, 0, 0), (.sipush 0, 0, 0, 0, 1), (.goto 0, 54, 0, 0, 0)]
theorem bk_X7_openTicks_46 : xm_okb cX7_openTicks 7 4 0 false 53 46 kX7_openTicks_46 = true := by decide +kernel
def kX7_openTicks_53 : List xm_I := [(.sipush 0, 0, 0, 0, 0)]
theorem bk_X7_openTicks_53 : xm_okb cX7_openTicks 7 4 0 false 54 53 kX7_openTicks_53 = true := by decide +kernel
def kX7_openTicks_54 : List xm_I := [(.iadd, 0, 0, 0, 0), (.istore 0, 2, 0, 0, 0), (.iinc 0 0, 3, 0, 0, 1), (.goto 0, 31, 0, 0, 0)]
theorem bk_X7_openTicks_54 : xm_okb cX7_openTicks 7 4 0 false 62 54 kX7_openTicks_54 = true := by decide +kernel
def kX7_openTicks_62 : List xm_I := [(.iload 0, 2, 0, 0, 0), (.ireturn, 0, 0, 0, 0)]
theorem bk_X7_openTicks_62 : xm_okb cX7_openTicks 7 4 0 false 64 62 kX7_openTicks_62 = true := by decide +kernel
def kX7_openTicks_30 : List xm_I := [(.istore 0, 3, 0, 0, 0)]
theorem bk_X7_openTicks_30 : xm_okb cX7_openTicks 7 4 0 false 31 30 kX7_openTicks_30 = true := by decide +kernel
abbrev mt_X7_opensAt : xm_T4 := (yX7_opensAt, cX7_opensAt, 4, (some .int))
theorem mo_X7_opensAt : xm_mo mt_X7_opensAt 7 1 0 false false := ⟨by decide +kernel, rfl, (fun h => by cases h), rfl, by decide, ⟨by decide +kernel, by decide +kernel, by decide +kernel⟩, (wq_at mw_7_6 19 rfl), (wq_at mw_7_6 28 rfl), (fun h => by cases h), (fun _ => (wq_at mw_7_6 20 rfl)), (fun _ => (wq_at mw_7_6 21 rfl))⟩
def kX7_opensAt_0 : List xm_I := [(.aload 0, 0, 0, 0, 0), (.sipush 0, 0, 0, 0, 0), (.putfield 0, 7, 0, 0, 0), (.aload 0, 0, 0, 0, 0), (.aload 0, 0, 0, 0, 0), (.iload 0, 1, 0, 0, 0)]
theorem bk_X7_opensAt_0 : xm_okb cX7_opensAt 7 4 0 false 8 0 kX7_opensAt_0 = true := by decide +kernel
def kX7_opensAt_11 : List xm_I := [(.sipush 0, 0, 0, 0, 1)]
theorem bk_X7_opensAt_11 : xm_okb cX7_opensAt 7 4 0 false 12 11 kX7_opensAt_11 = true := by decide +kernel
def kX7_opensAt_15 : List xm_I := [(.ifCond .ne 0, 20, 0, 0, 0), (.sipush 0, 0, 0, 0, 0), (.ireturn, 0, 0, 0, 0)]
theorem bk_X7_opensAt_15 : xm_okb cX7_opensAt 7 4 0 false 20 15 kX7_opensAt_15 = true := by decide +kernel
def kX7_opensAt_20 : List xm_I := [(.aload 0, 0, 0, 0, 0), (.getfield 0, 7, 3, 2, 0), (.sipush 0, 0, 0, 0, 0), (.iaload, 0, 0, 0, 0), (.sipush 0, 0, 0, 0, 1), (.iadd, 0, 0, 0, 0), (.istore 0, 2, 0, 0, 0), (.aload 0, 0, 0, 0, 0)]
theorem bk_X7_opensAt_20 : xm_okb cX7_opensAt 7 4 0 false 30 20 kX7_opensAt_20 = true := by decide +kernel
def kX7_opensAt_33 : List xm_I := [(.istore 0, 3, 0, 0, 0)]
theorem bk_X7_opensAt_33 : xm_okb cX7_opensAt 7 4 0 false 34 33 kX7_opensAt_33 = true := by decide +kernel
def kX7_opensAt_34 : List xm_I := [(.iload 0, 2, 0, 0, 0), (.iload 0, 3, 0, 0, 0), (.if_icmp .gt 0, 54, 0, 0, 0), (.aload 0, 0, 0, 0, 0), (.iload 0, 1, 0, 0, 0), (.iload 0, 2, 0, 0, 0)]
theorem bk_X7_opensAt_34 : xm_okb cX7_opensAt 7 4 0 false 42 34 kX7_opensAt_34 = true := by decide +kernel
def kX7_opensAt_45 : List xm_I := [(.ifCond .ne 0, 54, 0, 0, 0), (.iinc 0 0, 2, 0, 0, 1), (.goto 0, 34, 0, 0, 0)]
theorem bk_X7_opensAt_45 : xm_okb cX7_opensAt 7 4 0 false 54 45 kX7_opensAt_45 = true := by decide +kernel
def kX7_opensAt_54 : List xm_I := [(.aload 0, 0, 0, 0, 0), (.iload 0, 2, 0, 0, 0), (.iload 0, 3, 0, 0, 0), (.if_icmp .gt 0, 64, 0, 0, 0), (.sipush 0, 0, 0, 0, 1), (.goto 0, 65, 0, 0, 0)]
theorem bk_X7_opensAt_54 : xm_okb cX7_opensAt 7 4 0 false 64 54 kX7_opensAt_54 = true := by decide +kernel
def kX7_opensAt_64 : List xm_I := [(.sipush 0, 0, 0, 0, 0)]
theorem bk_X7_opensAt_64 : xm_okb cX7_opensAt 7 4 0 false 65 64 kX7_opensAt_64 = true := by decide +kernel
def kX7_opensAt_65 : List xm_I := [(.sipush 0, 0, 0, 0, 2)]
theorem bk_X7_opensAt_65 : xm_okb cX7_opensAt 7 4 0 false 66 65 kX7_opensAt_65 = true := by decide +kernel
def kX7_opensAt_69 : List xm_I := [(.ifCond .eq 0, 76, 0, 0, 0), (.iload 0, 2, 0, 0, 0), (.goto 0, 77, 0, 0, 0)]
theorem bk_X7_opensAt_69 : xm_okb cX7_opensAt 7 4 0 false 76 69 kX7_opensAt_69 = true := by decide +kernel
def kX7_opensAt_76 : List xm_I := [(.sipush 0, 0, 0, 0, 0)]
theorem bk_X7_opensAt_76 : xm_okb cX7_opensAt 7 4 0 false 77 76 kX7_opensAt_76 = true := by decide +kernel
def kX7_opensAt_77 : List xm_I := [(.ireturn, 0, 0, 0, 0)]
theorem bk_X7_opensAt_77 : xm_okb cX7_opensAt 7 4 0 false 78 77 kX7_opensAt_77 = true := by decide +kernel
abbrev mt_X7_fate : xm_T4 := (yX7_fate, cX7_fate, 5, (some .int))
theorem mo_X7_fate : xm_mo mt_X7_fate 7 1 0 false false := ⟨by decide +kernel, rfl, (fun h => by cases h), rfl, by decide, ⟨by decide +kernel, by decide +kernel, by decide +kernel⟩, (wq_at mw_7_6 22 rfl), (wq_at mw_7_6 28 rfl), (fun h => by cases h), (fun _ => (wq_at mw_7_6 23 rfl)), (fun _ => (wq_at mw_7_6 24 rfl))⟩
def kX7_fate_0 : List xm_I := [(.aload 0, 0, 0, 0, 0), (.sipush 0, 0, 0, 0, 0), (.putfield 0, 7, 0, 0, 0), (.aload 0, 0, 0, 0, 0), (.aload 0, 0, 0, 0, 0), (.iload 0, 1, 0, 0, 0)]
theorem bk_X7_fate_0 : xm_okb cX7_fate 7 5 0 false 8 0 kX7_fate_0 = true := by decide +kernel
def kX7_fate_11 : List xm_I := [(.sipush 0, 0, 0, 0, 1)]
theorem bk_X7_fate_11 : xm_okb cX7_fate 7 5 0 false 12 11 kX7_fate_11 = true := by decide +kernel
def kX7_fate_15 : List xm_I := [(.ifCond .ne 0, 20, 0, 0, 0), (.sipush 0, 0, 0, 0, 0), (.ireturn, 0, 0, 0, 0)]
theorem bk_X7_fate_15 : xm_okb cX7_fate 7 5 0 false 20 15 kX7_fate_15 = true := by decide +kernel
def kX7_fate_20 : List xm_I := [(.sipush 0, 0, 0, 0, 0), (.istore 0, 2, 0, 0, 0)]
theorem bk_X7_fate_20 : xm_okb cX7_fate 7 5 0 false 22 20 kX7_fate_20 = true := by decide +kernel
def kX7_fate_22 : List xm_I := [(.iload 0, 2, 0, 0, 0), (.sipush 0, 0, 0, 0, 4641), (.if_icmp .ge 0, 47, 0, 0, 0), (.aload 0, 0, 0, 0, 0), (.getfield 0, 7, 4, 2, 0), (.iload 0, 2, 0, 0, 0), (.aload 0, 0, 0, 0, 0), (.getfield 0, 7, 3, 2, 0)]
theorem bk_X7_fate_22 : xm_okb cX7_fate 7 5 0 false 38 22 kX7_fate_22 = true := by decide +kernel
def kX7_fate_47 : List xm_I := [(.sipush 0, 0, 0, 0, 0), (.istore 0, 2, 0, 0, 0)]
theorem bk_X7_fate_47 : xm_okb cX7_fate 7 5 0 false 49 47 kX7_fate_47 = true := by decide +kernel
def kX7_fate_49 : List xm_I := [(.aload 0, 0, 0, 0, 0), (.iload 0, 1, 0, 0, 0)]
theorem bk_X7_fate_49 : xm_okb cX7_fate 7 5 0 false 51 49 kX7_fate_49 = true := by decide +kernel
def kX7_fate_54 : List xm_I := [(.ifCond .eq 0, 67, 0, 0, 0), (.iload 0, 2, 0, 0, 0), (.aload 0, 0, 0, 0, 0)]
theorem bk_X7_fate_54 : xm_okb cX7_fate 7 5 0 false 59 54 kX7_fate_54 = true := by decide +kernel
def kX7_fate_62 : List xm_I := [(.iadd, 0, 0, 0, 0), (.istore 0, 2, 0, 0, 0), (.goto 0, 49, 0, 0, 0)]
theorem bk_X7_fate_62 : xm_okb cX7_fate 7 5 0 false 67 62 kX7_fate_62 = true := by decide +kernel
def kX7_fate_67 : List xm_I := [(.aload 0, 0, 0, 0, 0), (.iload 0, 1, 0, 0, 0), (.sipush 0, 0, 0, 0, 3)]
theorem bk_X7_fate_67 : xm_okb cX7_fate 7 5 0 false 70 67 kX7_fate_67 = true := by decide +kernel
def kX7_fate_73 : List xm_I := [(.istore 0, 3, 0, 0, 0), (.sipush 0, 0, 0, 0, 0), (.istore 0, 4, 0, 0, 0)]
theorem bk_X7_fate_73 : xm_okb cX7_fate 7 5 0 false 77 73 kX7_fate_73 = true := by decide +kernel
def kX7_fate_77 : List xm_I := [(.iload 0, 4, 0, 0, 0), (.sipush 0, 0, 0, 0, 4641), (.if_icmp .ge 0, 105, 0, 0, 0), (.aload 0, 0, 0, 0, 0), (.getfield 0, 7, 3, 2, 0), (.iload 0, 4, 0, 0, 0), (.aload 0, 0, 0, 0, 0), (.getfield 0, 7, 4, 2, 0)]
theorem bk_X7_fate_77 : xm_okb cX7_fate 7 5 0 false 95 77 kX7_fate_77 = true := by decide +kernel
def kX7_fate_105 : List xm_I := [(.iload 0, 3, 0, 0, 0), (.ireturn, 0, 0, 0, 0)]
theorem bk_X7_fate_105 : xm_okb cX7_fate 7 5 0 false 107 105 kX7_fate_105 = true := by decide +kernel
def kX7_fate_38 : List xm_I := [(.iload 0, 2, 0, 0, 0), (.iaload, 0, 0, 0, 0), (.iastore, 0, 0, 0, 0), (.iinc 0 0, 2, 0, 0, 1), (.goto 0, 22, 0, 0, 0)]
theorem bk_X7_fate_38 : xm_okb cX7_fate 7 5 0 false 47 38 kX7_fate_38 = true := by decide +kernel
def kX7_fate_95 : List xm_I := [(.iload 0, 4, 0, 0, 0), (.iaload, 0, 0, 0, 0), (.iastore, 0, 0, 0, 0), (.iinc 0 0, 4, 0, 0, 1), (.goto 0, 77, 0, 0, 0)]
theorem bk_X7_fate_95 : xm_okb cX7_fate 7 5 0 false 105 95 kX7_fate_95 = true := by decide +kernel
abbrev mt_X7_spacing : xm_T4 := (yX7_spacing, cX7_spacing, 4, (some .int))
theorem mo_X7_spacing : xm_mo mt_X7_spacing 7 1 0 false false := ⟨by decide +kernel, rfl, (fun h => by cases h), rfl, by decide, ⟨by decide +kernel, by decide +kernel, by decide +kernel⟩, (wq_at mw_7_6 25 rfl), (wq_at mw_7_6 28 rfl), (fun h => by cases h), (fun _ => (wq_at mw_7_6 26 rfl)), (fun _ => (wq_at mw_7_6 27 rfl))⟩
def kX7_spacing_0 : List xm_I := [(.aload 0, 0, 0, 0, 0), (.sipush 0, 0, 0, 0, 0), (.putfield 0, 7, 0, 0, 0), (.aload 0, 0, 0, 0, 0), (.iload 0, 1, 0, 0, 0), (.sipush 0, 0, 0, 0, 1), (.sipush 0, 0, 0, 0, 2000)]
theorem bk_X7_spacing_0 : xm_okb cX7_spacing 7 4 0 false 11 0 kX7_spacing_0 = true := by decide +kernel
def kX7_spacing_14 : List xm_I := [(.sipush 0, 0, 0, 0, 1)]
theorem bk_X7_spacing_14 : xm_okb cX7_spacing 7 4 0 false 15 14 kX7_spacing_14 = true := by decide +kernel
def kX7_spacing_18 : List xm_I := [(.ifCond .ne 0, 23, 0, 0, 0), (.sipush 0, 0, 0, 0, 0), (.ireturn, 0, 0, 0, 0)]
theorem bk_X7_spacing_18 : xm_okb cX7_spacing 7 4 0 false 23 18 kX7_spacing_18 = true := by decide +kernel
def kX7_spacing_23 : List xm_I := [(.aload 0, 0, 0, 0, 0), (.getfield 0, 7, 1, 2, 0), (.sipush 0, 0, 0, 0, 1), (.iaload, 0, 0, 0, 0), (.aload 0, 0, 0, 0, 0), (.getfield 0, 7, 1, 2, 0), (.sipush 0, 0, 0, 0, 0), (.iaload, 0, 0, 0, 0)]
theorem bk_X7_spacing_23 : xm_okb cX7_spacing 7 4 0 false 35 23 kX7_spacing_23 = true := by decide +kernel
def kX7_spacing_49 : List xm_I := [(.istore 0, 3, 0, 0, 0)]
theorem bk_X7_spacing_49 : xm_okb cX7_spacing 7 4 0 false 50 49 kX7_spacing_49 = true := by decide +kernel
def kX7_spacing_50 : List xm_I := [(.iload 0, 2, 0, 0, 0), (.iload 0, 3, 0, 0, 0), (.iadd, 0, 0, 0, 0), (.aload 0, 0, 0, 0, 0), (.getfield 0, 7, 1, 2, 0), (.sipush 0, 0, 0, 0, 0), (.iaload, 0, 0, 0, 0), (.imul, 0, 0, 0, 0)]
theorem bk_X7_spacing_50 : xm_okb cX7_spacing 7 4 0 false 60 50 kX7_spacing_50 = true := by decide +kernel
def kX7_spacing_77 : List xm_I := [(.iload 0, 3, 0, 0, 0), (.aload 0, 0, 0, 0, 0), (.getfield 0, 7, 1, 2, 0), (.sipush 0, 0, 0, 0, 0), (.iaload, 0, 0, 0, 0), (.imul, 0, 0, 0, 0), (.ireturn, 0, 0, 0, 0)]
theorem bk_X7_spacing_77 : xm_okb cX7_spacing 7 4 0 false 86 77 kX7_spacing_77 = true := by decide +kernel
def kX7_spacing_35 : List xm_I := [(.idiv, 0, 0, 0, 0), (.sipush 0, 0, 0, 0, 1), (.iadd, 0, 0, 0, 0), (.istore 0, 2, 0, 0, 0), (.iload 0, 1, 0, 0, 0), (.aload 0, 0, 0, 0, 0), (.getfield 0, 7, 1, 2, 0), (.sipush 0, 0, 0, 0, 0)]
theorem bk_X7_spacing_35 : xm_okb cX7_spacing 7 4 0 false 45 35 kX7_spacing_35 = true := by decide +kernel
def kX7_spacing_60 : List xm_I := [(.aload 0, 0, 0, 0, 0), (.getfield 0, 7, 1, 2, 0), (.sipush 0, 0, 0, 0, 2), (.iaload, 0, 0, 0, 0), (.iload 0, 1, 0, 0, 0), (.iadd, 0, 0, 0, 0), (.if_icmp .ge 0, 77, 0, 0, 0), (.iinc 0 0, 3, 0, 0, 1)]
theorem bk_X7_spacing_60 : xm_okb cX7_spacing 7 4 0 false 74 60 kX7_spacing_60 = true := by decide +kernel
def kX7_spacing_45 : List xm_I := [(.iaload, 0, 0, 0, 0)]
theorem bk_X7_spacing_45 : xm_okb cX7_spacing 7 4 0 false 46 45 kX7_spacing_45 = true := by decide +kernel
def kX7_spacing_74 : List xm_I := [(.goto 0, 50, 0, 0, 0)]
theorem bk_X7_spacing_74 : xm_okb cX7_spacing 7 4 0 false 77 74 kX7_spacing_74 = true := by decide +kernel

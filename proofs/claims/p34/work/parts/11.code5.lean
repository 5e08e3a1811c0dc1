/-! CODE of CheckWeigher$Vibrations: what is fixed of its methods, and their blocks, by program -/
abbrev mt_X5_init : xm_T4 := (yX5_init, cX5_init, 1, none)
theorem mo_X5_init : xm_mo mt_X5_init 5 0 3 true false := ⟨by decide +kernel, rfl, (fun _ => rfl), rfl, by decide, ⟨by decide +kernel, by decide +kernel, by decide +kernel⟩, (wq_at mw_5_0 0 rfl), (wq_at mw_5_0 11 rfl), (fun h => by cases h), (fun _ => (wq_at mw_5_0 1 rfl)), (fun h => by cases h.2)⟩
def kX5_init_0 : List xm_I := [(.aload 0, 0, 0, 0, 0)]
theorem bk_X5_init_0 : xm_okb cX5_init 5 1 3 true 1 0 kX5_init_0 = true := by decide +kernel
def kX5_init_4 : List xm_I := [(.aload 0, 0, 0, 0, 0), (.sipush 0, 0, 0, 0, 0), (.putfield 0, 5, 0, 0, 0), (.aload 0, 0, 0, 0, 0), (.sipush 0, 0, 0, 0, 4)]
theorem bk_X5_init_4 : xm_okb cX5_init 5 1 3 true 11 4 kX5_init_4 = true := by decide +kernel
def kX5_init_13 : List xm_I := [(.putfield 0, 5, 1, 2, 0), (.aload 0, 0, 0, 0, 0), (.sipush 0, 0, 0, 0, 4)]
theorem bk_X5_init_13 : xm_okb cX5_init 5 1 3 true 18 13 kX5_init_13 = true := by decide +kernel
def kX5_init_20 : List xm_I := [(.putfield 0, 5, 2, 2, 0), (.aload 0, 0, 0, 0, 0), (.sipush 0, 0, 0, 0, 4)]
theorem bk_X5_init_20 : xm_okb cX5_init 5 1 3 true 25 20 kX5_init_20 = true := by decide +kernel
def kX5_init_27 : List xm_I := [(.putfield 0, 5, 3, 2, 0), (.return_, 0, 0, 0, 0)]
theorem bk_X5_init_27 : xm_okb cX5_init 5 1 3 true 31 27 kX5_init_27 = true := by decide +kernel
abbrev mt_X5_add : xm_T4 := (yX5_add, cX5_add, 4, none)
theorem mo_X5_add : xm_mo mt_X5_add 5 3 3 false false := ⟨by decide +kernel, rfl, (fun h => by cases h), rfl, by decide, ⟨by decide +kernel, by decide +kernel, by decide +kernel⟩, (wq_at mw_5_0 2 rfl), (wq_at mw_5_0 11 rfl), (fun h => by cases h), (fun _ => (wq_at mw_5_0 3 rfl)), (fun _ => (wq_at mw_5_0 4 rfl))⟩
def kX5_add_0 : List xm_I := [(.aload 0, 0, 0, 0, 0), (.getfield 0, 5, 0, 0, 0), (.sipush 0, 0, 0, 0, 4), (.if_icmp .lt 0, 9, 0, 0, 0), (.return_, 0, 0, 0, 0)]
theorem bk_X5_add_0 : xm_okb cX5_add 5 4 3 false 9 0 kX5_add_0 = true := by decide +kernel
def kX5_add_9 : List xm_I := [(.aload 0, 0, 0, 0, 0), (.getfield 0, 5, 1, 2, 0), (.aload 0, 0, 0, 0, 0), (.getfield 0, 5, 0, 0, 0), (.iload 0, 1, 0, 0, 0), (.iastore, 0, 0, 0, 0), (.aload 0, 0, 0, 0, 0), (.getfield 0, 5, 2, 2, 0)]
theorem bk_X5_add_9 : xm_okb cX5_add 5 4 3 false 23 9 kX5_add_9 = true := by decide +kernel
def kX5_add_23 : List xm_I := [(.aload 0, 0, 0, 0, 0), (.getfield 0, 5, 0, 0, 0), (.iload 0, 2, 0, 0, 0), (.iastore, 0, 0, 0, 0), (.aload 0, 0, 0, 0, 0), (.getfield 0, 5, 3, 2, 0), (.aload 0, 0, 0, 0, 0), (.getfield 0, 5, 0, 0, 0)]
theorem bk_X5_add_23 : xm_okb cX5_add 5 4 3 false 37 23 kX5_add_23 = true := by decide +kernel
def kX5_add_37 : List xm_I := [(.iload 0, 3, 0, 0, 0), (.iastore, 0, 0, 0, 0), (.aload 0, 0, 0, 0, 0), (.dup, 0, 0, 0, 0), (.getfield 0, 5, 0, 0, 0), (.sipush 0, 0, 0, 0, 1), (.iadd, 0, 0, 0, 0), (.putfield 0, 5, 0, 0, 0)]
theorem bk_X5_add_37 : xm_okb cX5_add 5 4 3 false 49 37 kX5_add_37 = true := by decide +kernel
def kX5_add_49 : List xm_I := [(.return_, 0, 0, 0, 0)]
theorem bk_X5_add_49 : xm_okb cX5_add 5 4 3 false 50 49 kX5_add_49 = true := by decide +kernel
abbrev mt_X5_valueAt : xm_T4 := (yX5_valueAt, cX5_valueAt, 5, (some .int))
theorem mo_X5_valueAt : xm_mo mt_X5_valueAt 5 1 0 false false := ⟨by decide +kernel, rfl, (fun h => by cases h), rfl, by decide, ⟨by decide +kernel, by decide +kernel, by decide +kernel⟩, (wq_at mw_5_0 5 rfl), (wq_at mw_5_0 11 rfl), (fun h => by cases h), (fun _ => (wq_at mw_5_0 6 rfl)), (fun _ => (wq_at mw_5_0 7 rfl))⟩
def kX5_valueAt_0 : List xm_I := [(.sipush 0, 0, 0, 0, 0), (.istore 0, 2, 0, 0, 0), (.sipush 0, 0, 0, 0, 0), (.istore 0, 3, 0, 0, 0)]
theorem bk_X5_valueAt_0 : xm_okb cX5_valueAt 5 5 0 false 4 0 kX5_valueAt_0 = true := by decide +kernel
def kX5_valueAt_4 : List xm_I := [(.iload 0, 3, 0, 0, 0), (.aload 0, 0, 0, 0, 0), (.getfield 0, 5, 0, 0, 0), (.if_icmp .ge 0, 77, 0, 0, 0), (.iload 0, 1, 0, 0, 0), (.aload 0, 0, 0, 0, 0), (.getfield 0, 5, 3, 2, 0), (.iload 0, 3, 0, 0, 0)]
theorem bk_X5_valueAt_4 : xm_okb cX5_valueAt 5 5 0 false 18 4 kX5_valueAt_4 = true := by decide +kernel
def kX5_valueAt_29 : List xm_I := [(.aload 0, 0, 0, 0, 0), (.getfield 0, 5, 2, 2, 0), (.iload 0, 3, 0, 0, 0), (.iaload, 0, 0, 0, 0), (.sipush 0, 0, 0, 0, 2), (.idiv, 0, 0, 0, 0), (.if_icmp .ge 0, 44, 0, 0, 0), (.sipush 0, 0, 0, 0, 1)]
theorem bk_X5_valueAt_29 : xm_okb cX5_valueAt 5 5 0 false 41 29 kX5_valueAt_29 = true := by decide +kernel
def kX5_valueAt_44 : List xm_I := [(.sipush 0, 0, 0, 0, 0)]
theorem bk_X5_valueAt_44 : xm_okb cX5_valueAt 5 5 0 false 45 44 kX5_valueAt_44 = true := by decide +kernel
def kX5_valueAt_45 : List xm_I := [(.istore 0, 4, 0, 0, 0), (.iload 0, 2, 0, 0, 0), (.iload 0, 4, 0, 0, 0), (.ifCond .eq 0, 62, 0, 0, 0), (.aload 0, 0, 0, 0, 0), (.getfield 0, 5, 1, 2, 0), (.iload 0, 3, 0, 0, 0), (.iaload, 0, 0, 0, 0)]
theorem bk_X5_valueAt_45 : xm_okb cX5_valueAt 5 5 0 false 59 45 kX5_valueAt_45 = true := by decide +kernel
def kX5_valueAt_62 : List xm_I := [(.aload 0, 0, 0, 0, 0), (.getfield 0, 5, 1, 2, 0), (.iload 0, 3, 0, 0, 0), (.iaload, 0, 0, 0, 0), (.ineg, 0, 0, 0, 0)]
theorem bk_X5_valueAt_62 : xm_okb cX5_valueAt 5 5 0 false 69 62 kX5_valueAt_62 = true := by decide +kernel
def kX5_valueAt_69 : List xm_I := [(.iadd, 0, 0, 0, 0), (.istore 0, 2, 0, 0, 0), (.iinc 0 0, 3, 0, 0, 1), (.goto 0, 4, 0, 0, 0)]
theorem bk_X5_valueAt_69 : xm_okb cX5_valueAt 5 5 0 false 77 69 kX5_valueAt_69 = true := by decide +kernel
def kX5_valueAt_77 : List xm_I := [(.iload 0, 2, 0, 0, 0), (.ireturn, 0, 0, 0, 0)]
theorem bk_X5_valueAt_77 : xm_okb cX5_valueAt 5 5 0 false 79 77 kX5_valueAt_77 = true := by decide +kernel
def kX5_valueAt_18 : List xm_I := [(.iaload, 0, 0, 0, 0), (.iadd, 0, 0, 0, 0), (.aload 0, 0, 0, 0, 0), (.getfield 0, 5, 2, 2, 0), (.iload 0, 3, 0, 0, 0), (.iaload, 0, 0, 0, 0)]
theorem bk_X5_valueAt_18 : xm_okb cX5_valueAt 5 5 0 false 26 18 kX5_valueAt_18 = true := by decide +kernel
def kX5_valueAt_41 : List xm_I := [(.goto 0, 45, 0, 0, 0)]
theorem bk_X5_valueAt_41 : xm_okb cX5_valueAt 5 5 0 false 44 41 kX5_valueAt_41 = true := by decide +kernel
def kX5_valueAt_59 : List xm_I := [(.goto 0, 69, 0, 0, 0)]
theorem bk_X5_valueAt_59 : xm_okb cX5_valueAt 5 5 0 false 62 59 kX5_valueAt_59 = true := by decide +kernel
abbrev mt_X5_cancelIn : xm_T4 := (yX5_cancelIn, cX5_cancelIn, 3, (some .boolean))
theorem mo_X5_cancelIn : xm_mo mt_X5_cancelIn 5 1 1 false false := ⟨by decide +kernel, rfl, (fun h => by cases h), rfl, by decide, ⟨by decide +kernel, by decide +kernel, by decide +kernel⟩, (wq_at mw_5_0 8 rfl), (wq_at mw_5_0 11 rfl), (fun h => by cases h), (fun _ => (wq_at mw_5_0 9 rfl)), (fun _ => (wq_at mw_5_0 10 rfl))⟩
def kX5_cancelIn_0 : List xm_I := [(.sipush 0, 0, 0, 0, 0), (.istore 0, 2, 0, 0, 0)]
theorem bk_X5_cancelIn_0 : xm_okb cX5_cancelIn 5 3 1 false 2 0 kX5_cancelIn_0 = true := by decide +kernel
def kX5_cancelIn_2 : List xm_I := [(.iload 0, 2, 0, 0, 0), (.aload 0, 0, 0, 0, 0), (.getfield 0, 5, 0, 0, 0), (.if_icmp .ge 0, 31, 0, 0, 0), (.iload 0, 1, 0, 0, 0), (.aload 0, 0, 0, 0, 0), (.getfield 0, 5, 2, 2, 0), (.iload 0, 2, 0, 0, 0)]
theorem bk_X5_cancelIn_2 : xm_okb cX5_cancelIn 5 3 1 false 16 2 kX5_cancelIn_2 = true := by decide +kernel
def kX5_cancelIn_20 : List xm_I := [(.ifCond .eq 0, 25, 0, 0, 0), (.sipush 0, 0, 0, 0, 0), (.ireturn, 1, 0, 0, 0)]
theorem bk_X5_cancelIn_20 : xm_okb cX5_cancelIn 5 3 1 false 25 20 kX5_cancelIn_20 = true := by decide +kernel
def kX5_cancelIn_25 : List xm_I := [(.iinc 0 0, 2, 0, 0, 1), (.goto 0, 2, 0, 0, 0)]
theorem bk_X5_cancelIn_25 : xm_okb cX5_cancelIn 5 3 1 false 31 25 kX5_cancelIn_25 = true := by decide +kernel
def kX5_cancelIn_31 : List xm_I := [(.sipush 0, 0, 0, 0, 1), (.ireturn, 1, 0, 0, 0)]
theorem bk_X5_cancelIn_31 : xm_okb cX5_cancelIn 5 3 1 false 33 31 kX5_cancelIn_31 = true := by decide +kernel
def kX5_cancelIn_16 : List xm_I := [(.iaload, 0, 0, 0, 0)]
theorem bk_X5_cancelIn_16 : xm_okb cX5_cancelIn 5 3 1 false 17 16 kX5_cancelIn_16 = true := by decide +kernel

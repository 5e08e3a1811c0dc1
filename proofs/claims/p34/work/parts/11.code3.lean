/-! CODE of CheckWeigher$ResidueTable: what is fixed of its methods, and their blocks, by program -/
abbrev mt_X3_init : xm_T4 := (yX3_init, cX3_init, 2, none)
theorem mo_X3_init : xm_mo mt_X3_init 3 1 3 true false := ⟨by decide +kernel, rfl, (fun _ => rfl), rfl, by decide, ⟨by decide +kernel, by decide +kernel, by decide +kernel⟩, (wq_at mw_3_0 0 rfl), (wq_at mw_3_0 5 rfl), (fun h => by cases h), (fun _ => (wq_at mw_3_0 1 rfl)), (fun h => by cases h.2)⟩
def kX3_init_0 : List xm_I := [(.aload 0, 0, 0, 0, 0)]
theorem bk_X3_init_0 : xm_okb cX3_init 3 2 3 true 1 0 kX3_init_0 = true := by decide +kernel
def kX3_init_4 : List xm_I := [(.aload 0, 0, 0, 0, 0), (.sipush 0, 0, 0, 0, 1740)]
theorem bk_X3_init_4 : xm_okb cX3_init 3 2 3 true 8 4 kX3_init_4 = true := by decide +kernel
def kX3_init_10 : List xm_I := [(.putfield 0, 3, 2, 2, 0), (.aload 0, 0, 0, 0, 0), (.sipush 0, 0, 0, 0, 61)]
theorem bk_X3_init_10 : xm_okb cX3_init 3 2 3 true 16 10 kX3_init_10 = true := by decide +kernel
def kX3_init_18 : List xm_I := [(.putfield 0, 3, 3, 2, 0), (.aload 0, 0, 0, 0, 0), (.aload 0, 1, 0, 0, 0)]
theorem bk_X3_init_18 : xm_okb cX3_init 3 2 3 true 23 18 kX3_init_18 = true := by decide +kernel
def kX3_init_26 : List xm_I := [(.return_, 0, 0, 0, 0)]
theorem bk_X3_init_26 : xm_okb cX3_init 3 2 3 true 27 26 kX3_init_26 = true := by decide +kernel
abbrev mt_X3_begin : xm_T4 := (yX3_begin, cX3_begin, 3, none)
theorem mo_X3_begin : xm_mo mt_X3_begin 3 1 3 false false := ⟨by decide +kernel, rfl, (fun h => by cases h), rfl, by decide, ⟨by decide +kernel, by decide +kernel, by decide +kernel⟩, (wq_at mw_3_0 2 rfl), (wq_at mw_3_0 5 rfl), (fun h => by cases h), (fun _ => (wq_at mw_3_0 3 rfl)), (fun _ => (wq_at mw_3_0 4 rfl))⟩
def kX3_begin_0 : List xm_I := [(.aload 0, 0, 0, 0, 0), (.aload 0, 1, 0, 0, 0), (.putfield 0, 3, 0, 2, 0), (.aload 0, 0, 0, 0, 0), (.sipush 0, 0, 0, 0, 0), (.putfield 0, 3, 1, 1, 0), (.sipush 0, 0, 0, 0, 0), (.istore 0, 2, 0, 0, 0)]
theorem bk_X3_begin_0 : xm_okb cX3_begin 3 3 3 false 12 0 kX3_begin_0 = true := by decide +kernel
def kX3_begin_12 : List xm_I := [(.iload 0, 2, 0, 0, 0), (.aload 0, 0, 0, 0, 0), (.getfield 0, 3, 3, 2, 0), (.arraylength, 0, 0, 0, 0), (.if_icmp .ge 0, 34, 0, 0, 0), (.aload 0, 0, 0, 0, 0), (.getfield 0, 3, 3, 2, 0), (.iload 0, 2, 0, 0, 0)]
theorem bk_X3_begin_12 : xm_okb cX3_begin 3 3 3 false 26 12 kX3_begin_12 = true := by decide +kernel
def kX3_begin_34 : List xm_I := [(.return_, 0, 0, 0, 0)]
theorem bk_X3_begin_34 : xm_okb cX3_begin 3 3 3 false 35 34 kX3_begin_34 = true := by decide +kernel
def kX3_begin_26 : List xm_I := [(.sipush 0, 0, 0, 0, (-1)), (.iastore, 0, 0, 0, 0), (.iinc 0 0, 2, 0, 0, 1), (.goto 0, 12, 0, 0, 0)]
theorem bk_X3_begin_26 : xm_okb cX3_begin 3 3 3 false 34 26 kX3_begin_26 = true := by decide +kernel

/-! CODE of CheckWeigher: what is fixed of its methods, and their blocks, by program -/
abbrev mt_X6_init : xm_T4 := (yX6_init, cX6_init, 1, none)
theorem mo_X6_init : xm_mo mt_X6_init 6 0 3 true false := ⟨by decide +kernel, rfl, (fun _ => rfl), rfl, by decide, ⟨by decide +kernel, by decide +kernel, by decide +kernel⟩, (wq_at mw_6_0 0 rfl), (wq_at mw_6_1 35 rfl), (fun h => by cases h), (fun _ => (wq_at mw_6_0 1 rfl)), (fun h => by cases h.2)⟩
def kX6_init_0 : List xm_I := [(.aload 0, 0, 0, 0, 0)]
theorem bk_X6_init_0 : xm_okb cX6_init 6 1 3 true 1 0 kX6_init_0 = true := by decide +kernel
def kX6_init_4 : List xm_I := [(.aload 0, 0, 0, 0, 0), (.sipush 0, 0, 0, 0, 500)]
theorem bk_X6_init_4 : xm_okb cX6_init 6 1 3 true 8 4 kX6_init_4 = true := by decide +kernel
def kX6_init_10 : List xm_I := [(.putfield 0, 6, 0, 2, 0), (.aload 0, 0, 0, 0, 0), (.sipush 0, 0, 0, 0, 0), (.putfield 0, 6, 1, 0, 0), (.aload 0, 0, 0, 0, 0), (.sipush 0, 0, 0, 0, 0), (.putfield 0, 6, 2, 0, 0), (.aload 0, 0, 0, 0, 0)]
theorem bk_X6_init_10 : xm_okb cX6_init 6 1 3 true 24 10 kX6_init_10 = true := by decide +kernel
def kX6_init_32 : List xm_I := [(.dup, 0, 0, 0, 0)]
theorem bk_X6_init_32 : xm_okb cX6_init 6 1 3 true 33 32 kX6_init_32 = true := by decide +kernel
def kX6_init_36 : List xm_I := [(.putfield 0, 6, 4, 2, 0), (.aload 0, 0, 0, 0, 0)]
theorem bk_X6_init_36 : xm_okb cX6_init 6 1 3 true 40 36 kX6_init_36 = true := by decide +kernel
def kX6_init_43 : List xm_I := [(.dup, 0, 0, 0, 0)]
theorem bk_X6_init_43 : xm_okb cX6_init 6 1 3 true 44 43 kX6_init_43 = true := by decide +kernel
def kX6_init_47 : List xm_I := [(.putfield 0, 6, 5, 2, 0), (.aload 0, 0, 0, 0, 0)]
theorem bk_X6_init_47 : xm_okb cX6_init 6 1 3 true 51 47 kX6_init_47 = true := by decide +kernel
def kX6_init_54 : List xm_I := [(.dup, 0, 0, 0, 0), (.aload 0, 0, 0, 0, 0), (.getfield 0, 6, 0, 2, 0), (.aload 0, 0, 0, 0, 0), (.getfield 0, 6, 5, 2, 0)]
theorem bk_X6_init_54 : xm_okb cX6_init 6 1 3 true 63 54 kX6_init_54 = true := by decide +kernel
def kX6_init_66 : List xm_I := [(.putfield 0, 6, 6, 2, 0), (.aload 0, 0, 0, 0, 0)]
theorem bk_X6_init_66 : xm_okb cX6_init 6 1 3 true 70 66 kX6_init_66 = true := by decide +kernel
def kX6_init_73 : List xm_I := [(.dup, 0, 0, 0, 0), (.aload 0, 0, 0, 0, 0), (.getfield 0, 6, 4, 2, 0)]
theorem bk_X6_init_73 : xm_okb cX6_init 6 1 3 true 78 73 kX6_init_73 = true := by decide +kernel
def kX6_init_81 : List xm_I := [(.putfield 0, 6, 7, 2, 0), (.aload 0, 0, 0, 0, 0)]
theorem bk_X6_init_81 : xm_okb cX6_init 6 1 3 true 85 81 kX6_init_81 = true := by decide +kernel
def kX6_init_88 : List xm_I := [(.dup, 0, 0, 0, 0), (.aload 0, 0, 0, 0, 0), (.getfield 0, 6, 4, 2, 0)]
theorem bk_X6_init_88 : xm_okb cX6_init 6 1 3 true 93 88 kX6_init_88 = true := by decide +kernel
def kX6_init_96 : List xm_I := [(.putfield 0, 6, 8, 2, 0), (.aload 0, 0, 0, 0, 0)]
theorem bk_X6_init_96 : xm_okb cX6_init 6 1 3 true 100 96 kX6_init_96 = true := by decide +kernel
def kX6_init_103 : List xm_I := [(.dup, 0, 0, 0, 0), (.aload 0, 0, 0, 0, 0), (.getfield 0, 6, 4, 2, 0), (.getfield 0, 4, 4, 2, 0)]
theorem bk_X6_init_103 : xm_okb cX6_init 6 1 3 true 111 103 kX6_init_103 = true := by decide +kernel
def kX6_init_114 : List xm_I := [(.putfield 0, 6, 9, 2, 0), (.return_, 0, 0, 0, 0)]
theorem bk_X6_init_114 : xm_okb cX6_init 6 1 3 true 118 114 kX6_init_114 = true := by decide +kernel
def kX6_init_24 : List xm_I := [(.sipush 0, 0, 0, 0, (-1)), (.putfield 0, 6, 3, 0, 0), (.aload 0, 0, 0, 0, 0)]
theorem bk_X6_init_24 : xm_okb cX6_init 6 1 3 true 29 24 kX6_init_24 = true := by decide +kernel
abbrev mt_X6_append : xm_T4 := (yX6_append, cX6_append, 6, (some .int))
theorem mo_X6_append : xm_mo mt_X6_append 6 5 0 false false := ⟨by decide +kernel, rfl, (fun h => by cases h), rfl, by decide, ⟨by decide +kernel, by decide +kernel, by decide +kernel⟩, (wq_at mw_6_0 2 rfl), (wq_at mw_6_1 35 rfl), (fun h => by cases h), (fun _ => (wq_at mw_6_0 3 rfl)), (fun _ => (wq_at mw_6_0 4 rfl))⟩
def kX6_append_0 : List xm_I := [(.aload 0, 0, 0, 0, 0), (.getfield 0, 6, 1, 0, 0), (.sipush 0, 0, 0, 0, 20), (.iadd, 0, 0, 0, 0), (.sipush 0, 0, 0, 0, 500), (.if_icmp .le 0, 21, 0, 0, 0)]
theorem bk_X6_append_0 : xm_okb cX6_append 6 6 0 false 13 0 kX6_append_0 = true := by decide +kernel
def kX6_append_16 : List xm_I := [(.dup, 0, 0, 0, 0)]
theorem bk_X6_append_16 : xm_okb cX6_append 6 6 0 false 17 16 kX6_append_16 = true := by decide +kernel
def kX6_append_21 : List xm_I := [(.aload 0, 0, 0, 0, 0), (.iload 0, 1, 0, 0, 0)]
theorem bk_X6_append_21 : xm_okb cX6_append 6 6 0 false 23 21 kX6_append_21 = true := by decide +kernel
def kX6_append_26 : List xm_I := [(.aload 0, 0, 0, 0, 0), (.iload 0, 2, 0, 0, 0)]
theorem bk_X6_append_26 : xm_okb cX6_append 6 6 0 false 28 26 kX6_append_26 = true := by decide +kernel
def kX6_append_31 : List xm_I := [(.aload 0, 0, 0, 0, 0), (.iload 0, 3, 0, 0, 0)]
theorem bk_X6_append_31 : xm_okb cX6_append 6 6 0 false 33 31 kX6_append_31 = true := by decide +kernel
def kX6_append_36 : List xm_I := [(.aload 0, 0, 0, 0, 0), (.iload 0, 4, 0, 0, 0)]
theorem bk_X6_append_36 : xm_okb cX6_append 6 6 0 false 39 36 kX6_append_36 = true := by decide +kernel
def kX6_append_42 : List xm_I := [(.aload 0, 0, 0, 0, 0), (.iload 0, 5, 0, 0, 0)]
theorem bk_X6_append_42 : xm_okb cX6_append 6 6 0 false 45 42 kX6_append_42 = true := by decide +kernel
def kX6_append_48 : List xm_I := [(.aload 0, 0, 0, 0, 0), (.getfield 0, 6, 1, 0, 0), (.ireturn, 0, 0, 0, 0)]
theorem bk_X6_append_48 : xm_okb cX6_append 6 6 0 false 53 48 kX6_append_48 = true := by decide +kernel
abbrev mt_X6_addBytes : xm_T4 := (yX6_addBytes, cX6_addBytes, 3, none)
theorem mo_X6_addBytes : xm_mo mt_X6_addBytes 6 1 3 false false := ⟨by decide +kernel, rfl, (fun h => by cases h), rfl, by decide, ⟨by decide +kernel, by decide +kernel, by decide +kernel⟩, (wq_at mw_6_0 5 rfl), (wq_at mw_6_1 35 rfl), (fun h => by cases h), (fun _ => (wq_at mw_6_0 6 rfl)), (fun _ => (wq_at mw_6_0 7 rfl))⟩
def kX6_addBytes_0 : List xm_I := [(.sipush 0, 0, 0, 0, 24), (.istore 0, 2, 0, 0, 0)]
theorem bk_X6_addBytes_0 : xm_okb cX6_addBytes 6 3 3 false 3 0 kX6_addBytes_0 = true := by decide +kernel
def kX6_addBytes_3 : List xm_I := [(.iload 0, 2, 0, 0, 0), (.ifCond .lt 0, 49, 0, 0, 0), (.aload 0, 0, 0, 0, 0), (.getfield 0, 6, 1, 0, 0), (.sipush 0, 0, 0, 0, 500), (.if_icmp .ge 0, 49, 0, 0, 0), (.aload 0, 0, 0, 0, 0), (.getfield 0, 6, 0, 2, 0)]
theorem bk_X6_addBytes_3 : xm_okb cX6_addBytes 6 3 3 false 21 3 kX6_addBytes_3 = true := by decide +kernel
def kX6_addBytes_49 : List xm_I := [(.return_, 0, 0, 0, 0)]
theorem bk_X6_addBytes_49 : xm_okb cX6_addBytes 6 3 3 false 50 49 kX6_addBytes_49 = true := by decide +kernel
def kX6_addBytes_21 : List xm_I := [(.aload 0, 0, 0, 0, 0), (.getfield 0, 6, 1, 0, 0), (.iload 0, 1, 0, 0, 0), (.iload 0, 2, 0, 0, 0), (.iushr, 0, 0, 0, 0), (.sipush 0, 0, 0, 0, 255), (.iand, 0, 0, 0, 0), (.iastore, 0, 0, 0, 0)]
theorem bk_X6_addBytes_21 : xm_okb cX6_addBytes 6 3 3 false 33 21 kX6_addBytes_21 = true := by decide +kernel
def kX6_addBytes_33 : List xm_I := [(.aload 0, 0, 0, 0, 0), (.dup, 0, 0, 0, 0), (.getfield 0, 6, 1, 0, 0), (.sipush 0, 0, 0, 0, 1), (.iadd, 0, 0, 0, 0), (.putfield 0, 6, 1, 0, 0), (.iinc 0 0, 2, 0, 0, (-8)), (.goto 0, 3, 0, 0, 0)]
theorem bk_X6_addBytes_33 : xm_okb cX6_addBytes 6 3 3 false 49 33 kX6_addBytes_33 = true := by decide +kernel
abbrev mt_X6_truncate : xm_T4 := (yX6_truncate, cX6_truncate, 2, (some .int))
theorem mo_X6_truncate : xm_mo mt_X6_truncate 6 1 0 false false := ⟨by decide +kernel, rfl, (fun h => by cases h), rfl, by decide, ⟨by decide +kernel, by decide +kernel, by decide +kernel⟩, (wq_at mw_6_0 8 rfl), (wq_at mw_6_1 35 rfl), (fun h => by cases h), (fun _ => (wq_at mw_6_0 9 rfl)), (fun _ => (wq_at mw_6_0 10 rfl))⟩
def kX6_truncate_0 : List xm_I := [(.iload 0, 1, 0, 0, 0), (.ifCond .lt 0, 12, 0, 0, 0), (.iload 0, 1, 0, 0, 0), (.aload 0, 0, 0, 0, 0), (.getfield 0, 6, 1, 0, 0), (.if_icmp .le 0, 20, 0, 0, 0)]
theorem bk_X6_truncate_0 : xm_okb cX6_truncate 6 2 0 false 12 0 kX6_truncate_0 = true := by decide +kernel
def kX6_truncate_15 : List xm_I := [(.dup, 0, 0, 0, 0)]
theorem bk_X6_truncate_15 : xm_okb cX6_truncate 6 2 0 false 16 15 kX6_truncate_15 = true := by decide +kernel
def kX6_truncate_20 : List xm_I := [(.aload 0, 0, 0, 0, 0), (.iload 0, 1, 0, 0, 0), (.putfield 0, 6, 1, 0, 0), (.aload 0, 0, 0, 0, 0), (.getfield 0, 6, 1, 0, 0), (.ireturn, 0, 0, 0, 0)]
theorem bk_X6_truncate_20 : xm_okb cX6_truncate 6 2 0 false 30 20 kX6_truncate_20 = true := by decide +kernel
abbrev mt_X6_load : xm_T4 := (yX6_load, cX6_load, 2, (some .int))
theorem mo_X6_load : xm_mo mt_X6_load 6 0 0 false false := ⟨by decide +kernel, rfl, (fun h => by cases h), rfl, by decide, ⟨by decide +kernel, by decide +kernel, by decide +kernel⟩, (wq_at mw_6_0 11 rfl), (wq_at mw_6_1 35 rfl), (fun h => by cases h), (fun _ => (wq_at mw_6_0 12 rfl)), (fun _ => (wq_at mw_6_0 13 rfl))⟩
def kX6_load_0 : List xm_I := [(.aload 0, 0, 0, 0, 0), (.getfield 0, 6, 6, 2, 0), (.aload 0, 0, 0, 0, 0), (.getfield 0, 6, 1, 0, 0), (.aload 0, 0, 0, 0, 0), (.getfield 0, 6, 5, 2, 0)]
theorem bk_X6_load_0 : xm_okb cX6_load 6 2 0 false 12 0 kX6_load_0 = true := by decide +kernel
def kX6_load_15 : List xm_I := [(.aload 0, 0, 0, 0, 0), (.sipush 0, 0, 0, 0, 0), (.putfield 0, 6, 1, 0, 0), (.aload 0, 0, 0, 0, 0), (.aload 0, 0, 0, 0, 0), (.getfield 0, 6, 6, 2, 0), (.getfield 0, 2, 7, 0, 0), (.putfield 0, 6, 2, 0, 0)]
theorem bk_X6_load_15 : xm_okb cX6_load 6 2 0 false 31 15 kX6_load_15 = true := by decide +kernel
def kX6_load_52 : List xm_I := [(.dup, 0, 0, 0, 0)]
theorem bk_X6_load_52 : xm_okb cX6_load 6 2 0 false 53 52 kX6_load_52 = true := by decide +kernel
def kX6_load_57 : List xm_I := [(.aload 0, 0, 0, 0, 0), (.getfield 0, 6, 4, 2, 0), (.astore 0, 1, 0, 0, 0), (.aload 0, 0, 0, 0, 0), (.aload 0, 0, 0, 0, 0), (.getfield 0, 6, 5, 2, 0), (.putfield 0, 6, 4, 2, 0), (.aload 0, 0, 0, 0, 0)]
theorem bk_X6_load_57 : xm_okb cX6_load 6 2 0 false 71 57 kX6_load_57 = true := by decide +kernel
def kX6_load_86 : List xm_I := [(.aload 0, 0, 0, 0, 0), (.getfield 0, 6, 9, 2, 0), (.aload 0, 0, 0, 0, 0), (.getfield 0, 6, 4, 2, 0), (.getfield 0, 4, 4, 2, 0)]
theorem bk_X6_load_86 : xm_okb cX6_load 6 2 0 false 97 86 kX6_load_86 = true := by decide +kernel
def kX6_load_100 : List xm_I := [(.aload 0, 0, 0, 0, 0), (.getfield 0, 6, 4, 2, 0), (.getfield 0, 4, 5, 0, 0), (.ireturn, 0, 0, 0, 0)]
theorem bk_X6_load_100 : xm_okb cX6_load 6 2 0 false 108 100 kX6_load_100 = true := by decide +kernel
def kX6_load_31 : List xm_I := [(.aload 0, 0, 0, 0, 0), (.aload 0, 0, 0, 0, 0), (.getfield 0, 6, 6, 2, 0), (.getfield 0, 2, 8, 0, 0), (.putfield 0, 6, 3, 0, 0), (.aload 0, 0, 0, 0, 0), (.getfield 0, 6, 2, 0, 0), (.ifCond .eq 0, 57, 0, 0, 0)]
theorem bk_X6_load_31 : xm_okb cX6_load 6 2 0 false 49 31 kX6_load_31 = true := by decide +kernel
def kX6_load_71 : List xm_I := [(.aload 0, 1, 0, 0, 0), (.putfield 0, 6, 5, 2, 0), (.aload 0, 0, 0, 0, 0), (.getfield 0, 6, 7, 2, 0), (.aload 0, 0, 0, 0, 0), (.getfield 0, 6, 4, 2, 0)]
theorem bk_X6_load_71 : xm_okb cX6_load 6 2 0 false 83 71 kX6_load_71 = true := by decide +kernel
abbrev mt_X6_report : xm_T4 := (yX6_report, cX6_report, 2, (some .int))
theorem mo_X6_report : xm_mo mt_X6_report 6 1 0 false false := ⟨by decide +kernel, rfl, (fun h => by cases h), rfl, by decide, ⟨by decide +kernel, by decide +kernel, by decide +kernel⟩, (wq_at mw_6_0 14 rfl), (wq_at mw_6_1 35 rfl), (fun h => by cases h), (fun _ => (wq_at mw_6_0 15 rfl)), (fun _ => (wq_at mw_6_0 16 rfl))⟩
def kX6_report_0 : List xm_I := [(.iload 0, 1, 0, 0, 0)]
theorem bk_X6_report_0 : xm_okb cX6_report 6 2 0 false 1 0 kX6_report_0 = true := by decide +kernel
def kX6_report_64 : List xm_I := [(.aload 0, 0, 0, 0, 0), (.getfield 0, 6, 7, 2, 0), (.getfield 0, 1, 1, 0, 0), (.ireturn, 0, 0, 0, 0)]
theorem bk_X6_report_64 : xm_okb cX6_report 6 2 0 false 72 64 kX6_report_64 = true := by decide +kernel
def kX6_report_72 : List xm_I := [(.aload 0, 0, 0, 0, 0), (.getfield 0, 6, 4, 2, 0), (.getfield 0, 4, 0, 0, 0), (.ireturn, 0, 0, 0, 0)]
theorem bk_X6_report_72 : xm_okb cX6_report 6 2 0 false 80 72 kX6_report_72 = true := by decide +kernel
def kX6_report_80 : List xm_I := [(.aload 0, 0, 0, 0, 0), (.getfield 0, 6, 4, 2, 0), (.getfield 0, 4, 4, 2, 0), (.getfield 0, 5, 0, 0, 0), (.ireturn, 0, 0, 0, 0)]
theorem bk_X6_report_80 : xm_okb cX6_report 6 2 0 false 91 80 kX6_report_80 = true := by decide +kernel
def kX6_report_91 : List xm_I := [(.aload 0, 0, 0, 0, 0), (.getfield 0, 6, 4, 2, 0), (.getfield 0, 4, 5, 0, 0), (.ireturn, 0, 0, 0, 0)]
theorem bk_X6_report_91 : xm_okb cX6_report 6 2 0 false 99 91 kX6_report_91 = true := by decide +kernel
def kX6_report_99 : List xm_I := [(.aload 0, 0, 0, 0, 0), (.getfield 0, 6, 7, 2, 0), (.getfield 0, 1, 2, 0, 0), (.ireturn, 0, 0, 0, 0)]
theorem bk_X6_report_99 : xm_okb cX6_report 6 2 0 false 107 99 kX6_report_99 = true := by decide +kernel
def kX6_report_107 : List xm_I := [(.aload 0, 0, 0, 0, 0), (.getfield 0, 6, 7, 2, 0), (.getfield 0, 1, 3, 0, 0), (.ireturn, 0, 0, 0, 0)]
theorem bk_X6_report_107 : xm_okb cX6_report 6 2 0 false 115 107 kX6_report_107 = true := by decide +kernel
def kX6_report_115 : List xm_I := [(.aload 0, 0, 0, 0, 0), (.getfield 0, 6, 4, 2, 0)]
theorem bk_X6_report_115 : xm_okb cX6_report 6 2 0 false 119 115 kX6_report_115 = true := by decide +kernel
def kX6_report_122 : List xm_I := [(.ireturn, 0, 0, 0, 0)]
theorem bk_X6_report_122 : xm_okb cX6_report 6 2 0 false 123 122 kX6_report_122 = true := by decide +kernel
def kX6_report_123 : List xm_I := [(.aload 0, 0, 0, 0, 0), (.getfield 0, 6, 7, 2, 0), (.getfield 0, 1, 4, 0, 0), (.ireturn, 0, 0, 0, 0)]
theorem bk_X6_report_123 : xm_okb cX6_report 6 2 0 false 131 123 kX6_report_123 = true := by decide +kernel
def kX6_report_131 : List xm_I := [(.aload 0, 0, 0, 0, 0), (.getfield 0, 6, 7, 2, 0), (.getfield 0, 1, 7, 0, 0), (.ireturn, 0, 0, 0, 0)]
theorem bk_X6_report_131 : xm_okb cX6_report 6 2 0 false 139 131 kX6_report_131 = true := by decide +kernel
def kX6_report_139 : List xm_I := [(.aload 0, 0, 0, 0, 0), (.getfield 0, 6, 7, 2, 0), (.sipush 0, 0, 0, 0, 0)]
theorem bk_X6_report_139 : xm_okb cX6_report 6 2 0 false 144 139 kX6_report_139 = true := by decide +kernel
def kX6_report_147 : List xm_I := [(.aload 0, 0, 0, 0, 0), (.getfield 0, 6, 7, 2, 0), (.sipush 0, 0, 0, 0, 1)]
theorem bk_X6_report_147 : xm_okb cX6_report 6 2 0 false 152 147 kX6_report_147 = true := by decide +kernel
def kX6_report_155 : List xm_I := [(.iadd, 0, 0, 0, 0), (.ireturn, 0, 0, 0, 0)]
theorem bk_X6_report_155 : xm_okb cX6_report 6 2 0 false 157 155 kX6_report_155 = true := by decide +kernel
def kX6_report_157 : List xm_I := [(.aload 0, 0, 0, 0, 0), (.getfield 0, 6, 7, 2, 0), (.getfield 0, 1, 6, 0, 0), (.ireturn, 0, 0, 0, 0)]
theorem bk_X6_report_157 : xm_okb cX6_report 6 2 0 false 165 157 kX6_report_157 = true := by decide +kernel
def kX6_report_165 : List xm_I := [(.aload 0, 0, 0, 0, 0), (.getfield 0, 6, 7, 2, 0)]
theorem bk_X6_report_165 : xm_okb cX6_report 6 2 0 false 169 165 kX6_report_165 = true := by decide +kernel
def kX6_report_172 : List xm_I := [(.ireturn, 0, 0, 0, 0)]
theorem bk_X6_report_172 : xm_okb cX6_report 6 2 0 false 173 172 kX6_report_172 = true := by decide +kernel
def kX6_report_176 : List xm_I := [(.dup, 0, 0, 0, 0)]
theorem bk_X6_report_176 : xm_okb cX6_report 6 2 0 false 177 176 kX6_report_176 = true := by decide +kernel
abbrev mt_X6_gate : xm_T4 := (yX6_gate, cX6_gate, 3, (some .int))
theorem mo_X6_gate : xm_mo mt_X6_gate 6 2 0 false false := ⟨by decide +kernel, rfl, (fun h => by cases h), rfl, by decide, ⟨by decide +kernel, by decide +kernel, by decide +kernel⟩, (wq_at mw_6_0 17 rfl), (wq_at mw_6_1 35 rfl), (fun h => by cases h), (fun _ => (wq_at mw_6_0 18 rfl)), (fun _ => (wq_at mw_6_0 19 rfl))⟩
def kX6_gate_0 : List xm_I := [(.aload 0, 0, 0, 0, 0), (.getfield 0, 6, 4, 2, 0), (.iload 0, 1, 0, 0, 0)]
theorem bk_X6_gate_0 : xm_okb cX6_gate 6 3 0 false 5 0 kX6_gate_0 = true := by decide +kernel
def kX6_gate_8 : List xm_I := [(.ifCond .ne 0, 19, 0, 0, 0)]
theorem bk_X6_gate_8 : xm_okb cX6_gate 6 3 0 false 11 8 kX6_gate_8 = true := by decide +kernel
def kX6_gate_14 : List xm_I := [(.dup, 0, 0, 0, 0)]
theorem bk_X6_gate_14 : xm_okb cX6_gate 6 3 0 false 15 14 kX6_gate_14 = true := by decide +kernel
def kX6_gate_19 : List xm_I := [(.iload 0, 2, 0, 0, 0)]
theorem bk_X6_gate_19 : xm_okb cX6_gate 6 3 0 false 20 19 kX6_gate_19 = true := by decide +kernel
def kX6_gate_72 : List xm_I := [(.aload 0, 0, 0, 0, 0), (.getfield 0, 6, 4, 2, 0), (.getfield 0, 4, 6, 2, 0), (.iload 0, 1, 0, 0, 0), (.iaload, 0, 0, 0, 0), (.ireturn, 0, 0, 0, 0)]
theorem bk_X6_gate_72 : xm_okb cX6_gate 6 3 0 false 82 72 kX6_gate_72 = true := by decide +kernel
def kX6_gate_82 : List xm_I := [(.aload 0, 0, 0, 0, 0), (.getfield 0, 6, 4, 2, 0), (.getfield 0, 4, 7, 2, 0), (.iload 0, 1, 0, 0, 0), (.iaload, 0, 0, 0, 0), (.ireturn, 0, 0, 0, 0)]
theorem bk_X6_gate_82 : xm_okb cX6_gate 6 3 0 false 92 82 kX6_gate_82 = true := by decide +kernel
def kX6_gate_92 : List xm_I := [(.aload 0, 0, 0, 0, 0), (.getfield 0, 6, 4, 2, 0), (.getfield 0, 4, 8, 2, 0), (.iload 0, 1, 0, 0, 0), (.iaload, 0, 0, 0, 0), (.ireturn, 0, 0, 0, 0)]
theorem bk_X6_gate_92 : xm_okb cX6_gate 6 3 0 false 102 92 kX6_gate_92 = true := by decide +kernel
def kX6_gate_102 : List xm_I := [(.aload 0, 0, 0, 0, 0), (.getfield 0, 6, 7, 2, 0), (.getfield 0, 1, 10, 2, 0), (.iload 0, 1, 0, 0, 0), (.iaload, 0, 0, 0, 0), (.ireturn, 0, 0, 0, 0)]
theorem bk_X6_gate_102 : xm_okb cX6_gate 6 3 0 false 112 102 kX6_gate_102 = true := by decide +kernel
def kX6_gate_112 : List xm_I := [(.aload 0, 0, 0, 0, 0), (.getfield 0, 6, 7, 2, 0), (.getfield 0, 1, 11, 2, 0), (.iload 0, 1, 0, 0, 0), (.iaload, 0, 0, 0, 0), (.ireturn, 0, 0, 0, 0)]
theorem bk_X6_gate_112 : xm_okb cX6_gate 6 3 0 false 122 112 kX6_gate_112 = true := by decide +kernel
def kX6_gate_122 : List xm_I := [(.aload 0, 0, 0, 0, 0), (.getfield 0, 6, 7, 2, 0), (.getfield 0, 1, 12, 2, 0), (.iload 0, 1, 0, 0, 0), (.iaload, 0, 0, 0, 0), (.ireturn, 0, 0, 0, 0)]
theorem bk_X6_gate_122 : xm_okb cX6_gate 6 3 0 false 132 122 kX6_gate_122 = true := by decide +kernel
def kX6_gate_132 : List xm_I := [(.aload 0, 0, 0, 0, 0), (.getfield 0, 6, 7, 2, 0), (.iload 0, 1, 0, 0, 0)]
theorem bk_X6_gate_132 : xm_okb cX6_gate 6 3 0 false 137 132 kX6_gate_132 = true := by decide +kernel
def kX6_gate_140 : List xm_I := [(.ifCond .eq 0, 147, 0, 0, 0), (.sipush 0, 0, 0, 0, 1), (.goto 0, 148, 0, 0, 0)]
theorem bk_X6_gate_140 : xm_okb cX6_gate 6 3 0 false 147 140 kX6_gate_140 = true := by decide +kernel
def kX6_gate_147 : List xm_I := [(.sipush 0, 0, 0, 0, 0)]
theorem bk_X6_gate_147 : xm_okb cX6_gate 6 3 0 false 148 147 kX6_gate_147 = true := by decide +kernel
def kX6_gate_148 : List xm_I := [(.ireturn, 0, 0, 0, 0)]
theorem bk_X6_gate_148 : xm_okb cX6_gate 6 3 0 false 149 148 kX6_gate_148 = true := by decide +kernel
def kX6_gate_149 : List xm_I := [(.aload 0, 0, 0, 0, 0), (.getfield 0, 6, 7, 2, 0), (.getfield 0, 1, 8, 2, 0), (.iload 0, 1, 0, 0, 0), (.baload, 0, 0, 0, 0), (.ifCond .eq 0, 165, 0, 0, 0), (.sipush 0, 0, 0, 0, 1), (.goto 0, 166, 0, 0, 0)]
theorem bk_X6_gate_149 : xm_okb cX6_gate 6 3 0 false 165 149 kX6_gate_149 = true := by decide +kernel
def kX6_gate_165 : List xm_I := [(.sipush 0, 0, 0, 0, 0)]
theorem bk_X6_gate_165 : xm_okb cX6_gate 6 3 0 false 166 165 kX6_gate_165 = true := by decide +kernel
def kX6_gate_166 : List xm_I := [(.ireturn, 0, 0, 0, 0)]
theorem bk_X6_gate_166 : xm_okb cX6_gate 6 3 0 false 167 166 kX6_gate_166 = true := by decide +kernel
def kX6_gate_167 : List xm_I := [(.aload 0, 0, 0, 0, 0), (.getfield 0, 6, 7, 2, 0), (.getfield 0, 1, 9, 2, 0), (.iload 0, 1, 0, 0, 0), (.baload, 0, 0, 0, 0), (.ifCond .eq 0, 183, 0, 0, 0), (.sipush 0, 0, 0, 0, 1), (.goto 0, 184, 0, 0, 0)]
theorem bk_X6_gate_167 : xm_okb cX6_gate 6 3 0 false 183 167 kX6_gate_167 = true := by decide +kernel
def kX6_gate_183 : List xm_I := [(.sipush 0, 0, 0, 0, 0)]
theorem bk_X6_gate_183 : xm_okb cX6_gate 6 3 0 false 184 183 kX6_gate_183 = true := by decide +kernel
def kX6_gate_184 : List xm_I := [(.ireturn, 0, 0, 0, 0)]
theorem bk_X6_gate_184 : xm_okb cX6_gate 6 3 0 false 185 184 kX6_gate_184 = true := by decide +kernel
def kX6_gate_188 : List xm_I := [(.dup, 0, 0, 0, 0)]
theorem bk_X6_gate_188 : xm_okb cX6_gate 6 3 0 false 189 188 kX6_gate_188 = true := by decide +kernel
abbrev mt_X6_put : xm_T4 := (yX6_put, cX6_put, 3, (some .int))
theorem mo_X6_put : xm_mo mt_X6_put 6 2 0 false false := ⟨by decide +kernel, rfl, (fun h => by cases h), rfl, by decide, ⟨by decide +kernel, by decide +kernel, by decide +kernel⟩, (wq_at mw_6_0 20 rfl), (wq_at mw_6_1 35 rfl), (fun h => by cases h), (fun _ => (wq_at mw_6_0 21 rfl)), (fun _ => (wq_at mw_6_0 22 rfl))⟩
def kX6_put_0 : List xm_I := [(.iload 0, 1, 0, 0, 0), (.sipush 0, 0, 0, 0, 1), (.if_icmp .lt 0, 19, 0, 0, 0), (.iload 0, 1, 0, 0, 0), (.sipush 0, 0, 0, 0, 9999), (.if_icmp .gt 0, 19, 0, 0, 0), (.iload 0, 2, 0, 0, 0)]
theorem bk_X6_put_0 : xm_okb cX6_put 6 3 0 false 13 0 kX6_put_0 = true := by decide +kernel
def kX6_put_16 : List xm_I := [(.ifCond .ne 0, 27, 0, 0, 0)]
theorem bk_X6_put_16 : xm_okb cX6_put 6 3 0 false 19 16 kX6_put_16 = true := by decide +kernel
def kX6_put_22 : List xm_I := [(.dup, 0, 0, 0, 0)]
theorem bk_X6_put_22 : xm_okb cX6_put 6 3 0 false 23 22 kX6_put_22 = true := by decide +kernel
def kX6_put_27 : List xm_I := [(.aload 0, 0, 0, 0, 0), (.getfield 0, 6, 7, 2, 0)]
theorem bk_X6_put_27 : xm_okb cX6_put 6 3 0 false 31 27 kX6_put_27 = true := by decide +kernel
def kX6_put_34 : List xm_I := [(.ifCond .ne 0, 45, 0, 0, 0)]
theorem bk_X6_put_34 : xm_okb cX6_put 6 3 0 false 37 34 kX6_put_34 = true := by decide +kernel
def kX6_put_40 : List xm_I := [(.dup, 0, 0, 0, 0)]
theorem bk_X6_put_40 : xm_okb cX6_put 6 3 0 false 41 40 kX6_put_40 = true := by decide +kernel
def kX6_put_45 : List xm_I := [(.aload 0, 0, 0, 0, 0), (.getfield 0, 6, 7, 2, 0), (.iload 0, 1, 0, 0, 0), (.iload 0, 2, 0, 0, 0)]
theorem bk_X6_put_45 : xm_okb cX6_put 6 3 0 false 51 45 kX6_put_45 = true := by decide +kernel
def kX6_put_54 : List xm_I := [(.ireturn, 0, 0, 0, 0)]
theorem bk_X6_put_54 : xm_okb cX6_put 6 3 0 false 55 54 kX6_put_54 = true := by decide +kernel
abbrev mt_X6_step : xm_T4 := (yX6_step, cX6_step, 4, (some .int))
theorem mo_X6_step : xm_mo mt_X6_step 6 1 0 false false := ⟨by decide +kernel, rfl, (fun h => by cases h), rfl, by decide, ⟨by decide +kernel, by decide +kernel, by decide +kernel⟩, (wq_at mw_6_0 23 rfl), (wq_at mw_6_1 35 rfl), (fun h => by cases h), (fun _ => (wq_at mw_6_0 24 rfl)), (fun _ => (wq_at mw_6_0 25 rfl))⟩
def kX6_step_0 : List xm_I := [(.iload 0, 1, 0, 0, 0), (.sipush 0, 0, 0, 0, 1), (.if_icmp .lt 0, 12, 0, 0, 0), (.iload 0, 1, 0, 0, 0), (.sipush 0, 0, 0, 0, 500), (.if_icmp .le 0, 20, 0, 0, 0)]
theorem bk_X6_step_0 : xm_okb cX6_step 6 4 0 false 12 0 kX6_step_0 = true := by decide +kernel
def kX6_step_15 : List xm_I := [(.dup, 0, 0, 0, 0)]
theorem bk_X6_step_15 : xm_okb cX6_step 6 4 0 false 16 15 kX6_step_15 = true := by decide +kernel
def kX6_step_20 : List xm_I := [(.aload 0, 0, 0, 0, 0), (.getfield 0, 6, 7, 2, 0), (.getfield 0, 1, 1, 0, 0), (.iload 0, 1, 0, 0, 0), (.iadd, 0, 0, 0, 0), (.sipush 0, 0, 0, 0, 20000), (.if_icmp .le 0, 43, 0, 0, 0)]
theorem bk_X6_step_20 : xm_okb cX6_step 6 4 0 false 35 20 kX6_step_20 = true := by decide +kernel
def kX6_step_38 : List xm_I := [(.dup, 0, 0, 0, 0)]
theorem bk_X6_step_38 : xm_okb cX6_step 6 4 0 false 39 38 kX6_step_38 = true := by decide +kernel
def kX6_step_43 : List xm_I := [(.aload 0, 0, 0, 0, 0), (.getfield 0, 6, 7, 2, 0), (.getfield 0, 1, 5, 0, 0), (.istore 0, 2, 0, 0, 0), (.sipush 0, 0, 0, 0, 0), (.istore 0, 3, 0, 0, 0)]
theorem bk_X6_step_43 : xm_okb cX6_step 6 4 0 false 53 43 kX6_step_43 = true := by decide +kernel
def kX6_step_53 : List xm_I := [(.iload 0, 3, 0, 0, 0), (.iload 0, 1, 0, 0, 0), (.if_icmp .ge 0, 71, 0, 0, 0), (.aload 0, 0, 0, 0, 0), (.getfield 0, 6, 7, 2, 0)]
theorem bk_X6_step_53 : xm_okb cX6_step 6 4 0 false 62 53 kX6_step_53 = true := by decide +kernel
def kX6_step_65 : List xm_I := [(.iinc 0 0, 3, 0, 0, 1), (.goto 0, 53, 0, 0, 0)]
theorem bk_X6_step_65 : xm_okb cX6_step 6 4 0 false 71 65 kX6_step_65 = true := by decide +kernel
def kX6_step_71 : List xm_I := [(.aload 0, 0, 0, 0, 0), (.getfield 0, 6, 7, 2, 0), (.getfield 0, 1, 5, 0, 0), (.iload 0, 2, 0, 0, 0), (.isub, 0, 0, 0, 0), (.ireturn, 0, 0, 0, 0)]
theorem bk_X6_step_71 : xm_okb cX6_step 6 4 0 false 81 71 kX6_step_71 = true := by decide +kernel
abbrev mt_X6_jam : xm_T4 := (yX6_jam, cX6_jam, 4, (some .boolean))
theorem mo_X6_jam : xm_mo mt_X6_jam 6 2 1 false false := ⟨by decide +kernel, rfl, (fun h => by cases h), rfl, by decide, ⟨by decide +kernel, by decide +kernel, by decide +kernel⟩, (wq_at mw_6_0 26 rfl), (wq_at mw_6_1 35 rfl), (fun h => by cases h), (fun _ => (wq_at mw_6_0 27 rfl)), (fun _ => (wq_at mw_6_0 28 rfl))⟩
def kX6_jam_0 : List xm_I := [(.aload 0, 0, 0, 0, 0), (.getfield 0, 6, 4, 2, 0), (.iload 0, 1, 0, 0, 0)]
theorem bk_X6_jam_0 : xm_okb cX6_jam 6 4 1 false 5 0 kX6_jam_0 = true := by decide +kernel
def kX6_jam_8 : List xm_I := [(.ifCond .ne 0, 19, 0, 0, 0)]
theorem bk_X6_jam_8 : xm_okb cX6_jam 6 4 1 false 11 8 kX6_jam_8 = true := by decide +kernel
def kX6_jam_14 : List xm_I := [(.dup, 0, 0, 0, 0)]
theorem bk_X6_jam_14 : xm_okb cX6_jam 6 4 1 false 15 14 kX6_jam_14 = true := by decide +kernel
def kX6_jam_19 : List xm_I := [(.aload 0, 0, 0, 0, 0), (.getfield 0, 6, 7, 2, 0), (.getfield 0, 1, 8, 2, 0), (.iload 0, 1, 0, 0, 0), (.baload, 0, 0, 0, 0), (.iload 0, 2, 0, 0, 0), (.if_icmp .eq 0, 36, 0, 0, 0), (.sipush 0, 0, 0, 0, 1)]
theorem bk_X6_jam_19 : xm_okb cX6_jam 6 4 1 false 33 19 kX6_jam_19 = true := by decide +kernel
def kX6_jam_36 : List xm_I := [(.sipush 0, 0, 0, 0, 0)]
theorem bk_X6_jam_36 : xm_okb cX6_jam 6 4 1 false 37 36 kX6_jam_36 = true := by decide +kernel
def kX6_jam_37 : List xm_I := [(.istore 0, 3, 0, 0, 0), (.aload 0, 0, 0, 0, 0), (.getfield 0, 6, 7, 2, 0), (.getfield 0, 1, 8, 2, 0), (.iload 0, 1, 0, 0, 0), (.iload 0, 2, 0, 0, 0), (.bastore, 0, 0, 0, 0), (.iload 0, 3, 0, 0, 0)]
theorem bk_X6_jam_37 : xm_okb cX6_jam 6 4 1 false 49 37 kX6_jam_37 = true := by decide +kernel
def kX6_jam_33 : List xm_I := [(.goto 0, 37, 0, 0, 0)]
theorem bk_X6_jam_33 : xm_okb cX6_jam 6 4 1 false 36 33 kX6_jam_33 = true := by decide +kernel
def kX6_jam_49 : List xm_I := [(.ireturn, 1, 0, 0, 0)]
theorem bk_X6_jam_49 : xm_okb cX6_jam 6 4 1 false 50 49 kX6_jam_49 = true := by decide +kernel
abbrev mt_X6_sensor : xm_T4 := (yX6_sensor, cX6_sensor, 4, (some .boolean))
theorem mo_X6_sensor : xm_mo mt_X6_sensor 6 2 1 false false := ⟨by decide +kernel, rfl, (fun h => by cases h), rfl, by decide, ⟨by decide +kernel, by decide +kernel, by decide +kernel⟩, (wq_at mw_6_0 29 rfl), (wq_at mw_6_1 35 rfl), (fun h => by cases h), (fun _ => (wq_at mw_6_0 30 rfl)), (fun _ => (wq_at mw_6_0 31 rfl))⟩
def kX6_sensor_0 : List xm_I := [(.aload 0, 0, 0, 0, 0), (.getfield 0, 6, 4, 2, 0), (.iload 0, 1, 0, 0, 0)]
theorem bk_X6_sensor_0 : xm_okb cX6_sensor 6 4 1 false 5 0 kX6_sensor_0 = true := by decide +kernel
def kX6_sensor_8 : List xm_I := [(.ifCond .ne 0, 19, 0, 0, 0)]
theorem bk_X6_sensor_8 : xm_okb cX6_sensor 6 4 1 false 11 8 kX6_sensor_8 = true := by decide +kernel
def kX6_sensor_14 : List xm_I := [(.dup, 0, 0, 0, 0)]
theorem bk_X6_sensor_14 : xm_okb cX6_sensor 6 4 1 false 15 14 kX6_sensor_14 = true := by decide +kernel
def kX6_sensor_19 : List xm_I := [(.aload 0, 0, 0, 0, 0), (.getfield 0, 6, 7, 2, 0), (.getfield 0, 1, 9, 2, 0), (.iload 0, 1, 0, 0, 0), (.baload, 0, 0, 0, 0), (.iload 0, 2, 0, 0, 0), (.if_icmp .eq 0, 36, 0, 0, 0), (.sipush 0, 0, 0, 0, 1)]
theorem bk_X6_sensor_19 : xm_okb cX6_sensor 6 4 1 false 33 19 kX6_sensor_19 = true := by decide +kernel
def kX6_sensor_36 : List xm_I := [(.sipush 0, 0, 0, 0, 0)]
theorem bk_X6_sensor_36 : xm_okb cX6_sensor 6 4 1 false 37 36 kX6_sensor_36 = true := by decide +kernel
def kX6_sensor_37 : List xm_I := [(.istore 0, 3, 0, 0, 0), (.aload 0, 0, 0, 0, 0), (.getfield 0, 6, 7, 2, 0), (.getfield 0, 1, 9, 2, 0), (.iload 0, 1, 0, 0, 0), (.iload 0, 2, 0, 0, 0), (.bastore, 0, 0, 0, 0), (.iload 0, 3, 0, 0, 0)]
theorem bk_X6_sensor_37 : xm_okb cX6_sensor 6 4 1 false 49 37 kX6_sensor_37 = true := by decide +kernel
def kX6_sensor_33 : List xm_I := [(.goto 0, 37, 0, 0, 0)]
theorem bk_X6_sensor_33 : xm_okb cX6_sensor 6 4 1 false 36 33 kX6_sensor_33 = true := by decide +kernel
def kX6_sensor_49 : List xm_I := [(.ireturn, 1, 0, 0, 0)]
theorem bk_X6_sensor_49 : xm_okb cX6_sensor 6 4 1 false 50 49 kX6_sensor_49 = true := by decide +kernel
abbrev mt_X6_setLimits : xm_T4 := (yX6_setLimits, cX6_setLimits, 3, none)
theorem mo_X6_setLimits : xm_mo mt_X6_setLimits 6 2 3 false false := ⟨by decide +kernel, rfl, (fun h => by cases h), rfl, by decide, ⟨by decide +kernel, by decide +kernel, by decide +kernel⟩, (wq_at mw_6_0 32 rfl), (wq_at mw_6_1 35 rfl), (fun h => by cases h), (fun _ => (wq_at mw_6_0 33 rfl)), (fun _ => (wq_at mw_6_0 34 rfl))⟩
def kX6_setLimits_0 : List xm_I := [(.iload 0, 1, 0, 0, 0), (.ifCond .lt 0, 23, 0, 0, 0), (.iload 0, 1, 0, 0, 0), (.sipush 0, 0, 0, 0, 9999), (.if_icmp .gt 0, 23, 0, 0, 0), (.iload 0, 2, 0, 0, 0), (.iload 0, 1, 0, 0, 0), (.if_icmp .lt 0, 23, 0, 0, 0)]
theorem bk_X6_setLimits_0 : xm_okb cX6_setLimits 6 3 3 false 16 0 kX6_setLimits_0 = true := by decide +kernel
def kX6_setLimits_26 : List xm_I := [(.dup, 0, 0, 0, 0)]
theorem bk_X6_setLimits_26 : xm_okb cX6_setLimits 6 3 3 false 27 26 kX6_setLimits_26 = true := by decide +kernel
def kX6_setLimits_31 : List xm_I := [(.aload 0, 0, 0, 0, 0), (.getfield 0, 6, 7, 2, 0), (.iload 0, 1, 0, 0, 0), (.putfield 0, 1, 2, 0, 0), (.aload 0, 0, 0, 0, 0), (.getfield 0, 6, 7, 2, 0), (.iload 0, 2, 0, 0, 0), (.putfield 0, 1, 3, 0, 0)]
theorem bk_X6_setLimits_31 : xm_okb cX6_setLimits 6 3 3 false 47 31 kX6_setLimits_31 = true := by decide +kernel
def kX6_setLimits_16 : List xm_I := [(.iload 0, 2, 0, 0, 0), (.sipush 0, 0, 0, 0, 9999), (.if_icmp .le 0, 31, 0, 0, 0)]
theorem bk_X6_setLimits_16 : xm_okb cX6_setLimits 6 3 3 false 23 16 kX6_setLimits_16 = true := by decide +kernel
def kX6_setLimits_47 : List xm_I := [(.return_, 0, 0, 0, 0)]
theorem bk_X6_setLimits_47 : xm_okb cX6_setLimits 6 3 3 false 48 47 kX6_setLimits_47 = true := by decide +kernel
abbrev mt_X6_setTare : xm_T4 := (yX6_setTare, cX6_setTare, 3, (some .int))
theorem mo_X6_setTare : xm_mo mt_X6_setTare 6 1 0 false false := ⟨by decide +kernel, rfl, (fun h => by cases h), rfl, by decide, ⟨by decide +kernel, by decide +kernel, by decide +kernel⟩, (wq_at mw_6_0 35 rfl), (wq_at mw_6_1 35 rfl), (fun h => by cases h), (fun _ => (wq_at mw_6_0 36 rfl)), (fun _ => (wq_at mw_6_0 37 rfl))⟩
def kX6_setTare_0 : List xm_I := [(.iload 0, 1, 0, 0, 0), (.sipush 0, 0, 0, 0, (-9999)), (.if_icmp .lt 0, 14, 0, 0, 0), (.iload 0, 1, 0, 0, 0), (.sipush 0, 0, 0, 0, 9999), (.if_icmp .le 0, 22, 0, 0, 0)]
theorem bk_X6_setTare_0 : xm_okb cX6_setTare 6 3 0 false 14 0 kX6_setTare_0 = true := by decide +kernel
def kX6_setTare_17 : List xm_I := [(.dup, 0, 0, 0, 0)]
theorem bk_X6_setTare_17 : xm_okb cX6_setTare 6 3 0 false 18 17 kX6_setTare_17 = true := by decide +kernel
def kX6_setTare_22 : List xm_I := [(.aload 0, 0, 0, 0, 0), (.getfield 0, 6, 7, 2, 0), (.getfield 0, 1, 4, 0, 0), (.istore 0, 2, 0, 0, 0), (.aload 0, 0, 0, 0, 0), (.getfield 0, 6, 7, 2, 0), (.iload 0, 1, 0, 0, 0), (.putfield 0, 1, 4, 0, 0)]
theorem bk_X6_setTare_22 : xm_okb cX6_setTare 6 3 0 false 38 22 kX6_setTare_22 = true := by decide +kernel
def kX6_setTare_38 : List xm_I := [(.iload 0, 2, 0, 0, 0), (.ireturn, 0, 0, 0, 0)]
theorem bk_X6_setTare_38 : xm_okb cX6_setTare 6 3 0 false 40 38 kX6_setTare_38 = true := by decide +kernel
abbrev mt_X6_item : xm_T4 := (yX6_item, cX6_item, 4, (some .int))
theorem mo_X6_item : xm_mo mt_X6_item 6 2 0 false false := ⟨by decide +kernel, rfl, (fun h => by cases h), rfl, by decide, ⟨by decide +kernel, by decide +kernel, by decide +kernel⟩, (wq_at mw_6_0 38 rfl), (wq_at mw_6_1 35 rfl), (fun h => by cases h), (fun _ => (wq_at mw_6_0 39 rfl)), (fun _ => (wq_at mw_6_1 0 rfl))⟩
def kX6_item_0 : List xm_I := [(.aload 0, 0, 0, 0, 0), (.getfield 0, 6, 7, 2, 0), (.iload 0, 1, 0, 0, 0)]
theorem bk_X6_item_0 : xm_okb cX6_item 6 4 0 false 5 0 kX6_item_0 = true := by decide +kernel
def kX6_item_8 : List xm_I := [(.astore 0, 3, 0, 0, 0), (.aload 0, 3, 0, 0, 0), (.ifnonnull 0, 21, 0, 0, 0)]
theorem bk_X6_item_8 : xm_okb cX6_item 6 4 0 false 13 8 kX6_item_8 = true := by decide +kernel
def kX6_item_16 : List xm_I := [(.dup, 0, 0, 0, 0)]
theorem bk_X6_item_16 : xm_okb cX6_item 6 4 0 false 17 16 kX6_item_16 = true := by decide +kernel
def kX6_item_21 : List xm_I := [(.iload 0, 2, 0, 0, 0)]
theorem bk_X6_item_21 : xm_okb cX6_item 6 4 0 false 22 21 kX6_item_21 = true := by decide +kernel
def kX6_item_76 : List xm_I := [(.aload 0, 3, 0, 0, 0), (.getfield 0, 0, 0, 0, 0), (.ireturn, 0, 0, 0, 0)]
theorem bk_X6_item_76 : xm_okb cX6_item 6 4 0 false 81 76 kX6_item_76 = true := by decide +kernel
def kX6_item_81 : List xm_I := [(.aload 0, 3, 0, 0, 0), (.getfield 0, 0, 1, 0, 0), (.ireturn, 0, 0, 0, 0)]
theorem bk_X6_item_81 : xm_okb cX6_item 6 4 0 false 86 81 kX6_item_81 = true := by decide +kernel
def kX6_item_86 : List xm_I := [(.aload 0, 3, 0, 0, 0), (.getfield 0, 0, 2, 0, 0), (.ireturn, 0, 0, 0, 0)]
theorem bk_X6_item_86 : xm_okb cX6_item 6 4 0 false 91 86 kX6_item_86 = true := by decide +kernel
def kX6_item_91 : List xm_I := [(.aload 0, 3, 0, 0, 0), (.getfield 0, 0, 3, 0, 0), (.ireturn, 0, 0, 0, 0)]
theorem bk_X6_item_91 : xm_okb cX6_item 6 4 0 false 96 91 kX6_item_91 = true := by decide +kernel
def kX6_item_96 : List xm_I := [(.aload 0, 3, 0, 0, 0), (.getfield 0, 0, 14, 0, 0), (.ireturn, 0, 0, 0, 0)]
theorem bk_X6_item_96 : xm_okb cX6_item 6 4 0 false 101 96 kX6_item_96 = true := by decide +kernel
def kX6_item_101 : List xm_I := [(.aload 0, 3, 0, 0, 0), (.getfield 0, 0, 4, 1, 0), (.ifCond .eq 0, 112, 0, 0, 0), (.sipush 0, 0, 0, 0, 1), (.goto 0, 113, 0, 0, 0)]
theorem bk_X6_item_101 : xm_okb cX6_item 6 4 0 false 112 101 kX6_item_101 = true := by decide +kernel
def kX6_item_112 : List xm_I := [(.sipush 0, 0, 0, 0, 0)]
theorem bk_X6_item_112 : xm_okb cX6_item 6 4 0 false 113 112 kX6_item_112 = true := by decide +kernel
def kX6_item_113 : List xm_I := [(.ireturn, 0, 0, 0, 0)]
theorem bk_X6_item_113 : xm_okb cX6_item 6 4 0 false 114 113 kX6_item_113 = true := by decide +kernel
def kX6_item_114 : List xm_I := [(.aload 0, 3, 0, 0, 0), (.getfield 0, 0, 5, 0, 0), (.ireturn, 0, 0, 0, 0)]
theorem bk_X6_item_114 : xm_okb cX6_item 6 4 0 false 119 114 kX6_item_114 = true := by decide +kernel
def kX6_item_119 : List xm_I := [(.aload 0, 3, 0, 0, 0), (.getfield 0, 0, 6, 0, 0), (.ireturn, 0, 0, 0, 0)]
theorem bk_X6_item_119 : xm_okb cX6_item 6 4 0 false 124 119 kX6_item_119 = true := by decide +kernel
def kX6_item_124 : List xm_I := [(.aload 0, 3, 0, 0, 0), (.getfield 0, 0, 7, 0, 0), (.ireturn, 0, 0, 0, 0)]
theorem bk_X6_item_124 : xm_okb cX6_item 6 4 0 false 129 124 kX6_item_124 = true := by decide +kernel
def kX6_item_129 : List xm_I := [(.aload 0, 3, 0, 0, 0), (.getfield 0, 0, 8, 0, 0), (.ireturn, 0, 0, 0, 0)]
theorem bk_X6_item_129 : xm_okb cX6_item 6 4 0 false 134 129 kX6_item_129 = true := by decide +kernel
def kX6_item_137 : List xm_I := [(.dup, 0, 0, 0, 0)]
theorem bk_X6_item_137 : xm_okb cX6_item 6 4 0 false 138 137 kX6_item_137 = true := by decide +kernel
abbrev mt_X6_measured : xm_T4 := (yX6_measured, cX6_measured, 3, (some .int))
theorem mo_X6_measured : xm_mo mt_X6_measured 6 1 0 false false := ⟨by decide +kernel, rfl, (fun h => by cases h), rfl, by decide, ⟨by decide +kernel, by decide +kernel, by decide +kernel⟩, (wq_at mw_6_1 1 rfl), (wq_at mw_6_1 35 rfl), (fun h => by cases h), (fun _ => (wq_at mw_6_1 2 rfl)), (fun _ => (wq_at mw_6_1 3 rfl))⟩
def kX6_measured_0 : List xm_I := [(.aload 0, 0, 0, 0, 0), (.getfield 0, 6, 7, 2, 0), (.iload 0, 1, 0, 0, 0)]
theorem bk_X6_measured_0 : xm_okb cX6_measured 6 3 0 false 5 0 kX6_measured_0 = true := by decide +kernel
def kX6_measured_8 : List xm_I := [(.astore 0, 2, 0, 0, 0), (.aload 0, 2, 0, 0, 0), (.ifnonnull 0, 21, 0, 0, 0)]
theorem bk_X6_measured_8 : xm_okb cX6_measured 6 3 0 false 13 8 kX6_measured_8 = true := by decide +kernel
def kX6_measured_16 : List xm_I := [(.dup, 0, 0, 0, 0)]
theorem bk_X6_measured_16 : xm_okb cX6_measured 6 3 0 false 17 16 kX6_measured_16 = true := by decide +kernel
def kX6_measured_21 : List xm_I := [(.aload 0, 2, 0, 0, 0), (.getfield 0, 0, 12, 1, 0), (.ifCond .ne 0, 36, 0, 0, 0)]
theorem bk_X6_measured_21 : xm_okb cX6_measured 6 3 0 false 28 21 kX6_measured_21 = true := by decide +kernel
def kX6_measured_31 : List xm_I := [(.dup, 0, 0, 0, 0)]
theorem bk_X6_measured_31 : xm_okb cX6_measured 6 3 0 false 32 31 kX6_measured_31 = true := by decide +kernel
def kX6_measured_36 : List xm_I := [(.aload 0, 2, 0, 0, 0), (.getfield 0, 0, 13, 0, 0), (.ireturn, 0, 0, 0, 0)]
theorem bk_X6_measured_36 : xm_okb cX6_measured 6 3 0 false 41 36 kX6_measured_36 = true := by decide +kernel
abbrev mt_X6_sampleOf : xm_T4 := (yX6_sampleOf, cX6_sampleOf, 4, (some .int))
theorem mo_X6_sampleOf : xm_mo mt_X6_sampleOf 6 2 0 false false := ⟨by decide +kernel, rfl, (fun h => by cases h), rfl, by decide, ⟨by decide +kernel, by decide +kernel, by decide +kernel⟩, (wq_at mw_6_1 4 rfl), (wq_at mw_6_1 35 rfl), (fun h => by cases h), (fun _ => (wq_at mw_6_1 5 rfl)), (fun _ => (wq_at mw_6_1 6 rfl))⟩
def kX6_sampleOf_0 : List xm_I := [(.aload 0, 0, 0, 0, 0), (.getfield 0, 6, 7, 2, 0), (.iload 0, 1, 0, 0, 0)]
theorem bk_X6_sampleOf_0 : xm_okb cX6_sampleOf 6 4 0 false 5 0 kX6_sampleOf_0 = true := by decide +kernel
def kX6_sampleOf_8 : List xm_I := [(.astore 0, 3, 0, 0, 0), (.aload 0, 3, 0, 0, 0), (.ifnull 0, 25, 0, 0, 0), (.iload 0, 2, 0, 0, 0), (.ifCond .lt 0, 25, 0, 0, 0), (.iload 0, 2, 0, 0, 0), (.aload 0, 3, 0, 0, 0), (.getfield 0, 0, 14, 0, 0)]
theorem bk_X6_sampleOf_8 : xm_okb cX6_sampleOf 6 4 0 false 22 8 kX6_sampleOf_8 = true := by decide +kernel
def kX6_sampleOf_28 : List xm_I := [(.dup, 0, 0, 0, 0)]
theorem bk_X6_sampleOf_28 : xm_okb cX6_sampleOf 6 4 0 false 29 28 kX6_sampleOf_28 = true := by decide +kernel
def kX6_sampleOf_33 : List xm_I := [(.aload 0, 3, 0, 0, 0), (.iload 0, 2, 0, 0, 0)]
theorem bk_X6_sampleOf_33 : xm_okb cX6_sampleOf 6 4 0 false 35 33 kX6_sampleOf_33 = true := by decide +kernel
def kX6_sampleOf_38 : List xm_I := [(.ireturn, 0, 0, 0, 0)]
theorem bk_X6_sampleOf_38 : xm_okb cX6_sampleOf 6 4 0 false 39 38 kX6_sampleOf_38 = true := by decide +kernel
def kX6_sampleOf_22 : List xm_I := [(.if_icmp .lt 0, 33, 0, 0, 0)]
theorem bk_X6_sampleOf_22 : xm_okb cX6_sampleOf 6 4 0 false 25 22 kX6_sampleOf_22 = true := by decide +kernel
abbrev mt_X6_sample : xm_T4 := (yX6_sample, cX6_sample, 2, (some .int))
theorem mo_X6_sample : xm_mo mt_X6_sample 6 1 0 false false := ⟨by decide +kernel, rfl, (fun h => by cases h), rfl, by decide, ⟨by decide +kernel, by decide +kernel, by decide +kernel⟩, (wq_at mw_6_1 7 rfl), (wq_at mw_6_1 35 rfl), (fun h => by cases h), (fun _ => (wq_at mw_6_1 8 rfl)), (fun _ => (wq_at mw_6_1 9 rfl))⟩
def kX6_sample_0 : List xm_I := [(.iload 0, 1, 0, 0, 0), (.ifCond .lt 0, 10, 0, 0, 0), (.iload 0, 1, 0, 0, 0), (.sipush 0, 0, 0, 0, 60), (.if_icmp .lt 0, 18, 0, 0, 0)]
theorem bk_X6_sample_0 : xm_okb cX6_sample 6 2 0 false 10 0 kX6_sample_0 = true := by decide +kernel
def kX6_sample_13 : List xm_I := [(.dup, 0, 0, 0, 0)]
theorem bk_X6_sample_13 : xm_okb cX6_sample 6 2 0 false 14 13 kX6_sample_13 = true := by decide +kernel
def kX6_sample_18 : List xm_I := [(.iload 0, 1, 0, 0, 0), (.aload 0, 0, 0, 0, 0), (.getfield 0, 6, 7, 2, 0), (.getfield 0, 1, 1, 0, 0), (.if_icmp .lt 0, 37, 0, 0, 0)]
theorem bk_X6_sample_18 : xm_okb cX6_sample 6 2 0 false 29 18 kX6_sample_18 = true := by decide +kernel
def kX6_sample_32 : List xm_I := [(.dup, 0, 0, 0, 0)]
theorem bk_X6_sample_32 : xm_okb cX6_sample 6 2 0 false 33 32 kX6_sample_32 = true := by decide +kernel
def kX6_sample_37 : List xm_I := [(.aload 0, 0, 0, 0, 0), (.getfield 0, 6, 7, 2, 0), (.iload 0, 1, 0, 0, 0)]
theorem bk_X6_sample_37 : xm_okb cX6_sample 6 2 0 false 42 37 kX6_sample_37 = true := by decide +kernel
def kX6_sample_45 : List xm_I := [(.ireturn, 0, 0, 0, 0)]
theorem bk_X6_sample_45 : xm_okb cX6_sample 6 2 0 false 46 45 kX6_sample_45 = true := by decide +kernel
abbrev mt_X6_count : xm_T4 := (yX6_count, cX6_count, 2, (some .int))
theorem mo_X6_count : xm_mo mt_X6_count 6 1 0 false false := ⟨by decide +kernel, rfl, (fun h => by cases h), rfl, by decide, ⟨by decide +kernel, by decide +kernel, by decide +kernel⟩, (wq_at mw_6_1 10 rfl), (wq_at mw_6_1 35 rfl), (fun h => by cases h), (fun _ => (wq_at mw_6_1 11 rfl)), (fun _ => (wq_at mw_6_1 12 rfl))⟩
def kX6_count_0 : List xm_I := [(.iload 0, 1, 0, 0, 0), (.ifCond .lt 0, 9, 0, 0, 0), (.iload 0, 1, 0, 0, 0), (.sipush 0, 0, 0, 0, 5), (.if_icmp .le 0, 17, 0, 0, 0)]
theorem bk_X6_count_0 : xm_okb cX6_count 6 2 0 false 9 0 kX6_count_0 = true := by decide +kernel
def kX6_count_12 : List xm_I := [(.dup, 0, 0, 0, 0)]
theorem bk_X6_count_12 : xm_okb cX6_count 6 2 0 false 13 12 kX6_count_12 = true := by decide +kernel
def kX6_count_17 : List xm_I := [(.aload 0, 0, 0, 0, 0), (.getfield 0, 6, 7, 2, 0), (.iload 0, 1, 0, 0, 0)]
theorem bk_X6_count_17 : xm_okb cX6_count 6 2 0 false 22 17 kX6_count_17 = true := by decide +kernel
def kX6_count_25 : List xm_I := [(.ireturn, 0, 0, 0, 0)]
theorem bk_X6_count_25 : xm_okb cX6_count 6 2 0 false 26 25 kX6_count_25 = true := by decide +kernel
abbrev mt_X6_decided : xm_T4 := (yX6_decided, cX6_decided, 2, (some .int))
theorem mo_X6_decided : xm_mo mt_X6_decided 6 1 0 false false := ⟨by decide +kernel, rfl, (fun h => by cases h), rfl, by decide, ⟨by decide +kernel, by decide +kernel, by decide +kernel⟩, (wq_at mw_6_1 13 rfl), (wq_at mw_6_1 35 rfl), (fun h => by cases h), (fun _ => (wq_at mw_6_1 14 rfl)), (fun _ => (wq_at mw_6_1 15 rfl))⟩
def kX6_decided_0 : List xm_I := [(.iload 0, 1, 0, 0, 0), (.ifCond .lt 0, 9, 0, 0, 0), (.iload 0, 1, 0, 0, 0), (.sipush 0, 0, 0, 0, 3), (.if_icmp .le 0, 17, 0, 0, 0)]
theorem bk_X6_decided_0 : xm_okb cX6_decided 6 2 0 false 9 0 kX6_decided_0 = true := by decide +kernel
def kX6_decided_12 : List xm_I := [(.dup, 0, 0, 0, 0)]
theorem bk_X6_decided_12 : xm_okb cX6_decided 6 2 0 false 13 12 kX6_decided_12 = true := by decide +kernel
def kX6_decided_17 : List xm_I := [(.aload 0, 0, 0, 0, 0), (.getfield 0, 6, 7, 2, 0), (.iload 0, 1, 0, 0, 0)]
theorem bk_X6_decided_17 : xm_okb cX6_decided 6 2 0 false 22 17 kX6_decided_17 = true := by decide +kernel
def kX6_decided_25 : List xm_I := [(.ireturn, 0, 0, 0, 0)]
theorem bk_X6_decided_25 : xm_okb cX6_decided 6 2 0 false 26 25 kX6_decided_25 = true := by decide +kernel
abbrev mt_X6_meanGood : xm_T4 := (yX6_meanGood, cX6_meanGood, 2, (some .double))
theorem mo_X6_meanGood : xm_mo mt_X6_meanGood 6 0 4 false false := ⟨by decide +kernel, rfl, (fun h => by cases h), rfl, by decide, ⟨by decide +kernel, by decide +kernel, by decide +kernel⟩, (wq_at mw_6_1 16 rfl), (wq_at mw_6_1 35 rfl), (fun h => by cases h), (fun _ => (wq_at mw_6_1 17 rfl)), (fun _ => (wq_at mw_6_1 18 rfl))⟩
def kX6_meanGood_0 : List xm_I := [(.aload 0, 0, 0, 0, 0), (.getfield 0, 6, 7, 2, 0), (.sipush 0, 0, 0, 0, 1)]
theorem bk_X6_meanGood_0 : xm_okb cX6_meanGood 6 2 4 false 5 0 kX6_meanGood_0 = true := by decide +kernel
def kX6_meanGood_8 : List xm_I := [(.istore 0, 1, 0, 0, 0), (.iload 0, 1, 0, 0, 0), (.ifCond .ne 0, 21, 0, 0, 0)]
theorem bk_X6_meanGood_8 : xm_okb cX6_meanGood 6 2 4 false 13 8 kX6_meanGood_8 = true := by decide +kernel
def kX6_meanGood_16 : List xm_I := [(.dup, 0, 0, 0, 0)]
theorem bk_X6_meanGood_16 : xm_okb cX6_meanGood 6 2 4 false 17 16 kX6_meanGood_16 = true := by decide +kernel
def kX6_meanGood_21 : List xm_I := [(.aload 0, 0, 0, 0, 0), (.getfield 0, 6, 7, 2, 0)]
theorem bk_X6_meanGood_21 : xm_okb cX6_meanGood 6 2 4 false 25 21 kX6_meanGood_21 = true := by decide +kernel
def kX6_meanGood_28 : List xm_I := [(.i2d, 0, 0, 0, 0), (.iload 0, 1, 0, 0, 0), (.i2d, 0, 0, 0, 0)]
theorem bk_X6_meanGood_28 : xm_okb cX6_meanGood 6 2 4 false 31 28 kX6_meanGood_28 = true := by decide +kernel
def kX6_meanGood_32 : List xm_I := [(.ireturn, 4, 0, 0, 0)]
theorem bk_X6_meanGood_32 : xm_okb cX6_meanGood 6 2 4 false 33 32 kX6_meanGood_32 = true := by decide +kernel
abbrev mt_X6_meanError : xm_T4 := (yX6_meanError, cX6_meanError, 2, (some .double))
theorem mo_X6_meanError : xm_mo mt_X6_meanError 6 0 4 false false := ⟨by decide +kernel, rfl, (fun h => by cases h), rfl, by decide, ⟨by decide +kernel, by decide +kernel, by decide +kernel⟩, (wq_at mw_6_1 19 rfl), (wq_at mw_6_1 35 rfl), (fun h => by cases h), (fun _ => (wq_at mw_6_1 20 rfl)), (fun _ => (wq_at mw_6_1 21 rfl))⟩
def kX6_meanError_0 : List xm_I := [(.aload 0, 0, 0, 0, 0), (.getfield 0, 6, 7, 2, 0)]
theorem bk_X6_meanError_0 : xm_okb cX6_meanError 6 2 4 false 4 0 kX6_meanError_0 = true := by decide +kernel
def kX6_meanError_7 : List xm_I := [(.istore 0, 1, 0, 0, 0), (.iload 0, 1, 0, 0, 0), (.ifCond .ne 0, 20, 0, 0, 0)]
theorem bk_X6_meanError_7 : xm_okb cX6_meanError 6 2 4 false 12 7 kX6_meanError_7 = true := by decide +kernel
def kX6_meanError_15 : List xm_I := [(.dup, 0, 0, 0, 0)]
theorem bk_X6_meanError_15 : xm_okb cX6_meanError 6 2 4 false 16 15 kX6_meanError_15 = true := by decide +kernel
def kX6_meanError_20 : List xm_I := [(.aload 0, 0, 0, 0, 0), (.getfield 0, 6, 7, 2, 0)]
theorem bk_X6_meanError_20 : xm_okb cX6_meanError 6 2 4 false 24 20 kX6_meanError_20 = true := by decide +kernel
def kX6_meanError_27 : List xm_I := [(.i2d, 0, 0, 0, 0), (.iload 0, 1, 0, 0, 0), (.i2d, 0, 0, 0, 0)]
theorem bk_X6_meanError_27 : xm_okb cX6_meanError 6 2 4 false 30 27 kX6_meanError_27 = true := by decide +kernel
def kX6_meanError_31 : List xm_I := [(.ireturn, 4, 0, 0, 0)]
theorem bk_X6_meanError_31 : xm_okb cX6_meanError 6 2 4 false 32 31 kX6_meanError_31 = true := by decide +kernel
abbrev mt_X6_weightWith : xm_T4 := (yX6_weightWith, cX6_weightWith, 4, (some .int))
theorem mo_X6_weightWith : xm_mo mt_X6_weightWith 6 2 0 false false := ⟨by decide +kernel, rfl, (fun h => by cases h), rfl, by decide, ⟨by decide +kernel, by decide +kernel, by decide +kernel⟩, (wq_at mw_6_1 22 rfl), (wq_at mw_6_1 35 rfl), (fun h => by cases h), (fun _ => (wq_at mw_6_1 23 rfl)), (fun _ => (wq_at mw_6_1 24 rfl))⟩
def kX6_weightWith_0 : List xm_I := [(.aload 0, 0, 0, 0, 0), (.getfield 0, 6, 7, 2, 0), (.iload 0, 1, 0, 0, 0)]
theorem bk_X6_weightWith_0 : xm_okb cX6_weightWith 6 4 0 false 5 0 kX6_weightWith_0 = true := by decide +kernel
def kX6_weightWith_8 : List xm_I := [(.astore 0, 3, 0, 0, 0), (.aload 0, 3, 0, 0, 0), (.ifnonnull 0, 21, 0, 0, 0)]
theorem bk_X6_weightWith_8 : xm_okb cX6_weightWith 6 4 0 false 13 8 kX6_weightWith_8 = true := by decide +kernel
def kX6_weightWith_16 : List xm_I := [(.dup, 0, 0, 0, 0)]
theorem bk_X6_weightWith_16 : xm_okb cX6_weightWith 6 4 0 false 17 16 kX6_weightWith_16 = true := by decide +kernel
def kX6_weightWith_21 : List xm_I := [(.iload 0, 2, 0, 0, 0)]
theorem bk_X6_weightWith_21 : xm_okb cX6_weightWith 6 4 0 false 22 21 kX6_weightWith_21 = true := by decide +kernel
def kX6_weightWith_25 : List xm_I := [(.ifCond .ne 0, 36, 0, 0, 0)]
theorem bk_X6_weightWith_25 : xm_okb cX6_weightWith 6 4 0 false 28 25 kX6_weightWith_25 = true := by decide +kernel
def kX6_weightWith_31 : List xm_I := [(.dup, 0, 0, 0, 0)]
theorem bk_X6_weightWith_31 : xm_okb cX6_weightWith 6 4 0 false 32 31 kX6_weightWith_31 = true := by decide +kernel
def kX6_weightWith_36 : List xm_I := [(.aload 0, 3, 0, 0, 0), (.getfield 0, 0, 14, 0, 0), (.ifCond .ne 0, 51, 0, 0, 0)]
theorem bk_X6_weightWith_36 : xm_okb cX6_weightWith 6 4 0 false 43 36 kX6_weightWith_36 = true := by decide +kernel
def kX6_weightWith_46 : List xm_I := [(.dup, 0, 0, 0, 0)]
theorem bk_X6_weightWith_46 : xm_okb cX6_weightWith 6 4 0 false 47 46 kX6_weightWith_46 = true := by decide +kernel
def kX6_weightWith_51 : List xm_I := [(.aload 0, 3, 0, 0, 0), (.iload 0, 2, 0, 0, 0)]
theorem bk_X6_weightWith_51 : xm_okb cX6_weightWith 6 4 0 false 53 51 kX6_weightWith_51 = true := by decide +kernel
def kX6_weightWith_56 : List xm_I := [(.aload 0, 0, 0, 0, 0), (.getfield 0, 6, 7, 2, 0), (.getfield 0, 1, 4, 0, 0), (.isub, 0, 0, 0, 0), (.ireturn, 0, 0, 0, 0)]
theorem bk_X6_weightWith_56 : xm_okb cX6_weightWith 6 4 0 false 65 56 kX6_weightWith_56 = true := by decide +kernel
abbrev mt_X6_isLength : xm_T4 := (yX6_isLength, cX6_isLength, 1, (some .boolean))
theorem mo_X6_isLength : xm_mo mt_X6_isLength 6 1 1 false true := ⟨by decide +kernel, rfl, (fun h => by cases h), rfl, by decide, ⟨by decide +kernel, by decide +kernel, by decide +kernel⟩, (wq_at mw_6_1 25 rfl), (wq_at mw_6_1 35 rfl), (fun _ => (wq_at mw_6_1 26 rfl)), (fun h => by cases h), (fun h => by cases h.1)⟩
def kX6_isLength_0 : List xm_I := [(.iload 0, 0, 0, 0, 0), (.sipush 0, 0, 0, 0, 1), (.if_icmp .lt 0, 16, 0, 0, 0), (.iload 0, 0, 0, 0, 0), (.sipush 0, 0, 0, 0, 2000), (.if_icmp .gt 0, 16, 0, 0, 0), (.sipush 0, 0, 0, 0, 1), (.goto 0, 17, 0, 0, 0)]
theorem bk_X6_isLength_0 : xm_okb cX6_isLength 6 1 1 false 16 0 kX6_isLength_0 = true := by decide +kernel
def kX6_isLength_16 : List xm_I := [(.sipush 0, 0, 0, 0, 0)]
theorem bk_X6_isLength_16 : xm_okb cX6_isLength 6 1 1 false 17 16 kX6_isLength_16 = true := by decide +kernel
def kX6_isLength_17 : List xm_I := [(.ireturn, 1, 0, 0, 0)]
theorem bk_X6_isLength_17 : xm_okb cX6_isLength 6 1 1 false 18 17 kX6_isLength_17 = true := by decide +kernel
abbrev mt_X6_isWindow : xm_T4 := (yX6_isWindow, cX6_isWindow, 1, (some .boolean))
theorem mo_X6_isWindow : xm_mo mt_X6_isWindow 6 1 1 false true := ⟨by decide +kernel, rfl, (fun h => by cases h), rfl, by decide, ⟨by decide +kernel, by decide +kernel, by decide +kernel⟩, (wq_at mw_6_1 27 rfl), (wq_at mw_6_1 35 rfl), (fun _ => (wq_at mw_6_1 28 rfl)), (fun h => by cases h), (fun h => by cases h.1)⟩
def kX6_isWindow_0 : List xm_I := [(.iload 0, 0, 0, 0, 0), (.sipush 0, 0, 0, 0, 1), (.if_icmp .lt 0, 15, 0, 0, 0), (.iload 0, 0, 0, 0, 0), (.sipush 0, 0, 0, 0, 60), (.if_icmp .gt 0, 15, 0, 0, 0), (.sipush 0, 0, 0, 0, 1), (.goto 0, 16, 0, 0, 0)]
theorem bk_X6_isWindow_0 : xm_okb cX6_isWindow 6 1 1 false 15 0 kX6_isWindow_0 = true := by decide +kernel
def kX6_isWindow_15 : List xm_I := [(.sipush 0, 0, 0, 0, 0)]
theorem bk_X6_isWindow_15 : xm_okb cX6_isWindow 6 1 1 false 16 15 kX6_isWindow_15 = true := by decide +kernel
def kX6_isWindow_16 : List xm_I := [(.ireturn, 1, 0, 0, 0)]
theorem bk_X6_isWindow_16 : xm_okb cX6_isWindow 6 1 1 false 17 16 kX6_isWindow_16 = true := by decide +kernel
abbrev mt_X6_quotient : xm_T4 := (yX6_quotient, cX6_quotient, 2, (some .int))
theorem mo_X6_quotient : xm_mo mt_X6_quotient 6 2 0 false true := ⟨by decide +kernel, rfl, (fun h => by cases h), rfl, by decide, ⟨by decide +kernel, by decide +kernel, by decide +kernel⟩, (wq_at mw_6_1 29 rfl), (wq_at mw_6_1 35 rfl), (fun _ => (wq_at mw_6_1 30 rfl)), (fun h => by cases h), (fun h => by cases h.1)⟩
def kX6_quotient_0 : List xm_I := [(.iload 0, 1, 0, 0, 0), (.ifCond .ne 0, 8, 0, 0, 0), (.sipush 0, 0, 0, 0, 0), (.goto 0, 11, 0, 0, 0)]
theorem bk_X6_quotient_0 : xm_okb cX6_quotient 6 2 0 false 8 0 kX6_quotient_0 = true := by decide +kernel
def kX6_quotient_8 : List xm_I := [(.iload 0, 0, 0, 0, 0), (.iload 0, 1, 0, 0, 0), (.idiv, 0, 0, 0, 0)]
theorem bk_X6_quotient_8 : xm_okb cX6_quotient 6 2 0 false 11 8 kX6_quotient_8 = true := by decide +kernel
def kX6_quotient_11 : List xm_I := [(.ireturn, 0, 0, 0, 0)]
theorem bk_X6_quotient_11 : xm_okb cX6_quotient 6 2 0 false 12 11 kX6_quotient_11 = true := by decide +kernel
abbrev mt_X6_remainder : xm_T4 := (yX6_remainder, cX6_remainder, 2, (some .int))
theorem mo_X6_remainder : xm_mo mt_X6_remainder 6 2 0 false true := ⟨by decide +kernel, rfl, (fun h => by cases h), rfl, by decide, ⟨by decide +kernel, by decide +kernel, by decide +kernel⟩, (wq_at mw_6_1 31 rfl), (wq_at mw_6_1 35 rfl), (fun _ => (wq_at mw_6_1 32 rfl)), (fun h => by cases h), (fun h => by cases h.1)⟩
def kX6_remainder_0 : List xm_I := [(.iload 0, 1, 0, 0, 0), (.ifCond .ne 0, 8, 0, 0, 0), (.sipush 0, 0, 0, 0, 0), (.goto 0, 11, 0, 0, 0)]
theorem bk_X6_remainder_0 : xm_okb cX6_remainder 6 2 0 false 8 0 kX6_remainder_0 = true := by decide +kernel
def kX6_remainder_8 : List xm_I := [(.iload 0, 0, 0, 0, 0), (.iload 0, 1, 0, 0, 0), (.irem, 0, 0, 0, 0)]
theorem bk_X6_remainder_8 : xm_okb cX6_remainder 6 2 0 false 11 8 kX6_remainder_8 = true := by decide +kernel
def kX6_remainder_11 : List xm_I := [(.ireturn, 0, 0, 0, 0)]
theorem bk_X6_remainder_11 : xm_okb cX6_remainder 6 2 0 false 12 11 kX6_remainder_11 = true := by decide +kernel
abbrev mt_X6_quotientUp : xm_T4 := (yX6_quotientUp, cX6_quotientUp, 2, (some .int))
theorem mo_X6_quotientUp : xm_mo mt_X6_quotientUp 6 2 0 false true := ⟨by decide +kernel, rfl, (fun h => by cases h), rfl, by decide, ⟨by decide +kernel, by decide +kernel, by decide +kernel⟩, (wq_at mw_6_1 33 rfl), (wq_at mw_6_1 35 rfl), (fun _ => (wq_at mw_6_1 34 rfl)), (fun h => by cases h), (fun h => by cases h.1)⟩
def kX6_quotientUp_0 : List xm_I := [(.iload 0, 1, 0, 0, 0), (.ifCond .ne 0, 8, 0, 0, 0), (.sipush 0, 0, 0, 0, 0), (.goto 0, 15, 0, 0, 0)]
theorem bk_X6_quotientUp_0 : xm_okb cX6_quotientUp 6 2 0 false 8 0 kX6_quotientUp_0 = true := by decide +kernel
def kX6_quotientUp_8 : List xm_I := [(.iload 0, 0, 0, 0, 0), (.iload 0, 1, 0, 0, 0), (.iadd, 0, 0, 0, 0), (.sipush 0, 0, 0, 0, 1), (.isub, 0, 0, 0, 0), (.iload 0, 1, 0, 0, 0), (.idiv, 0, 0, 0, 0)]
theorem bk_X6_quotientUp_8 : xm_okb cX6_quotientUp 6 2 0 false 15 8 kX6_quotientUp_8 = true := by decide +kernel
def kX6_quotientUp_15 : List xm_I := [(.ireturn, 0, 0, 0, 0)]
theorem bk_X6_quotientUp_15 : xm_okb cX6_quotientUp 6 2 0 false 16 15 kX6_quotientUp_15 = true := by decide +kernel

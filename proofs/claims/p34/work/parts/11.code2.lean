/-! CODE of CheckWeigher$Reader: what is fixed of its methods, and their blocks, by program -/
abbrev mt_X2_init : xm_T4 := (yX2_init, cX2_init, 3, none)
theorem mo_X2_init : xm_mo mt_X2_init 2 2 3 true false := ⟨by decide +kernel, rfl, (fun _ => rfl), rfl, by decide, ⟨by decide +kernel, by decide +kernel, by decide +kernel⟩, (wq_at mw_2_0 0 rfl), (wq_at mw_2_1 25 rfl), (fun h => by cases h), (fun _ => (wq_at mw_2_0 1 rfl)), (fun h => by cases h.2)⟩
def kX2_init_0 : List xm_I := [(.aload 0, 0, 0, 0, 0)]
theorem bk_X2_init_0 : xm_okb cX2_init 2 3 3 true 1 0 kX2_init_0 = true := by decide +kernel
def kX2_init_4 : List xm_I := [(.aload 0, 0, 0, 0, 0), (.sipush 0, 0, 0, 0, 0), (.putfield 0, 2, 1, 0, 0), (.aload 0, 0, 0, 0, 0), (.sipush 0, 0, 0, 0, 0), (.putfield 0, 2, 3, 0, 0), (.aload 0, 0, 0, 0, 0), (.sipush 0, 0, 0, 0, 0)]
theorem bk_X2_init_4 : xm_okb cX2_init 2 3 3 true 16 4 kX2_init_4 = true := by decide +kernel
def kX2_init_16 : List xm_I := [(.putfield 0, 2, 4, 0, 0), (.aload 0, 0, 0, 0, 0), (.sipush 0, 0, 0, 0, 0), (.putfield 0, 2, 5, 0, 0), (.aload 0, 0, 0, 0, 0), (.sipush 0, 0, 0, 0, 0), (.putfield 0, 2, 6, 0, 0), (.aload 0, 0, 0, 0, 0)]
theorem bk_X2_init_16 : xm_okb cX2_init 2 3 3 true 30 16 kX2_init_16 = true := by decide +kernel
def kX2_init_30 : List xm_I := [(.sipush 0, 0, 0, 0, 0), (.putfield 0, 2, 7, 0, 0), (.aload 0, 0, 0, 0, 0), (.sipush 0, 0, 0, 0, (-1)), (.putfield 0, 2, 8, 0, 0), (.aload 0, 0, 0, 0, 0), (.aload 0, 1, 0, 0, 0), (.putfield 0, 2, 0, 2, 0)]
theorem bk_X2_init_30 : xm_okb cX2_init 2 3 3 true 44 30 kX2_init_30 = true := by decide +kernel
def kX2_init_44 : List xm_I := [(.aload 0, 0, 0, 0, 0), (.aload 0, 2, 0, 0, 0), (.putfield 0, 2, 2, 2, 0), (.return_, 0, 0, 0, 0)]
theorem bk_X2_init_44 : xm_okb cX2_init 2 3 3 true 50 44 kX2_init_44 = true := by decide +kernel
abbrev mt_X2_read : xm_T4 := (yX2_read, cX2_read, 3, none)
theorem mo_X2_read : xm_mo mt_X2_read 2 2 3 false false := ⟨by decide +kernel, rfl, (fun h => by cases h), rfl, by decide, ⟨by decide +kernel, by decide +kernel, by decide +kernel⟩, (wq_at mw_2_0 2 rfl), (wq_at mw_2_1 25 rfl), (fun h => by cases h), (fun _ => (wq_at mw_2_0 3 rfl)), (fun _ => (wq_at mw_2_0 4 rfl))⟩
def kX2_read_0 : List xm_I := [(.aload 0, 0, 0, 0, 0), (.iload 0, 1, 0, 0, 0), (.aload 0, 0, 0, 0, 0), (.getfield 0, 2, 0, 2, 0), (.arraylength, 0, 0, 0, 0)]
theorem bk_X2_read_0 : xm_okb cX2_read 2 3 3 false 7 0 kX2_read_0 = true := by decide +kernel
def kX2_read_10 : List xm_I := [(.putfield 0, 2, 1, 0, 0), (.aload 0, 0, 0, 0, 0), (.aload 0, 2, 0, 0, 0), (.putfield 0, 2, 2, 2, 0), (.aload 0, 0, 0, 0, 0), (.getfield 0, 2, 2, 2, 0)]
theorem bk_X2_read_10 : xm_okb cX2_read 2 3 3 false 22 10 kX2_read_10 = true := by decide +kernel
def kX2_read_25 : List xm_I := [(.aload 0, 0, 0, 0, 0), (.sipush 0, 0, 0, 0, 0), (.putfield 0, 2, 5, 0, 0), (.aload 0, 0, 0, 0, 0), (.sipush 0, 0, 0, 0, 0), (.putfield 0, 2, 6, 0, 0), (.aload 0, 0, 0, 0, 0), (.sipush 0, 0, 0, 0, 0)]
theorem bk_X2_read_25 : xm_okb cX2_read 2 3 3 false 37 25 kX2_read_25 = true := by decide +kernel
def kX2_read_49 : List xm_I := [(.aload 0, 0, 0, 0, 0)]
theorem bk_X2_read_49 : xm_okb cX2_read 2 3 3 false 50 49 kX2_read_49 = true := by decide +kernel
def kX2_read_53 : List xm_I := [(.aload 0, 0, 0, 0, 0)]
theorem bk_X2_read_53 : xm_okb cX2_read 2 3 3 false 54 53 kX2_read_53 = true := by decide +kernel
def kX2_read_57 : List xm_I := [(.aload 0, 0, 0, 0, 0)]
theorem bk_X2_read_57 : xm_okb cX2_read 2 3 3 false 58 57 kX2_read_57 = true := by decide +kernel
def kX2_read_61 : List xm_I := [(.aload 0, 0, 0, 0, 0)]
theorem bk_X2_read_61 : xm_okb cX2_read 2 3 3 false 62 61 kX2_read_61 = true := by decide +kernel
def kX2_read_65 : List xm_I := [(.return_, 0, 0, 0, 0)]
theorem bk_X2_read_65 : xm_okb cX2_read 2 3 3 false 66 65 kX2_read_65 = true := by decide +kernel
def kX2_read_37 : List xm_I := [(.putfield 0, 2, 7, 0, 0), (.aload 0, 0, 0, 0, 0), (.sipush 0, 0, 0, 0, (-1)), (.putfield 0, 2, 8, 0, 0), (.aload 0, 0, 0, 0, 0)]
theorem bk_X2_read_37 : xm_okb cX2_read 2 3 3 false 46 37 kX2_read_37 = true := by decide +kernel
abbrev mt_X2_readBelt : xm_T4 := (yX2_readBelt, cX2_readBelt, 1, none)
theorem mo_X2_readBelt : xm_mo mt_X2_readBelt 2 0 3 false false := ⟨by decide +kernel, rfl, (fun h => by cases h), rfl, by decide, ⟨by decide +kernel, by decide +kernel, by decide +kernel⟩, (wq_at mw_2_0 5 rfl), (wq_at mw_2_1 25 rfl), (fun h => by cases h), (fun _ => (wq_at mw_2_0 6 rfl)), (fun _ => (wq_at mw_2_0 7 rfl))⟩
def kX2_readBelt_0 : List xm_I := [(.aload 0, 0, 0, 0, 0)]
theorem bk_X2_readBelt_0 : xm_okb cX2_readBelt 2 1 3 false 1 0 kX2_readBelt_0 = true := by decide +kernel
def kX2_readBelt_6 : List xm_I := [(.aload 0, 0, 0, 0, 0), (.getfield 0, 2, 2, 2, 0), (.aload 0, 0, 0, 0, 0), (.sipush 0, 0, 0, 0, 1), (.sipush 0, 0, 0, 0, 100)]
theorem bk_X2_readBelt_6 : xm_okb cX2_readBelt 2 1 3 false 14 6 kX2_readBelt_6 = true := by decide +kernel
def kX2_readBelt_17 : List xm_I := [(.putfield 0, 4, 0, 0, 0), (.aload 0, 0, 0, 0, 0), (.getfield 0, 2, 2, 2, 0), (.aload 0, 0, 0, 0, 0), (.sipush 0, 0, 0, 0, 1), (.sipush 0, 0, 0, 0, 2000)]
theorem bk_X2_readBelt_17 : xm_okb cX2_readBelt 2 1 3 false 29 17 kX2_readBelt_17 = true := by decide +kernel
def kX2_readBelt_32 : List xm_I := [(.putfield 0, 4, 1, 0, 0), (.aload 0, 0, 0, 0, 0), (.getfield 0, 2, 2, 2, 0), (.aload 0, 0, 0, 0, 0), (.aload 0, 0, 0, 0, 0), (.getfield 0, 2, 2, 2, 0), (.getfield 0, 4, 1, 0, 0), (.sipush 0, 0, 0, 0, 1)]
theorem bk_X2_readBelt_32 : xm_okb cX2_readBelt 2 1 3 false 48 32 kX2_readBelt_32 = true := by decide +kernel
def kX2_readBelt_55 : List xm_I := [(.putfield 0, 4, 2, 0, 0), (.aload 0, 0, 0, 0, 0), (.getfield 0, 2, 2, 2, 0), (.aload 0, 0, 0, 0, 0), (.aload 0, 0, 0, 0, 0), (.getfield 0, 2, 2, 2, 0), (.getfield 0, 4, 2, 0, 0), (.sipush 0, 0, 0, 0, 1)]
theorem bk_X2_readBelt_55 : xm_okb cX2_readBelt 2 1 3 false 71 55 kX2_readBelt_55 = true := by decide +kernel
def kX2_readBelt_78 : List xm_I := [(.putfield 0, 4, 3, 0, 0), (.aload 0, 0, 0, 0, 0)]
theorem bk_X2_readBelt_78 : xm_okb cX2_readBelt 2 1 3 false 82 78 kX2_readBelt_78 = true := by decide +kernel
def kX2_readBelt_85 : List xm_I := [(.return_, 0, 0, 0, 0)]
theorem bk_X2_readBelt_85 : xm_okb cX2_readBelt 2 1 3 false 86 85 kX2_readBelt_85 = true := by decide +kernel
def kX2_readBelt_48 : List xm_I := [(.iadd, 0, 0, 0, 0), (.sipush 0, 0, 0, 0, 4000)]
theorem bk_X2_readBelt_48 : xm_okb cX2_readBelt 2 1 3 false 52 48 kX2_readBelt_48 = true := by decide +kernel
def kX2_readBelt_71 : List xm_I := [(.iadd, 0, 0, 0, 0), (.sipush 0, 0, 0, 0, 9000)]
theorem bk_X2_readBelt_71 : xm_okb cX2_readBelt 2 1 3 false 75 71 kX2_readBelt_71 = true := by decide +kernel
abbrev mt_X2_readVibrations : xm_T4 := (yX2_readVibrations, cX2_readVibrations, 5, none)
theorem mo_X2_readVibrations : xm_mo mt_X2_readVibrations 2 0 3 false false := ⟨by decide +kernel, rfl, (fun h => by cases h), rfl, by decide, ⟨by decide +kernel, by decide +kernel, by decide +kernel⟩, (wq_at mw_2_0 8 rfl), (wq_at mw_2_1 25 rfl), (fun h => by cases h), (fun _ => (wq_at mw_2_0 9 rfl)), (fun _ => (wq_at mw_2_0 10 rfl))⟩
def kX2_readVibrations_0 : List xm_I := [(.sipush 0, 0, 0, 0, 0), (.istore 0, 1, 0, 0, 0)]
theorem bk_X2_readVibrations_0 : xm_okb cX2_readVibrations 2 5 3 false 2 0 kX2_readVibrations_0 = true := by decide +kernel
def kX2_readVibrations_2 : List xm_I := [(.iload 0, 1, 0, 0, 0), (.sipush 0, 0, 0, 0, 500), (.if_icmp .ge 0, 90, 0, 0, 0), (.aload 0, 0, 0, 0, 0)]
theorem bk_X2_readVibrations_2 : xm_okb cX2_readVibrations 2 5 3 false 10 2 kX2_readVibrations_2 = true := by decide +kernel
def kX2_readVibrations_15 : List xm_I := [(.ifCond .eq 0, 90, 0, 0, 0), (.aload 0, 0, 0, 0, 0), (.getfield 0, 2, 2, 2, 0), (.getfield 0, 4, 4, 2, 0), (.getfield 0, 5, 0, 0, 0), (.sipush 0, 0, 0, 0, 4), (.if_icmp .lt 0, 38, 0, 0, 0), (.aload 0, 0, 0, 0, 0)]
theorem bk_X2_readVibrations_15 : xm_okb cX2_readVibrations 2 5 3 false 33 15 kX2_readVibrations_15 = true := by decide +kernel
def kX2_readVibrations_37 : List xm_I := [(.return_, 0, 0, 0, 0)]
theorem bk_X2_readVibrations_37 : xm_okb cX2_readVibrations 2 5 3 false 38 37 kX2_readVibrations_37 = true := by decide +kernel
def kX2_readVibrations_38 : List xm_I := [(.aload 0, 0, 0, 0, 0)]
theorem bk_X2_readVibrations_38 : xm_okb cX2_readVibrations 2 5 3 false 39 38 kX2_readVibrations_38 = true := by decide +kernel
def kX2_readVibrations_42 : List xm_I := [(.aload 0, 0, 0, 0, 0), (.sipush 0, 0, 0, 0, 1), (.sipush 0, 0, 0, 0, 999)]
theorem bk_X2_readVibrations_42 : xm_okb cX2_readVibrations 2 5 3 false 47 42 kX2_readVibrations_42 = true := by decide +kernel
def kX2_readVibrations_50 : List xm_I := [(.istore 0, 2, 0, 0, 0), (.aload 0, 0, 0, 0, 0)]
theorem bk_X2_readVibrations_50 : xm_okb cX2_readVibrations 2 5 3 false 52 50 kX2_readVibrations_50 = true := by decide +kernel
def kX2_readVibrations_55 : List xm_I := [(.istore 0, 3, 0, 0, 0), (.aload 0, 0, 0, 0, 0), (.sipush 0, 0, 0, 0, 0), (.iload 0, 3, 0, 0, 0), (.sipush 0, 0, 0, 0, 1), (.isub, 0, 0, 0, 0)]
theorem bk_X2_readVibrations_55 : xm_okb cX2_readVibrations 2 5 3 false 61 55 kX2_readVibrations_55 = true := by decide +kernel
def kX2_readVibrations_64 : List xm_I := [(.istore 0, 4, 0, 0, 0), (.aload 0, 0, 0, 0, 0)]
theorem bk_X2_readVibrations_64 : xm_okb cX2_readVibrations 2 5 3 false 67 64 kX2_readVibrations_64 = true := by decide +kernel
def kX2_readVibrations_70 : List xm_I := [(.aload 0, 0, 0, 0, 0), (.getfield 0, 2, 2, 2, 0), (.getfield 0, 4, 4, 2, 0), (.iload 0, 2, 0, 0, 0), (.iload 0, 3, 0, 0, 0), (.iload 0, 4, 0, 0, 0)]
theorem bk_X2_readVibrations_70 : xm_okb cX2_readVibrations 2 5 3 false 81 70 kX2_readVibrations_70 = true := by decide +kernel
def kX2_readVibrations_84 : List xm_I := [(.iinc 0 0, 1, 0, 0, 1), (.goto 0, 2, 0, 0, 0)]
theorem bk_X2_readVibrations_84 : xm_okb cX2_readVibrations 2 5 3 false 90 84 kX2_readVibrations_84 = true := by decide +kernel
def kX2_readVibrations_90 : List xm_I := [(.return_, 0, 0, 0, 0)]
theorem bk_X2_readVibrations_90 : xm_okb cX2_readVibrations 2 5 3 false 91 90 kX2_readVibrations_90 = true := by decide +kernel
def kX2_readVibrations_33 : List xm_I := [(.sipush 0, 0, 0, 0, 4)]
theorem bk_X2_readVibrations_33 : xm_okb cX2_readVibrations 2 5 3 false 34 33 kX2_readVibrations_33 = true := by decide +kernel
abbrev mt_X2_readPeriod : xm_T4 := (yX2_readPeriod, cX2_readPeriod, 1, (some .int))
theorem mo_X2_readPeriod : xm_mo mt_X2_readPeriod 2 0 0 false false := ⟨by decide +kernel, rfl, (fun h => by cases h), rfl, by decide, ⟨by decide +kernel, by decide +kernel, by decide +kernel⟩, (wq_at mw_2_0 11 rfl), (wq_at mw_2_1 25 rfl), (fun h => by cases h), (fun _ => (wq_at mw_2_0 12 rfl)), (fun _ => (wq_at mw_2_0 13 rfl))⟩
def kX2_readPeriod_0 : List xm_I := [(.aload 0, 0, 0, 0, 0), (.getfield 0, 2, 3, 0, 0), (.sipush 0, 0, 0, 0, 2), (.if_icmp .ne 0, 22, 0, 0, 0), (.aload 0, 0, 0, 0, 0)]
theorem bk_X2_readPeriod_0 : xm_okb cX2_readPeriod 2 1 0 false 9 0 kX2_readPeriod_0 = true := by decide +kernel
def kX2_readPeriod_12 : List xm_I := [(.sipush 0, 0, 0, 0, 2), (.irem, 0, 0, 0, 0), (.ifCond .eq 0, 22, 0, 0, 0), (.aload 0, 0, 0, 0, 0), (.sipush 0, 0, 0, 0, 2)]
theorem bk_X2_readPeriod_12 : xm_okb cX2_readPeriod 2 1 0 false 19 12 kX2_readPeriod_12 = true := by decide +kernel
def kX2_readPeriod_22 : List xm_I := [(.aload 0, 0, 0, 0, 0), (.sipush 0, 0, 0, 0, 2), (.sipush 0, 0, 0, 0, 40)]
theorem bk_X2_readPeriod_22 : xm_okb cX2_readPeriod 2 1 0 false 26 22 kX2_readPeriod_22 = true := by decide +kernel
def kX2_readPeriod_29 : List xm_I := [(.ireturn, 0, 0, 0, 0)]
theorem bk_X2_readPeriod_29 : xm_okb cX2_readPeriod 2 1 0 false 30 29 kX2_readPeriod_29 = true := by decide +kernel
abbrev mt_X2_readGates : xm_T4 := (yX2_readGates, cX2_readGates, 5, none)
theorem mo_X2_readGates : xm_mo mt_X2_readGates 2 0 3 false false := ⟨by decide +kernel, rfl, (fun h => by cases h), rfl, by decide, ⟨by decide +kernel, by decide +kernel, by decide +kernel⟩, (wq_at mw_2_0 14 rfl), (wq_at mw_2_1 25 rfl), (fun h => by cases h), (fun _ => (wq_at mw_2_0 15 rfl)), (fun _ => (wq_at mw_2_0 16 rfl))⟩
def kX2_readGates_0 : List xm_I := [(.sipush 0, 0, 0, 0, 0), (.istore 0, 1, 0, 0, 0)]
theorem bk_X2_readGates_0 : xm_okb cX2_readGates 2 5 3 false 2 0 kX2_readGates_0 = true := by decide +kernel
def kX2_readGates_2 : List xm_I := [(.iload 0, 1, 0, 0, 0), (.sipush 0, 0, 0, 0, 500), (.if_icmp .ge 0, 80, 0, 0, 0), (.aload 0, 0, 0, 0, 0)]
theorem bk_X2_readGates_2 : xm_okb cX2_readGates 2 5 3 false 10 2 kX2_readGates_2 = true := by decide +kernel
def kX2_readGates_15 : List xm_I := [(.ifCond .eq 0, 80, 0, 0, 0), (.aload 0, 0, 0, 0, 0)]
theorem bk_X2_readGates_15 : xm_okb cX2_readGates 2 5 3 false 19 15 kX2_readGates_15 = true := by decide +kernel
def kX2_readGates_22 : List xm_I := [(.aload 0, 0, 0, 0, 0)]
theorem bk_X2_readGates_22 : xm_okb cX2_readGates 2 5 3 false 23 22 kX2_readGates_22 = true := by decide +kernel
def kX2_readGates_26 : List xm_I := [(.istore 0, 2, 0, 0, 0), (.aload 0, 0, 0, 0, 0), (.aload 0, 0, 0, 0, 0), (.getfield 0, 2, 2, 2, 0)]
theorem bk_X2_readGates_26 : xm_okb cX2_readGates 2 5 3 false 32 26 kX2_readGates_26 = true := by decide +kernel
def kX2_readGates_35 : List xm_I := [(.sipush 0, 0, 0, 0, 1), (.iadd, 0, 0, 0, 0), (.aload 0, 0, 0, 0, 0), (.getfield 0, 2, 2, 2, 0), (.getfield 0, 4, 3, 0, 0), (.sipush 0, 0, 0, 0, 1), (.isub, 0, 0, 0, 0)]
theorem bk_X2_readGates_35 : xm_okb cX2_readGates 2 5 3 false 46 35 kX2_readGates_35 = true := by decide +kernel
def kX2_readGates_49 : List xm_I := [(.istore 0, 3, 0, 0, 0), (.aload 0, 0, 0, 0, 0), (.sipush 0, 0, 0, 0, 0), (.sipush 0, 0, 0, 0, 50)]
theorem bk_X2_readGates_49 : xm_okb cX2_readGates 2 5 3 false 54 49 kX2_readGates_49 = true := by decide +kernel
def kX2_readGates_57 : List xm_I := [(.istore 0, 4, 0, 0, 0), (.aload 0, 0, 0, 0, 0)]
theorem bk_X2_readGates_57 : xm_okb cX2_readGates 2 5 3 false 60 57 kX2_readGates_57 = true := by decide +kernel
def kX2_readGates_63 : List xm_I := [(.aload 0, 0, 0, 0, 0), (.getfield 0, 2, 2, 2, 0), (.iload 0, 2, 0, 0, 0), (.iload 0, 3, 0, 0, 0), (.iload 0, 4, 0, 0, 0)]
theorem bk_X2_readGates_63 : xm_okb cX2_readGates 2 5 3 false 71 63 kX2_readGates_63 = true := by decide +kernel
def kX2_readGates_74 : List xm_I := [(.iinc 0 0, 1, 0, 0, 1), (.goto 0, 2, 0, 0, 0)]
theorem bk_X2_readGates_74 : xm_okb cX2_readGates 2 5 3 false 80 74 kX2_readGates_74 = true := by decide +kernel
def kX2_readGates_80 : List xm_I := [(.return_, 0, 0, 0, 0)]
theorem bk_X2_readGates_80 : xm_okb cX2_readGates 2 5 3 false 81 80 kX2_readGates_80 = true := by decide +kernel
abbrev mt_X2_readKind : xm_T4 := (yX2_readKind, cX2_readKind, 2, (some .int))
theorem mo_X2_readKind : xm_mo mt_X2_readKind 2 0 0 false false := ⟨by decide +kernel, rfl, (fun h => by cases h), rfl, by decide, ⟨by decide +kernel, by decide +kernel, by decide +kernel⟩, (wq_at mw_2_0 17 rfl), (wq_at mw_2_1 25 rfl), (fun h => by cases h), (fun _ => (wq_at mw_2_0 18 rfl)), (fun _ => (wq_at mw_2_0 19 rfl))⟩
def kX2_readKind_0 : List xm_I := [(.aload 0, 0, 0, 0, 0)]
theorem bk_X2_readKind_0 : xm_okb cX2_readKind 2 2 0 false 1 0 kX2_readKind_0 = true := by decide +kernel
def kX2_readKind_4 : List xm_I := [(.istore 0, 1, 0, 0, 0), (.iload 0, 1, 0, 0, 0), (.sipush 0, 0, 0, 0, (-1)), (.if_icmp .ne 0, 18, 0, 0, 0), (.aload 0, 0, 0, 0, 0), (.sipush 0, 0, 0, 0, 1)]
theorem bk_X2_readKind_4 : xm_okb cX2_readKind 2 2 0 false 12 4 kX2_readKind_4 = true := by decide +kernel
def kX2_readKind_15 : List xm_I := [(.goto 0, 35, 0, 0, 0)]
theorem bk_X2_readKind_15 : xm_okb cX2_readKind 2 2 0 false 18 15 kX2_readKind_15 = true := by decide +kernel
def kX2_readKind_18 : List xm_I := [(.aload 0, 0, 0, 0, 0), (.getfield 0, 2, 2, 2, 0), (.iload 0, 1, 0, 0, 0)]
theorem bk_X2_readKind_18 : xm_okb cX2_readKind 2 2 0 false 23 18 kX2_readKind_18 = true := by decide +kernel
def kX2_readKind_26 : List xm_I := [(.sipush 0, 0, 0, 0, (-1)), (.if_icmp .eq 0, 35, 0, 0, 0), (.aload 0, 0, 0, 0, 0), (.sipush 0, 0, 0, 0, 3)]
theorem bk_X2_readKind_26 : xm_okb cX2_readKind 2 2 0 false 32 26 kX2_readKind_26 = true := by decide +kernel
def kX2_readKind_35 : List xm_I := [(.aload 0, 0, 0, 0, 0)]
theorem bk_X2_readKind_35 : xm_okb cX2_readKind 2 2 0 false 36 35 kX2_readKind_35 = true := by decide +kernel
def kX2_readKind_39 : List xm_I := [(.iload 0, 1, 0, 0, 0), (.ireturn, 0, 0, 0, 0)]
theorem bk_X2_readKind_39 : xm_okb cX2_readKind 2 2 0 false 41 39 kX2_readKind_39 = true := by decide +kernel
abbrev mt_X2_kindAt : xm_T4 := (yX2_kindAt, cX2_kindAt, 1, (some .int))
theorem mo_X2_kindAt : xm_mo mt_X2_kindAt 2 0 0 false false := ⟨by decide +kernel, rfl, (fun h => by cases h), rfl, by decide, ⟨by decide +kernel, by decide +kernel, by decide +kernel⟩, (wq_at mw_2_0 20 rfl), (wq_at mw_2_1 25 rfl), (fun h => by cases h), (fun _ => (wq_at mw_2_0 21 rfl)), (fun _ => (wq_at mw_2_0 22 rfl))⟩
def kX2_kindAt_0 : List xm_I := [(.aload 0, 0, 0, 0, 0)]
theorem bk_X2_kindAt_0 : xm_okb cX2_kindAt 2 1 0 false 1 0 kX2_kindAt_0 = true := by decide +kernel
def kX2_kindAt_6 : List xm_I := [(.ifCond .eq 0, 11, 0, 0, 0), (.sipush 0, 0, 0, 0, 0), (.ireturn, 0, 0, 0, 0)]
theorem bk_X2_kindAt_6 : xm_okb cX2_kindAt 2 1 0 false 11 6 kX2_kindAt_6 = true := by decide +kernel
def kX2_kindAt_11 : List xm_I := [(.aload 0, 0, 0, 0, 0)]
theorem bk_X2_kindAt_11 : xm_okb cX2_kindAt 2 1 0 false 12 11 kX2_kindAt_11 = true := by decide +kernel
def kX2_kindAt_17 : List xm_I := [(.ifCond .eq 0, 22, 0, 0, 0), (.sipush 0, 0, 0, 0, 2), (.ireturn, 0, 0, 0, 0)]
theorem bk_X2_kindAt_17 : xm_okb cX2_kindAt 2 1 0 false 22 17 kX2_kindAt_17 = true := by decide +kernel
def kX2_kindAt_22 : List xm_I := [(.aload 0, 0, 0, 0, 0)]
theorem bk_X2_kindAt_22 : xm_okb cX2_kindAt 2 1 0 false 23 22 kX2_kindAt_22 = true := by decide +kernel
def kX2_kindAt_28 : List xm_I := [(.ifCond .eq 0, 35, 0, 0, 0), (.sipush 0, 0, 0, 0, 3), (.goto 0, 36, 0, 0, 0)]
theorem bk_X2_kindAt_28 : xm_okb cX2_kindAt 2 1 0 false 35 28 kX2_kindAt_28 = true := by decide +kernel
def kX2_kindAt_35 : List xm_I := [(.sipush 0, 0, 0, 0, (-1))]
theorem bk_X2_kindAt_35 : xm_okb cX2_kindAt 2 1 0 false 36 35 kX2_kindAt_35 = true := by decide +kernel
def kX2_kindAt_36 : List xm_I := [(.ireturn, 0, 0, 0, 0)]
theorem bk_X2_kindAt_36 : xm_okb cX2_kindAt 2 1 0 false 37 36 kX2_kindAt_36 = true := by decide +kernel
abbrev mt_X2_readSettings : xm_T4 := (yX2_readSettings, cX2_readSettings, 3, none)
theorem mo_X2_readSettings : xm_mo mt_X2_readSettings 2 0 3 false false := ⟨by decide +kernel, rfl, (fun h => by cases h), rfl, by decide, ⟨by decide +kernel, by decide +kernel, by decide +kernel⟩, (wq_at mw_2_0 23 rfl), (wq_at mw_2_1 25 rfl), (fun h => by cases h), (fun _ => (wq_at mw_2_0 24 rfl)), (fun _ => (wq_at mw_2_0 25 rfl))⟩
def kX2_readSettings_0 : List xm_I := [(.sipush 0, 0, 0, 0, 0), (.istore 0, 1, 0, 0, 0)]
theorem bk_X2_readSettings_0 : xm_okb cX2_readSettings 2 3 3 false 2 0 kX2_readSettings_0 = true := by decide +kernel
def kX2_readSettings_2 : List xm_I := [(.iload 0, 1, 0, 0, 0), (.sipush 0, 0, 0, 0, 500), (.if_icmp .ge 0, 87, 0, 0, 0), (.aload 0, 0, 0, 0, 0), (.getfield 0, 2, 7, 0, 0), (.ifCond .ne 0, 87, 0, 0, 0), (.aload 0, 0, 0, 0, 0), (.getfield 0, 2, 3, 0, 0)]
theorem bk_X2_readSettings_2 : xm_okb cX2_readSettings 2 3 3 false 20 2 kX2_readSettings_2 = true := by decide +kernel
def kX2_readSettings_27 : List xm_I := [(.istore 0, 2, 0, 0, 0), (.iload 0, 2, 0, 0, 0), (.sipush 0, 0, 0, 0, (-1)), (.if_icmp .ne 0, 39, 0, 0, 0), (.aload 0, 0, 0, 0, 0), (.sipush 0, 0, 0, 0, 1)]
theorem bk_X2_readSettings_27 : xm_okb cX2_readSettings 2 3 3 false 35 27 kX2_readSettings_27 = true := by decide +kernel
def kX2_readSettings_38 : List xm_I := [(.return_, 0, 0, 0, 0)]
theorem bk_X2_readSettings_38 : xm_okb cX2_readSettings 2 3 3 false 39 38 kX2_readSettings_38 = true := by decide +kernel
def kX2_readSettings_39 : List xm_I := [(.aload 0, 0, 0, 0, 0), (.getfield 0, 2, 6, 0, 0), (.sipush 0, 0, 0, 0, 1), (.iload 0, 2, 0, 0, 0), (.ishl, 0, 0, 0, 0), (.iand, 0, 0, 0, 0), (.ifCond .eq 0, 56, 0, 0, 0), (.aload 0, 0, 0, 0, 0)]
theorem bk_X2_readSettings_39 : xm_okb cX2_readSettings 2 3 3 false 51 39 kX2_readSettings_39 = true := by decide +kernel
def kX2_readSettings_55 : List xm_I := [(.return_, 0, 0, 0, 0)]
theorem bk_X2_readSettings_55 : xm_okb cX2_readSettings 2 3 3 false 56 55 kX2_readSettings_55 = true := by decide +kernel
def kX2_readSettings_56 : List xm_I := [(.aload 0, 0, 0, 0, 0), (.dup, 0, 0, 0, 0), (.getfield 0, 2, 6, 0, 0), (.sipush 0, 0, 0, 0, 1), (.iload 0, 2, 0, 0, 0), (.ishl, 0, 0, 0, 0), (.ior, 0, 0, 0, 0), (.putfield 0, 2, 6, 0, 0)]
theorem bk_X2_readSettings_56 : xm_okb cX2_readSettings 2 3 3 false 68 56 kX2_readSettings_56 = true := by decide +kernel
def kX2_readSettings_72 : List xm_I := [(.aload 0, 0, 0, 0, 0), (.iload 0, 2, 0, 0, 0)]
theorem bk_X2_readSettings_72 : xm_okb cX2_readSettings 2 3 3 false 74 72 kX2_readSettings_72 = true := by decide +kernel
def kX2_readSettings_77 : List xm_I := [(.aload 0, 0, 0, 0, 0)]
theorem bk_X2_readSettings_77 : xm_okb cX2_readSettings 2 3 3 false 78 77 kX2_readSettings_77 = true := by decide +kernel
def kX2_readSettings_81 : List xm_I := [(.iinc 0 0, 1, 0, 0, 1), (.goto 0, 2, 0, 0, 0)]
theorem bk_X2_readSettings_81 : xm_okb cX2_readSettings 2 3 3 false 87 81 kX2_readSettings_81 = true := by decide +kernel
def kX2_readSettings_87 : List xm_I := [(.return_, 0, 0, 0, 0)]
theorem bk_X2_readSettings_87 : xm_okb cX2_readSettings 2 3 3 false 88 87 kX2_readSettings_87 = true := by decide +kernel
def kX2_readSettings_20 : List xm_I := [(.ifCond .eq 0, 87, 0, 0, 0), (.aload 0, 0, 0, 0, 0)]
theorem bk_X2_readSettings_20 : xm_okb cX2_readSettings 2 3 3 false 24 20 kX2_readSettings_20 = true := by decide +kernel
def kX2_readSettings_51 : List xm_I := [(.sipush 0, 0, 0, 0, 3)]
theorem bk_X2_readSettings_51 : xm_okb cX2_readSettings 2 3 3 false 52 51 kX2_readSettings_51 = true := by decide +kernel
def kX2_readSettings_68 : List xm_I := [(.aload 0, 0, 0, 0, 0)]
theorem bk_X2_readSettings_68 : xm_okb cX2_readSettings 2 3 3 false 69 68 kX2_readSettings_68 = true := by decide +kernel
abbrev mt_X2_settingAt : xm_T4 := (yX2_settingAt, cX2_settingAt, 1, (some .int))
theorem mo_X2_settingAt : xm_mo mt_X2_settingAt 2 0 0 false false := ⟨by decide +kernel, rfl, (fun h => by cases h), rfl, by decide, ⟨by decide +kernel, by decide +kernel, by decide +kernel⟩, (wq_at mw_2_0 26 rfl), (wq_at mw_2_1 25 rfl), (fun h => by cases h), (fun _ => (wq_at mw_2_0 27 rfl)), (fun _ => (wq_at mw_2_0 28 rfl))⟩
def kX2_settingAt_0 : List xm_I := [(.aload 0, 0, 0, 0, 0)]
theorem bk_X2_settingAt_0 : xm_okb cX2_settingAt 2 1 0 false 1 0 kX2_settingAt_0 = true := by decide +kernel
def kX2_settingAt_6 : List xm_I := [(.ifCond .eq 0, 11, 0, 0, 0), (.sipush 0, 0, 0, 0, 0), (.ireturn, 0, 0, 0, 0)]
theorem bk_X2_settingAt_6 : xm_okb cX2_settingAt 2 1 0 false 11 6 kX2_settingAt_6 = true := by decide +kernel
def kX2_settingAt_11 : List xm_I := [(.aload 0, 0, 0, 0, 0)]
theorem bk_X2_settingAt_11 : xm_okb cX2_settingAt 2 1 0 false 12 11 kX2_settingAt_11 = true := by decide +kernel
def kX2_settingAt_17 : List xm_I := [(.ifCond .eq 0, 22, 0, 0, 0), (.sipush 0, 0, 0, 0, 1), (.ireturn, 0, 0, 0, 0)]
theorem bk_X2_settingAt_17 : xm_okb cX2_settingAt 2 1 0 false 22 17 kX2_settingAt_17 = true := by decide +kernel
def kX2_settingAt_22 : List xm_I := [(.aload 0, 0, 0, 0, 0)]
theorem bk_X2_settingAt_22 : xm_okb cX2_settingAt 2 1 0 false 23 22 kX2_settingAt_22 = true := by decide +kernel
def kX2_settingAt_28 : List xm_I := [(.ifCond .eq 0, 33, 0, 0, 0), (.sipush 0, 0, 0, 0, 2), (.ireturn, 0, 0, 0, 0)]
theorem bk_X2_settingAt_28 : xm_okb cX2_settingAt 2 1 0 false 33 28 kX2_settingAt_28 = true := by decide +kernel
def kX2_settingAt_33 : List xm_I := [(.aload 0, 0, 0, 0, 0)]
theorem bk_X2_settingAt_33 : xm_okb cX2_settingAt 2 1 0 false 34 33 kX2_settingAt_33 = true := by decide +kernel
def kX2_settingAt_39 : List xm_I := [(.ifCond .eq 0, 44, 0, 0, 0), (.sipush 0, 0, 0, 0, 3), (.ireturn, 0, 0, 0, 0)]
theorem bk_X2_settingAt_39 : xm_okb cX2_settingAt 2 1 0 false 44 39 kX2_settingAt_39 = true := by decide +kernel
def kX2_settingAt_44 : List xm_I := [(.aload 0, 0, 0, 0, 0)]
theorem bk_X2_settingAt_44 : xm_okb cX2_settingAt 2 1 0 false 45 44 kX2_settingAt_44 = true := by decide +kernel
def kX2_settingAt_50 : List xm_I := [(.ifCond .eq 0, 55, 0, 0, 0), (.sipush 0, 0, 0, 0, 4), (.ireturn, 0, 0, 0, 0)]
theorem bk_X2_settingAt_50 : xm_okb cX2_settingAt 2 1 0 false 55 50 kX2_settingAt_50 = true := by decide +kernel
def kX2_settingAt_55 : List xm_I := [(.aload 0, 0, 0, 0, 0)]
theorem bk_X2_settingAt_55 : xm_okb cX2_settingAt 2 1 0 false 56 55 kX2_settingAt_55 = true := by decide +kernel
def kX2_settingAt_61 : List xm_I := [(.ifCond .eq 0, 66, 0, 0, 0), (.sipush 0, 0, 0, 0, 5), (.ireturn, 0, 0, 0, 0)]
theorem bk_X2_settingAt_61 : xm_okb cX2_settingAt 2 1 0 false 66 61 kX2_settingAt_61 = true := by decide +kernel
def kX2_settingAt_66 : List xm_I := [(.aload 0, 0, 0, 0, 0)]
theorem bk_X2_settingAt_66 : xm_okb cX2_settingAt 2 1 0 false 67 66 kX2_settingAt_66 = true := by decide +kernel
def kX2_settingAt_72 : List xm_I := [(.ifCond .eq 0, 78, 0, 0, 0), (.sipush 0, 0, 0, 0, 6), (.ireturn, 0, 0, 0, 0)]
theorem bk_X2_settingAt_72 : xm_okb cX2_settingAt 2 1 0 false 78 72 kX2_settingAt_72 = true := by decide +kernel
def kX2_settingAt_78 : List xm_I := [(.aload 0, 0, 0, 0, 0)]
theorem bk_X2_settingAt_78 : xm_okb cX2_settingAt 2 1 0 false 79 78 kX2_settingAt_78 = true := by decide +kernel
def kX2_settingAt_84 : List xm_I := [(.ifCond .eq 0, 92, 0, 0, 0), (.sipush 0, 0, 0, 0, 7), (.goto 0, 93, 0, 0, 0)]
theorem bk_X2_settingAt_84 : xm_okb cX2_settingAt 2 1 0 false 92 84 kX2_settingAt_84 = true := by decide +kernel
def kX2_settingAt_92 : List xm_I := [(.sipush 0, 0, 0, 0, (-1))]
theorem bk_X2_settingAt_92 : xm_okb cX2_settingAt 2 1 0 false 93 92 kX2_settingAt_92 = true := by decide +kernel
def kX2_settingAt_93 : List xm_I := [(.ireturn, 0, 0, 0, 0)]
theorem bk_X2_settingAt_93 : xm_okb cX2_settingAt 2 1 0 false 94 93 kX2_settingAt_93 = true := by decide +kernel
abbrev mt_X2_readSetting : xm_T4 := (yX2_readSetting, cX2_readSetting, 2, none)
theorem mo_X2_readSetting : xm_mo mt_X2_readSetting 2 1 3 false false := ⟨by decide +kernel, rfl, (fun h => by cases h), rfl, by decide, ⟨by decide +kernel, by decide +kernel, by decide +kernel⟩, (wq_at mw_2_0 29 rfl), (wq_at mw_2_1 25 rfl), (fun h => by cases h), (fun _ => (wq_at mw_2_0 30 rfl)), (fun _ => (wq_at mw_2_0 31 rfl))⟩
def kX2_readSetting_0 : List xm_I := [(.iload 0, 1, 0, 0, 0)]
theorem bk_X2_readSetting_0 : xm_okb cX2_readSetting 2 2 3 false 1 0 kX2_readSetting_0 = true := by decide +kernel
def kX2_readSetting_44 : List xm_I := [(.aload 0, 0, 0, 0, 0), (.getfield 0, 2, 2, 2, 0), (.aload 0, 0, 0, 0, 0), (.sipush 0, 0, 0, 0, 0), (.sipush 0, 0, 0, 0, 9999)]
theorem bk_X2_readSetting_44 : xm_okb cX2_readSetting 2 2 3 false 53 44 kX2_readSetting_44 = true := by decide +kernel
def kX2_readSetting_56 : List xm_I := [(.putfield 0, 4, 9, 0, 0), (.aload 0, 0, 0, 0, 0), (.getfield 0, 2, 2, 2, 0), (.aload 0, 0, 0, 0, 0), (.aload 0, 0, 0, 0, 0), (.getfield 0, 2, 2, 2, 0), (.getfield 0, 4, 9, 0, 0), (.sipush 0, 0, 0, 0, 9999)]
theorem bk_X2_readSetting_56 : xm_okb cX2_readSetting 2 2 3 false 74 56 kX2_readSetting_56 = true := by decide +kernel
def kX2_readSetting_77 : List xm_I := [(.putfield 0, 4, 10, 0, 0), (.goto 0, 205, 0, 0, 0)]
theorem bk_X2_readSetting_77 : xm_okb cX2_readSetting 2 2 3 false 83 77 kX2_readSetting_77 = true := by decide +kernel
def kX2_readSetting_83 : List xm_I := [(.aload 0, 0, 0, 0, 0), (.getfield 0, 2, 2, 2, 0), (.aload 0, 0, 0, 0, 0), (.sipush 0, 0, 0, 0, 1), (.sipush 0, 0, 0, 0, 60)]
theorem bk_X2_readSetting_83 : xm_okb cX2_readSetting 2 2 3 false 91 83 kX2_readSetting_83 = true := by decide +kernel
def kX2_readSetting_94 : List xm_I := [(.putfield 0, 4, 11, 0, 0), (.goto 0, 205, 0, 0, 0)]
theorem bk_X2_readSetting_94 : xm_okb cX2_readSetting 2 2 3 false 100 94 kX2_readSetting_94 = true := by decide +kernel
def kX2_readSetting_100 : List xm_I := [(.aload 0, 0, 0, 0, 0)]
theorem bk_X2_readSetting_100 : xm_okb cX2_readSetting 2 2 3 false 101 100 kX2_readSetting_100 = true := by decide +kernel
def kX2_readSetting_104 : List xm_I := [(.goto 0, 205, 0, 0, 0)]
theorem bk_X2_readSetting_104 : xm_okb cX2_readSetting 2 2 3 false 107 104 kX2_readSetting_104 = true := by decide +kernel
def kX2_readSetting_107 : List xm_I := [(.aload 0, 0, 0, 0, 0), (.getfield 0, 2, 2, 2, 0), (.aload 0, 0, 0, 0, 0), (.sipush 0, 0, 0, 0, 0), (.sipush 0, 0, 0, 0, 9999)]
theorem bk_X2_readSetting_107 : xm_okb cX2_readSetting 2 2 3 false 116 107 kX2_readSetting_107 = true := by decide +kernel
def kX2_readSetting_119 : List xm_I := [(.putfield 0, 4, 13, 0, 0), (.goto 0, 205, 0, 0, 0)]
theorem bk_X2_readSetting_119 : xm_okb cX2_readSetting 2 2 3 false 125 119 kX2_readSetting_119 = true := by decide +kernel
def kX2_readSetting_125 : List xm_I := [(.aload 0, 0, 0, 0, 0), (.getfield 0, 2, 2, 2, 0), (.aload 0, 0, 0, 0, 0), (.sipush 0, 0, 0, 0, 1), (.sipush 0, 0, 0, 0, 60)]
theorem bk_X2_readSetting_125 : xm_okb cX2_readSetting 2 2 3 false 133 125 kX2_readSetting_125 = true := by decide +kernel
def kX2_readSetting_136 : List xm_I := [(.putfield 0, 4, 14, 0, 0), (.goto 0, 205, 0, 0, 0)]
theorem bk_X2_readSetting_136 : xm_okb cX2_readSetting 2 2 3 false 142 136 kX2_readSetting_136 = true := by decide +kernel
def kX2_readSetting_142 : List xm_I := [(.aload 0, 0, 0, 0, 0), (.getfield 0, 2, 2, 2, 0), (.aload 0, 0, 0, 0, 0), (.sipush 0, 0, 0, 0, 0), (.sipush 0, 0, 0, 0, 99)]
theorem bk_X2_readSetting_142 : xm_okb cX2_readSetting 2 2 3 false 150 142 kX2_readSetting_142 = true := by decide +kernel
def kX2_readSetting_153 : List xm_I := [(.putfield 0, 4, 15, 0, 0), (.aload 0, 0, 0, 0, 0), (.getfield 0, 2, 2, 2, 0), (.aload 0, 0, 0, 0, 0), (.sipush 0, 0, 0, 0, 1), (.sipush 0, 0, 0, 0, 999)]
theorem bk_X2_readSetting_153 : xm_okb cX2_readSetting 2 2 3 false 165 153 kX2_readSetting_153 = true := by decide +kernel
def kX2_readSetting_168 : List xm_I := [(.putfield 0, 4, 16, 0, 0), (.goto 0, 205, 0, 0, 0)]
theorem bk_X2_readSetting_168 : xm_okb cX2_readSetting 2 2 3 false 174 168 kX2_readSetting_168 = true := by decide +kernel
def kX2_readSetting_174 : List xm_I := [(.aload 0, 0, 0, 0, 0), (.getfield 0, 2, 2, 2, 0), (.aload 0, 0, 0, 0, 0), (.sipush 0, 0, 0, 0, 0), (.sipush 0, 0, 0, 0, 60)]
theorem bk_X2_readSetting_174 : xm_okb cX2_readSetting 2 2 3 false 182 174 kX2_readSetting_174 = true := by decide +kernel
def kX2_readSetting_185 : List xm_I := [(.putfield 0, 4, 17, 0, 0), (.goto 0, 205, 0, 0, 0)]
theorem bk_X2_readSetting_185 : xm_okb cX2_readSetting 2 2 3 false 191 185 kX2_readSetting_185 = true := by decide +kernel
def kX2_readSetting_191 : List xm_I := [(.aload 0, 0, 0, 0, 0), (.getfield 0, 2, 2, 2, 0), (.aload 0, 0, 0, 0, 0), (.sipush 0, 0, 0, 0, 1), (.sipush 0, 0, 0, 0, 99)]
theorem bk_X2_readSetting_191 : xm_okb cX2_readSetting 2 2 3 false 199 191 kX2_readSetting_191 = true := by decide +kernel
def kX2_readSetting_202 : List xm_I := [(.putfield 0, 4, 18, 0, 0)]
theorem bk_X2_readSetting_202 : xm_okb cX2_readSetting 2 2 3 false 205 202 kX2_readSetting_202 = true := by decide +kernel
def kX2_readSetting_205 : List xm_I := [(.return_, 0, 0, 0, 0)]
theorem bk_X2_readSetting_205 : xm_okb cX2_readSetting 2 2 3 false 206 205 kX2_readSetting_205 = true := by decide +kernel
abbrev mt_X2_readNotch : xm_T4 := (yX2_readNotch, cX2_readNotch, 1, none)
theorem mo_X2_readNotch : xm_mo mt_X2_readNotch 2 0 3 false false := ⟨by decide +kernel, rfl, (fun h => by cases h), rfl, by decide, ⟨by decide +kernel, by decide +kernel, by decide +kernel⟩, (wq_at mw_2_0 32 rfl), (wq_at mw_2_1 25 rfl), (fun h => by cases h), (fun _ => (wq_at mw_2_0 33 rfl)), (fun _ => (wq_at mw_2_0 34 rfl))⟩
def kX2_readNotch_0 : List xm_I := [(.aload 0, 0, 0, 0, 0), (.getfield 0, 2, 2, 2, 0), (.aload 0, 0, 0, 0, 0)]
theorem bk_X2_readNotch_0 : xm_okb cX2_readNotch 2 1 3 false 5 0 kX2_readNotch_0 = true := by decide +kernel
def kX2_readNotch_10 : List xm_I := [(.putfield 0, 4, 12, 1, 0), (.aload 0, 0, 0, 0, 0), (.getfield 0, 2, 2, 2, 0), (.getfield 0, 4, 12, 1, 0), (.ifCond .ne 0, 37, 0, 0, 0), (.aload 0, 0, 0, 0, 0)]
theorem bk_X2_readNotch_10 : xm_okb cX2_readNotch 2 1 3 false 24 10 kX2_readNotch_10 = true := by decide +kernel
def kX2_readNotch_29 : List xm_I := [(.ifCond .ne 0, 37, 0, 0, 0), (.aload 0, 0, 0, 0, 0), (.sipush 0, 0, 0, 0, 1)]
theorem bk_X2_readNotch_29 : xm_okb cX2_readNotch 2 1 3 false 34 29 kX2_readNotch_29 = true := by decide +kernel
def kX2_readNotch_37 : List xm_I := [(.aload 0, 0, 0, 0, 0)]
theorem bk_X2_readNotch_37 : xm_okb cX2_readNotch 2 1 3 false 38 37 kX2_readNotch_37 = true := by decide +kernel
def kX2_readNotch_41 : List xm_I := [(.return_, 0, 0, 0, 0)]
theorem bk_X2_readNotch_41 : xm_okb cX2_readNotch 2 1 3 false 42 41 kX2_readNotch_41 = true := by decide +kernel
abbrev mt_X2_readWord : xm_T4 := (yX2_readWord, cX2_readWord, 2, none)
theorem mo_X2_readWord : xm_mo mt_X2_readWord 2 1 3 false false := ⟨by decide +kernel, rfl, (fun h => by cases h), rfl, by decide, ⟨by decide +kernel, by decide +kernel, by decide +kernel⟩, (wq_at mw_2_0 35 rfl), (wq_at mw_2_1 25 rfl), (fun h => by cases h), (fun _ => (wq_at mw_2_0 36 rfl)), (fun _ => (wq_at mw_2_0 37 rfl))⟩
def kX2_readWord_0 : List xm_I := [(.aload 0, 0, 0, 0, 0), (.aload 0, 1, 0, 0, 0)]
theorem bk_X2_readWord_0 : xm_okb cX2_readWord 2 2 3 false 2 0 kX2_readWord_0 = true := by decide +kernel
def kX2_readWord_5 : List xm_I := [(.ifCond .ne 0, 13, 0, 0, 0), (.aload 0, 0, 0, 0, 0), (.sipush 0, 0, 0, 0, 1)]
theorem bk_X2_readWord_5 : xm_okb cX2_readWord 2 2 3 false 10 5 kX2_readWord_5 = true := by decide +kernel
def kX2_readWord_13 : List xm_I := [(.aload 0, 0, 0, 0, 0)]
theorem bk_X2_readWord_13 : xm_okb cX2_readWord 2 2 3 false 14 13 kX2_readWord_13 = true := by decide +kernel
def kX2_readWord_17 : List xm_I := [(.return_, 0, 0, 0, 0)]
theorem bk_X2_readWord_17 : xm_okb cX2_readWord 2 2 3 false 18 17 kX2_readWord_17 = true := by decide +kernel
abbrev mt_X2_readSemicolon : xm_T4 := (yX2_readSemicolon, cX2_readSemicolon, 1, none)
theorem mo_X2_readSemicolon : xm_mo mt_X2_readSemicolon 2 0 3 false false := ⟨by decide +kernel, rfl, (fun h => by cases h), rfl, by decide, ⟨by decide +kernel, by decide +kernel, by decide +kernel⟩, (wq_at mw_2_0 38 rfl), (wq_at mw_2_1 25 rfl), (fun h => by cases h), (fun _ => (wq_at mw_2_0 39 rfl)), (fun _ => (wq_at mw_2_1 0 rfl))⟩
def kX2_readSemicolon_0 : List xm_I := [(.aload 0, 0, 0, 0, 0), (.getfield 0, 2, 3, 0, 0), (.sipush 0, 0, 0, 0, 3), (.if_icmp .eq 0, 13, 0, 0, 0), (.aload 0, 0, 0, 0, 0), (.sipush 0, 0, 0, 0, 1)]
theorem bk_X2_readSemicolon_0 : xm_okb cX2_readSemicolon 2 1 3 false 10 0 kX2_readSemicolon_0 = true := by decide +kernel
def kX2_readSemicolon_13 : List xm_I := [(.aload 0, 0, 0, 0, 0)]
theorem bk_X2_readSemicolon_13 : xm_okb cX2_readSemicolon 2 1 3 false 14 13 kX2_readSemicolon_13 = true := by decide +kernel
def kX2_readSemicolon_17 : List xm_I := [(.return_, 0, 0, 0, 0)]
theorem bk_X2_readSemicolon_17 : xm_okb cX2_readSemicolon 2 1 3 false 18 17 kX2_readSemicolon_17 = true := by decide +kernel
abbrev mt_X2_readNumber : xm_T4 := (yX2_readNumber, cX2_readNumber, 4, (some .int))
theorem mo_X2_readNumber : xm_mo mt_X2_readNumber 2 2 0 false false := ⟨by decide +kernel, rfl, (fun h => by cases h), rfl, by decide, ⟨by decide +kernel, by decide +kernel, by decide +kernel⟩, (wq_at mw_2_1 1 rfl), (wq_at mw_2_1 25 rfl), (fun h => by cases h), (fun _ => (wq_at mw_2_1 2 rfl)), (fun _ => (wq_at mw_2_1 3 rfl))⟩
def kX2_readNumber_0 : List xm_I := [(.iload 0, 1, 0, 0, 0), (.istore 0, 3, 0, 0, 0), (.aload 0, 0, 0, 0, 0), (.getfield 0, 2, 3, 0, 0), (.sipush 0, 0, 0, 0, 2), (.if_icmp .eq 0, 18, 0, 0, 0), (.aload 0, 0, 0, 0, 0), (.sipush 0, 0, 0, 0, 1)]
theorem bk_X2_readNumber_0 : xm_okb cX2_readNumber 2 4 0 false 12 0 kX2_readNumber_0 = true := by decide +kernel
def kX2_readNumber_15 : List xm_I := [(.goto 0, 47, 0, 0, 0)]
theorem bk_X2_readNumber_15 : xm_okb cX2_readNumber 2 4 0 false 18 15 kX2_readNumber_15 = true := by decide +kernel
def kX2_readNumber_18 : List xm_I := [(.aload 0, 0, 0, 0, 0)]
theorem bk_X2_readNumber_18 : xm_okb cX2_readNumber 2 4 0 false 19 18 kX2_readNumber_18 = true := by decide +kernel
def kX2_readNumber_22 : List xm_I := [(.iload 0, 1, 0, 0, 0), (.if_icmp .lt 0, 34, 0, 0, 0), (.aload 0, 0, 0, 0, 0)]
theorem bk_X2_readNumber_22 : xm_okb cX2_readNumber 2 4 0 false 27 22 kX2_readNumber_22 = true := by decide +kernel
def kX2_readNumber_30 : List xm_I := [(.iload 0, 2, 0, 0, 0), (.if_icmp .le 0, 42, 0, 0, 0)]
theorem bk_X2_readNumber_30 : xm_okb cX2_readNumber 2 4 0 false 34 30 kX2_readNumber_30 = true := by decide +kernel
def kX2_readNumber_34 : List xm_I := [(.aload 0, 0, 0, 0, 0), (.sipush 0, 0, 0, 0, 2)]
theorem bk_X2_readNumber_34 : xm_okb cX2_readNumber 2 4 0 false 36 34 kX2_readNumber_34 = true := by decide +kernel
def kX2_readNumber_39 : List xm_I := [(.goto 0, 47, 0, 0, 0)]
theorem bk_X2_readNumber_39 : xm_okb cX2_readNumber 2 4 0 false 42 39 kX2_readNumber_39 = true := by decide +kernel
def kX2_readNumber_42 : List xm_I := [(.aload 0, 0, 0, 0, 0)]
theorem bk_X2_readNumber_42 : xm_okb cX2_readNumber 2 4 0 false 43 42 kX2_readNumber_42 = true := by decide +kernel
def kX2_readNumber_46 : List xm_I := [(.istore 0, 3, 0, 0, 0)]
theorem bk_X2_readNumber_46 : xm_okb cX2_readNumber 2 4 0 false 47 46 kX2_readNumber_46 = true := by decide +kernel
def kX2_readNumber_47 : List xm_I := [(.aload 0, 0, 0, 0, 0)]
theorem bk_X2_readNumber_47 : xm_okb cX2_readNumber 2 4 0 false 48 47 kX2_readNumber_47 = true := by decide +kernel
def kX2_readNumber_51 : List xm_I := [(.iload 0, 3, 0, 0, 0), (.ireturn, 0, 0, 0, 0)]
theorem bk_X2_readNumber_51 : xm_okb cX2_readNumber 2 4 0 false 53 51 kX2_readNumber_51 = true := by decide +kernel
abbrev mt_X2_fail : xm_T4 := (yX2_fail, cX2_fail, 2, none)
theorem mo_X2_fail : xm_mo mt_X2_fail 2 1 3 false false := ⟨by decide +kernel, rfl, (fun h => by cases h), rfl, by decide, ⟨by decide +kernel, by decide +kernel, by decide +kernel⟩, (wq_at mw_2_1 4 rfl), (wq_at mw_2_1 25 rfl), (fun h => by cases h), (fun _ => (wq_at mw_2_1 5 rfl)), (fun _ => (wq_at mw_2_1 6 rfl))⟩
def kX2_fail_0 : List xm_I := [(.aload 0, 0, 0, 0, 0), (.getfield 0, 2, 7, 0, 0), (.ifCond .ne 0, 20, 0, 0, 0), (.aload 0, 0, 0, 0, 0), (.iload 0, 1, 0, 0, 0), (.putfield 0, 2, 7, 0, 0), (.aload 0, 0, 0, 0, 0), (.aload 0, 0, 0, 0, 0)]
theorem bk_X2_fail_0 : xm_okb cX2_fail 2 2 3 false 14 0 kX2_fail_0 = true := by decide +kernel
def kX2_fail_20 : List xm_I := [(.return_, 0, 0, 0, 0)]
theorem bk_X2_fail_20 : xm_okb cX2_fail 2 2 3 false 21 20 kX2_fail_20 = true := by decide +kernel
def kX2_fail_14 : List xm_I := [(.getfield 0, 2, 4, 0, 0), (.putfield 0, 2, 8, 0, 0)]
theorem bk_X2_fail_14 : xm_okb cX2_fail 2 2 3 false 20 14 kX2_fail_14 = true := by decide +kernel
abbrev mt_X2_isAt : xm_T4 := (yX2_isAt, cX2_isAt, 3, (some .boolean))
theorem mo_X2_isAt : xm_mo mt_X2_isAt 2 1 1 false false := ⟨by decide +kernel, rfl, (fun h => by cases h), rfl, by decide, ⟨by decide +kernel, by decide +kernel, by decide +kernel⟩, (wq_at mw_2_1 7 rfl), (wq_at mw_2_1 25 rfl), (fun h => by cases h), (fun _ => (wq_at mw_2_1 8 rfl)), (fun _ => (wq_at mw_2_1 9 rfl))⟩
def kX2_isAt_0 : List xm_I := [(.aload 0, 0, 0, 0, 0), (.getfield 0, 2, 7, 0, 0), (.ifCond .ne 0, 31, 0, 0, 0), (.aload 0, 0, 0, 0, 0), (.getfield 0, 2, 3, 0, 0), (.sipush 0, 0, 0, 0, 1), (.if_icmp .ne 0, 31, 0, 0, 0), (.aload 0, 0, 0, 0, 0)]
theorem bk_X2_isAt_0 : xm_okb cX2_isAt 2 3 1 false 16 0 kX2_isAt_0 = true := by decide +kernel
def kX2_isAt_28 : List xm_I := [(.if_icmp .eq 0, 33, 0, 0, 0)]
theorem bk_X2_isAt_28 : xm_okb cX2_isAt 2 3 1 false 31 28 kX2_isAt_28 = true := by decide +kernel
def kX2_isAt_31 : List xm_I := [(.sipush 0, 0, 0, 0, 0), (.ireturn, 1, 0, 0, 0)]
theorem bk_X2_isAt_31 : xm_okb cX2_isAt 2 3 1 false 33 31 kX2_isAt_31 = true := by decide +kernel
def kX2_isAt_33 : List xm_I := [(.sipush 0, 0, 0, 0, 0), (.istore 0, 2, 0, 0, 0)]
theorem bk_X2_isAt_33 : xm_okb cX2_isAt 2 3 1 false 35 33 kX2_isAt_33 = true := by decide +kernel
def kX2_isAt_35 : List xm_I := [(.iload 0, 2, 0, 0, 0), (.aload 0, 1, 0, 0, 0)]
theorem bk_X2_isAt_35 : xm_okb cX2_isAt 2 3 1 false 37 35 kX2_isAt_35 = true := by decide +kernel
def kX2_isAt_40 : List xm_I := [(.if_icmp .ge 0, 69, 0, 0, 0), (.aload 0, 0, 0, 0, 0), (.aload 0, 0, 0, 0, 0), (.getfield 0, 2, 4, 0, 0), (.iload 0, 2, 0, 0, 0), (.iadd, 0, 0, 0, 0)]
theorem bk_X2_isAt_40 : xm_okb cX2_isAt 2 3 1 false 50 40 kX2_isAt_40 = true := by decide +kernel
def kX2_isAt_53 : List xm_I := [(.aload 0, 1, 0, 0, 0), (.iload 0, 2, 0, 0, 0)]
theorem bk_X2_isAt_53 : xm_okb cX2_isAt 2 3 1 false 55 53 kX2_isAt_53 = true := by decide +kernel
def kX2_isAt_58 : List xm_I := [(.if_icmp .eq 0, 63, 0, 0, 0), (.sipush 0, 0, 0, 0, 0), (.ireturn, 1, 0, 0, 0)]
theorem bk_X2_isAt_58 : xm_okb cX2_isAt 2 3 1 false 63 58 kX2_isAt_58 = true := by decide +kernel
def kX2_isAt_63 : List xm_I := [(.iinc 0 0, 2, 0, 0, 1), (.goto 0, 35, 0, 0, 0)]
theorem bk_X2_isAt_63 : xm_okb cX2_isAt 2 3 1 false 69 63 kX2_isAt_63 = true := by decide +kernel
def kX2_isAt_69 : List xm_I := [(.sipush 0, 0, 0, 0, 1), (.ireturn, 1, 0, 0, 0)]
theorem bk_X2_isAt_69 : xm_okb cX2_isAt 2 3 1 false 71 69 kX2_isAt_69 = true := by decide +kernel
def kX2_isAt_16 : List xm_I := [(.getfield 0, 2, 5, 0, 0), (.aload 0, 0, 0, 0, 0), (.getfield 0, 2, 4, 0, 0), (.isub, 0, 0, 0, 0), (.aload 0, 1, 0, 0, 0)]
theorem bk_X2_isAt_16 : xm_okb cX2_isAt 2 3 1 false 25 16 kX2_isAt_16 = true := by decide +kernel
abbrev mt_X2_value : xm_T4 := (yX2_value, cX2_value, 3, (some .int))
theorem mo_X2_value : xm_mo mt_X2_value 2 0 0 false false := ⟨by decide +kernel, rfl, (fun h => by cases h), rfl, by decide, ⟨by decide +kernel, by decide +kernel, by decide +kernel⟩, (wq_at mw_2_1 10 rfl), (wq_at mw_2_1 25 rfl), (fun h => by cases h), (fun _ => (wq_at mw_2_1 11 rfl)), (fun _ => (wq_at mw_2_1 12 rfl))⟩
def kX2_value_0 : List xm_I := [(.sipush 0, 0, 0, 0, 0), (.istore 0, 1, 0, 0, 0), (.aload 0, 0, 0, 0, 0), (.getfield 0, 2, 4, 0, 0), (.istore 0, 2, 0, 0, 0)]
theorem bk_X2_value_0 : xm_okb cX2_value 2 3 0 false 7 0 kX2_value_0 = true := by decide +kernel
def kX2_value_7 : List xm_I := [(.iload 0, 2, 0, 0, 0), (.aload 0, 0, 0, 0, 0), (.getfield 0, 2, 5, 0, 0), (.if_icmp .ge 0, 35, 0, 0, 0), (.iload 0, 1, 0, 0, 0), (.sipush 0, 0, 0, 0, 10), (.imul, 0, 0, 0, 0), (.aload 0, 0, 0, 0, 0)]
theorem bk_X2_value_7 : xm_okb cX2_value 2 3 0 false 20 7 kX2_value_7 = true := by decide +kernel
def kX2_value_24 : List xm_I := [(.iadd, 0, 0, 0, 0), (.sipush 0, 0, 0, 0, 48), (.isub, 0, 0, 0, 0), (.istore 0, 1, 0, 0, 0), (.iinc 0 0, 2, 0, 0, 1), (.goto 0, 7, 0, 0, 0)]
theorem bk_X2_value_24 : xm_okb cX2_value 2 3 0 false 35 24 kX2_value_24 = true := by decide +kernel
def kX2_value_35 : List xm_I := [(.iload 0, 1, 0, 0, 0), (.ireturn, 0, 0, 0, 0)]
theorem bk_X2_value_35 : xm_okb cX2_value 2 3 0 false 37 35 kX2_value_35 = true := by decide +kernel
def kX2_value_20 : List xm_I := [(.iload 0, 2, 0, 0, 0)]
theorem bk_X2_value_20 : xm_okb cX2_value 2 3 0 false 21 20 kX2_value_20 = true := by decide +kernel
abbrev mt_X2_advance : xm_T4 := (yX2_advance, cX2_advance, 1, none)
theorem mo_X2_advance : xm_mo mt_X2_advance 2 0 3 false false := ⟨by decide +kernel, rfl, (fun h => by cases h), rfl, by decide, ⟨by decide +kernel, by decide +kernel, by decide +kernel⟩, (wq_at mw_2_1 13 rfl), (wq_at mw_2_1 25 rfl), (fun h => by cases h), (fun _ => (wq_at mw_2_1 14 rfl)), (fun _ => (wq_at mw_2_1 15 rfl))⟩
def kX2_advance_0 : List xm_I := [(.aload 0, 0, 0, 0, 0), (.getfield 0, 2, 7, 0, 0), (.ifCond .eq 0, 8, 0, 0, 0), (.return_, 0, 0, 0, 0)]
theorem bk_X2_advance_0 : xm_okb cX2_advance 2 1 3 false 8 0 kX2_advance_0 = true := by decide +kernel
def kX2_advance_8 : List xm_I := [(.aload 0, 0, 0, 0, 0), (.aload 0, 0, 0, 0, 0), (.getfield 0, 2, 5, 0, 0), (.putfield 0, 2, 4, 0, 0)]
theorem bk_X2_advance_8 : xm_okb cX2_advance 2 1 3 false 16 8 kX2_advance_8 = true := by decide +kernel
def kX2_advance_16 : List xm_I := [(.aload 0, 0, 0, 0, 0), (.getfield 0, 2, 4, 0, 0), (.aload 0, 0, 0, 0, 0), (.getfield 0, 2, 1, 0, 0), (.if_icmp .ge 0, 54, 0, 0, 0), (.aload 0, 0, 0, 0, 0), (.aload 0, 0, 0, 0, 0), (.getfield 0, 2, 4, 0, 0)]
theorem bk_X2_advance_16 : xm_okb cX2_advance 2 1 3 false 32 16 kX2_advance_16 = true := by decide +kernel
def kX2_advance_38 : List xm_I := [(.ifCond .eq 0, 54, 0, 0, 0), (.aload 0, 0, 0, 0, 0), (.dup, 0, 0, 0, 0), (.getfield 0, 2, 4, 0, 0), (.sipush 0, 0, 0, 0, 1), (.iadd, 0, 0, 0, 0), (.putfield 0, 2, 4, 0, 0), (.goto 0, 16, 0, 0, 0)]
theorem bk_X2_advance_38 : xm_okb cX2_advance 2 1 3 false 54 38 kX2_advance_38 = true := by decide +kernel
def kX2_advance_54 : List xm_I := [(.aload 0, 0, 0, 0, 0), (.aload 0, 0, 0, 0, 0), (.getfield 0, 2, 4, 0, 0), (.putfield 0, 2, 5, 0, 0), (.aload 0, 0, 0, 0, 0), (.getfield 0, 2, 4, 0, 0), (.aload 0, 0, 0, 0, 0), (.getfield 0, 2, 1, 0, 0)]
theorem bk_X2_advance_54 : xm_okb cX2_advance 2 1 3 false 70 54 kX2_advance_54 = true := by decide +kernel
def kX2_advance_81 : List xm_I := [(.aload 0, 0, 0, 0, 0), (.aload 0, 0, 0, 0, 0), (.getfield 0, 2, 4, 0, 0)]
theorem bk_X2_advance_81 : xm_okb cX2_advance 2 1 3 false 86 81 kX2_advance_81 = true := by decide +kernel
def kX2_advance_92 : List xm_I := [(.ifCond .eq 0, 138, 0, 0, 0), (.aload 0, 0, 0, 0, 0), (.sipush 0, 0, 0, 0, 1), (.putfield 0, 2, 3, 0, 0)]
theorem bk_X2_advance_92 : xm_okb cX2_advance 2 1 3 false 100 92 kX2_advance_92 = true := by decide +kernel
def kX2_advance_100 : List xm_I := [(.aload 0, 0, 0, 0, 0), (.getfield 0, 2, 5, 0, 0), (.aload 0, 0, 0, 0, 0), (.getfield 0, 2, 1, 0, 0), (.if_icmp .ge 0, 247, 0, 0, 0), (.aload 0, 0, 0, 0, 0), (.aload 0, 0, 0, 0, 0), (.getfield 0, 2, 5, 0, 0)]
theorem bk_X2_advance_100 : xm_okb cX2_advance 2 1 3 false 116 100 kX2_advance_100 = true := by decide +kernel
def kX2_advance_122 : List xm_I := [(.ifCond .eq 0, 247, 0, 0, 0), (.aload 0, 0, 0, 0, 0), (.dup, 0, 0, 0, 0), (.getfield 0, 2, 5, 0, 0), (.sipush 0, 0, 0, 0, 1), (.iadd, 0, 0, 0, 0), (.putfield 0, 2, 5, 0, 0), (.goto 0, 100, 0, 0, 0)]
theorem bk_X2_advance_122 : xm_okb cX2_advance 2 1 3 false 138 122 kX2_advance_122 = true := by decide +kernel
def kX2_advance_138 : List xm_I := [(.aload 0, 0, 0, 0, 0), (.aload 0, 0, 0, 0, 0), (.getfield 0, 2, 4, 0, 0)]
theorem bk_X2_advance_138 : xm_okb cX2_advance 2 1 3 false 143 138 kX2_advance_138 = true := by decide +kernel
def kX2_advance_149 : List xm_I := [(.ifCond .eq 0, 215, 0, 0, 0)]
theorem bk_X2_advance_149 : xm_okb cX2_advance 2 1 3 false 152 149 kX2_advance_149 = true := by decide +kernel
def kX2_advance_152 : List xm_I := [(.aload 0, 0, 0, 0, 0), (.getfield 0, 2, 5, 0, 0), (.aload 0, 0, 0, 0, 0), (.getfield 0, 2, 1, 0, 0), (.if_icmp .ge 0, 190, 0, 0, 0), (.aload 0, 0, 0, 0, 0), (.aload 0, 0, 0, 0, 0), (.getfield 0, 2, 5, 0, 0)]
theorem bk_X2_advance_152 : xm_okb cX2_advance 2 1 3 false 168 152 kX2_advance_152 = true := by decide +kernel
def kX2_advance_174 : List xm_I := [(.ifCond .eq 0, 190, 0, 0, 0), (.aload 0, 0, 0, 0, 0), (.dup, 0, 0, 0, 0), (.getfield 0, 2, 5, 0, 0), (.sipush 0, 0, 0, 0, 1), (.iadd, 0, 0, 0, 0), (.putfield 0, 2, 5, 0, 0), (.goto 0, 152, 0, 0, 0)]
theorem bk_X2_advance_174 : xm_okb cX2_advance 2 1 3 false 190 174 kX2_advance_174 = true := by decide +kernel
def kX2_advance_190 : List xm_I := [(.aload 0, 0, 0, 0, 0), (.aload 0, 0, 0, 0, 0), (.getfield 0, 2, 5, 0, 0), (.aload 0, 0, 0, 0, 0), (.getfield 0, 2, 4, 0, 0), (.isub, 0, 0, 0, 0), (.sipush 0, 0, 0, 0, 4), (.if_icmp .gt 0, 208, 0, 0, 0)]
theorem bk_X2_advance_190 : xm_okb cX2_advance 2 1 3 false 204 190 kX2_advance_190 = true := by decide +kernel
def kX2_advance_208 : List xm_I := [(.sipush 0, 0, 0, 0, 4)]
theorem bk_X2_advance_208 : xm_okb cX2_advance 2 1 3 false 209 208 kX2_advance_208 = true := by decide +kernel
def kX2_advance_209 : List xm_I := [(.putfield 0, 2, 3, 0, 0), (.goto 0, 247, 0, 0, 0)]
theorem bk_X2_advance_209 : xm_okb cX2_advance 2 1 3 false 215 209 kX2_advance_209 = true := by decide +kernel
def kX2_advance_215 : List xm_I := [(.aload 0, 0, 0, 0, 0), (.aload 0, 0, 0, 0, 0), (.aload 0, 0, 0, 0, 0), (.getfield 0, 2, 4, 0, 0)]
theorem bk_X2_advance_215 : xm_okb cX2_advance 2 1 3 false 221 215 kX2_advance_215 = true := by decide +kernel
def kX2_advance_224 : List xm_I := [(.sipush 0, 0, 0, 0, 59), (.if_icmp .ne 0, 233, 0, 0, 0), (.sipush 0, 0, 0, 0, 3), (.goto 0, 234, 0, 0, 0)]
theorem bk_X2_advance_224 : xm_okb cX2_advance 2 1 3 false 233 224 kX2_advance_224 = true := by decide +kernel
def kX2_advance_233 : List xm_I := [(.sipush 0, 0, 0, 0, 4)]
theorem bk_X2_advance_233 : xm_okb cX2_advance 2 1 3 false 234 233 kX2_advance_233 = true := by decide +kernel
def kX2_advance_234 : List xm_I := [(.putfield 0, 2, 3, 0, 0), (.aload 0, 0, 0, 0, 0), (.dup, 0, 0, 0, 0), (.getfield 0, 2, 5, 0, 0), (.sipush 0, 0, 0, 0, 1), (.iadd, 0, 0, 0, 0), (.putfield 0, 2, 5, 0, 0)]
theorem bk_X2_advance_234 : xm_okb cX2_advance 2 1 3 false 247 234 kX2_advance_234 = true := by decide +kernel
def kX2_advance_247 : List xm_I := [(.return_, 0, 0, 0, 0)]
theorem bk_X2_advance_247 : xm_okb cX2_advance 2 1 3 false 248 247 kX2_advance_247 = true := by decide +kernel
def kX2_advance_70 : List xm_I := [(.if_icmp .lt 0, 81, 0, 0, 0), (.aload 0, 0, 0, 0, 0), (.sipush 0, 0, 0, 0, 0), (.putfield 0, 2, 3, 0, 0), (.goto 0, 247, 0, 0, 0)]
theorem bk_X2_advance_70 : xm_okb cX2_advance 2 1 3 false 81 70 kX2_advance_70 = true := by decide +kernel
def kX2_advance_204 : List xm_I := [(.sipush 0, 0, 0, 0, 2), (.goto 0, 209, 0, 0, 0)]
theorem bk_X2_advance_204 : xm_okb cX2_advance 2 1 3 false 208 204 kX2_advance_204 = true := by decide +kernel
abbrev mt_X2_byteAt : xm_T4 := (yX2_byteAt, cX2_byteAt, 2, (some .int))
theorem mo_X2_byteAt : xm_mo mt_X2_byteAt 2 1 0 false false := ⟨by decide +kernel, rfl, (fun h => by cases h), rfl, by decide, ⟨by decide +kernel, by decide +kernel, by decide +kernel⟩, (wq_at mw_2_1 16 rfl), (wq_at mw_2_1 25 rfl), (fun h => by cases h), (fun _ => (wq_at mw_2_1 17 rfl)), (fun _ => (wq_at mw_2_1 18 rfl))⟩
def kX2_byteAt_0 : List xm_I := [(.iload 0, 1, 0, 0, 0), (.ifCond .lt 0, 21, 0, 0, 0), (.iload 0, 1, 0, 0, 0), (.aload 0, 0, 0, 0, 0), (.getfield 0, 2, 1, 0, 0), (.if_icmp .ge 0, 21, 0, 0, 0), (.aload 0, 0, 0, 0, 0), (.getfield 0, 2, 0, 2, 0)]
theorem bk_X2_byteAt_0 : xm_okb cX2_byteAt 2 2 0 false 16 0 kX2_byteAt_0 = true := by decide +kernel
def kX2_byteAt_21 : List xm_I := [(.sipush 0, 0, 0, 0, 0)]
theorem bk_X2_byteAt_21 : xm_okb cX2_byteAt 2 2 0 false 22 21 kX2_byteAt_21 = true := by decide +kernel
def kX2_byteAt_22 : List xm_I := [(.ireturn, 0, 0, 0, 0)]
theorem bk_X2_byteAt_22 : xm_okb cX2_byteAt 2 2 0 false 23 22 kX2_byteAt_22 = true := by decide +kernel
def kX2_byteAt_16 : List xm_I := [(.iload 0, 1, 0, 0, 0), (.iaload, 0, 0, 0, 0), (.goto 0, 22, 0, 0, 0)]
theorem bk_X2_byteAt_16 : xm_okb cX2_byteAt 2 2 0 false 21 16 kX2_byteAt_16 = true := by decide +kernel
abbrev mt_X2_isBlank : xm_T4 := (yX2_isBlank, cX2_isBlank, 1, (some .boolean))
theorem mo_X2_isBlank : xm_mo mt_X2_isBlank 2 1 1 false true := ⟨by decide +kernel, rfl, (fun h => by cases h), rfl, by decide, ⟨by decide +kernel, by decide +kernel, by decide +kernel⟩, (wq_at mw_2_1 19 rfl), (wq_at mw_2_1 25 rfl), (fun _ => (wq_at mw_2_1 20 rfl)), (fun h => by cases h), (fun h => by cases h.1)⟩
def kX2_isBlank_0 : List xm_I := [(.iload 0, 0, 0, 0, 0), (.sipush 0, 0, 0, 0, 10), (.if_icmp .eq 0, 12, 0, 0, 0), (.iload 0, 0, 0, 0, 0), (.sipush 0, 0, 0, 0, 32), (.if_icmp .ne 0, 16, 0, 0, 0)]
theorem bk_X2_isBlank_0 : xm_okb cX2_isBlank 2 1 1 false 12 0 kX2_isBlank_0 = true := by decide +kernel
def kX2_isBlank_12 : List xm_I := [(.sipush 0, 0, 0, 0, 1), (.goto 0, 17, 0, 0, 0)]
theorem bk_X2_isBlank_12 : xm_okb cX2_isBlank 2 1 1 false 16 12 kX2_isBlank_12 = true := by decide +kernel
def kX2_isBlank_16 : List xm_I := [(.sipush 0, 0, 0, 0, 0)]
theorem bk_X2_isBlank_16 : xm_okb cX2_isBlank 2 1 1 false 17 16 kX2_isBlank_16 = true := by decide +kernel
def kX2_isBlank_17 : List xm_I := [(.ireturn, 1, 0, 0, 0)]
theorem bk_X2_isBlank_17 : xm_okb cX2_isBlank 2 1 1 false 18 17 kX2_isBlank_17 = true := by decide +kernel
abbrev mt_X2_isLetter : xm_T4 := (yX2_isLetter, cX2_isLetter, 1, (some .boolean))
theorem mo_X2_isLetter : xm_mo mt_X2_isLetter 2 1 1 false true := ⟨by decide +kernel, rfl, (fun h => by cases h), rfl, by decide, ⟨by decide +kernel, by decide +kernel, by decide +kernel⟩, (wq_at mw_2_1 21 rfl), (wq_at mw_2_1 25 rfl), (fun _ => (wq_at mw_2_1 22 rfl)), (fun h => by cases h), (fun h => by cases h.1)⟩
def kX2_isLetter_0 : List xm_I := [(.iload 0, 0, 0, 0, 0), (.sipush 0, 0, 0, 0, 97), (.if_icmp .lt 0, 16, 0, 0, 0), (.iload 0, 0, 0, 0, 0), (.sipush 0, 0, 0, 0, 122), (.if_icmp .gt 0, 16, 0, 0, 0), (.sipush 0, 0, 0, 0, 1), (.goto 0, 17, 0, 0, 0)]
theorem bk_X2_isLetter_0 : xm_okb cX2_isLetter 2 1 1 false 16 0 kX2_isLetter_0 = true := by decide +kernel
def kX2_isLetter_16 : List xm_I := [(.sipush 0, 0, 0, 0, 0)]
theorem bk_X2_isLetter_16 : xm_okb cX2_isLetter 2 1 1 false 17 16 kX2_isLetter_16 = true := by decide +kernel
def kX2_isLetter_17 : List xm_I := [(.ireturn, 1, 0, 0, 0)]
theorem bk_X2_isLetter_17 : xm_okb cX2_isLetter 2 1 1 false 18 17 kX2_isLetter_17 = true := by decide +kernel
abbrev mt_X2_isDigit : xm_T4 := (yX2_isDigit, cX2_isDigit, 1, (some .boolean))
theorem mo_X2_isDigit : xm_mo mt_X2_isDigit 2 1 1 false true := ⟨by decide +kernel, rfl, (fun h => by cases h), rfl, by decide, ⟨by decide +kernel, by decide +kernel, by decide +kernel⟩, (wq_at mw_2_1 23 rfl), (wq_at mw_2_1 25 rfl), (fun _ => (wq_at mw_2_1 24 rfl)), (fun h => by cases h), (fun h => by cases h.1)⟩
def kX2_isDigit_0 : List xm_I := [(.iload 0, 0, 0, 0, 0), (.sipush 0, 0, 0, 0, 48), (.if_icmp .lt 0, 16, 0, 0, 0), (.iload 0, 0, 0, 0, 0), (.sipush 0, 0, 0, 0, 57), (.if_icmp .gt 0, 16, 0, 0, 0), (.sipush 0, 0, 0, 0, 1), (.goto 0, 17, 0, 0, 0)]
theorem bk_X2_isDigit_0 : xm_okb cX2_isDigit 2 1 1 false 16 0 kX2_isDigit_0 = true := by decide +kernel
def kX2_isDigit_16 : List xm_I := [(.sipush 0, 0, 0, 0, 0)]
theorem bk_X2_isDigit_16 : xm_okb cX2_isDigit 2 1 1 false 17 16 kX2_isDigit_16 = true := by decide +kernel
def kX2_isDigit_17 : List xm_I := [(.ireturn, 1, 0, 0, 0)]
theorem bk_X2_isDigit_17 : xm_okb cX2_isDigit 2 1 1 false 18 17 kX2_isDigit_17 = true := by decide +kernel

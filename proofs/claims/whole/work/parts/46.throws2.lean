/-! THROWS of the class: words and links of the four classes that it throws -/
theorem tw_ISE : (Cond.classLink (xm_C 6) 67 "java/lang/IllegalStateException" ∈ lw_tb ∧ Cond.initialized "java/lang/IllegalStateException" ∈ lw_tb) ∧ (∀ w ∈ (vx_at0 (xm_C 6) 69 "java/lang/IllegalStateException" xq_nm).filter goodWord, w ∈ lw_tb) ∧ (∀ w ∈ (vx_at0 (xm_C 6) 69 "java/lang/IllegalStateException" xq_nm).filter (fun w => !goodWord w), w ∈ xq_bad "java/lang/IllegalStateException") ∧ ∀ w ∈ Cond.classLink (xm_C 6) 67 "java/lang/IllegalStateException" :: Cond.initialized "java/lang/IllegalStateException" :: vx_at0 (xm_C 6) 69 "java/lang/IllegalStateException" xq_nm, vx_ot w = true := by
  have key : ((vx_at0 (xm_C 6) 69 "java/lang/IllegalStateException" xq_nm).filter goodWord).all (fun w => decide (w ∈ lw_tbl)) = true := by decide +kernel
  refine ⟨⟨?_, ?_⟩, fun w hw => List.mem_filter.mpr ⟨of_decide_eq_true (List.all_eq_true.mp key w hw), (List.mem_filter.mp hw).2⟩, ?_, ?_⟩
  · exact List.mem_filter.mpr ⟨by decide +kernel, by decide +kernel⟩
  · exact List.mem_filter.mpr ⟨by decide +kernel, by decide +kernel⟩
  · decide +kernel
  · decide +kernel
theorem xm_ISE {E : xm_E} {Z : xm_Z} {nL rt D mc ms ce sl pc : Nat} {ini : Bool} {cc : ByteArray} {L : List Value} {M : xm_M} (hY : xm_Y E 6 nL cc rt ini D mc ms Z) (hex : ∀ x ∈ Z.2.2.2.2.2.2.2.2.2.exceptionTable.toList, False) (hl : Z.2.1.stackTraces = false) (hxq : ∀ U, E.2.2.2.1 U → xq E.2.2.1 U)
    (d0 : decode cc pc = .ok (.new 67, 3)) (d3 : decode cc (pc + 3) = .ok (.dup, 1)) (d4 : decode cc (pc + 4) = .ok (.invokespecial 69, 3)) (d7 : decode cc (pc + 7) = .ok (.athrow, 1)) (hD : 6 ≤ D) (hc : ce + 1 ≤ mc) (hs : sl + 6 ≤ ms) (hm : M.1 = ly_m) : xm_GQ E Z nL (xm_QX E Z "java/lang/IllegalStateException" M mc ms) ce sl pc L [] M :=
  xm_throw hY hex hl hxq (by decide +kernel) (by decide +kernel) tw_ISE.1.1 tw_ISE.1.2 tw_ISE.2.1 tw_ISE.2.2.1 tw_ISE.2.2.2 d0 d3 d4 d7 hD hc hs hm
theorem tw_IOB : (Cond.classLink (xm_C 6) 74 "java/lang/IndexOutOfBoundsException" ∈ lw_tb ∧ Cond.initialized "java/lang/IndexOutOfBoundsException" ∈ lw_tb) ∧ (∀ w ∈ (vx_at0 (xm_C 6) 76 "java/lang/IndexOutOfBoundsException" xq_nm).filter goodWord, w ∈ lw_tb) ∧ (∀ w ∈ (vx_at0 (xm_C 6) 76 "java/lang/IndexOutOfBoundsException" xq_nm).filter (fun w => !goodWord w), w ∈ xq_bad "java/lang/IndexOutOfBoundsException") ∧ ∀ w ∈ Cond.classLink (xm_C 6) 74 "java/lang/IndexOutOfBoundsException" :: Cond.initialized "java/lang/IndexOutOfBoundsException" :: vx_at0 (xm_C 6) 76 "java/lang/IndexOutOfBoundsException" xq_nm, vx_ot w = true := by
  have key : ((vx_at0 (xm_C 6) 76 "java/lang/IndexOutOfBoundsException" xq_nm).filter goodWord).all (fun w => decide (w ∈ lw_tbl)) = true := by decide +kernel
  refine ⟨⟨?_, ?_⟩, fun w hw => List.mem_filter.mpr ⟨of_decide_eq_true (List.all_eq_true.mp key w hw), (List.mem_filter.mp hw).2⟩, ?_, ?_⟩
  · exact List.mem_filter.mpr ⟨by decide +kernel, by decide +kernel⟩
  · exact List.mem_filter.mpr ⟨by decide +kernel, by decide +kernel⟩
  · decide +kernel
  · decide +kernel
theorem xm_IOB {E : xm_E} {Z : xm_Z} {nL rt D mc ms ce sl pc : Nat} {ini : Bool} {cc : ByteArray} {L : List Value} {M : xm_M} (hY : xm_Y E 6 nL cc rt ini D mc ms Z) (hex : ∀ x ∈ Z.2.2.2.2.2.2.2.2.2.exceptionTable.toList, False) (hl : Z.2.1.stackTraces = false) (hxq : ∀ U, E.2.2.2.1 U → xq E.2.2.1 U)
    (d0 : decode cc pc = .ok (.new 74, 3)) (d3 : decode cc (pc + 3) = .ok (.dup, 1)) (d4 : decode cc (pc + 4) = .ok (.invokespecial 76, 3)) (d7 : decode cc (pc + 7) = .ok (.athrow, 1)) (hD : 6 ≤ D) (hc : ce + 1 ≤ mc) (hs : sl + 6 ≤ ms) (hm : M.1 = ly_m) : xm_GQ E Z nL (xm_QX E Z "java/lang/IndexOutOfBoundsException" M mc ms) ce sl pc L [] M :=
  xm_throw hY hex hl hxq (by decide +kernel) (by decide +kernel) tw_IOB.1.1 tw_IOB.1.2 tw_IOB.2.1 tw_IOB.2.2.1 tw_IOB.2.2.2 d0 d3 d4 d7 hD hc hs hm
theorem tw_IAE : (Cond.classLink (xm_C 6) 87 "java/lang/IllegalArgumentException" ∈ lw_tb ∧ Cond.initialized "java/lang/IllegalArgumentException" ∈ lw_tb) ∧ (∀ w ∈ (vx_at0 (xm_C 6) 89 "java/lang/IllegalArgumentException" xq_nm).filter goodWord, w ∈ lw_tb) ∧ (∀ w ∈ (vx_at0 (xm_C 6) 89 "java/lang/IllegalArgumentException" xq_nm).filter (fun w => !goodWord w), w ∈ xq_bad "java/lang/IllegalArgumentException") ∧ ∀ w ∈ Cond.classLink (xm_C 6) 87 "java/lang/IllegalArgumentException" :: Cond.initialized "java/lang/IllegalArgumentException" :: vx_at0 (xm_C 6) 89 "java/lang/IllegalArgumentException" xq_nm, vx_ot w = true := by
  have key : ((vx_at0 (xm_C 6) 89 "java/lang/IllegalArgumentException" xq_nm).filter goodWord).all (fun w => decide (w ∈ lw_tbl)) = true := by decide +kernel
  refine ⟨⟨?_, ?_⟩, fun w hw => List.mem_filter.mpr ⟨of_decide_eq_true (List.all_eq_true.mp key w hw), (List.mem_filter.mp hw).2⟩, ?_, ?_⟩
  · exact List.mem_filter.mpr ⟨by decide +kernel, by decide +kernel⟩
  · exact List.mem_filter.mpr ⟨by decide +kernel, by decide +kernel⟩
  · decide +kernel
  · decide +kernel
theorem xm_IAE {E : xm_E} {Z : xm_Z} {nL rt D mc ms ce sl pc : Nat} {ini : Bool} {cc : ByteArray} {L : List Value} {M : xm_M} (hY : xm_Y E 6 nL cc rt ini D mc ms Z) (hex : ∀ x ∈ Z.2.2.2.2.2.2.2.2.2.exceptionTable.toList, False) (hl : Z.2.1.stackTraces = false) (hxq : ∀ U, E.2.2.2.1 U → xq E.2.2.1 U)
    (d0 : decode cc pc = .ok (.new 87, 3)) (d3 : decode cc (pc + 3) = .ok (.dup, 1)) (d4 : decode cc (pc + 4) = .ok (.invokespecial 89, 3)) (d7 : decode cc (pc + 7) = .ok (.athrow, 1)) (hD : 6 ≤ D) (hc : ce + 1 ≤ mc) (hs : sl + 6 ≤ ms) (hm : M.1 = ly_m) : xm_GQ E Z nL (xm_QX E Z "java/lang/IllegalArgumentException" M mc ms) ce sl pc L [] M :=
  xm_throw hY hex hl hxq (by decide +kernel) (by decide +kernel) tw_IAE.1.1 tw_IAE.1.2 tw_IAE.2.1 tw_IAE.2.2.1 tw_IAE.2.2.2 d0 d3 d4 d7 hD hc hs hm
theorem tw_NSE : (Cond.classLink (xm_C 6) 224 "java/util/NoSuchElementException" ∈ lw_tb ∧ Cond.initialized "java/util/NoSuchElementException" ∈ lw_tb) ∧ (∀ w ∈ (vx_at0 (xm_C 6) 226 "java/util/NoSuchElementException" xq_nm).filter goodWord, w ∈ lw_tb) ∧ (∀ w ∈ (vx_at0 (xm_C 6) 226 "java/util/NoSuchElementException" xq_nm).filter (fun w => !goodWord w), w ∈ xq_bad "java/util/NoSuchElementException") ∧ ∀ w ∈ Cond.classLink (xm_C 6) 224 "java/util/NoSuchElementException" :: Cond.initialized "java/util/NoSuchElementException" :: vx_at0 (xm_C 6) 226 "java/util/NoSuchElementException" xq_nm, vx_ot w = true := by
  have key : ((vx_at0 (xm_C 6) 226 "java/util/NoSuchElementException" xq_nm).filter goodWord).all (fun w => decide (w ∈ lw_tbl)) = true := by decide +kernel
  refine ⟨⟨?_, ?_⟩, fun w hw => List.mem_filter.mpr ⟨of_decide_eq_true (List.all_eq_true.mp key w hw), (List.mem_filter.mp hw).2⟩, ?_, ?_⟩
  · exact List.mem_filter.mpr ⟨by decide +kernel, by decide +kernel⟩
  · exact List.mem_filter.mpr ⟨by decide +kernel, by decide +kernel⟩
  · decide +kernel
  · decide +kernel
theorem xm_NSE {E : xm_E} {Z : xm_Z} {nL rt D mc ms ce sl pc : Nat} {ini : Bool} {cc : ByteArray} {L : List Value} {M : xm_M} (hY : xm_Y E 6 nL cc rt ini D mc ms Z) (hex : ∀ x ∈ Z.2.2.2.2.2.2.2.2.2.exceptionTable.toList, False) (hl : Z.2.1.stackTraces = false) (hxq : ∀ U, E.2.2.2.1 U → xq E.2.2.1 U)
    (d0 : decode cc pc = .ok (.new 224, 3)) (d3 : decode cc (pc + 3) = .ok (.dup, 1)) (d4 : decode cc (pc + 4) = .ok (.invokespecial 226, 3)) (d7 : decode cc (pc + 7) = .ok (.athrow, 1)) (hD : 6 ≤ D) (hc : ce + 1 ≤ mc) (hs : sl + 6 ≤ ms) (hm : M.1 = ly_m) : xm_GQ E Z nL (xm_QX E Z "java/util/NoSuchElementException" M mc ms) ce sl pc L [] M :=
  xm_throw hY hex hl hxq (by decide +kernel) (by decide +kernel) tw_NSE.1.1 tw_NSE.1.2 tw_NSE.2.1 tw_NSE.2.2.1 tw_NSE.2.2.2 d0 d3 d4 d7 hD hc hs hm

/-! CODE of the law's own body, by program -/
def kLh_3 : List xm_I := [(.dup, 0, 0, 0, 0)]
theorem bk_Lh_3 : xm_okb code 8 9 1 false 4 3 kLh_3 = true := by decide +kernel
def kLh_7 : List xm_I := [(.astore 0, 1, 0, 0, 0)]
theorem bk_Lh_7 : xm_okb code 8 9 1 false 8 7 kLh_7 = true := by decide +kernel
def kLh_11 : List xm_I := [(.dup, 0, 0, 0, 0)]
theorem bk_Lh_11 : xm_okb code 8 9 1 false 12 11 kLh_11 = true := by decide +kernel
def kLh_15 : List xm_I := [(.astore 0, 2, 0, 0, 0), (.sipush 0, 0, 0, 0, 1)]
theorem bk_Lh_15 : xm_okb code 8 9 1 false 17 15 kLh_15 = true := by decide +kernel
def kLh_19 : List xm_I := [(.astore 0, 3, 0, 0, 0), (.sipush 0, 0, 0, 0, 1)]
theorem bk_Lh_19 : xm_okb code 8 9 1 false 21 19 kLh_19 = true := by decide +kernel
def kLh_23 : List xm_I := [(.astore 0, 4, 0, 0, 0), (.sipush 0, 0, 0, 0, 0), (.istore 0, 5, 0, 0, 0)]
theorem bk_Lh_23 : xm_okb code 8 9 1 false 28 23 kLh_23 = true := by decide +kernel
def kLh_28 : List xm_I := [(.iload 0, 5, 0, 0, 0), (.aload 0, 0, 0, 0, 0), (.arraylength, 1, 0, 0, 0), (.sipush 0, 0, 0, 0, 6)]
theorem bk_Lh_28 : xm_okb code 8 9 1 false 34 28 kLh_28 = true := by decide +kernel
def kLh_34 : List xm_I := [(.isub, 0, 0, 0, 0), (.if_icmp .gt 0, 2040, 0, 0, 0), (.aload 0, 0, 0, 0, 0), (.iload 0, 5, 0, 0, 0)]
theorem bk_Lh_34 : xm_okb code 8 9 1 false 41 34 kLh_34 = true := by decide +kernel
def kLh_41 : List xm_I := [(.iaload, 1, 0, 0, 0), (.sipush 0, 0, 0, 0, 31), (.iand, 0, 0, 0, 0)]
theorem bk_Lh_41 : xm_okb code 8 9 1 false 45 41 kLh_41 = true := by decide +kernel
def kb_Lh : List (Nat × Nat × List xm_I) := [(3, 4, kLh_3), (7, 8, kLh_7), (11, 12, kLh_11), (15, 17, kLh_15), (19, 21, kLh_19), (23, 28, kLh_23), (28, 34, kLh_28), (34, 41, kLh_34), (41, 45, kLh_41)]
theorem lb_Lh_3 : xm_lk kb_Lh 3 = some (4, kLh_3) := rfl
theorem lb_Lh_7 : xm_lk kb_Lh 7 = some (8, kLh_7) := rfl
theorem lb_Lh_11 : xm_lk kb_Lh 11 = some (12, kLh_11) := rfl
theorem lb_Lh_15 : xm_lk kb_Lh 15 = some (17, kLh_15) := rfl
theorem lb_Lh_19 : xm_lk kb_Lh 19 = some (21, kLh_19) := rfl
theorem lb_Lh_23 : xm_lk kb_Lh 23 = some (28, kLh_23) := rfl
theorem lb_Lh_28 : xm_lk kb_Lh 28 = some (34, kLh_28) := rfl
theorem lb_Lh_34 : xm_lk kb_Lh 34 = some (41, kLh_34) := rfl
theorem lb_Lh_41 : xm_lk kb_Lh 41 = some (45, kLh_41) := rfl
theorem lb_Lh_4 : xm_lk kb_Lh 4 = none := rfl
theorem lb_Lh_8 : xm_lk kb_Lh 8 = none := rfl
theorem lb_Lh_12 : xm_lk kb_Lh 12 = none := rfl
theorem lb_Lh_17 : xm_lk kb_Lh 17 = none := rfl
theorem lb_Lh_21 : xm_lk kb_Lh 21 = none := rfl
theorem lb_Lh_45 : xm_lk kb_Lh 45 = none := rfl
theorem lb_Lh_2040 : xm_lk kb_Lh 2040 = none := rfl
theorem kc_Lh : xm_oks code 8 9 1 false kb_Lh := (List.forall_mem_cons.mpr ⟨bk_Lh_3, (List.forall_mem_cons.mpr ⟨bk_Lh_7, (List.forall_mem_cons.mpr ⟨bk_Lh_11, (List.forall_mem_cons.mpr ⟨bk_Lh_15, (List.forall_mem_cons.mpr ⟨bk_Lh_19, (List.forall_mem_cons.mpr ⟨bk_Lh_23, (List.forall_mem_cons.mpr ⟨bk_Lh_28, (List.forall_mem_cons.mpr ⟨bk_Lh_34, (List.forall_mem_cons.mpr ⟨bk_Lh_41, (fun _ h => absurd h List.not_mem_nil)⟩)⟩)⟩)⟩)⟩)⟩)⟩)⟩)⟩)
def kLc0_184 : List xm_I := [(.aload 0, 1, 0, 0, 0), (.aload 0, 0, 0, 0, 0), (.iload 0, 5, 0, 0, 0), (.sipush 0, 0, 0, 0, 1)]
theorem bk_Lc0_184 : xm_okb code 8 9 1 false 189 184 kLc0_184 = true := by decide +kernel
def kLc0_219 : List xm_I := [(.istore 0, 6, 0, 0, 0), (.aload 0, 2, 0, 0, 0), (.aload 0, 0, 0, 0, 0), (.iload 0, 5, 0, 0, 0)]
theorem bk_Lc0_219 : xm_okb code 8 9 1 false 225 219 kLc0_219 = true := by decide +kernel
def kLc0_255 : List xm_I := [(.istore 0, 7, 0, 0, 0), (.aload 0, 2, 0, 0, 0)]
theorem bk_Lc0_255 : xm_okb code 8 9 1 false 258 255 kLc0_255 = true := by decide +kernel
def kLc0_261 : List xm_I := [(.iload 0, 6, 0, 0, 0), (.if_icmp .eq 0, 268, 0, 0, 0), (.sipush 0, 0, 0, 0, 0), (.ireturn, 1, 0, 0, 0)]
theorem bk_Lc0_261 : xm_okb code 8 9 1 false 268 261 kLc0_261 = true := by decide +kernel
def kLc0_268 : List xm_I := [(.iload 0, 6, 0, 0, 0), (.ifCond .ne 0, 285, 0, 0, 0), (.aload 0, 3, 0, 0, 0), (.sipush 0, 0, 0, 0, 0)]
theorem bk_Lc0_268 : xm_okb code 8 9 1 false 275 268 kLc0_268 = true := by decide +kernel
def kLc0_285 : List xm_I := [(.goto 0, 2034, 0, 0, 0)]
theorem bk_Lc0_285 : xm_okb code 8 9 1 false 288 285 kLc0_285 = true := by decide +kernel
def kLc0_189 : List xm_I := [(.iadd, 0, 0, 0, 0), (.iaload, 1, 0, 0, 0), (.aload 0, 0, 0, 0, 0), (.iload 0, 5, 0, 0, 0)]
theorem bk_Lc0_189 : xm_okb code 8 9 1 false 194 189 kLc0_189 = true := by decide +kernel
def kLc0_225 : List xm_I := [(.sipush 0, 0, 0, 0, 1), (.iadd, 0, 0, 0, 0), (.iaload, 1, 0, 0, 0), (.aload 0, 0, 0, 0, 0)]
theorem bk_Lc0_225 : xm_okb code 8 9 1 false 229 225 kLc0_225 = true := by decide +kernel
def kLc0_275 : List xm_I := [(.laload, 0, 0, 0, 0), (.iload 0, 7, 0, 0, 0), (.i2l, 0, 0, 0, 0), (.lcmp, 0, 0, 0, 0)]
theorem bk_Lc0_275 : xm_okb code 8 9 1 false 280 275 kLc0_275 = true := by decide +kernel
def kLc0_194 : List xm_I := [(.sipush 0, 0, 0, 0, 2), (.iadd, 0, 0, 0, 0), (.iaload, 1, 0, 0, 0), (.aload 0, 0, 0, 0, 0)]
theorem bk_Lc0_194 : xm_okb code 8 9 1 false 198 194 kLc0_194 = true := by decide +kernel
def kLc0_229 : List xm_I := [(.iload 0, 5, 0, 0, 0), (.sipush 0, 0, 0, 0, 2), (.iadd, 0, 0, 0, 0), (.iaload, 1, 0, 0, 0)]
theorem bk_Lc0_229 : xm_okb code 8 9 1 false 234 229 kLc0_229 = true := by decide +kernel
def kLc0_280 : List xm_I := [(.ifCond .eq 0, 285, 0, 0, 0), (.sipush 0, 0, 0, 0, 0), (.ireturn, 1, 0, 0, 0)]
theorem bk_Lc0_280 : xm_okb code 8 9 1 false 285 280 kLc0_280 = true := by decide +kernel
def kLc0_198 : List xm_I := [(.iload 0, 5, 0, 0, 0), (.sipush 0, 0, 0, 0, 3), (.iadd, 0, 0, 0, 0), (.iaload, 1, 0, 0, 0)]
theorem bk_Lc0_198 : xm_okb code 8 9 1 false 203 198 kLc0_198 = true := by decide +kernel
def kLc0_234 : List xm_I := [(.aload 0, 0, 0, 0, 0), (.iload 0, 5, 0, 0, 0), (.sipush 0, 0, 0, 0, 3), (.iadd, 0, 0, 0, 0)]
theorem bk_Lc0_234 : xm_okb code 8 9 1 false 239 234 kLc0_234 = true := by decide +kernel
def kLc0_203 : List xm_I := [(.aload 0, 0, 0, 0, 0), (.iload 0, 5, 0, 0, 0), (.sipush 0, 0, 0, 0, 4), (.iadd, 0, 0, 0, 0)]
theorem bk_Lc0_203 : xm_okb code 8 9 1 false 208 203 kLc0_203 = true := by decide +kernel
def kLc0_239 : List xm_I := [(.iaload, 1, 0, 0, 0), (.aload 0, 0, 0, 0, 0), (.iload 0, 5, 0, 0, 0), (.sipush 0, 0, 0, 0, 4)]
theorem bk_Lc0_239 : xm_okb code 8 9 1 false 244 239 kLc0_239 = true := by decide +kernel
def kLc0_208 : List xm_I := [(.iaload, 1, 0, 0, 0), (.aload 0, 0, 0, 0, 0), (.iload 0, 5, 0, 0, 0), (.sipush 0, 0, 0, 0, 5)]
theorem bk_Lc0_208 : xm_okb code 8 9 1 false 213 208 kLc0_208 = true := by decide +kernel
def kLc0_244 : List xm_I := [(.iadd, 0, 0, 0, 0), (.iaload, 1, 0, 0, 0), (.aload 0, 0, 0, 0, 0), (.iload 0, 5, 0, 0, 0)]
theorem bk_Lc0_244 : xm_okb code 8 9 1 false 249 244 kLc0_244 = true := by decide +kernel
def kLc0_213 : List xm_I := [(.iadd, 0, 0, 0, 0), (.iaload, 1, 0, 0, 0), (.aload 0, 3, 0, 0, 0)]
theorem bk_Lc0_213 : xm_okb code 8 9 1 false 216 213 kLc0_213 = true := by decide +kernel
def kLc0_249 : List xm_I := [(.sipush 0, 0, 0, 0, 5), (.iadd, 0, 0, 0, 0), (.iaload, 1, 0, 0, 0)]
theorem bk_Lc0_249 : xm_okb code 8 9 1 false 252 249 kLc0_249 = true := by decide +kernel
def kb_Lc0 : List (Nat × Nat × List xm_I) := [(184, 189, kLc0_184), (219, 225, kLc0_219), (255, 258, kLc0_255), (261, 268, kLc0_261), (268, 275, kLc0_268), (285, 288, kLc0_285), (189, 194, kLc0_189), (225, 229, kLc0_225), (275, 280, kLc0_275), (194, 198, kLc0_194), (229, 234, kLc0_229), (280, 285, kLc0_280), (198, 203, kLc0_198), (234, 239, kLc0_234), (203, 208, kLc0_203), (239, 244, kLc0_239), (208, 213, kLc0_208), (244, 249, kLc0_244), (213, 216, kLc0_213), (249, 252, kLc0_249)]
theorem lb_Lc0_184 : xm_lk kb_Lc0 184 = some (189, kLc0_184) := rfl
theorem lb_Lc0_219 : xm_lk kb_Lc0 219 = some (225, kLc0_219) := rfl
theorem lb_Lc0_255 : xm_lk kb_Lc0 255 = some (258, kLc0_255) := rfl
theorem lb_Lc0_261 : xm_lk kb_Lc0 261 = some (268, kLc0_261) := rfl
theorem lb_Lc0_268 : xm_lk kb_Lc0 268 = some (275, kLc0_268) := rfl
theorem lb_Lc0_285 : xm_lk kb_Lc0 285 = some (288, kLc0_285) := rfl
theorem lb_Lc0_189 : xm_lk kb_Lc0 189 = some (194, kLc0_189) := rfl
theorem lb_Lc0_225 : xm_lk kb_Lc0 225 = some (229, kLc0_225) := rfl
theorem lb_Lc0_275 : xm_lk kb_Lc0 275 = some (280, kLc0_275) := rfl
theorem lb_Lc0_194 : xm_lk kb_Lc0 194 = some (198, kLc0_194) := rfl
theorem lb_Lc0_229 : xm_lk kb_Lc0 229 = some (234, kLc0_229) := rfl
theorem lb_Lc0_280 : xm_lk kb_Lc0 280 = some (285, kLc0_280) := rfl
theorem lb_Lc0_198 : xm_lk kb_Lc0 198 = some (203, kLc0_198) := rfl
theorem lb_Lc0_234 : xm_lk kb_Lc0 234 = some (239, kLc0_234) := rfl
theorem lb_Lc0_203 : xm_lk kb_Lc0 203 = some (208, kLc0_203) := rfl
theorem lb_Lc0_239 : xm_lk kb_Lc0 239 = some (244, kLc0_239) := rfl
theorem lb_Lc0_208 : xm_lk kb_Lc0 208 = some (213, kLc0_208) := rfl
theorem lb_Lc0_244 : xm_lk kb_Lc0 244 = some (249, kLc0_244) := rfl
theorem lb_Lc0_213 : xm_lk kb_Lc0 213 = some (216, kLc0_213) := rfl
theorem lb_Lc0_249 : xm_lk kb_Lc0 249 = some (252, kLc0_249) := rfl
theorem lb_Lc0_216 : xm_lk kb_Lc0 216 = none := rfl
theorem lb_Lc0_252 : xm_lk kb_Lc0 252 = none := rfl
theorem lb_Lc0_258 : xm_lk kb_Lc0 258 = none := rfl
theorem lb_Lc0_288 : xm_lk kb_Lc0 288 = none := rfl
theorem lb_Lc0_2034 : xm_lk kb_Lc0 2034 = none := rfl
theorem kc_Lc0 : xm_oks code 8 9 1 false kb_Lc0 := (List.forall_mem_cons.mpr ⟨bk_Lc0_184, (List.forall_mem_cons.mpr ⟨bk_Lc0_219, (List.forall_mem_cons.mpr ⟨bk_Lc0_255, (List.forall_mem_cons.mpr ⟨bk_Lc0_261, (List.forall_mem_cons.mpr ⟨bk_Lc0_268, (List.forall_mem_cons.mpr ⟨bk_Lc0_285, (List.forall_mem_cons.mpr ⟨bk_Lc0_189, (List.forall_mem_cons.mpr ⟨bk_Lc0_225, (List.forall_mem_cons.mpr ⟨bk_Lc0_275, (List.forall_mem_cons.mpr ⟨bk_Lc0_194, (List.forall_mem_cons.mpr ⟨bk_Lc0_229, (List.forall_mem_cons.mpr ⟨bk_Lc0_280, (List.forall_mem_cons.mpr ⟨bk_Lc0_198, (List.forall_mem_cons.mpr ⟨bk_Lc0_234, (List.forall_mem_cons.mpr ⟨bk_Lc0_203, (List.forall_mem_cons.mpr ⟨bk_Lc0_239, (List.forall_mem_cons.mpr ⟨bk_Lc0_208, (List.forall_mem_cons.mpr ⟨bk_Lc0_244, (List.forall_mem_cons.mpr ⟨bk_Lc0_213, (List.forall_mem_cons.mpr ⟨bk_Lc0_249, (fun _ h => absurd h List.not_mem_nil)⟩)⟩)⟩)⟩)⟩)⟩)⟩)⟩)⟩)⟩)⟩)⟩)⟩)⟩)⟩)⟩)⟩)⟩)⟩)⟩)
def kLc1_288 : List xm_I := [(.aload 0, 1, 0, 0, 0), (.aload 0, 0, 0, 0, 0), (.iload 0, 5, 0, 0, 0), (.sipush 0, 0, 0, 0, 1)]
theorem bk_Lc1_288 : xm_okb code 8 9 1 false 293 288 kLc1_288 = true := by decide +kernel
def kLc1_299 : List xm_I := [(.istore 0, 6, 0, 0, 0), (.aload 0, 2, 0, 0, 0), (.aload 0, 0, 0, 0, 0), (.iload 0, 5, 0, 0, 0)]
theorem bk_Lc1_299 : xm_okb code 8 9 1 false 305 299 kLc1_299 = true := by decide +kernel
def kLc1_311 : List xm_I := [(.istore 0, 7, 0, 0, 0), (.aload 0, 2, 0, 0, 0)]
theorem bk_Lc1_311 : xm_okb code 8 9 1 false 314 311 kLc1_311 = true := by decide +kernel
def kLc1_317 : List xm_I := [(.iload 0, 6, 0, 0, 0), (.if_icmp .eq 0, 324, 0, 0, 0), (.sipush 0, 0, 0, 0, 0), (.ireturn, 1, 0, 0, 0)]
theorem bk_Lc1_317 : xm_okb code 8 9 1 false 324 317 kLc1_317 = true := by decide +kernel
def kLc1_324 : List xm_I := [(.iload 0, 6, 0, 0, 0), (.ifCond .ne 0, 341, 0, 0, 0), (.aload 0, 3, 0, 0, 0), (.sipush 0, 0, 0, 0, 0)]
theorem bk_Lc1_324 : xm_okb code 8 9 1 false 331 324 kLc1_324 = true := by decide +kernel
def kLc1_341 : List xm_I := [(.goto 0, 2034, 0, 0, 0)]
theorem bk_Lc1_341 : xm_okb code 8 9 1 false 344 341 kLc1_341 = true := by decide +kernel
def kLc1_293 : List xm_I := [(.iadd, 0, 0, 0, 0), (.iaload, 1, 0, 0, 0), (.aload 0, 3, 0, 0, 0)]
theorem bk_Lc1_293 : xm_okb code 8 9 1 false 296 293 kLc1_293 = true := by decide +kernel
def kLc1_305 : List xm_I := [(.sipush 0, 0, 0, 0, 1), (.iadd, 0, 0, 0, 0), (.iaload, 1, 0, 0, 0)]
theorem bk_Lc1_305 : xm_okb code 8 9 1 false 308 305 kLc1_305 = true := by decide +kernel
def kLc1_331 : List xm_I := [(.laload, 0, 0, 0, 0), (.iload 0, 7, 0, 0, 0), (.i2l, 0, 0, 0, 0), (.lcmp, 0, 0, 0, 0)]
theorem bk_Lc1_331 : xm_okb code 8 9 1 false 336 331 kLc1_331 = true := by decide +kernel
def kLc1_336 : List xm_I := [(.ifCond .eq 0, 341, 0, 0, 0), (.sipush 0, 0, 0, 0, 0), (.ireturn, 1, 0, 0, 0)]
theorem bk_Lc1_336 : xm_okb code 8 9 1 false 341 336 kLc1_336 = true := by decide +kernel
def kb_Lc1 : List (Nat × Nat × List xm_I) := [(288, 293, kLc1_288), (299, 305, kLc1_299), (311, 314, kLc1_311), (317, 324, kLc1_317), (324, 331, kLc1_324), (341, 344, kLc1_341), (293, 296, kLc1_293), (305, 308, kLc1_305), (331, 336, kLc1_331), (336, 341, kLc1_336)]
theorem lb_Lc1_288 : xm_lk kb_Lc1 288 = some (293, kLc1_288) := rfl
theorem lb_Lc1_299 : xm_lk kb_Lc1 299 = some (305, kLc1_299) := rfl
theorem lb_Lc1_311 : xm_lk kb_Lc1 311 = some (314, kLc1_311) := rfl
theorem lb_Lc1_317 : xm_lk kb_Lc1 317 = some (324, kLc1_317) := rfl
theorem lb_Lc1_324 : xm_lk kb_Lc1 324 = some (331, kLc1_324) := rfl
theorem lb_Lc1_341 : xm_lk kb_Lc1 341 = some (344, kLc1_341) := rfl
theorem lb_Lc1_293 : xm_lk kb_Lc1 293 = some (296, kLc1_293) := rfl
theorem lb_Lc1_305 : xm_lk kb_Lc1 305 = some (308, kLc1_305) := rfl
theorem lb_Lc1_331 : xm_lk kb_Lc1 331 = some (336, kLc1_331) := rfl
theorem lb_Lc1_336 : xm_lk kb_Lc1 336 = some (341, kLc1_336) := rfl
theorem lb_Lc1_296 : xm_lk kb_Lc1 296 = none := rfl
theorem lb_Lc1_308 : xm_lk kb_Lc1 308 = none := rfl
theorem lb_Lc1_314 : xm_lk kb_Lc1 314 = none := rfl
theorem lb_Lc1_344 : xm_lk kb_Lc1 344 = none := rfl
theorem lb_Lc1_2034 : xm_lk kb_Lc1 2034 = none := rfl
theorem kc_Lc1 : xm_oks code 8 9 1 false kb_Lc1 := (List.forall_mem_cons.mpr ⟨bk_Lc1_288, (List.forall_mem_cons.mpr ⟨bk_Lc1_299, (List.forall_mem_cons.mpr ⟨bk_Lc1_311, (List.forall_mem_cons.mpr ⟨bk_Lc1_317, (List.forall_mem_cons.mpr ⟨bk_Lc1_324, (List.forall_mem_cons.mpr ⟨bk_Lc1_341, (List.forall_mem_cons.mpr ⟨bk_Lc1_293, (List.forall_mem_cons.mpr ⟨bk_Lc1_305, (List.forall_mem_cons.mpr ⟨bk_Lc1_331, (List.forall_mem_cons.mpr ⟨bk_Lc1_336, (fun _ h => absurd h List.not_mem_nil)⟩)⟩)⟩)⟩)⟩)⟩)⟩)⟩)⟩)⟩)
def kLc2_344 : List xm_I := [(.aload 0, 1, 0, 0, 0), (.aload 0, 3, 0, 0, 0)]
theorem bk_Lc2_344 : xm_okb code 8 9 1 false 346 344 kLc2_344 = true := by decide +kernel
def kLc2_349 : List xm_I := [(.istore 0, 6, 0, 0, 0), (.aload 0, 2, 0, 0, 0)]
theorem bk_Lc2_349 : xm_okb code 8 9 1 false 352 349 kLc2_349 = true := by decide +kernel
def kLc2_355 : List xm_I := [(.istore 0, 7, 0, 0, 0), (.aload 0, 2, 0, 0, 0)]
theorem bk_Lc2_355 : xm_okb code 8 9 1 false 358 355 kLc2_355 = true := by decide +kernel
def kLc2_361 : List xm_I := [(.iload 0, 6, 0, 0, 0), (.if_icmp .eq 0, 368, 0, 0, 0), (.sipush 0, 0, 0, 0, 0), (.ireturn, 1, 0, 0, 0)]
theorem bk_Lc2_361 : xm_okb code 8 9 1 false 368 361 kLc2_361 = true := by decide +kernel
def kLc2_368 : List xm_I := [(.iload 0, 6, 0, 0, 0), (.ifCond .ne 0, 385, 0, 0, 0), (.aload 0, 3, 0, 0, 0), (.sipush 0, 0, 0, 0, 0)]
theorem bk_Lc2_368 : xm_okb code 8 9 1 false 375 368 kLc2_368 = true := by decide +kernel
def kLc2_385 : List xm_I := [(.goto 0, 2034, 0, 0, 0)]
theorem bk_Lc2_385 : xm_okb code 8 9 1 false 388 385 kLc2_385 = true := by decide +kernel
def kLc2_375 : List xm_I := [(.laload, 0, 0, 0, 0), (.iload 0, 7, 0, 0, 0), (.i2l, 0, 0, 0, 0), (.lcmp, 0, 0, 0, 0)]
theorem bk_Lc2_375 : xm_okb code 8 9 1 false 380 375 kLc2_375 = true := by decide +kernel
def kLc2_380 : List xm_I := [(.ifCond .eq 0, 385, 0, 0, 0), (.sipush 0, 0, 0, 0, 0), (.ireturn, 1, 0, 0, 0)]
theorem bk_Lc2_380 : xm_okb code 8 9 1 false 385 380 kLc2_380 = true := by decide +kernel
def kb_Lc2 : List (Nat × Nat × List xm_I) := [(344, 346, kLc2_344), (349, 352, kLc2_349), (355, 358, kLc2_355), (361, 368, kLc2_361), (368, 375, kLc2_368), (385, 388, kLc2_385), (375, 380, kLc2_375), (380, 385, kLc2_380)]
theorem lb_Lc2_344 : xm_lk kb_Lc2 344 = some (346, kLc2_344) := rfl
theorem lb_Lc2_349 : xm_lk kb_Lc2 349 = some (352, kLc2_349) := rfl
theorem lb_Lc2_355 : xm_lk kb_Lc2 355 = some (358, kLc2_355) := rfl
theorem lb_Lc2_361 : xm_lk kb_Lc2 361 = some (368, kLc2_361) := rfl
theorem lb_Lc2_368 : xm_lk kb_Lc2 368 = some (375, kLc2_368) := rfl
theorem lb_Lc2_385 : xm_lk kb_Lc2 385 = some (388, kLc2_385) := rfl
theorem lb_Lc2_375 : xm_lk kb_Lc2 375 = some (380, kLc2_375) := rfl
theorem lb_Lc2_380 : xm_lk kb_Lc2 380 = some (385, kLc2_380) := rfl
theorem lb_Lc2_346 : xm_lk kb_Lc2 346 = none := rfl
theorem lb_Lc2_352 : xm_lk kb_Lc2 352 = none := rfl
theorem lb_Lc2_358 : xm_lk kb_Lc2 358 = none := rfl
theorem lb_Lc2_388 : xm_lk kb_Lc2 388 = none := rfl
theorem lb_Lc2_2034 : xm_lk kb_Lc2 2034 = none := rfl
theorem kc_Lc2 : xm_oks code 8 9 1 false kb_Lc2 := (List.forall_mem_cons.mpr ⟨bk_Lc2_344, (List.forall_mem_cons.mpr ⟨bk_Lc2_349, (List.forall_mem_cons.mpr ⟨bk_Lc2_355, (List.forall_mem_cons.mpr ⟨bk_Lc2_361, (List.forall_mem_cons.mpr ⟨bk_Lc2_368, (List.forall_mem_cons.mpr ⟨bk_Lc2_385, (List.forall_mem_cons.mpr ⟨bk_Lc2_375, (List.forall_mem_cons.mpr ⟨bk_Lc2_380, (fun _ h => absurd h List.not_mem_nil)⟩)⟩)⟩)⟩)⟩)⟩)⟩)⟩)
def kLc3_388 : List xm_I := [(.aload 0, 1, 0, 0, 0)]
theorem bk_Lc3_388 : xm_okb code 8 9 1 false 389 388 kLc3_388 = true := by decide +kernel
def kLc3_392 : List xm_I := [(.aload 0, 2, 0, 0, 0)]
theorem bk_Lc3_392 : xm_okb code 8 9 1 false 393 392 kLc3_392 = true := by decide +kernel
def kLc3_396 : List xm_I := [(.if_icmp .eq 0, 2034, 0, 0, 0), (.sipush 0, 0, 0, 0, 0), (.ireturn, 1, 0, 0, 0)]
theorem bk_Lc3_396 : xm_okb code 8 9 1 false 401 396 kLc3_396 = true := by decide +kernel
def kb_Lc3 : List (Nat × Nat × List xm_I) := [(388, 389, kLc3_388), (392, 393, kLc3_392), (396, 401, kLc3_396)]
theorem lb_Lc3_388 : xm_lk kb_Lc3 388 = some (389, kLc3_388) := rfl
theorem lb_Lc3_392 : xm_lk kb_Lc3 392 = some (393, kLc3_392) := rfl
theorem lb_Lc3_396 : xm_lk kb_Lc3 396 = some (401, kLc3_396) := rfl
theorem lb_Lc3_389 : xm_lk kb_Lc3 389 = none := rfl
theorem lb_Lc3_393 : xm_lk kb_Lc3 393 = none := rfl
theorem lb_Lc3_401 : xm_lk kb_Lc3 401 = none := rfl
theorem lb_Lc3_2034 : xm_lk kb_Lc3 2034 = none := rfl
theorem kc_Lc3 : xm_oks code 8 9 1 false kb_Lc3 := (List.forall_mem_cons.mpr ⟨bk_Lc3_388, (List.forall_mem_cons.mpr ⟨bk_Lc3_392, (List.forall_mem_cons.mpr ⟨bk_Lc3_396, (fun _ h => absurd h List.not_mem_nil)⟩)⟩)⟩)
def kLc4_401 : List xm_I := [(.aload 0, 1, 0, 0, 0)]
theorem bk_Lc4_401 : xm_okb code 8 9 1 false 402 401 kLc4_401 = true := by decide +kernel
def kLc4_405 : List xm_I := [(.aload 0, 2, 0, 0, 0)]
theorem bk_Lc4_405 : xm_okb code 8 9 1 false 406 405 kLc4_405 = true := by decide +kernel
def kLc4_409 : List xm_I := [(.if_icmp .eq 0, 2034, 0, 0, 0), (.sipush 0, 0, 0, 0, 0), (.ireturn, 1, 0, 0, 0)]
theorem bk_Lc4_409 : xm_okb code 8 9 1 false 414 409 kLc4_409 = true := by decide +kernel
def kb_Lc4 : List (Nat × Nat × List xm_I) := [(401, 402, kLc4_401), (405, 406, kLc4_405), (409, 414, kLc4_409)]
theorem lb_Lc4_401 : xm_lk kb_Lc4 401 = some (402, kLc4_401) := rfl
theorem lb_Lc4_405 : xm_lk kb_Lc4 405 = some (406, kLc4_405) := rfl
theorem lb_Lc4_409 : xm_lk kb_Lc4 409 = some (414, kLc4_409) := rfl
theorem lb_Lc4_402 : xm_lk kb_Lc4 402 = none := rfl
theorem lb_Lc4_406 : xm_lk kb_Lc4 406 = none := rfl
theorem lb_Lc4_414 : xm_lk kb_Lc4 414 = none := rfl
theorem lb_Lc4_2034 : xm_lk kb_Lc4 2034 = none := rfl
theorem kc_Lc4 : xm_oks code 8 9 1 false kb_Lc4 := (List.forall_mem_cons.mpr ⟨bk_Lc4_401, (List.forall_mem_cons.mpr ⟨bk_Lc4_405, (List.forall_mem_cons.mpr ⟨bk_Lc4_409, (fun _ h => absurd h List.not_mem_nil)⟩)⟩)⟩)
def kLc5_414 : List xm_I := [(.aload 0, 1, 0, 0, 0), (.aload 0, 0, 0, 0, 0), (.iload 0, 5, 0, 0, 0), (.sipush 0, 0, 0, 0, 1)]
theorem bk_Lc5_414 : xm_okb code 8 9 1 false 419 414 kLc5_414 = true := by decide +kernel
def kLc5_425 : List xm_I := [(.istore 0, 6, 0, 0, 0), (.aload 0, 2, 0, 0, 0), (.aload 0, 0, 0, 0, 0), (.iload 0, 5, 0, 0, 0)]
theorem bk_Lc5_425 : xm_okb code 8 9 1 false 431 425 kLc5_425 = true := by decide +kernel
def kLc5_437 : List xm_I := [(.istore 0, 7, 0, 0, 0), (.aload 0, 2, 0, 0, 0)]
theorem bk_Lc5_437 : xm_okb code 8 9 1 false 440 437 kLc5_437 = true := by decide +kernel
def kLc5_443 : List xm_I := [(.iload 0, 6, 0, 0, 0), (.if_icmp .eq 0, 450, 0, 0, 0), (.sipush 0, 0, 0, 0, 0), (.ireturn, 1, 0, 0, 0)]
theorem bk_Lc5_443 : xm_okb code 8 9 1 false 450 443 kLc5_443 = true := by decide +kernel
def kLc5_450 : List xm_I := [(.iload 0, 6, 0, 0, 0), (.ifCond .ne 0, 467, 0, 0, 0), (.aload 0, 3, 0, 0, 0), (.sipush 0, 0, 0, 0, 0)]
theorem bk_Lc5_450 : xm_okb code 8 9 1 false 457 450 kLc5_450 = true := by decide +kernel
def kLc5_467 : List xm_I := [(.goto 0, 2034, 0, 0, 0)]
theorem bk_Lc5_467 : xm_okb code 8 9 1 false 470 467 kLc5_467 = true := by decide +kernel
def kLc5_419 : List xm_I := [(.iadd, 0, 0, 0, 0), (.iaload, 1, 0, 0, 0), (.aload 0, 3, 0, 0, 0)]
theorem bk_Lc5_419 : xm_okb code 8 9 1 false 422 419 kLc5_419 = true := by decide +kernel
def kLc5_431 : List xm_I := [(.sipush 0, 0, 0, 0, 1), (.iadd, 0, 0, 0, 0), (.iaload, 1, 0, 0, 0)]
theorem bk_Lc5_431 : xm_okb code 8 9 1 false 434 431 kLc5_431 = true := by decide +kernel
def kLc5_457 : List xm_I := [(.laload, 0, 0, 0, 0), (.iload 0, 7, 0, 0, 0), (.i2l, 0, 0, 0, 0), (.lcmp, 0, 0, 0, 0)]
theorem bk_Lc5_457 : xm_okb code 8 9 1 false 462 457 kLc5_457 = true := by decide +kernel
def kLc5_462 : List xm_I := [(.ifCond .eq 0, 467, 0, 0, 0), (.sipush 0, 0, 0, 0, 0), (.ireturn, 1, 0, 0, 0)]
theorem bk_Lc5_462 : xm_okb code 8 9 1 false 467 462 kLc5_462 = true := by decide +kernel
def kb_Lc5 : List (Nat × Nat × List xm_I) := [(414, 419, kLc5_414), (425, 431, kLc5_425), (437, 440, kLc5_437), (443, 450, kLc5_443), (450, 457, kLc5_450), (467, 470, kLc5_467), (419, 422, kLc5_419), (431, 434, kLc5_431), (457, 462, kLc5_457), (462, 467, kLc5_462)]
theorem lb_Lc5_414 : xm_lk kb_Lc5 414 = some (419, kLc5_414) := rfl
theorem lb_Lc5_425 : xm_lk kb_Lc5 425 = some (431, kLc5_425) := rfl
theorem lb_Lc5_437 : xm_lk kb_Lc5 437 = some (440, kLc5_437) := rfl
theorem lb_Lc5_443 : xm_lk kb_Lc5 443 = some (450, kLc5_443) := rfl
theorem lb_Lc5_450 : xm_lk kb_Lc5 450 = some (457, kLc5_450) := rfl
theorem lb_Lc5_467 : xm_lk kb_Lc5 467 = some (470, kLc5_467) := rfl
theorem lb_Lc5_419 : xm_lk kb_Lc5 419 = some (422, kLc5_419) := rfl
theorem lb_Lc5_431 : xm_lk kb_Lc5 431 = some (434, kLc5_431) := rfl
theorem lb_Lc5_457 : xm_lk kb_Lc5 457 = some (462, kLc5_457) := rfl
theorem lb_Lc5_462 : xm_lk kb_Lc5 462 = some (467, kLc5_462) := rfl
theorem lb_Lc5_422 : xm_lk kb_Lc5 422 = none := rfl
theorem lb_Lc5_434 : xm_lk kb_Lc5 434 = none := rfl
theorem lb_Lc5_440 : xm_lk kb_Lc5 440 = none := rfl
theorem lb_Lc5_470 : xm_lk kb_Lc5 470 = none := rfl
theorem lb_Lc5_2034 : xm_lk kb_Lc5 2034 = none := rfl
theorem kc_Lc5 : xm_oks code 8 9 1 false kb_Lc5 := (List.forall_mem_cons.mpr ⟨bk_Lc5_414, (List.forall_mem_cons.mpr ⟨bk_Lc5_425, (List.forall_mem_cons.mpr ⟨bk_Lc5_437, (List.forall_mem_cons.mpr ⟨bk_Lc5_443, (List.forall_mem_cons.mpr ⟨bk_Lc5_450, (List.forall_mem_cons.mpr ⟨bk_Lc5_467, (List.forall_mem_cons.mpr ⟨bk_Lc5_419, (List.forall_mem_cons.mpr ⟨bk_Lc5_431, (List.forall_mem_cons.mpr ⟨bk_Lc5_457, (List.forall_mem_cons.mpr ⟨bk_Lc5_462, (fun _ h => absurd h List.not_mem_nil)⟩)⟩)⟩)⟩)⟩)⟩)⟩)⟩)⟩)⟩)
def kLc6_470 : List xm_I := [(.aload 0, 1, 0, 0, 0), (.aload 0, 0, 0, 0, 0), (.iload 0, 5, 0, 0, 0), (.sipush 0, 0, 0, 0, 1)]
theorem bk_Lc6_470 : xm_okb code 8 9 1 false 475 470 kLc6_470 = true := by decide +kernel
def kLc6_487 : List xm_I := [(.istore 0, 6, 0, 0, 0), (.aload 0, 2, 0, 0, 0), (.aload 0, 0, 0, 0, 0), (.iload 0, 5, 0, 0, 0)]
theorem bk_Lc6_487 : xm_okb code 8 9 1 false 493 487 kLc6_487 = true := by decide +kernel
def kLc6_505 : List xm_I := [(.istore 0, 7, 0, 0, 0), (.aload 0, 2, 0, 0, 0)]
theorem bk_Lc6_505 : xm_okb code 8 9 1 false 508 505 kLc6_505 = true := by decide +kernel
def kLc6_511 : List xm_I := [(.iload 0, 6, 0, 0, 0), (.if_icmp .eq 0, 518, 0, 0, 0), (.sipush 0, 0, 0, 0, 0), (.ireturn, 1, 0, 0, 0)]
theorem bk_Lc6_511 : xm_okb code 8 9 1 false 518 511 kLc6_511 = true := by decide +kernel
def kLc6_518 : List xm_I := [(.iload 0, 6, 0, 0, 0), (.ifCond .ne 0, 535, 0, 0, 0), (.aload 0, 3, 0, 0, 0), (.sipush 0, 0, 0, 0, 0)]
theorem bk_Lc6_518 : xm_okb code 8 9 1 false 525 518 kLc6_518 = true := by decide +kernel
def kLc6_535 : List xm_I := [(.goto 0, 2034, 0, 0, 0)]
theorem bk_Lc6_535 : xm_okb code 8 9 1 false 538 535 kLc6_535 = true := by decide +kernel
def kLc6_475 : List xm_I := [(.iadd, 0, 0, 0, 0), (.iaload, 1, 0, 0, 0), (.aload 0, 0, 0, 0, 0), (.iload 0, 5, 0, 0, 0)]
theorem bk_Lc6_475 : xm_okb code 8 9 1 false 480 475 kLc6_475 = true := by decide +kernel
def kLc6_493 : List xm_I := [(.sipush 0, 0, 0, 0, 1), (.iadd, 0, 0, 0, 0), (.iaload, 1, 0, 0, 0), (.aload 0, 0, 0, 0, 0)]
theorem bk_Lc6_493 : xm_okb code 8 9 1 false 497 493 kLc6_493 = true := by decide +kernel
def kLc6_525 : List xm_I := [(.laload, 0, 0, 0, 0), (.iload 0, 7, 0, 0, 0), (.i2l, 0, 0, 0, 0), (.lcmp, 0, 0, 0, 0)]
theorem bk_Lc6_525 : xm_okb code 8 9 1 false 530 525 kLc6_525 = true := by decide +kernel
def kLc6_480 : List xm_I := [(.sipush 0, 0, 0, 0, 2), (.iadd, 0, 0, 0, 0), (.iaload, 1, 0, 0, 0), (.aload 0, 3, 0, 0, 0)]
theorem bk_Lc6_480 : xm_okb code 8 9 1 false 484 480 kLc6_480 = true := by decide +kernel
def kLc6_497 : List xm_I := [(.iload 0, 5, 0, 0, 0), (.sipush 0, 0, 0, 0, 2), (.iadd, 0, 0, 0, 0), (.iaload, 1, 0, 0, 0)]
theorem bk_Lc6_497 : xm_okb code 8 9 1 false 502 497 kLc6_497 = true := by decide +kernel
def kLc6_530 : List xm_I := [(.ifCond .eq 0, 535, 0, 0, 0), (.sipush 0, 0, 0, 0, 0), (.ireturn, 1, 0, 0, 0)]
theorem bk_Lc6_530 : xm_okb code 8 9 1 false 535 530 kLc6_530 = true := by decide +kernel
def kb_Lc6 : List (Nat × Nat × List xm_I) := [(470, 475, kLc6_470), (487, 493, kLc6_487), (505, 508, kLc6_505), (511, 518, kLc6_511), (518, 525, kLc6_518), (535, 538, kLc6_535), (475, 480, kLc6_475), (493, 497, kLc6_493), (525, 530, kLc6_525), (480, 484, kLc6_480), (497, 502, kLc6_497), (530, 535, kLc6_530)]
theorem lb_Lc6_470 : xm_lk kb_Lc6 470 = some (475, kLc6_470) := rfl
theorem lb_Lc6_487 : xm_lk kb_Lc6 487 = some (493, kLc6_487) := rfl
theorem lb_Lc6_505 : xm_lk kb_Lc6 505 = some (508, kLc6_505) := rfl
theorem lb_Lc6_511 : xm_lk kb_Lc6 511 = some (518, kLc6_511) := rfl
theorem lb_Lc6_518 : xm_lk kb_Lc6 518 = some (525, kLc6_518) := rfl
theorem lb_Lc6_535 : xm_lk kb_Lc6 535 = some (538, kLc6_535) := rfl
theorem lb_Lc6_475 : xm_lk kb_Lc6 475 = some (480, kLc6_475) := rfl
theorem lb_Lc6_493 : xm_lk kb_Lc6 493 = some (497, kLc6_493) := rfl
theorem lb_Lc6_525 : xm_lk kb_Lc6 525 = some (530, kLc6_525) := rfl
theorem lb_Lc6_480 : xm_lk kb_Lc6 480 = some (484, kLc6_480) := rfl
theorem lb_Lc6_497 : xm_lk kb_Lc6 497 = some (502, kLc6_497) := rfl
theorem lb_Lc6_530 : xm_lk kb_Lc6 530 = some (535, kLc6_530) := rfl
theorem lb_Lc6_484 : xm_lk kb_Lc6 484 = none := rfl
theorem lb_Lc6_502 : xm_lk kb_Lc6 502 = none := rfl
theorem lb_Lc6_508 : xm_lk kb_Lc6 508 = none := rfl
theorem lb_Lc6_538 : xm_lk kb_Lc6 538 = none := rfl
theorem lb_Lc6_2034 : xm_lk kb_Lc6 2034 = none := rfl
theorem kc_Lc6 : xm_oks code 8 9 1 false kb_Lc6 := (List.forall_mem_cons.mpr ⟨bk_Lc6_470, (List.forall_mem_cons.mpr ⟨bk_Lc6_487, (List.forall_mem_cons.mpr ⟨bk_Lc6_505, (List.forall_mem_cons.mpr ⟨bk_Lc6_511, (List.forall_mem_cons.mpr ⟨bk_Lc6_518, (List.forall_mem_cons.mpr ⟨bk_Lc6_535, (List.forall_mem_cons.mpr ⟨bk_Lc6_475, (List.forall_mem_cons.mpr ⟨bk_Lc6_493, (List.forall_mem_cons.mpr ⟨bk_Lc6_525, (List.forall_mem_cons.mpr ⟨bk_Lc6_480, (List.forall_mem_cons.mpr ⟨bk_Lc6_497, (List.forall_mem_cons.mpr ⟨bk_Lc6_530, (fun _ h => absurd h List.not_mem_nil)⟩)⟩)⟩)⟩)⟩)⟩)⟩)⟩)⟩)⟩)⟩)⟩)
def kLc7_538 : List xm_I := [(.aload 0, 1, 0, 0, 0), (.aload 0, 0, 0, 0, 0), (.iload 0, 5, 0, 0, 0), (.sipush 0, 0, 0, 0, 1)]
theorem bk_Lc7_538 : xm_okb code 8 9 1 false 543 538 kLc7_538 = true := by decide +kernel
def kLc7_555 : List xm_I := [(.istore 0, 6, 0, 0, 0), (.aload 0, 2, 0, 0, 0), (.aload 0, 0, 0, 0, 0), (.iload 0, 5, 0, 0, 0)]
theorem bk_Lc7_555 : xm_okb code 8 9 1 false 561 555 kLc7_555 = true := by decide +kernel
def kLc7_573 : List xm_I := [(.istore 0, 7, 0, 0, 0), (.aload 0, 2, 0, 0, 0)]
theorem bk_Lc7_573 : xm_okb code 8 9 1 false 576 573 kLc7_573 = true := by decide +kernel
def kLc7_579 : List xm_I := [(.iload 0, 6, 0, 0, 0), (.if_icmp .eq 0, 586, 0, 0, 0), (.sipush 0, 0, 0, 0, 0), (.ireturn, 1, 0, 0, 0)]
theorem bk_Lc7_579 : xm_okb code 8 9 1 false 586 579 kLc7_579 = true := by decide +kernel
def kLc7_586 : List xm_I := [(.iload 0, 6, 0, 0, 0), (.ifCond .ne 0, 603, 0, 0, 0), (.aload 0, 3, 0, 0, 0), (.sipush 0, 0, 0, 0, 0)]
theorem bk_Lc7_586 : xm_okb code 8 9 1 false 593 586 kLc7_586 = true := by decide +kernel
def kLc7_603 : List xm_I := [(.goto 0, 2034, 0, 0, 0)]
theorem bk_Lc7_603 : xm_okb code 8 9 1 false 606 603 kLc7_603 = true := by decide +kernel
def kLc7_543 : List xm_I := [(.iadd, 0, 0, 0, 0), (.iaload, 1, 0, 0, 0), (.aload 0, 0, 0, 0, 0), (.iload 0, 5, 0, 0, 0)]
theorem bk_Lc7_543 : xm_okb code 8 9 1 false 548 543 kLc7_543 = true := by decide +kernel
def kLc7_561 : List xm_I := [(.sipush 0, 0, 0, 0, 1), (.iadd, 0, 0, 0, 0), (.iaload, 1, 0, 0, 0), (.aload 0, 0, 0, 0, 0)]
theorem bk_Lc7_561 : xm_okb code 8 9 1 false 565 561 kLc7_561 = true := by decide +kernel
def kLc7_593 : List xm_I := [(.laload, 0, 0, 0, 0), (.iload 0, 7, 0, 0, 0), (.i2l, 0, 0, 0, 0), (.lcmp, 0, 0, 0, 0)]
theorem bk_Lc7_593 : xm_okb code 8 9 1 false 598 593 kLc7_593 = true := by decide +kernel
def kLc7_548 : List xm_I := [(.sipush 0, 0, 0, 0, 2), (.iadd, 0, 0, 0, 0), (.iaload, 1, 0, 0, 0), (.aload 0, 3, 0, 0, 0)]
theorem bk_Lc7_548 : xm_okb code 8 9 1 false 552 548 kLc7_548 = true := by decide +kernel
def kLc7_565 : List xm_I := [(.iload 0, 5, 0, 0, 0), (.sipush 0, 0, 0, 0, 2), (.iadd, 0, 0, 0, 0), (.iaload, 1, 0, 0, 0)]
theorem bk_Lc7_565 : xm_okb code 8 9 1 false 570 565 kLc7_565 = true := by decide +kernel
def kLc7_598 : List xm_I := [(.ifCond .eq 0, 603, 0, 0, 0), (.sipush 0, 0, 0, 0, 0), (.ireturn, 1, 0, 0, 0)]
theorem bk_Lc7_598 : xm_okb code 8 9 1 false 603 598 kLc7_598 = true := by decide +kernel
def kb_Lc7 : List (Nat × Nat × List xm_I) := [(538, 543, kLc7_538), (555, 561, kLc7_555), (573, 576, kLc7_573), (579, 586, kLc7_579), (586, 593, kLc7_586), (603, 606, kLc7_603), (543, 548, kLc7_543), (561, 565, kLc7_561), (593, 598, kLc7_593), (548, 552, kLc7_548), (565, 570, kLc7_565), (598, 603, kLc7_598)]
theorem lb_Lc7_538 : xm_lk kb_Lc7 538 = some (543, kLc7_538) := rfl
theorem lb_Lc7_555 : xm_lk kb_Lc7 555 = some (561, kLc7_555) := rfl
theorem lb_Lc7_573 : xm_lk kb_Lc7 573 = some (576, kLc7_573) := rfl
theorem lb_Lc7_579 : xm_lk kb_Lc7 579 = some (586, kLc7_579) := rfl
theorem lb_Lc7_586 : xm_lk kb_Lc7 586 = some (593, kLc7_586) := rfl
theorem lb_Lc7_603 : xm_lk kb_Lc7 603 = some (606, kLc7_603) := rfl
theorem lb_Lc7_543 : xm_lk kb_Lc7 543 = some (548, kLc7_543) := rfl
theorem lb_Lc7_561 : xm_lk kb_Lc7 561 = some (565, kLc7_561) := rfl
theorem lb_Lc7_593 : xm_lk kb_Lc7 593 = some (598, kLc7_593) := rfl
theorem lb_Lc7_548 : xm_lk kb_Lc7 548 = some (552, kLc7_548) := rfl
theorem lb_Lc7_565 : xm_lk kb_Lc7 565 = some (570, kLc7_565) := rfl
theorem lb_Lc7_598 : xm_lk kb_Lc7 598 = some (603, kLc7_598) := rfl
theorem lb_Lc7_552 : xm_lk kb_Lc7 552 = none := rfl
theorem lb_Lc7_570 : xm_lk kb_Lc7 570 = none := rfl
theorem lb_Lc7_576 : xm_lk kb_Lc7 576 = none := rfl
theorem lb_Lc7_606 : xm_lk kb_Lc7 606 = none := rfl
theorem lb_Lc7_2034 : xm_lk kb_Lc7 2034 = none := rfl
theorem kc_Lc7 : xm_oks code 8 9 1 false kb_Lc7 := (List.forall_mem_cons.mpr ⟨bk_Lc7_538, (List.forall_mem_cons.mpr ⟨bk_Lc7_555, (List.forall_mem_cons.mpr ⟨bk_Lc7_573, (List.forall_mem_cons.mpr ⟨bk_Lc7_579, (List.forall_mem_cons.mpr ⟨bk_Lc7_586, (List.forall_mem_cons.mpr ⟨bk_Lc7_603, (List.forall_mem_cons.mpr ⟨bk_Lc7_543, (List.forall_mem_cons.mpr ⟨bk_Lc7_561, (List.forall_mem_cons.mpr ⟨bk_Lc7_593, (List.forall_mem_cons.mpr ⟨bk_Lc7_548, (List.forall_mem_cons.mpr ⟨bk_Lc7_565, (List.forall_mem_cons.mpr ⟨bk_Lc7_598, (fun _ h => absurd h List.not_mem_nil)⟩)⟩)⟩)⟩)⟩)⟩)⟩)⟩)⟩)⟩)⟩)⟩)
def kLc8_606 : List xm_I := [(.aload 0, 1, 0, 0, 0), (.aload 0, 0, 0, 0, 0), (.iload 0, 5, 0, 0, 0), (.sipush 0, 0, 0, 0, 1)]
theorem bk_Lc8_606 : xm_okb code 8 9 1 false 611 606 kLc8_606 = true := by decide +kernel
def kLc8_617 : List xm_I := [(.istore 0, 6, 0, 0, 0), (.aload 0, 2, 0, 0, 0), (.aload 0, 0, 0, 0, 0), (.iload 0, 5, 0, 0, 0)]
theorem bk_Lc8_617 : xm_okb code 8 9 1 false 623 617 kLc8_617 = true := by decide +kernel
def kLc8_629 : List xm_I := [(.istore 0, 7, 0, 0, 0), (.aload 0, 2, 0, 0, 0)]
theorem bk_Lc8_629 : xm_okb code 8 9 1 false 632 629 kLc8_629 = true := by decide +kernel
def kLc8_635 : List xm_I := [(.iload 0, 6, 0, 0, 0), (.if_icmp .eq 0, 642, 0, 0, 0), (.sipush 0, 0, 0, 0, 0), (.ireturn, 1, 0, 0, 0)]
theorem bk_Lc8_635 : xm_okb code 8 9 1 false 642 635 kLc8_635 = true := by decide +kernel
def kLc8_642 : List xm_I := [(.iload 0, 6, 0, 0, 0), (.ifCond .ne 0, 659, 0, 0, 0), (.aload 0, 3, 0, 0, 0), (.sipush 0, 0, 0, 0, 0)]
theorem bk_Lc8_642 : xm_okb code 8 9 1 false 649 642 kLc8_642 = true := by decide +kernel
def kLc8_659 : List xm_I := [(.goto 0, 2034, 0, 0, 0)]
theorem bk_Lc8_659 : xm_okb code 8 9 1 false 662 659 kLc8_659 = true := by decide +kernel
def kLc8_611 : List xm_I := [(.iadd, 0, 0, 0, 0), (.iaload, 1, 0, 0, 0), (.aload 0, 3, 0, 0, 0)]
theorem bk_Lc8_611 : xm_okb code 8 9 1 false 614 611 kLc8_611 = true := by decide +kernel
def kLc8_623 : List xm_I := [(.sipush 0, 0, 0, 0, 1), (.iadd, 0, 0, 0, 0), (.iaload, 1, 0, 0, 0)]
theorem bk_Lc8_623 : xm_okb code 8 9 1 false 626 623 kLc8_623 = true := by decide +kernel
def kLc8_649 : List xm_I := [(.laload, 0, 0, 0, 0), (.iload 0, 7, 0, 0, 0), (.i2l, 0, 0, 0, 0), (.lcmp, 0, 0, 0, 0)]
theorem bk_Lc8_649 : xm_okb code 8 9 1 false 654 649 kLc8_649 = true := by decide +kernel
def kLc8_654 : List xm_I := [(.ifCond .eq 0, 659, 0, 0, 0), (.sipush 0, 0, 0, 0, 0), (.ireturn, 1, 0, 0, 0)]
theorem bk_Lc8_654 : xm_okb code 8 9 1 false 659 654 kLc8_654 = true := by decide +kernel
def kb_Lc8 : List (Nat × Nat × List xm_I) := [(606, 611, kLc8_606), (617, 623, kLc8_617), (629, 632, kLc8_629), (635, 642, kLc8_635), (642, 649, kLc8_642), (659, 662, kLc8_659), (611, 614, kLc8_611), (623, 626, kLc8_623), (649, 654, kLc8_649), (654, 659, kLc8_654)]
theorem lb_Lc8_606 : xm_lk kb_Lc8 606 = some (611, kLc8_606) := rfl
theorem lb_Lc8_617 : xm_lk kb_Lc8 617 = some (623, kLc8_617) := rfl
theorem lb_Lc8_629 : xm_lk kb_Lc8 629 = some (632, kLc8_629) := rfl
theorem lb_Lc8_635 : xm_lk kb_Lc8 635 = some (642, kLc8_635) := rfl
theorem lb_Lc8_642 : xm_lk kb_Lc8 642 = some (649, kLc8_642) := rfl
theorem lb_Lc8_659 : xm_lk kb_Lc8 659 = some (662, kLc8_659) := rfl
theorem lb_Lc8_611 : xm_lk kb_Lc8 611 = some (614, kLc8_611) := rfl
theorem lb_Lc8_623 : xm_lk kb_Lc8 623 = some (626, kLc8_623) := rfl
theorem lb_Lc8_649 : xm_lk kb_Lc8 649 = some (654, kLc8_649) := rfl
theorem lb_Lc8_654 : xm_lk kb_Lc8 654 = some (659, kLc8_654) := rfl
theorem lb_Lc8_614 : xm_lk kb_Lc8 614 = none := rfl
theorem lb_Lc8_626 : xm_lk kb_Lc8 626 = none := rfl
theorem lb_Lc8_632 : xm_lk kb_Lc8 632 = none := rfl
theorem lb_Lc8_662 : xm_lk kb_Lc8 662 = none := rfl
theorem lb_Lc8_2034 : xm_lk kb_Lc8 2034 = none := rfl
theorem kc_Lc8 : xm_oks code 8 9 1 false kb_Lc8 := (List.forall_mem_cons.mpr ⟨bk_Lc8_606, (List.forall_mem_cons.mpr ⟨bk_Lc8_617, (List.forall_mem_cons.mpr ⟨bk_Lc8_629, (List.forall_mem_cons.mpr ⟨bk_Lc8_635, (List.forall_mem_cons.mpr ⟨bk_Lc8_642, (List.forall_mem_cons.mpr ⟨bk_Lc8_659, (List.forall_mem_cons.mpr ⟨bk_Lc8_611, (List.forall_mem_cons.mpr ⟨bk_Lc8_623, (List.forall_mem_cons.mpr ⟨bk_Lc8_649, (List.forall_mem_cons.mpr ⟨bk_Lc8_654, (fun _ h => absurd h List.not_mem_nil)⟩)⟩)⟩)⟩)⟩)⟩)⟩)⟩)⟩)⟩)
def kLc9_662 : List xm_I := [(.aload 0, 1, 0, 0, 0), (.aload 0, 0, 0, 0, 0), (.iload 0, 5, 0, 0, 0), (.sipush 0, 0, 0, 0, 1)]
theorem bk_Lc9_662 : xm_okb code 8 9 1 false 667 662 kLc9_662 = true := by decide +kernel
def kLc9_682 : List xm_I := [(.sipush 0, 0, 0, 0, 0)]
theorem bk_Lc9_682 : xm_okb code 8 9 1 false 683 682 kLc9_682 = true := by decide +kernel
def kLc9_683 : List xm_I := [(.aload 0, 3, 0, 0, 0)]
theorem bk_Lc9_683 : xm_okb code 8 9 1 false 684 683 kLc9_683 = true := by decide +kernel
def kLc9_687 : List xm_I := [(.istore 0, 6, 0, 0, 0), (.aload 0, 2, 0, 0, 0), (.aload 0, 0, 0, 0, 0), (.iload 0, 5, 0, 0, 0)]
theorem bk_Lc9_687 : xm_okb code 8 9 1 false 693 687 kLc9_687 = true := by decide +kernel
def kLc9_709 : List xm_I := [(.sipush 0, 0, 0, 0, 0)]
theorem bk_Lc9_709 : xm_okb code 8 9 1 false 710 709 kLc9_709 = true := by decide +kernel
def kLc9_713 : List xm_I := [(.istore 0, 7, 0, 0, 0), (.aload 0, 2, 0, 0, 0)]
theorem bk_Lc9_713 : xm_okb code 8 9 1 false 716 713 kLc9_713 = true := by decide +kernel
def kLc9_719 : List xm_I := [(.iload 0, 6, 0, 0, 0), (.if_icmp .eq 0, 726, 0, 0, 0), (.sipush 0, 0, 0, 0, 0), (.ireturn, 1, 0, 0, 0)]
theorem bk_Lc9_719 : xm_okb code 8 9 1 false 726 719 kLc9_719 = true := by decide +kernel
def kLc9_726 : List xm_I := [(.iload 0, 6, 0, 0, 0), (.ifCond .ne 0, 750, 0, 0, 0), (.aload 0, 3, 0, 0, 0), (.sipush 0, 0, 0, 0, 0)]
theorem bk_Lc9_726 : xm_okb code 8 9 1 false 733 726 kLc9_726 = true := by decide +kernel
def kLc9_743 : List xm_I := [(.lconst 0, 0, 0, 0, 0)]
theorem bk_Lc9_743 : xm_okb code 8 9 1 false 744 743 kLc9_743 = true := by decide +kernel
def kLc9_744 : List xm_I := [(.lcmp, 0, 0, 0, 0), (.ifCond .eq 0, 750, 0, 0, 0), (.sipush 0, 0, 0, 0, 0), (.ireturn, 1, 0, 0, 0)]
theorem bk_Lc9_744 : xm_okb code 8 9 1 false 750 744 kLc9_744 = true := by decide +kernel
def kLc9_750 : List xm_I := [(.goto 0, 2034, 0, 0, 0)]
theorem bk_Lc9_750 : xm_okb code 8 9 1 false 753 750 kLc9_750 = true := by decide +kernel
def kLc9_667 : List xm_I := [(.iadd, 0, 0, 0, 0), (.iaload, 1, 0, 0, 0), (.aload 0, 0, 0, 0, 0), (.iload 0, 5, 0, 0, 0)]
theorem bk_Lc9_667 : xm_okb code 8 9 1 false 672 667 kLc9_667 = true := by decide +kernel
def kLc9_693 : List xm_I := [(.sipush 0, 0, 0, 0, 1), (.iadd, 0, 0, 0, 0), (.iaload, 1, 0, 0, 0), (.aload 0, 0, 0, 0, 0)]
theorem bk_Lc9_693 : xm_okb code 8 9 1 false 697 693 kLc9_693 = true := by decide +kernel
def kLc9_733 : List xm_I := [(.laload, 0, 0, 0, 0), (.iload 0, 7, 0, 0, 0), (.ifCond .eq 0, 743, 0, 0, 0), (.lconst 0, 1, 0, 0, 0)]
theorem bk_Lc9_733 : xm_okb code 8 9 1 false 740 733 kLc9_733 = true := by decide +kernel
def kLc9_672 : List xm_I := [(.sipush 0, 0, 0, 0, 2), (.iadd, 0, 0, 0, 0), (.iaload, 1, 0, 0, 0), (.ifCond .eq 0, 682, 0, 0, 0)]
theorem bk_Lc9_672 : xm_okb code 8 9 1 false 678 672 kLc9_672 = true := by decide +kernel
def kLc9_697 : List xm_I := [(.iload 0, 5, 0, 0, 0), (.sipush 0, 0, 0, 0, 2), (.iadd, 0, 0, 0, 0), (.iaload, 1, 0, 0, 0)]
theorem bk_Lc9_697 : xm_okb code 8 9 1 false 702 697 kLc9_697 = true := by decide +kernel
def kLc9_740 : List xm_I := [(.goto 0, 744, 0, 0, 0)]
theorem bk_Lc9_740 : xm_okb code 8 9 1 false 743 740 kLc9_740 = true := by decide +kernel
def kLc9_678 : List xm_I := [(.sipush 0, 0, 0, 0, 1), (.goto 0, 683, 0, 0, 0)]
theorem bk_Lc9_678 : xm_okb code 8 9 1 false 682 678 kLc9_678 = true := by decide +kernel
def kLc9_702 : List xm_I := [(.ifCond .eq 0, 709, 0, 0, 0), (.sipush 0, 0, 0, 0, 1), (.goto 0, 710, 0, 0, 0)]
theorem bk_Lc9_702 : xm_okb code 8 9 1 false 709 702 kLc9_702 = true := by decide +kernel
def kb_Lc9 : List (Nat × Nat × List xm_I) := [(662, 667, kLc9_662), (682, 683, kLc9_682), (683, 684, kLc9_683), (687, 693, kLc9_687), (709, 710, kLc9_709), (713, 716, kLc9_713), (719, 726, kLc9_719), (726, 733, kLc9_726), (743, 744, kLc9_743), (744, 750, kLc9_744), (750, 753, kLc9_750), (667, 672, kLc9_667), (693, 697, kLc9_693), (733, 740, kLc9_733), (672, 678, kLc9_672), (697, 702, kLc9_697), (740, 743, kLc9_740), (678, 682, kLc9_678), (702, 709, kLc9_702)]
theorem lb_Lc9_662 : xm_lk kb_Lc9 662 = some (667, kLc9_662) := rfl
theorem lb_Lc9_682 : xm_lk kb_Lc9 682 = some (683, kLc9_682) := rfl
theorem lb_Lc9_683 : xm_lk kb_Lc9 683 = some (684, kLc9_683) := rfl
theorem lb_Lc9_687 : xm_lk kb_Lc9 687 = some (693, kLc9_687) := rfl
theorem lb_Lc9_709 : xm_lk kb_Lc9 709 = some (710, kLc9_709) := rfl
theorem lb_Lc9_713 : xm_lk kb_Lc9 713 = some (716, kLc9_713) := rfl
theorem lb_Lc9_719 : xm_lk kb_Lc9 719 = some (726, kLc9_719) := rfl
theorem lb_Lc9_726 : xm_lk kb_Lc9 726 = some (733, kLc9_726) := rfl
theorem lb_Lc9_743 : xm_lk kb_Lc9 743 = some (744, kLc9_743) := rfl
theorem lb_Lc9_744 : xm_lk kb_Lc9 744 = some (750, kLc9_744) := rfl
theorem lb_Lc9_750 : xm_lk kb_Lc9 750 = some (753, kLc9_750) := rfl
theorem lb_Lc9_667 : xm_lk kb_Lc9 667 = some (672, kLc9_667) := rfl
theorem lb_Lc9_693 : xm_lk kb_Lc9 693 = some (697, kLc9_693) := rfl
theorem lb_Lc9_733 : xm_lk kb_Lc9 733 = some (740, kLc9_733) := rfl
theorem lb_Lc9_672 : xm_lk kb_Lc9 672 = some (678, kLc9_672) := rfl
theorem lb_Lc9_697 : xm_lk kb_Lc9 697 = some (702, kLc9_697) := rfl
theorem lb_Lc9_740 : xm_lk kb_Lc9 740 = some (743, kLc9_740) := rfl
theorem lb_Lc9_678 : xm_lk kb_Lc9 678 = some (682, kLc9_678) := rfl
theorem lb_Lc9_702 : xm_lk kb_Lc9 702 = some (709, kLc9_702) := rfl
theorem lb_Lc9_684 : xm_lk kb_Lc9 684 = none := rfl
theorem lb_Lc9_710 : xm_lk kb_Lc9 710 = none := rfl
theorem lb_Lc9_716 : xm_lk kb_Lc9 716 = none := rfl
theorem lb_Lc9_753 : xm_lk kb_Lc9 753 = none := rfl
theorem lb_Lc9_2034 : xm_lk kb_Lc9 2034 = none := rfl
theorem kc_Lc9 : xm_oks code 8 9 1 false kb_Lc9 := (List.forall_mem_cons.mpr ⟨bk_Lc9_662, (List.forall_mem_cons.mpr ⟨bk_Lc9_682, (List.forall_mem_cons.mpr ⟨bk_Lc9_683, (List.forall_mem_cons.mpr ⟨bk_Lc9_687, (List.forall_mem_cons.mpr ⟨bk_Lc9_709, (List.forall_mem_cons.mpr ⟨bk_Lc9_713, (List.forall_mem_cons.mpr ⟨bk_Lc9_719, (List.forall_mem_cons.mpr ⟨bk_Lc9_726, (List.forall_mem_cons.mpr ⟨bk_Lc9_743, (List.forall_mem_cons.mpr ⟨bk_Lc9_744, (List.forall_mem_cons.mpr ⟨bk_Lc9_750, (List.forall_mem_cons.mpr ⟨bk_Lc9_667, (List.forall_mem_cons.mpr ⟨bk_Lc9_693, (List.forall_mem_cons.mpr ⟨bk_Lc9_733, (List.forall_mem_cons.mpr ⟨bk_Lc9_672, (List.forall_mem_cons.mpr ⟨bk_Lc9_697, (List.forall_mem_cons.mpr ⟨bk_Lc9_740, (List.forall_mem_cons.mpr ⟨bk_Lc9_678, (List.forall_mem_cons.mpr ⟨bk_Lc9_702, (fun _ h => absurd h List.not_mem_nil)⟩)⟩)⟩)⟩)⟩)⟩)⟩)⟩)⟩)⟩)⟩)⟩)⟩)⟩)⟩)⟩)⟩)⟩)⟩)
def kLc10_753 : List xm_I := [(.aload 0, 1, 0, 0, 0), (.aload 0, 0, 0, 0, 0), (.iload 0, 5, 0, 0, 0), (.sipush 0, 0, 0, 0, 1)]
theorem bk_Lc10_753 : xm_okb code 8 9 1 false 758 753 kLc10_753 = true := by decide +kernel
def kLc10_773 : List xm_I := [(.sipush 0, 0, 0, 0, 0)]
theorem bk_Lc10_773 : xm_okb code 8 9 1 false 774 773 kLc10_773 = true := by decide +kernel
def kLc10_774 : List xm_I := [(.aload 0, 3, 0, 0, 0)]
theorem bk_Lc10_774 : xm_okb code 8 9 1 false 775 774 kLc10_774 = true := by decide +kernel
def kLc10_778 : List xm_I := [(.istore 0, 6, 0, 0, 0), (.aload 0, 2, 0, 0, 0), (.aload 0, 0, 0, 0, 0), (.iload 0, 5, 0, 0, 0)]
theorem bk_Lc10_778 : xm_okb code 8 9 1 false 784 778 kLc10_778 = true := by decide +kernel
def kLc10_800 : List xm_I := [(.sipush 0, 0, 0, 0, 0)]
theorem bk_Lc10_800 : xm_okb code 8 9 1 false 801 800 kLc10_800 = true := by decide +kernel
def kLc10_804 : List xm_I := [(.istore 0, 7, 0, 0, 0), (.aload 0, 2, 0, 0, 0)]
theorem bk_Lc10_804 : xm_okb code 8 9 1 false 807 804 kLc10_804 = true := by decide +kernel
def kLc10_810 : List xm_I := [(.iload 0, 6, 0, 0, 0), (.if_icmp .eq 0, 817, 0, 0, 0), (.sipush 0, 0, 0, 0, 0), (.ireturn, 1, 0, 0, 0)]
theorem bk_Lc10_810 : xm_okb code 8 9 1 false 817 810 kLc10_810 = true := by decide +kernel
def kLc10_817 : List xm_I := [(.iload 0, 6, 0, 0, 0), (.ifCond .ne 0, 841, 0, 0, 0), (.aload 0, 3, 0, 0, 0), (.sipush 0, 0, 0, 0, 0)]
theorem bk_Lc10_817 : xm_okb code 8 9 1 false 824 817 kLc10_817 = true := by decide +kernel
def kLc10_834 : List xm_I := [(.lconst 0, 0, 0, 0, 0)]
theorem bk_Lc10_834 : xm_okb code 8 9 1 false 835 834 kLc10_834 = true := by decide +kernel
def kLc10_835 : List xm_I := [(.lcmp, 0, 0, 0, 0), (.ifCond .eq 0, 841, 0, 0, 0), (.sipush 0, 0, 0, 0, 0), (.ireturn, 1, 0, 0, 0)]
theorem bk_Lc10_835 : xm_okb code 8 9 1 false 841 835 kLc10_835 = true := by decide +kernel
def kLc10_841 : List xm_I := [(.goto 0, 2034, 0, 0, 0)]
theorem bk_Lc10_841 : xm_okb code 8 9 1 false 844 841 kLc10_841 = true := by decide +kernel
def kLc10_758 : List xm_I := [(.iadd, 0, 0, 0, 0), (.iaload, 1, 0, 0, 0), (.aload 0, 0, 0, 0, 0), (.iload 0, 5, 0, 0, 0)]
theorem bk_Lc10_758 : xm_okb code 8 9 1 false 763 758 kLc10_758 = true := by decide +kernel
def kLc10_784 : List xm_I := [(.sipush 0, 0, 0, 0, 1), (.iadd, 0, 0, 0, 0), (.iaload, 1, 0, 0, 0), (.aload 0, 0, 0, 0, 0)]
theorem bk_Lc10_784 : xm_okb code 8 9 1 false 788 784 kLc10_784 = true := by decide +kernel
def kLc10_824 : List xm_I := [(.laload, 0, 0, 0, 0), (.iload 0, 7, 0, 0, 0), (.ifCond .eq 0, 834, 0, 0, 0), (.lconst 0, 1, 0, 0, 0)]
theorem bk_Lc10_824 : xm_okb code 8 9 1 false 831 824 kLc10_824 = true := by decide +kernel
def kLc10_763 : List xm_I := [(.sipush 0, 0, 0, 0, 2), (.iadd, 0, 0, 0, 0), (.iaload, 1, 0, 0, 0), (.ifCond .eq 0, 773, 0, 0, 0)]
theorem bk_Lc10_763 : xm_okb code 8 9 1 false 769 763 kLc10_763 = true := by decide +kernel
def kLc10_788 : List xm_I := [(.iload 0, 5, 0, 0, 0), (.sipush 0, 0, 0, 0, 2), (.iadd, 0, 0, 0, 0), (.iaload, 1, 0, 0, 0)]
theorem bk_Lc10_788 : xm_okb code 8 9 1 false 793 788 kLc10_788 = true := by decide +kernel
def kLc10_831 : List xm_I := [(.goto 0, 835, 0, 0, 0)]
theorem bk_Lc10_831 : xm_okb code 8 9 1 false 834 831 kLc10_831 = true := by decide +kernel
def kLc10_769 : List xm_I := [(.sipush 0, 0, 0, 0, 1), (.goto 0, 774, 0, 0, 0)]
theorem bk_Lc10_769 : xm_okb code 8 9 1 false 773 769 kLc10_769 = true := by decide +kernel
def kLc10_793 : List xm_I := [(.ifCond .eq 0, 800, 0, 0, 0), (.sipush 0, 0, 0, 0, 1), (.goto 0, 801, 0, 0, 0)]
theorem bk_Lc10_793 : xm_okb code 8 9 1 false 800 793 kLc10_793 = true := by decide +kernel
def kb_Lc10 : List (Nat × Nat × List xm_I) := [(753, 758, kLc10_753), (773, 774, kLc10_773), (774, 775, kLc10_774), (778, 784, kLc10_778), (800, 801, kLc10_800), (804, 807, kLc10_804), (810, 817, kLc10_810), (817, 824, kLc10_817), (834, 835, kLc10_834), (835, 841, kLc10_835), (841, 844, kLc10_841), (758, 763, kLc10_758), (784, 788, kLc10_784), (824, 831, kLc10_824), (763, 769, kLc10_763), (788, 793, kLc10_788), (831, 834, kLc10_831), (769, 773, kLc10_769), (793, 800, kLc10_793)]
theorem lb_Lc10_753 : xm_lk kb_Lc10 753 = some (758, kLc10_753) := rfl
theorem lb_Lc10_773 : xm_lk kb_Lc10 773 = some (774, kLc10_773) := rfl
theorem lb_Lc10_774 : xm_lk kb_Lc10 774 = some (775, kLc10_774) := rfl
theorem lb_Lc10_778 : xm_lk kb_Lc10 778 = some (784, kLc10_778) := rfl
theorem lb_Lc10_800 : xm_lk kb_Lc10 800 = some (801, kLc10_800) := rfl
theorem lb_Lc10_804 : xm_lk kb_Lc10 804 = some (807, kLc10_804) := rfl
theorem lb_Lc10_810 : xm_lk kb_Lc10 810 = some (817, kLc10_810) := rfl
theorem lb_Lc10_817 : xm_lk kb_Lc10 817 = some (824, kLc10_817) := rfl
theorem lb_Lc10_834 : xm_lk kb_Lc10 834 = some (835, kLc10_834) := rfl
theorem lb_Lc10_835 : xm_lk kb_Lc10 835 = some (841, kLc10_835) := rfl
theorem lb_Lc10_841 : xm_lk kb_Lc10 841 = some (844, kLc10_841) := rfl
theorem lb_Lc10_758 : xm_lk kb_Lc10 758 = some (763, kLc10_758) := rfl
theorem lb_Lc10_784 : xm_lk kb_Lc10 784 = some (788, kLc10_784) := rfl
theorem lb_Lc10_824 : xm_lk kb_Lc10 824 = some (831, kLc10_824) := rfl
theorem lb_Lc10_763 : xm_lk kb_Lc10 763 = some (769, kLc10_763) := rfl
theorem lb_Lc10_788 : xm_lk kb_Lc10 788 = some (793, kLc10_788) := rfl
theorem lb_Lc10_831 : xm_lk kb_Lc10 831 = some (834, kLc10_831) := rfl
theorem lb_Lc10_769 : xm_lk kb_Lc10 769 = some (773, kLc10_769) := rfl
theorem lb_Lc10_793 : xm_lk kb_Lc10 793 = some (800, kLc10_793) := rfl
theorem lb_Lc10_775 : xm_lk kb_Lc10 775 = none := rfl
theorem lb_Lc10_801 : xm_lk kb_Lc10 801 = none := rfl
theorem lb_Lc10_807 : xm_lk kb_Lc10 807 = none := rfl
theorem lb_Lc10_844 : xm_lk kb_Lc10 844 = none := rfl
theorem lb_Lc10_2034 : xm_lk kb_Lc10 2034 = none := rfl
theorem kc_Lc10 : xm_oks code 8 9 1 false kb_Lc10 := (List.forall_mem_cons.mpr ⟨bk_Lc10_753, (List.forall_mem_cons.mpr ⟨bk_Lc10_773, (List.forall_mem_cons.mpr ⟨bk_Lc10_774, (List.forall_mem_cons.mpr ⟨bk_Lc10_778, (List.forall_mem_cons.mpr ⟨bk_Lc10_800, (List.forall_mem_cons.mpr ⟨bk_Lc10_804, (List.forall_mem_cons.mpr ⟨bk_Lc10_810, (List.forall_mem_cons.mpr ⟨bk_Lc10_817, (List.forall_mem_cons.mpr ⟨bk_Lc10_834, (List.forall_mem_cons.mpr ⟨bk_Lc10_835, (List.forall_mem_cons.mpr ⟨bk_Lc10_841, (List.forall_mem_cons.mpr ⟨bk_Lc10_758, (List.forall_mem_cons.mpr ⟨bk_Lc10_784, (List.forall_mem_cons.mpr ⟨bk_Lc10_824, (List.forall_mem_cons.mpr ⟨bk_Lc10_763, (List.forall_mem_cons.mpr ⟨bk_Lc10_788, (List.forall_mem_cons.mpr ⟨bk_Lc10_831, (List.forall_mem_cons.mpr ⟨bk_Lc10_769, (List.forall_mem_cons.mpr ⟨bk_Lc10_793, (fun _ h => absurd h List.not_mem_nil)⟩)⟩)⟩)⟩)⟩)⟩)⟩)⟩)⟩)⟩)⟩)⟩)⟩)⟩)⟩)⟩)⟩)⟩)⟩)
def kLc11_844 : List xm_I := [(.aload 0, 1, 0, 0, 0), (.aload 0, 0, 0, 0, 0), (.iload 0, 5, 0, 0, 0), (.sipush 0, 0, 0, 0, 1)]
theorem bk_Lc11_844 : xm_okb code 8 9 1 false 849 844 kLc11_844 = true := by decide +kernel
def kLc11_860 : List xm_I := [(.istore 0, 6, 0, 0, 0), (.aload 0, 2, 0, 0, 0), (.aload 0, 0, 0, 0, 0), (.iload 0, 5, 0, 0, 0)]
theorem bk_Lc11_860 : xm_okb code 8 9 1 false 866 860 kLc11_860 = true := by decide +kernel
def kLc11_878 : List xm_I := [(.aload 0, 2, 0, 0, 0)]
theorem bk_Lc11_878 : xm_okb code 8 9 1 false 879 878 kLc11_878 = true := by decide +kernel
def kLc11_882 : List xm_I := [(.iload 0, 6, 0, 0, 0), (.if_icmp .eq 0, 889, 0, 0, 0), (.sipush 0, 0, 0, 0, 0), (.ireturn, 1, 0, 0, 0)]
theorem bk_Lc11_882 : xm_okb code 8 9 1 false 889 882 kLc11_882 = true := by decide +kernel
def kLc11_889 : List xm_I := [(.goto 0, 2034, 0, 0, 0)]
theorem bk_Lc11_889 : xm_okb code 8 9 1 false 892 889 kLc11_889 = true := by decide +kernel
def kLc11_849 : List xm_I := [(.iadd, 0, 0, 0, 0), (.iaload, 1, 0, 0, 0), (.aload 0, 0, 0, 0, 0), (.iload 0, 5, 0, 0, 0)]
theorem bk_Lc11_849 : xm_okb code 8 9 1 false 854 849 kLc11_849 = true := by decide +kernel
def kLc11_866 : List xm_I := [(.sipush 0, 0, 0, 0, 1), (.iadd, 0, 0, 0, 0), (.iaload, 1, 0, 0, 0), (.aload 0, 0, 0, 0, 0)]
theorem bk_Lc11_866 : xm_okb code 8 9 1 false 870 866 kLc11_866 = true := by decide +kernel
def kLc11_854 : List xm_I := [(.sipush 0, 0, 0, 0, 2), (.iadd, 0, 0, 0, 0), (.iaload, 1, 0, 0, 0)]
theorem bk_Lc11_854 : xm_okb code 8 9 1 false 857 854 kLc11_854 = true := by decide +kernel
def kLc11_870 : List xm_I := [(.iload 0, 5, 0, 0, 0), (.sipush 0, 0, 0, 0, 2), (.iadd, 0, 0, 0, 0), (.iaload, 1, 0, 0, 0)]
theorem bk_Lc11_870 : xm_okb code 8 9 1 false 875 870 kLc11_870 = true := by decide +kernel
def kb_Lc11 : List (Nat × Nat × List xm_I) := [(844, 849, kLc11_844), (860, 866, kLc11_860), (878, 879, kLc11_878), (882, 889, kLc11_882), (889, 892, kLc11_889), (849, 854, kLc11_849), (866, 870, kLc11_866), (854, 857, kLc11_854), (870, 875, kLc11_870)]
theorem lb_Lc11_844 : xm_lk kb_Lc11 844 = some (849, kLc11_844) := rfl
theorem lb_Lc11_860 : xm_lk kb_Lc11 860 = some (866, kLc11_860) := rfl
theorem lb_Lc11_878 : xm_lk kb_Lc11 878 = some (879, kLc11_878) := rfl
theorem lb_Lc11_882 : xm_lk kb_Lc11 882 = some (889, kLc11_882) := rfl
theorem lb_Lc11_889 : xm_lk kb_Lc11 889 = some (892, kLc11_889) := rfl
theorem lb_Lc11_849 : xm_lk kb_Lc11 849 = some (854, kLc11_849) := rfl
theorem lb_Lc11_866 : xm_lk kb_Lc11 866 = some (870, kLc11_866) := rfl
theorem lb_Lc11_854 : xm_lk kb_Lc11 854 = some (857, kLc11_854) := rfl
theorem lb_Lc11_870 : xm_lk kb_Lc11 870 = some (875, kLc11_870) := rfl
theorem lb_Lc11_857 : xm_lk kb_Lc11 857 = none := rfl
theorem lb_Lc11_875 : xm_lk kb_Lc11 875 = none := rfl
theorem lb_Lc11_879 : xm_lk kb_Lc11 879 = none := rfl
theorem lb_Lc11_892 : xm_lk kb_Lc11 892 = none := rfl
theorem lb_Lc11_2034 : xm_lk kb_Lc11 2034 = none := rfl
theorem kc_Lc11 : xm_oks code 8 9 1 false kb_Lc11 := (List.forall_mem_cons.mpr ⟨bk_Lc11_844, (List.forall_mem_cons.mpr ⟨bk_Lc11_860, (List.forall_mem_cons.mpr ⟨bk_Lc11_878, (List.forall_mem_cons.mpr ⟨bk_Lc11_882, (List.forall_mem_cons.mpr ⟨bk_Lc11_889, (List.forall_mem_cons.mpr ⟨bk_Lc11_849, (List.forall_mem_cons.mpr ⟨bk_Lc11_866, (List.forall_mem_cons.mpr ⟨bk_Lc11_854, (List.forall_mem_cons.mpr ⟨bk_Lc11_870, (fun _ h => absurd h List.not_mem_nil)⟩)⟩)⟩)⟩)⟩)⟩)⟩)⟩)⟩)
def kLc12_892 : List xm_I := [(.aload 0, 1, 0, 0, 0), (.aload 0, 0, 0, 0, 0), (.iload 0, 5, 0, 0, 0), (.sipush 0, 0, 0, 0, 1)]
theorem bk_Lc12_892 : xm_okb code 8 9 1 false 897 892 kLc12_892 = true := by decide +kernel
def kLc12_903 : List xm_I := [(.istore 0, 6, 0, 0, 0), (.aload 0, 2, 0, 0, 0), (.aload 0, 0, 0, 0, 0), (.iload 0, 5, 0, 0, 0)]
theorem bk_Lc12_903 : xm_okb code 8 9 1 false 909 903 kLc12_903 = true := by decide +kernel
def kLc12_915 : List xm_I := [(.istore 0, 7, 0, 0, 0), (.aload 0, 2, 0, 0, 0)]
theorem bk_Lc12_915 : xm_okb code 8 9 1 false 918 915 kLc12_915 = true := by decide +kernel
def kLc12_921 : List xm_I := [(.iload 0, 6, 0, 0, 0), (.if_icmp .eq 0, 928, 0, 0, 0), (.sipush 0, 0, 0, 0, 0), (.ireturn, 1, 0, 0, 0)]
theorem bk_Lc12_921 : xm_okb code 8 9 1 false 928 921 kLc12_921 = true := by decide +kernel
def kLc12_928 : List xm_I := [(.iload 0, 6, 0, 0, 0), (.ifCond .ne 0, 945, 0, 0, 0), (.aload 0, 3, 0, 0, 0), (.sipush 0, 0, 0, 0, 0)]
theorem bk_Lc12_928 : xm_okb code 8 9 1 false 935 928 kLc12_928 = true := by decide +kernel
def kLc12_945 : List xm_I := [(.goto 0, 2034, 0, 0, 0)]
theorem bk_Lc12_945 : xm_okb code 8 9 1 false 948 945 kLc12_945 = true := by decide +kernel
def kLc12_897 : List xm_I := [(.iadd, 0, 0, 0, 0), (.iaload, 1, 0, 0, 0), (.aload 0, 3, 0, 0, 0)]
theorem bk_Lc12_897 : xm_okb code 8 9 1 false 900 897 kLc12_897 = true := by decide +kernel
def kLc12_909 : List xm_I := [(.sipush 0, 0, 0, 0, 1), (.iadd, 0, 0, 0, 0), (.iaload, 1, 0, 0, 0)]
theorem bk_Lc12_909 : xm_okb code 8 9 1 false 912 909 kLc12_909 = true := by decide +kernel
def kLc12_935 : List xm_I := [(.laload, 0, 0, 0, 0), (.iload 0, 7, 0, 0, 0), (.i2l, 0, 0, 0, 0), (.lcmp, 0, 0, 0, 0)]
theorem bk_Lc12_935 : xm_okb code 8 9 1 false 940 935 kLc12_935 = true := by decide +kernel
def kLc12_940 : List xm_I := [(.ifCond .eq 0, 945, 0, 0, 0), (.sipush 0, 0, 0, 0, 0), (.ireturn, 1, 0, 0, 0)]
theorem bk_Lc12_940 : xm_okb code 8 9 1 false 945 940 kLc12_940 = true := by decide +kernel
def kb_Lc12 : List (Nat × Nat × List xm_I) := [(892, 897, kLc12_892), (903, 909, kLc12_903), (915, 918, kLc12_915), (921, 928, kLc12_921), (928, 935, kLc12_928), (945, 948, kLc12_945), (897, 900, kLc12_897), (909, 912, kLc12_909), (935, 940, kLc12_935), (940, 945, kLc12_940)]
theorem lb_Lc12_892 : xm_lk kb_Lc12 892 = some (897, kLc12_892) := rfl
theorem lb_Lc12_903 : xm_lk kb_Lc12 903 = some (909, kLc12_903) := rfl
theorem lb_Lc12_915 : xm_lk kb_Lc12 915 = some (918, kLc12_915) := rfl
theorem lb_Lc12_921 : xm_lk kb_Lc12 921 = some (928, kLc12_921) := rfl
theorem lb_Lc12_928 : xm_lk kb_Lc12 928 = some (935, kLc12_928) := rfl
theorem lb_Lc12_945 : xm_lk kb_Lc12 945 = some (948, kLc12_945) := rfl
theorem lb_Lc12_897 : xm_lk kb_Lc12 897 = some (900, kLc12_897) := rfl
theorem lb_Lc12_909 : xm_lk kb_Lc12 909 = some (912, kLc12_909) := rfl
theorem lb_Lc12_935 : xm_lk kb_Lc12 935 = some (940, kLc12_935) := rfl
theorem lb_Lc12_940 : xm_lk kb_Lc12 940 = some (945, kLc12_940) := rfl
theorem lb_Lc12_900 : xm_lk kb_Lc12 900 = none := rfl
theorem lb_Lc12_912 : xm_lk kb_Lc12 912 = none := rfl
theorem lb_Lc12_918 : xm_lk kb_Lc12 918 = none := rfl
theorem lb_Lc12_948 : xm_lk kb_Lc12 948 = none := rfl
theorem lb_Lc12_2034 : xm_lk kb_Lc12 2034 = none := rfl
theorem kc_Lc12 : xm_oks code 8 9 1 false kb_Lc12 := (List.forall_mem_cons.mpr ⟨bk_Lc12_892, (List.forall_mem_cons.mpr ⟨bk_Lc12_903, (List.forall_mem_cons.mpr ⟨bk_Lc12_915, (List.forall_mem_cons.mpr ⟨bk_Lc12_921, (List.forall_mem_cons.mpr ⟨bk_Lc12_928, (List.forall_mem_cons.mpr ⟨bk_Lc12_945, (List.forall_mem_cons.mpr ⟨bk_Lc12_897, (List.forall_mem_cons.mpr ⟨bk_Lc12_909, (List.forall_mem_cons.mpr ⟨bk_Lc12_935, (List.forall_mem_cons.mpr ⟨bk_Lc12_940, (fun _ h => absurd h List.not_mem_nil)⟩)⟩)⟩)⟩)⟩)⟩)⟩)⟩)⟩)⟩)
def kLc13_948 : List xm_I := [(.aload 0, 1, 0, 0, 0), (.aload 0, 0, 0, 0, 0), (.iload 0, 5, 0, 0, 0), (.sipush 0, 0, 0, 0, 1)]
theorem bk_Lc13_948 : xm_okb code 8 9 1 false 953 948 kLc13_948 = true := by decide +kernel
def kLc13_965 : List xm_I := [(.istore 0, 6, 0, 0, 0), (.aload 0, 2, 0, 0, 0), (.aload 0, 0, 0, 0, 0), (.iload 0, 5, 0, 0, 0)]
theorem bk_Lc13_965 : xm_okb code 8 9 1 false 971 965 kLc13_965 = true := by decide +kernel
def kLc13_983 : List xm_I := [(.istore 0, 7, 0, 0, 0), (.aload 0, 2, 0, 0, 0)]
theorem bk_Lc13_983 : xm_okb code 8 9 1 false 986 983 kLc13_983 = true := by decide +kernel
def kLc13_989 : List xm_I := [(.iload 0, 6, 0, 0, 0), (.if_icmp .eq 0, 996, 0, 0, 0), (.sipush 0, 0, 0, 0, 0), (.ireturn, 1, 0, 0, 0)]
theorem bk_Lc13_989 : xm_okb code 8 9 1 false 996 989 kLc13_989 = true := by decide +kernel
def kLc13_996 : List xm_I := [(.iload 0, 6, 0, 0, 0), (.ifCond .ne 0, 1013, 0, 0, 0), (.aload 0, 3, 0, 0, 0), (.sipush 0, 0, 0, 0, 0)]
theorem bk_Lc13_996 : xm_okb code 8 9 1 false 1003 996 kLc13_996 = true := by decide +kernel
def kLc13_1013 : List xm_I := [(.goto 0, 2034, 0, 0, 0)]
theorem bk_Lc13_1013 : xm_okb code 8 9 1 false 1016 1013 kLc13_1013 = true := by decide +kernel
def kLc13_953 : List xm_I := [(.iadd, 0, 0, 0, 0), (.iaload, 1, 0, 0, 0), (.aload 0, 0, 0, 0, 0), (.iload 0, 5, 0, 0, 0)]
theorem bk_Lc13_953 : xm_okb code 8 9 1 false 958 953 kLc13_953 = true := by decide +kernel
def kLc13_971 : List xm_I := [(.sipush 0, 0, 0, 0, 1), (.iadd, 0, 0, 0, 0), (.iaload, 1, 0, 0, 0), (.aload 0, 0, 0, 0, 0)]
theorem bk_Lc13_971 : xm_okb code 8 9 1 false 975 971 kLc13_971 = true := by decide +kernel
def kLc13_1003 : List xm_I := [(.laload, 0, 0, 0, 0), (.iload 0, 7, 0, 0, 0), (.i2l, 0, 0, 0, 0), (.lcmp, 0, 0, 0, 0)]
theorem bk_Lc13_1003 : xm_okb code 8 9 1 false 1008 1003 kLc13_1003 = true := by decide +kernel
def kLc13_958 : List xm_I := [(.sipush 0, 0, 0, 0, 2), (.iadd, 0, 0, 0, 0), (.iaload, 1, 0, 0, 0), (.aload 0, 3, 0, 0, 0)]
theorem bk_Lc13_958 : xm_okb code 8 9 1 false 962 958 kLc13_958 = true := by decide +kernel
def kLc13_975 : List xm_I := [(.iload 0, 5, 0, 0, 0), (.sipush 0, 0, 0, 0, 2), (.iadd, 0, 0, 0, 0), (.iaload, 1, 0, 0, 0)]
theorem bk_Lc13_975 : xm_okb code 8 9 1 false 980 975 kLc13_975 = true := by decide +kernel
def kLc13_1008 : List xm_I := [(.ifCond .eq 0, 1013, 0, 0, 0), (.sipush 0, 0, 0, 0, 0), (.ireturn, 1, 0, 0, 0)]
theorem bk_Lc13_1008 : xm_okb code 8 9 1 false 1013 1008 kLc13_1008 = true := by decide +kernel
def kb_Lc13 : List (Nat × Nat × List xm_I) := [(948, 953, kLc13_948), (965, 971, kLc13_965), (983, 986, kLc13_983), (989, 996, kLc13_989), (996, 1003, kLc13_996), (1013, 1016, kLc13_1013), (953, 958, kLc13_953), (971, 975, kLc13_971), (1003, 1008, kLc13_1003), (958, 962, kLc13_958), (975, 980, kLc13_975), (1008, 1013, kLc13_1008)]
theorem lb_Lc13_948 : xm_lk kb_Lc13 948 = some (953, kLc13_948) := rfl
theorem lb_Lc13_965 : xm_lk kb_Lc13 965 = some (971, kLc13_965) := rfl
theorem lb_Lc13_983 : xm_lk kb_Lc13 983 = some (986, kLc13_983) := rfl
theorem lb_Lc13_989 : xm_lk kb_Lc13 989 = some (996, kLc13_989) := rfl
theorem lb_Lc13_996 : xm_lk kb_Lc13 996 = some (1003, kLc13_996) := rfl
theorem lb_Lc13_1013 : xm_lk kb_Lc13 1013 = some (1016, kLc13_1013) := rfl
theorem lb_Lc13_953 : xm_lk kb_Lc13 953 = some (958, kLc13_953) := rfl
theorem lb_Lc13_971 : xm_lk kb_Lc13 971 = some (975, kLc13_971) := rfl
theorem lb_Lc13_1003 : xm_lk kb_Lc13 1003 = some (1008, kLc13_1003) := rfl
theorem lb_Lc13_958 : xm_lk kb_Lc13 958 = some (962, kLc13_958) := rfl
theorem lb_Lc13_975 : xm_lk kb_Lc13 975 = some (980, kLc13_975) := rfl
theorem lb_Lc13_1008 : xm_lk kb_Lc13 1008 = some (1013, kLc13_1008) := rfl
theorem lb_Lc13_962 : xm_lk kb_Lc13 962 = none := rfl
theorem lb_Lc13_980 : xm_lk kb_Lc13 980 = none := rfl
theorem lb_Lc13_986 : xm_lk kb_Lc13 986 = none := rfl
theorem lb_Lc13_1016 : xm_lk kb_Lc13 1016 = none := rfl
theorem lb_Lc13_2034 : xm_lk kb_Lc13 2034 = none := rfl
theorem kc_Lc13 : xm_oks code 8 9 1 false kb_Lc13 := (List.forall_mem_cons.mpr ⟨bk_Lc13_948, (List.forall_mem_cons.mpr ⟨bk_Lc13_965, (List.forall_mem_cons.mpr ⟨bk_Lc13_983, (List.forall_mem_cons.mpr ⟨bk_Lc13_989, (List.forall_mem_cons.mpr ⟨bk_Lc13_996, (List.forall_mem_cons.mpr ⟨bk_Lc13_1013, (List.forall_mem_cons.mpr ⟨bk_Lc13_953, (List.forall_mem_cons.mpr ⟨bk_Lc13_971, (List.forall_mem_cons.mpr ⟨bk_Lc13_1003, (List.forall_mem_cons.mpr ⟨bk_Lc13_958, (List.forall_mem_cons.mpr ⟨bk_Lc13_975, (List.forall_mem_cons.mpr ⟨bk_Lc13_1008, (fun _ h => absurd h List.not_mem_nil)⟩)⟩)⟩)⟩)⟩)⟩)⟩)⟩)⟩)⟩)⟩)⟩)
def kLc14_1016 : List xm_I := [(.aload 0, 1, 0, 0, 0), (.aload 0, 0, 0, 0, 0), (.iload 0, 5, 0, 0, 0), (.sipush 0, 0, 0, 0, 1)]
theorem bk_Lc14_1016 : xm_okb code 8 9 1 false 1021 1016 kLc14_1016 = true := by decide +kernel
def kLc14_1027 : List xm_I := [(.istore 0, 6, 0, 0, 0), (.aload 0, 2, 0, 0, 0), (.aload 0, 0, 0, 0, 0), (.iload 0, 5, 0, 0, 0)]
theorem bk_Lc14_1027 : xm_okb code 8 9 1 false 1033 1027 kLc14_1027 = true := by decide +kernel
def kLc14_1039 : List xm_I := [(.istore 0, 7, 0, 0, 0), (.aload 0, 2, 0, 0, 0)]
theorem bk_Lc14_1039 : xm_okb code 8 9 1 false 1042 1039 kLc14_1039 = true := by decide +kernel
def kLc14_1045 : List xm_I := [(.iload 0, 6, 0, 0, 0), (.if_icmp .eq 0, 1052, 0, 0, 0), (.sipush 0, 0, 0, 0, 0), (.ireturn, 1, 0, 0, 0)]
theorem bk_Lc14_1045 : xm_okb code 8 9 1 false 1052 1045 kLc14_1045 = true := by decide +kernel
def kLc14_1052 : List xm_I := [(.iload 0, 6, 0, 0, 0), (.ifCond .ne 0, 1069, 0, 0, 0), (.aload 0, 3, 0, 0, 0), (.sipush 0, 0, 0, 0, 0)]
theorem bk_Lc14_1052 : xm_okb code 8 9 1 false 1059 1052 kLc14_1052 = true := by decide +kernel
def kLc14_1069 : List xm_I := [(.goto 0, 2034, 0, 0, 0)]
theorem bk_Lc14_1069 : xm_okb code 8 9 1 false 1072 1069 kLc14_1069 = true := by decide +kernel
def kLc14_1021 : List xm_I := [(.iadd, 0, 0, 0, 0), (.iaload, 1, 0, 0, 0), (.aload 0, 3, 0, 0, 0)]
theorem bk_Lc14_1021 : xm_okb code 8 9 1 false 1024 1021 kLc14_1021 = true := by decide +kernel
def kLc14_1033 : List xm_I := [(.sipush 0, 0, 0, 0, 1), (.iadd, 0, 0, 0, 0), (.iaload, 1, 0, 0, 0)]
theorem bk_Lc14_1033 : xm_okb code 8 9 1 false 1036 1033 kLc14_1033 = true := by decide +kernel
def kLc14_1059 : List xm_I := [(.laload, 0, 0, 0, 0), (.iload 0, 7, 0, 0, 0), (.i2l, 0, 0, 0, 0), (.lcmp, 0, 0, 0, 0)]
theorem bk_Lc14_1059 : xm_okb code 8 9 1 false 1064 1059 kLc14_1059 = true := by decide +kernel
def kLc14_1064 : List xm_I := [(.ifCond .eq 0, 1069, 0, 0, 0), (.sipush 0, 0, 0, 0, 0), (.ireturn, 1, 0, 0, 0)]
theorem bk_Lc14_1064 : xm_okb code 8 9 1 false 1069 1064 kLc14_1064 = true := by decide +kernel
def kb_Lc14 : List (Nat × Nat × List xm_I) := [(1016, 1021, kLc14_1016), (1027, 1033, kLc14_1027), (1039, 1042, kLc14_1039), (1045, 1052, kLc14_1045), (1052, 1059, kLc14_1052), (1069, 1072, kLc14_1069), (1021, 1024, kLc14_1021), (1033, 1036, kLc14_1033), (1059, 1064, kLc14_1059), (1064, 1069, kLc14_1064)]
theorem lb_Lc14_1016 : xm_lk kb_Lc14 1016 = some (1021, kLc14_1016) := rfl
theorem lb_Lc14_1027 : xm_lk kb_Lc14 1027 = some (1033, kLc14_1027) := rfl
theorem lb_Lc14_1039 : xm_lk kb_Lc14 1039 = some (1042, kLc14_1039) := rfl
theorem lb_Lc14_1045 : xm_lk kb_Lc14 1045 = some (1052, kLc14_1045) := rfl
theorem lb_Lc14_1052 : xm_lk kb_Lc14 1052 = some (1059, kLc14_1052) := rfl
theorem lb_Lc14_1069 : xm_lk kb_Lc14 1069 = some (1072, kLc14_1069) := rfl
theorem lb_Lc14_1021 : xm_lk kb_Lc14 1021 = some (1024, kLc14_1021) := rfl
theorem lb_Lc14_1033 : xm_lk kb_Lc14 1033 = some (1036, kLc14_1033) := rfl
theorem lb_Lc14_1059 : xm_lk kb_Lc14 1059 = some (1064, kLc14_1059) := rfl
theorem lb_Lc14_1064 : xm_lk kb_Lc14 1064 = some (1069, kLc14_1064) := rfl
theorem lb_Lc14_1024 : xm_lk kb_Lc14 1024 = none := rfl
theorem lb_Lc14_1036 : xm_lk kb_Lc14 1036 = none := rfl
theorem lb_Lc14_1042 : xm_lk kb_Lc14 1042 = none := rfl
theorem lb_Lc14_1072 : xm_lk kb_Lc14 1072 = none := rfl
theorem lb_Lc14_2034 : xm_lk kb_Lc14 2034 = none := rfl
theorem kc_Lc14 : xm_oks code 8 9 1 false kb_Lc14 := (List.forall_mem_cons.mpr ⟨bk_Lc14_1016, (List.forall_mem_cons.mpr ⟨bk_Lc14_1027, (List.forall_mem_cons.mpr ⟨bk_Lc14_1039, (List.forall_mem_cons.mpr ⟨bk_Lc14_1045, (List.forall_mem_cons.mpr ⟨bk_Lc14_1052, (List.forall_mem_cons.mpr ⟨bk_Lc14_1069, (List.forall_mem_cons.mpr ⟨bk_Lc14_1021, (List.forall_mem_cons.mpr ⟨bk_Lc14_1033, (List.forall_mem_cons.mpr ⟨bk_Lc14_1059, (List.forall_mem_cons.mpr ⟨bk_Lc14_1064, (fun _ h => absurd h List.not_mem_nil)⟩)⟩)⟩)⟩)⟩)⟩)⟩)⟩)⟩)⟩)
def kLc15_1072 : List xm_I := [(.aload 0, 1, 0, 0, 0), (.aload 0, 0, 0, 0, 0), (.iload 0, 5, 0, 0, 0), (.sipush 0, 0, 0, 0, 1)]
theorem bk_Lc15_1072 : xm_okb code 8 9 1 false 1077 1072 kLc15_1072 = true := by decide +kernel
def kLc15_1089 : List xm_I := [(.istore 0, 6, 0, 0, 0), (.aload 0, 2, 0, 0, 0), (.aload 0, 0, 0, 0, 0), (.iload 0, 5, 0, 0, 0)]
theorem bk_Lc15_1089 : xm_okb code 8 9 1 false 1095 1089 kLc15_1089 = true := by decide +kernel
def kLc15_1107 : List xm_I := [(.istore 0, 7, 0, 0, 0), (.aload 0, 2, 0, 0, 0)]
theorem bk_Lc15_1107 : xm_okb code 8 9 1 false 1110 1107 kLc15_1107 = true := by decide +kernel
def kLc15_1113 : List xm_I := [(.iload 0, 6, 0, 0, 0), (.if_icmp .eq 0, 1120, 0, 0, 0), (.sipush 0, 0, 0, 0, 0), (.ireturn, 1, 0, 0, 0)]
theorem bk_Lc15_1113 : xm_okb code 8 9 1 false 1120 1113 kLc15_1113 = true := by decide +kernel
def kLc15_1120 : List xm_I := [(.iload 0, 6, 0, 0, 0), (.ifCond .ne 0, 1137, 0, 0, 0), (.aload 0, 3, 0, 0, 0), (.sipush 0, 0, 0, 0, 0)]
theorem bk_Lc15_1120 : xm_okb code 8 9 1 false 1127 1120 kLc15_1120 = true := by decide +kernel
def kLc15_1137 : List xm_I := [(.goto 0, 2034, 0, 0, 0)]
theorem bk_Lc15_1137 : xm_okb code 8 9 1 false 1140 1137 kLc15_1137 = true := by decide +kernel
def kLc15_1077 : List xm_I := [(.iadd, 0, 0, 0, 0), (.iaload, 1, 0, 0, 0), (.aload 0, 0, 0, 0, 0), (.iload 0, 5, 0, 0, 0)]
theorem bk_Lc15_1077 : xm_okb code 8 9 1 false 1082 1077 kLc15_1077 = true := by decide +kernel
def kLc15_1095 : List xm_I := [(.sipush 0, 0, 0, 0, 1), (.iadd, 0, 0, 0, 0), (.iaload, 1, 0, 0, 0), (.aload 0, 0, 0, 0, 0)]
theorem bk_Lc15_1095 : xm_okb code 8 9 1 false 1099 1095 kLc15_1095 = true := by decide +kernel
def kLc15_1127 : List xm_I := [(.laload, 0, 0, 0, 0), (.iload 0, 7, 0, 0, 0), (.i2l, 0, 0, 0, 0), (.lcmp, 0, 0, 0, 0)]
theorem bk_Lc15_1127 : xm_okb code 8 9 1 false 1132 1127 kLc15_1127 = true := by decide +kernel
def kLc15_1082 : List xm_I := [(.sipush 0, 0, 0, 0, 2), (.iadd, 0, 0, 0, 0), (.iaload, 1, 0, 0, 0), (.aload 0, 3, 0, 0, 0)]
theorem bk_Lc15_1082 : xm_okb code 8 9 1 false 1086 1082 kLc15_1082 = true := by decide +kernel
def kLc15_1099 : List xm_I := [(.iload 0, 5, 0, 0, 0), (.sipush 0, 0, 0, 0, 2), (.iadd, 0, 0, 0, 0), (.iaload, 1, 0, 0, 0)]
theorem bk_Lc15_1099 : xm_okb code 8 9 1 false 1104 1099 kLc15_1099 = true := by decide +kernel
def kLc15_1132 : List xm_I := [(.ifCond .eq 0, 1137, 0, 0, 0), (.sipush 0, 0, 0, 0, 0), (.ireturn, 1, 0, 0, 0)]
theorem bk_Lc15_1132 : xm_okb code 8 9 1 false 1137 1132 kLc15_1132 = true := by decide +kernel
def kb_Lc15 : List (Nat × Nat × List xm_I) := [(1072, 1077, kLc15_1072), (1089, 1095, kLc15_1089), (1107, 1110, kLc15_1107), (1113, 1120, kLc15_1113), (1120, 1127, kLc15_1120), (1137, 1140, kLc15_1137), (1077, 1082, kLc15_1077), (1095, 1099, kLc15_1095), (1127, 1132, kLc15_1127), (1082, 1086, kLc15_1082), (1099, 1104, kLc15_1099), (1132, 1137, kLc15_1132)]
theorem lb_Lc15_1072 : xm_lk kb_Lc15 1072 = some (1077, kLc15_1072) := rfl
theorem lb_Lc15_1089 : xm_lk kb_Lc15 1089 = some (1095, kLc15_1089) := rfl
theorem lb_Lc15_1107 : xm_lk kb_Lc15 1107 = some (1110, kLc15_1107) := rfl
theorem lb_Lc15_1113 : xm_lk kb_Lc15 1113 = some (1120, kLc15_1113) := rfl
theorem lb_Lc15_1120 : xm_lk kb_Lc15 1120 = some (1127, kLc15_1120) := rfl
theorem lb_Lc15_1137 : xm_lk kb_Lc15 1137 = some (1140, kLc15_1137) := rfl
theorem lb_Lc15_1077 : xm_lk kb_Lc15 1077 = some (1082, kLc15_1077) := rfl
theorem lb_Lc15_1095 : xm_lk kb_Lc15 1095 = some (1099, kLc15_1095) := rfl
theorem lb_Lc15_1127 : xm_lk kb_Lc15 1127 = some (1132, kLc15_1127) := rfl
theorem lb_Lc15_1082 : xm_lk kb_Lc15 1082 = some (1086, kLc15_1082) := rfl
theorem lb_Lc15_1099 : xm_lk kb_Lc15 1099 = some (1104, kLc15_1099) := rfl
theorem lb_Lc15_1132 : xm_lk kb_Lc15 1132 = some (1137, kLc15_1132) := rfl
theorem lb_Lc15_1086 : xm_lk kb_Lc15 1086 = none := rfl
theorem lb_Lc15_1104 : xm_lk kb_Lc15 1104 = none := rfl
theorem lb_Lc15_1110 : xm_lk kb_Lc15 1110 = none := rfl
theorem lb_Lc15_1140 : xm_lk kb_Lc15 1140 = none := rfl
theorem lb_Lc15_2034 : xm_lk kb_Lc15 2034 = none := rfl
theorem kc_Lc15 : xm_oks code 8 9 1 false kb_Lc15 := (List.forall_mem_cons.mpr ⟨bk_Lc15_1072, (List.forall_mem_cons.mpr ⟨bk_Lc15_1089, (List.forall_mem_cons.mpr ⟨bk_Lc15_1107, (List.forall_mem_cons.mpr ⟨bk_Lc15_1113, (List.forall_mem_cons.mpr ⟨bk_Lc15_1120, (List.forall_mem_cons.mpr ⟨bk_Lc15_1137, (List.forall_mem_cons.mpr ⟨bk_Lc15_1077, (List.forall_mem_cons.mpr ⟨bk_Lc15_1095, (List.forall_mem_cons.mpr ⟨bk_Lc15_1127, (List.forall_mem_cons.mpr ⟨bk_Lc15_1082, (List.forall_mem_cons.mpr ⟨bk_Lc15_1099, (List.forall_mem_cons.mpr ⟨bk_Lc15_1132, (fun _ h => absurd h List.not_mem_nil)⟩)⟩)⟩)⟩)⟩)⟩)⟩)⟩)⟩)⟩)⟩)⟩)
def kLc16_1140 : List xm_I := [(.aload 0, 1, 0, 0, 0), (.aload 0, 0, 0, 0, 0), (.iload 0, 5, 0, 0, 0), (.sipush 0, 0, 0, 0, 1)]
theorem bk_Lc16_1140 : xm_okb code 8 9 1 false 1145 1140 kLc16_1140 = true := by decide +kernel
def kLc16_1151 : List xm_I := [(.istore 0, 6, 0, 0, 0), (.aload 0, 2, 0, 0, 0), (.aload 0, 0, 0, 0, 0), (.iload 0, 5, 0, 0, 0)]
theorem bk_Lc16_1151 : xm_okb code 8 9 1 false 1157 1151 kLc16_1151 = true := by decide +kernel
def kLc16_1163 : List xm_I := [(.istore 0, 7, 0, 0, 0), (.aload 0, 2, 0, 0, 0)]
theorem bk_Lc16_1163 : xm_okb code 8 9 1 false 1166 1163 kLc16_1163 = true := by decide +kernel
def kLc16_1169 : List xm_I := [(.iload 0, 6, 0, 0, 0), (.if_icmp .eq 0, 1176, 0, 0, 0), (.sipush 0, 0, 0, 0, 0), (.ireturn, 1, 0, 0, 0)]
theorem bk_Lc16_1169 : xm_okb code 8 9 1 false 1176 1169 kLc16_1169 = true := by decide +kernel
def kLc16_1176 : List xm_I := [(.iload 0, 6, 0, 0, 0), (.ifCond .ne 0, 1193, 0, 0, 0), (.aload 0, 3, 0, 0, 0), (.sipush 0, 0, 0, 0, 0)]
theorem bk_Lc16_1176 : xm_okb code 8 9 1 false 1183 1176 kLc16_1176 = true := by decide +kernel
def kLc16_1193 : List xm_I := [(.goto 0, 2034, 0, 0, 0)]
theorem bk_Lc16_1193 : xm_okb code 8 9 1 false 1196 1193 kLc16_1193 = true := by decide +kernel
def kLc16_1145 : List xm_I := [(.iadd, 0, 0, 0, 0), (.iaload, 1, 0, 0, 0), (.aload 0, 3, 0, 0, 0)]
theorem bk_Lc16_1145 : xm_okb code 8 9 1 false 1148 1145 kLc16_1145 = true := by decide +kernel
def kLc16_1157 : List xm_I := [(.sipush 0, 0, 0, 0, 1), (.iadd, 0, 0, 0, 0), (.iaload, 1, 0, 0, 0)]
theorem bk_Lc16_1157 : xm_okb code 8 9 1 false 1160 1157 kLc16_1157 = true := by decide +kernel
def kLc16_1183 : List xm_I := [(.laload, 0, 0, 0, 0), (.iload 0, 7, 0, 0, 0), (.i2l, 0, 0, 0, 0), (.lcmp, 0, 0, 0, 0)]
theorem bk_Lc16_1183 : xm_okb code 8 9 1 false 1188 1183 kLc16_1183 = true := by decide +kernel
def kLc16_1188 : List xm_I := [(.ifCond .eq 0, 1193, 0, 0, 0), (.sipush 0, 0, 0, 0, 0), (.ireturn, 1, 0, 0, 0)]
theorem bk_Lc16_1188 : xm_okb code 8 9 1 false 1193 1188 kLc16_1188 = true := by decide +kernel
def kb_Lc16 : List (Nat × Nat × List xm_I) := [(1140, 1145, kLc16_1140), (1151, 1157, kLc16_1151), (1163, 1166, kLc16_1163), (1169, 1176, kLc16_1169), (1176, 1183, kLc16_1176), (1193, 1196, kLc16_1193), (1145, 1148, kLc16_1145), (1157, 1160, kLc16_1157), (1183, 1188, kLc16_1183), (1188, 1193, kLc16_1188)]
theorem lb_Lc16_1140 : xm_lk kb_Lc16 1140 = some (1145, kLc16_1140) := rfl
theorem lb_Lc16_1151 : xm_lk kb_Lc16 1151 = some (1157, kLc16_1151) := rfl
theorem lb_Lc16_1163 : xm_lk kb_Lc16 1163 = some (1166, kLc16_1163) := rfl
theorem lb_Lc16_1169 : xm_lk kb_Lc16 1169 = some (1176, kLc16_1169) := rfl
theorem lb_Lc16_1176 : xm_lk kb_Lc16 1176 = some (1183, kLc16_1176) := rfl
theorem lb_Lc16_1193 : xm_lk kb_Lc16 1193 = some (1196, kLc16_1193) := rfl
theorem lb_Lc16_1145 : xm_lk kb_Lc16 1145 = some (1148, kLc16_1145) := rfl
theorem lb_Lc16_1157 : xm_lk kb_Lc16 1157 = some (1160, kLc16_1157) := rfl
theorem lb_Lc16_1183 : xm_lk kb_Lc16 1183 = some (1188, kLc16_1183) := rfl
theorem lb_Lc16_1188 : xm_lk kb_Lc16 1188 = some (1193, kLc16_1188) := rfl
theorem lb_Lc16_1148 : xm_lk kb_Lc16 1148 = none := rfl
theorem lb_Lc16_1160 : xm_lk kb_Lc16 1160 = none := rfl
theorem lb_Lc16_1166 : xm_lk kb_Lc16 1166 = none := rfl
theorem lb_Lc16_1196 : xm_lk kb_Lc16 1196 = none := rfl
theorem lb_Lc16_2034 : xm_lk kb_Lc16 2034 = none := rfl
theorem kc_Lc16 : xm_oks code 8 9 1 false kb_Lc16 := (List.forall_mem_cons.mpr ⟨bk_Lc16_1140, (List.forall_mem_cons.mpr ⟨bk_Lc16_1151, (List.forall_mem_cons.mpr ⟨bk_Lc16_1163, (List.forall_mem_cons.mpr ⟨bk_Lc16_1169, (List.forall_mem_cons.mpr ⟨bk_Lc16_1176, (List.forall_mem_cons.mpr ⟨bk_Lc16_1193, (List.forall_mem_cons.mpr ⟨bk_Lc16_1145, (List.forall_mem_cons.mpr ⟨bk_Lc16_1157, (List.forall_mem_cons.mpr ⟨bk_Lc16_1183, (List.forall_mem_cons.mpr ⟨bk_Lc16_1188, (fun _ h => absurd h List.not_mem_nil)⟩)⟩)⟩)⟩)⟩)⟩)⟩)⟩)⟩)⟩)
def kLc17_1196 : List xm_I := [(.aload 0, 1, 0, 0, 0), (.aload 0, 0, 0, 0, 0), (.iload 0, 5, 0, 0, 0), (.sipush 0, 0, 0, 0, 1)]
theorem bk_Lc17_1196 : xm_okb code 8 9 1 false 1201 1196 kLc17_1196 = true := by decide +kernel
def kLc17_1207 : List xm_I := [(.istore 0, 6, 0, 0, 0), (.aload 0, 2, 0, 0, 0), (.aload 0, 0, 0, 0, 0), (.iload 0, 5, 0, 0, 0)]
theorem bk_Lc17_1207 : xm_okb code 8 9 1 false 1213 1207 kLc17_1207 = true := by decide +kernel
def kLc17_1219 : List xm_I := [(.istore 0, 7, 0, 0, 0), (.aload 0, 2, 0, 0, 0)]
theorem bk_Lc17_1219 : xm_okb code 8 9 1 false 1222 1219 kLc17_1219 = true := by decide +kernel
def kLc17_1225 : List xm_I := [(.iload 0, 6, 0, 0, 0), (.if_icmp .eq 0, 1232, 0, 0, 0), (.sipush 0, 0, 0, 0, 0), (.ireturn, 1, 0, 0, 0)]
theorem bk_Lc17_1225 : xm_okb code 8 9 1 false 1232 1225 kLc17_1225 = true := by decide +kernel
def kLc17_1232 : List xm_I := [(.iload 0, 6, 0, 0, 0), (.ifCond .ne 0, 1249, 0, 0, 0), (.aload 0, 3, 0, 0, 0), (.sipush 0, 0, 0, 0, 0)]
theorem bk_Lc17_1232 : xm_okb code 8 9 1 false 1239 1232 kLc17_1232 = true := by decide +kernel
def kLc17_1249 : List xm_I := [(.goto 0, 2034, 0, 0, 0)]
theorem bk_Lc17_1249 : xm_okb code 8 9 1 false 1252 1249 kLc17_1249 = true := by decide +kernel
def kLc17_1201 : List xm_I := [(.iadd, 0, 0, 0, 0), (.iaload, 1, 0, 0, 0), (.aload 0, 3, 0, 0, 0)]
theorem bk_Lc17_1201 : xm_okb code 8 9 1 false 1204 1201 kLc17_1201 = true := by decide +kernel
def kLc17_1213 : List xm_I := [(.sipush 0, 0, 0, 0, 1), (.iadd, 0, 0, 0, 0), (.iaload, 1, 0, 0, 0)]
theorem bk_Lc17_1213 : xm_okb code 8 9 1 false 1216 1213 kLc17_1213 = true := by decide +kernel
def kLc17_1239 : List xm_I := [(.laload, 0, 0, 0, 0), (.iload 0, 7, 0, 0, 0), (.i2l, 0, 0, 0, 0), (.lcmp, 0, 0, 0, 0)]
theorem bk_Lc17_1239 : xm_okb code 8 9 1 false 1244 1239 kLc17_1239 = true := by decide +kernel
def kLc17_1244 : List xm_I := [(.ifCond .eq 0, 1249, 0, 0, 0), (.sipush 0, 0, 0, 0, 0), (.ireturn, 1, 0, 0, 0)]
theorem bk_Lc17_1244 : xm_okb code 8 9 1 false 1249 1244 kLc17_1244 = true := by decide +kernel
def kb_Lc17 : List (Nat × Nat × List xm_I) := [(1196, 1201, kLc17_1196), (1207, 1213, kLc17_1207), (1219, 1222, kLc17_1219), (1225, 1232, kLc17_1225), (1232, 1239, kLc17_1232), (1249, 1252, kLc17_1249), (1201, 1204, kLc17_1201), (1213, 1216, kLc17_1213), (1239, 1244, kLc17_1239), (1244, 1249, kLc17_1244)]
theorem lb_Lc17_1196 : xm_lk kb_Lc17 1196 = some (1201, kLc17_1196) := rfl
theorem lb_Lc17_1207 : xm_lk kb_Lc17 1207 = some (1213, kLc17_1207) := rfl
theorem lb_Lc17_1219 : xm_lk kb_Lc17 1219 = some (1222, kLc17_1219) := rfl
theorem lb_Lc17_1225 : xm_lk kb_Lc17 1225 = some (1232, kLc17_1225) := rfl
theorem lb_Lc17_1232 : xm_lk kb_Lc17 1232 = some (1239, kLc17_1232) := rfl
theorem lb_Lc17_1249 : xm_lk kb_Lc17 1249 = some (1252, kLc17_1249) := rfl
theorem lb_Lc17_1201 : xm_lk kb_Lc17 1201 = some (1204, kLc17_1201) := rfl
theorem lb_Lc17_1213 : xm_lk kb_Lc17 1213 = some (1216, kLc17_1213) := rfl
theorem lb_Lc17_1239 : xm_lk kb_Lc17 1239 = some (1244, kLc17_1239) := rfl
theorem lb_Lc17_1244 : xm_lk kb_Lc17 1244 = some (1249, kLc17_1244) := rfl
theorem lb_Lc17_1204 : xm_lk kb_Lc17 1204 = none := rfl
theorem lb_Lc17_1216 : xm_lk kb_Lc17 1216 = none := rfl
theorem lb_Lc17_1222 : xm_lk kb_Lc17 1222 = none := rfl
theorem lb_Lc17_1252 : xm_lk kb_Lc17 1252 = none := rfl
theorem lb_Lc17_2034 : xm_lk kb_Lc17 2034 = none := rfl
theorem kc_Lc17 : xm_oks code 8 9 1 false kb_Lc17 := (List.forall_mem_cons.mpr ⟨bk_Lc17_1196, (List.forall_mem_cons.mpr ⟨bk_Lc17_1207, (List.forall_mem_cons.mpr ⟨bk_Lc17_1219, (List.forall_mem_cons.mpr ⟨bk_Lc17_1225, (List.forall_mem_cons.mpr ⟨bk_Lc17_1232, (List.forall_mem_cons.mpr ⟨bk_Lc17_1249, (List.forall_mem_cons.mpr ⟨bk_Lc17_1201, (List.forall_mem_cons.mpr ⟨bk_Lc17_1213, (List.forall_mem_cons.mpr ⟨bk_Lc17_1239, (List.forall_mem_cons.mpr ⟨bk_Lc17_1244, (fun _ h => absurd h List.not_mem_nil)⟩)⟩)⟩)⟩)⟩)⟩)⟩)⟩)⟩)⟩)
def kLc18_1252 : List xm_I := [(.aload 0, 1, 0, 0, 0), (.aload 0, 0, 0, 0, 0), (.iload 0, 5, 0, 0, 0), (.sipush 0, 0, 0, 0, 1)]
theorem bk_Lc18_1252 : xm_okb code 8 9 1 false 1257 1252 kLc18_1252 = true := by decide +kernel
def kLc18_1263 : List xm_I := [(.istore 0, 6, 0, 0, 0), (.aload 0, 2, 0, 0, 0), (.aload 0, 0, 0, 0, 0), (.iload 0, 5, 0, 0, 0)]
theorem bk_Lc18_1263 : xm_okb code 8 9 1 false 1269 1263 kLc18_1263 = true := by decide +kernel
def kLc18_1275 : List xm_I := [(.istore 0, 7, 0, 0, 0), (.aload 0, 2, 0, 0, 0)]
theorem bk_Lc18_1275 : xm_okb code 8 9 1 false 1278 1275 kLc18_1275 = true := by decide +kernel
def kLc18_1281 : List xm_I := [(.iload 0, 6, 0, 0, 0), (.if_icmp .eq 0, 1288, 0, 0, 0), (.sipush 0, 0, 0, 0, 0), (.ireturn, 1, 0, 0, 0)]
theorem bk_Lc18_1281 : xm_okb code 8 9 1 false 1288 1281 kLc18_1281 = true := by decide +kernel
def kLc18_1288 : List xm_I := [(.iload 0, 6, 0, 0, 0), (.ifCond .ne 0, 1305, 0, 0, 0), (.aload 0, 3, 0, 0, 0), (.sipush 0, 0, 0, 0, 0)]
theorem bk_Lc18_1288 : xm_okb code 8 9 1 false 1295 1288 kLc18_1288 = true := by decide +kernel
def kLc18_1305 : List xm_I := [(.goto 0, 2034, 0, 0, 0)]
theorem bk_Lc18_1305 : xm_okb code 8 9 1 false 1308 1305 kLc18_1305 = true := by decide +kernel
def kLc18_1257 : List xm_I := [(.iadd, 0, 0, 0, 0), (.iaload, 1, 0, 0, 0), (.aload 0, 3, 0, 0, 0)]
theorem bk_Lc18_1257 : xm_okb code 8 9 1 false 1260 1257 kLc18_1257 = true := by decide +kernel
def kLc18_1269 : List xm_I := [(.sipush 0, 0, 0, 0, 1), (.iadd, 0, 0, 0, 0), (.iaload, 1, 0, 0, 0)]
theorem bk_Lc18_1269 : xm_okb code 8 9 1 false 1272 1269 kLc18_1269 = true := by decide +kernel
def kLc18_1295 : List xm_I := [(.laload, 0, 0, 0, 0), (.iload 0, 7, 0, 0, 0), (.i2l, 0, 0, 0, 0), (.lcmp, 0, 0, 0, 0)]
theorem bk_Lc18_1295 : xm_okb code 8 9 1 false 1300 1295 kLc18_1295 = true := by decide +kernel
def kLc18_1300 : List xm_I := [(.ifCond .eq 0, 1305, 0, 0, 0), (.sipush 0, 0, 0, 0, 0), (.ireturn, 1, 0, 0, 0)]
theorem bk_Lc18_1300 : xm_okb code 8 9 1 false 1305 1300 kLc18_1300 = true := by decide +kernel
def kb_Lc18 : List (Nat × Nat × List xm_I) := [(1252, 1257, kLc18_1252), (1263, 1269, kLc18_1263), (1275, 1278, kLc18_1275), (1281, 1288, kLc18_1281), (1288, 1295, kLc18_1288), (1305, 1308, kLc18_1305), (1257, 1260, kLc18_1257), (1269, 1272, kLc18_1269), (1295, 1300, kLc18_1295), (1300, 1305, kLc18_1300)]
theorem lb_Lc18_1252 : xm_lk kb_Lc18 1252 = some (1257, kLc18_1252) := rfl
theorem lb_Lc18_1263 : xm_lk kb_Lc18 1263 = some (1269, kLc18_1263) := rfl
theorem lb_Lc18_1275 : xm_lk kb_Lc18 1275 = some (1278, kLc18_1275) := rfl
theorem lb_Lc18_1281 : xm_lk kb_Lc18 1281 = some (1288, kLc18_1281) := rfl
theorem lb_Lc18_1288 : xm_lk kb_Lc18 1288 = some (1295, kLc18_1288) := rfl
theorem lb_Lc18_1305 : xm_lk kb_Lc18 1305 = some (1308, kLc18_1305) := rfl
theorem lb_Lc18_1257 : xm_lk kb_Lc18 1257 = some (1260, kLc18_1257) := rfl
theorem lb_Lc18_1269 : xm_lk kb_Lc18 1269 = some (1272, kLc18_1269) := rfl
theorem lb_Lc18_1295 : xm_lk kb_Lc18 1295 = some (1300, kLc18_1295) := rfl
theorem lb_Lc18_1300 : xm_lk kb_Lc18 1300 = some (1305, kLc18_1300) := rfl
theorem lb_Lc18_1260 : xm_lk kb_Lc18 1260 = none := rfl
theorem lb_Lc18_1272 : xm_lk kb_Lc18 1272 = none := rfl
theorem lb_Lc18_1278 : xm_lk kb_Lc18 1278 = none := rfl
theorem lb_Lc18_1308 : xm_lk kb_Lc18 1308 = none := rfl
theorem lb_Lc18_2034 : xm_lk kb_Lc18 2034 = none := rfl
theorem kc_Lc18 : xm_oks code 8 9 1 false kb_Lc18 := (List.forall_mem_cons.mpr ⟨bk_Lc18_1252, (List.forall_mem_cons.mpr ⟨bk_Lc18_1263, (List.forall_mem_cons.mpr ⟨bk_Lc18_1275, (List.forall_mem_cons.mpr ⟨bk_Lc18_1281, (List.forall_mem_cons.mpr ⟨bk_Lc18_1288, (List.forall_mem_cons.mpr ⟨bk_Lc18_1305, (List.forall_mem_cons.mpr ⟨bk_Lc18_1257, (List.forall_mem_cons.mpr ⟨bk_Lc18_1269, (List.forall_mem_cons.mpr ⟨bk_Lc18_1295, (List.forall_mem_cons.mpr ⟨bk_Lc18_1300, (fun _ h => absurd h List.not_mem_nil)⟩)⟩)⟩)⟩)⟩)⟩)⟩)⟩)⟩)⟩)
def kLc19_1308 : List xm_I := [(.aload 0, 1, 0, 0, 0), (.aload 0, 4, 0, 0, 0)]
theorem bk_Lc19_1308 : xm_okb code 8 9 1 false 1311 1308 kLc19_1308 = true := by decide +kernel
def kLc19_1314 : List xm_I := [(.istore 0, 6, 0, 0, 0), (.aload 0, 2, 0, 0, 0)]
theorem bk_Lc19_1314 : xm_okb code 8 9 1 false 1317 1314 kLc19_1314 = true := by decide +kernel
def kLc19_1322 : List xm_I := [(.aload 0, 2, 0, 0, 0)]
theorem bk_Lc19_1322 : xm_okb code 8 9 1 false 1323 1322 kLc19_1322 = true := by decide +kernel
def kLc19_1326 : List xm_I := [(.iload 0, 6, 0, 0, 0), (.if_icmp .eq 0, 1333, 0, 0, 0), (.sipush 0, 0, 0, 0, 0), (.ireturn, 1, 0, 0, 0)]
theorem bk_Lc19_1326 : xm_okb code 8 9 1 false 1333 1326 kLc19_1326 = true := by decide +kernel
def kLc19_1333 : List xm_I := [(.iload 0, 6, 0, 0, 0), (.ifCond .ne 0, 1370, 0, 0, 0), (.aload 0, 4, 0, 0, 0), (.sipush 0, 0, 0, 0, 0)]
theorem bk_Lc19_1333 : xm_okb code 8 9 1 false 1341 1333 kLc19_1333 = true := by decide +kernel
def kLc19_1345 : List xm_I := [(.ifCond .eq 0, 1370, 0, 0, 0), (.aload 0, 4, 0, 0, 0), (.sipush 0, 0, 0, 0, 0), (.daload, 0, 0, 0, 0)]
theorem bk_Lc19_1345 : xm_okb code 8 9 1 false 1352 1345 kLc19_1345 = true := by decide +kernel
def kLc19_1357 : List xm_I := [(.ifCond .eq 0, 1368, 0, 0, 0)]
theorem bk_Lc19_1357 : xm_okb code 8 9 1 false 1360 1357 kLc19_1357 = true := by decide +kernel
def kLc19_1365 : List xm_I := [(.ifCond .ne 0, 1370, 0, 0, 0)]
theorem bk_Lc19_1365 : xm_okb code 8 9 1 false 1368 1365 kLc19_1365 = true := by decide +kernel
def kLc19_1368 : List xm_I := [(.sipush 0, 0, 0, 0, 0), (.ireturn, 1, 0, 0, 0)]
theorem bk_Lc19_1368 : xm_okb code 8 9 1 false 1370 1368 kLc19_1368 = true := by decide +kernel
def kLc19_1370 : List xm_I := [(.goto 0, 2034, 0, 0, 0)]
theorem bk_Lc19_1370 : xm_okb code 8 9 1 false 1373 1370 kLc19_1370 = true := by decide +kernel
def kLc19_1341 : List xm_I := [(.daload, 0, 0, 0, 0)]
theorem bk_Lc19_1341 : xm_okb code 8 9 1 false 1342 1341 kLc19_1341 = true := by decide +kernel
def kLc19_1352 : List xm_I := [(.aload 0, 4, 0, 0, 0), (.sipush 0, 0, 0, 0, 0), (.daload, 0, 0, 0, 0)]
theorem bk_Lc19_1352 : xm_okb code 8 9 1 false 1356 1352 kLc19_1352 = true := by decide +kernel
def kb_Lc19 : List (Nat × Nat × List xm_I) := [(1308, 1311, kLc19_1308), (1314, 1317, kLc19_1314), (1322, 1323, kLc19_1322), (1326, 1333, kLc19_1326), (1333, 1341, kLc19_1333), (1345, 1352, kLc19_1345), (1357, 1360, kLc19_1357), (1365, 1368, kLc19_1365), (1368, 1370, kLc19_1368), (1370, 1373, kLc19_1370), (1341, 1342, kLc19_1341), (1352, 1356, kLc19_1352)]
theorem lb_Lc19_1308 : xm_lk kb_Lc19 1308 = some (1311, kLc19_1308) := rfl
theorem lb_Lc19_1314 : xm_lk kb_Lc19 1314 = some (1317, kLc19_1314) := rfl
theorem lb_Lc19_1322 : xm_lk kb_Lc19 1322 = some (1323, kLc19_1322) := rfl
theorem lb_Lc19_1326 : xm_lk kb_Lc19 1326 = some (1333, kLc19_1326) := rfl
theorem lb_Lc19_1333 : xm_lk kb_Lc19 1333 = some (1341, kLc19_1333) := rfl
theorem lb_Lc19_1345 : xm_lk kb_Lc19 1345 = some (1352, kLc19_1345) := rfl
theorem lb_Lc19_1357 : xm_lk kb_Lc19 1357 = some (1360, kLc19_1357) := rfl
theorem lb_Lc19_1365 : xm_lk kb_Lc19 1365 = some (1368, kLc19_1365) := rfl
theorem lb_Lc19_1368 : xm_lk kb_Lc19 1368 = some (1370, kLc19_1368) := rfl
theorem lb_Lc19_1370 : xm_lk kb_Lc19 1370 = some (1373, kLc19_1370) := rfl
theorem lb_Lc19_1341 : xm_lk kb_Lc19 1341 = some (1342, kLc19_1341) := rfl
theorem lb_Lc19_1352 : xm_lk kb_Lc19 1352 = some (1356, kLc19_1352) := rfl
theorem lb_Lc19_1311 : xm_lk kb_Lc19 1311 = none := rfl
theorem lb_Lc19_1317 : xm_lk kb_Lc19 1317 = none := rfl
theorem lb_Lc19_1323 : xm_lk kb_Lc19 1323 = none := rfl
theorem lb_Lc19_1342 : xm_lk kb_Lc19 1342 = none := rfl
theorem lb_Lc19_1356 : xm_lk kb_Lc19 1356 = none := rfl
theorem lb_Lc19_1360 : xm_lk kb_Lc19 1360 = none := rfl
theorem lb_Lc19_1373 : xm_lk kb_Lc19 1373 = none := rfl
theorem lb_Lc19_2034 : xm_lk kb_Lc19 2034 = none := rfl
theorem kc_Lc19 : xm_oks code 8 9 1 false kb_Lc19 := (List.forall_mem_cons.mpr ⟨bk_Lc19_1308, (List.forall_mem_cons.mpr ⟨bk_Lc19_1314, (List.forall_mem_cons.mpr ⟨bk_Lc19_1322, (List.forall_mem_cons.mpr ⟨bk_Lc19_1326, (List.forall_mem_cons.mpr ⟨bk_Lc19_1333, (List.forall_mem_cons.mpr ⟨bk_Lc19_1345, (List.forall_mem_cons.mpr ⟨bk_Lc19_1357, (List.forall_mem_cons.mpr ⟨bk_Lc19_1365, (List.forall_mem_cons.mpr ⟨bk_Lc19_1368, (List.forall_mem_cons.mpr ⟨bk_Lc19_1370, (List.forall_mem_cons.mpr ⟨bk_Lc19_1341, (List.forall_mem_cons.mpr ⟨bk_Lc19_1352, (fun _ h => absurd h List.not_mem_nil)⟩)⟩)⟩)⟩)⟩)⟩)⟩)⟩)⟩)⟩)⟩)⟩)
def kLc20_1373 : List xm_I := [(.aload 0, 1, 0, 0, 0), (.aload 0, 4, 0, 0, 0)]
theorem bk_Lc20_1373 : xm_okb code 8 9 1 false 1376 1373 kLc20_1373 = true := by decide +kernel
def kLc20_1379 : List xm_I := [(.istore 0, 6, 0, 0, 0), (.aload 0, 2, 0, 0, 0)]
theorem bk_Lc20_1379 : xm_okb code 8 9 1 false 1382 1379 kLc20_1379 = true := by decide +kernel
def kLc20_1387 : List xm_I := [(.aload 0, 2, 0, 0, 0)]
theorem bk_Lc20_1387 : xm_okb code 8 9 1 false 1388 1387 kLc20_1387 = true := by decide +kernel
def kLc20_1391 : List xm_I := [(.iload 0, 6, 0, 0, 0), (.if_icmp .eq 0, 1398, 0, 0, 0), (.sipush 0, 0, 0, 0, 0), (.ireturn, 1, 0, 0, 0)]
theorem bk_Lc20_1391 : xm_okb code 8 9 1 false 1398 1391 kLc20_1391 = true := by decide +kernel
def kLc20_1398 : List xm_I := [(.iload 0, 6, 0, 0, 0), (.ifCond .ne 0, 1435, 0, 0, 0), (.aload 0, 4, 0, 0, 0), (.sipush 0, 0, 0, 0, 0)]
theorem bk_Lc20_1398 : xm_okb code 8 9 1 false 1406 1398 kLc20_1398 = true := by decide +kernel
def kLc20_1410 : List xm_I := [(.ifCond .eq 0, 1435, 0, 0, 0), (.aload 0, 4, 0, 0, 0), (.sipush 0, 0, 0, 0, 0), (.daload, 0, 0, 0, 0)]
theorem bk_Lc20_1410 : xm_okb code 8 9 1 false 1417 1410 kLc20_1410 = true := by decide +kernel
def kLc20_1422 : List xm_I := [(.ifCond .eq 0, 1433, 0, 0, 0)]
theorem bk_Lc20_1422 : xm_okb code 8 9 1 false 1425 1422 kLc20_1422 = true := by decide +kernel
def kLc20_1430 : List xm_I := [(.ifCond .ne 0, 1435, 0, 0, 0)]
theorem bk_Lc20_1430 : xm_okb code 8 9 1 false 1433 1430 kLc20_1430 = true := by decide +kernel
def kLc20_1433 : List xm_I := [(.sipush 0, 0, 0, 0, 0), (.ireturn, 1, 0, 0, 0)]
theorem bk_Lc20_1433 : xm_okb code 8 9 1 false 1435 1433 kLc20_1433 = true := by decide +kernel
def kLc20_1435 : List xm_I := [(.goto 0, 2034, 0, 0, 0)]
theorem bk_Lc20_1435 : xm_okb code 8 9 1 false 1438 1435 kLc20_1435 = true := by decide +kernel
def kLc20_1406 : List xm_I := [(.daload, 0, 0, 0, 0)]
theorem bk_Lc20_1406 : xm_okb code 8 9 1 false 1407 1406 kLc20_1406 = true := by decide +kernel
def kLc20_1417 : List xm_I := [(.aload 0, 4, 0, 0, 0), (.sipush 0, 0, 0, 0, 0), (.daload, 0, 0, 0, 0)]
theorem bk_Lc20_1417 : xm_okb code 8 9 1 false 1421 1417 kLc20_1417 = true := by decide +kernel
def kb_Lc20 : List (Nat × Nat × List xm_I) := [(1373, 1376, kLc20_1373), (1379, 1382, kLc20_1379), (1387, 1388, kLc20_1387), (1391, 1398, kLc20_1391), (1398, 1406, kLc20_1398), (1410, 1417, kLc20_1410), (1422, 1425, kLc20_1422), (1430, 1433, kLc20_1430), (1433, 1435, kLc20_1433), (1435, 1438, kLc20_1435), (1406, 1407, kLc20_1406), (1417, 1421, kLc20_1417)]
theorem lb_Lc20_1373 : xm_lk kb_Lc20 1373 = some (1376, kLc20_1373) := rfl
theorem lb_Lc20_1379 : xm_lk kb_Lc20 1379 = some (1382, kLc20_1379) := rfl
theorem lb_Lc20_1387 : xm_lk kb_Lc20 1387 = some (1388, kLc20_1387) := rfl
theorem lb_Lc20_1391 : xm_lk kb_Lc20 1391 = some (1398, kLc20_1391) := rfl
theorem lb_Lc20_1398 : xm_lk kb_Lc20 1398 = some (1406, kLc20_1398) := rfl
theorem lb_Lc20_1410 : xm_lk kb_Lc20 1410 = some (1417, kLc20_1410) := rfl
theorem lb_Lc20_1422 : xm_lk kb_Lc20 1422 = some (1425, kLc20_1422) := rfl
theorem lb_Lc20_1430 : xm_lk kb_Lc20 1430 = some (1433, kLc20_1430) := rfl
theorem lb_Lc20_1433 : xm_lk kb_Lc20 1433 = some (1435, kLc20_1433) := rfl
theorem lb_Lc20_1435 : xm_lk kb_Lc20 1435 = some (1438, kLc20_1435) := rfl
theorem lb_Lc20_1406 : xm_lk kb_Lc20 1406 = some (1407, kLc20_1406) := rfl
theorem lb_Lc20_1417 : xm_lk kb_Lc20 1417 = some (1421, kLc20_1417) := rfl
theorem lb_Lc20_1376 : xm_lk kb_Lc20 1376 = none := rfl
theorem lb_Lc20_1382 : xm_lk kb_Lc20 1382 = none := rfl
theorem lb_Lc20_1388 : xm_lk kb_Lc20 1388 = none := rfl
theorem lb_Lc20_1407 : xm_lk kb_Lc20 1407 = none := rfl
theorem lb_Lc20_1421 : xm_lk kb_Lc20 1421 = none := rfl
theorem lb_Lc20_1425 : xm_lk kb_Lc20 1425 = none := rfl
theorem lb_Lc20_1438 : xm_lk kb_Lc20 1438 = none := rfl
theorem lb_Lc20_2034 : xm_lk kb_Lc20 2034 = none := rfl
theorem kc_Lc20 : xm_oks code 8 9 1 false kb_Lc20 := (List.forall_mem_cons.mpr ⟨bk_Lc20_1373, (List.forall_mem_cons.mpr ⟨bk_Lc20_1379, (List.forall_mem_cons.mpr ⟨bk_Lc20_1387, (List.forall_mem_cons.mpr ⟨bk_Lc20_1391, (List.forall_mem_cons.mpr ⟨bk_Lc20_1398, (List.forall_mem_cons.mpr ⟨bk_Lc20_1410, (List.forall_mem_cons.mpr ⟨bk_Lc20_1422, (List.forall_mem_cons.mpr ⟨bk_Lc20_1430, (List.forall_mem_cons.mpr ⟨bk_Lc20_1433, (List.forall_mem_cons.mpr ⟨bk_Lc20_1435, (List.forall_mem_cons.mpr ⟨bk_Lc20_1406, (List.forall_mem_cons.mpr ⟨bk_Lc20_1417, (fun _ h => absurd h List.not_mem_nil)⟩)⟩)⟩)⟩)⟩)⟩)⟩)⟩)⟩)⟩)⟩)⟩)
def kLc21_1438 : List xm_I := [(.aload 0, 1, 0, 0, 0), (.aload 0, 0, 0, 0, 0), (.iload 0, 5, 0, 0, 0), (.sipush 0, 0, 0, 0, 1)]
theorem bk_Lc21_1438 : xm_okb code 8 9 1 false 1443 1438 kLc21_1438 = true := by decide +kernel
def kLc21_1449 : List xm_I := [(.istore 0, 6, 0, 0, 0), (.aload 0, 2, 0, 0, 0), (.aload 0, 0, 0, 0, 0), (.iload 0, 5, 0, 0, 0)]
theorem bk_Lc21_1449 : xm_okb code 8 9 1 false 1455 1449 kLc21_1449 = true := by decide +kernel
def kLc21_1461 : List xm_I := [(.istore 0, 7, 0, 0, 0), (.aload 0, 2, 0, 0, 0)]
theorem bk_Lc21_1461 : xm_okb code 8 9 1 false 1464 1461 kLc21_1461 = true := by decide +kernel
def kLc21_1467 : List xm_I := [(.iload 0, 6, 0, 0, 0), (.if_icmp .eq 0, 1474, 0, 0, 0), (.sipush 0, 0, 0, 0, 0), (.ireturn, 1, 0, 0, 0)]
theorem bk_Lc21_1467 : xm_okb code 8 9 1 false 1474 1467 kLc21_1467 = true := by decide +kernel
def kLc21_1474 : List xm_I := [(.iload 0, 6, 0, 0, 0), (.ifCond .ne 0, 1491, 0, 0, 0), (.aload 0, 3, 0, 0, 0), (.sipush 0, 0, 0, 0, 0)]
theorem bk_Lc21_1474 : xm_okb code 8 9 1 false 1481 1474 kLc21_1474 = true := by decide +kernel
def kLc21_1491 : List xm_I := [(.goto 0, 2034, 0, 0, 0)]
theorem bk_Lc21_1491 : xm_okb code 8 9 1 false 1494 1491 kLc21_1491 = true := by decide +kernel
def kLc21_1443 : List xm_I := [(.iadd, 0, 0, 0, 0), (.iaload, 1, 0, 0, 0), (.aload 0, 3, 0, 0, 0)]
theorem bk_Lc21_1443 : xm_okb code 8 9 1 false 1446 1443 kLc21_1443 = true := by decide +kernel
def kLc21_1455 : List xm_I := [(.sipush 0, 0, 0, 0, 1), (.iadd, 0, 0, 0, 0), (.iaload, 1, 0, 0, 0)]
theorem bk_Lc21_1455 : xm_okb code 8 9 1 false 1458 1455 kLc21_1455 = true := by decide +kernel
def kLc21_1481 : List xm_I := [(.laload, 0, 0, 0, 0), (.iload 0, 7, 0, 0, 0), (.i2l, 0, 0, 0, 0), (.lcmp, 0, 0, 0, 0)]
theorem bk_Lc21_1481 : xm_okb code 8 9 1 false 1486 1481 kLc21_1481 = true := by decide +kernel
def kLc21_1486 : List xm_I := [(.ifCond .eq 0, 1491, 0, 0, 0), (.sipush 0, 0, 0, 0, 0), (.ireturn, 1, 0, 0, 0)]
theorem bk_Lc21_1486 : xm_okb code 8 9 1 false 1491 1486 kLc21_1486 = true := by decide +kernel
def kb_Lc21 : List (Nat × Nat × List xm_I) := [(1438, 1443, kLc21_1438), (1449, 1455, kLc21_1449), (1461, 1464, kLc21_1461), (1467, 1474, kLc21_1467), (1474, 1481, kLc21_1474), (1491, 1494, kLc21_1491), (1443, 1446, kLc21_1443), (1455, 1458, kLc21_1455), (1481, 1486, kLc21_1481), (1486, 1491, kLc21_1486)]
theorem lb_Lc21_1438 : xm_lk kb_Lc21 1438 = some (1443, kLc21_1438) := rfl
theorem lb_Lc21_1449 : xm_lk kb_Lc21 1449 = some (1455, kLc21_1449) := rfl
theorem lb_Lc21_1461 : xm_lk kb_Lc21 1461 = some (1464, kLc21_1461) := rfl
theorem lb_Lc21_1467 : xm_lk kb_Lc21 1467 = some (1474, kLc21_1467) := rfl
theorem lb_Lc21_1474 : xm_lk kb_Lc21 1474 = some (1481, kLc21_1474) := rfl
theorem lb_Lc21_1491 : xm_lk kb_Lc21 1491 = some (1494, kLc21_1491) := rfl
theorem lb_Lc21_1443 : xm_lk kb_Lc21 1443 = some (1446, kLc21_1443) := rfl
theorem lb_Lc21_1455 : xm_lk kb_Lc21 1455 = some (1458, kLc21_1455) := rfl
theorem lb_Lc21_1481 : xm_lk kb_Lc21 1481 = some (1486, kLc21_1481) := rfl
theorem lb_Lc21_1486 : xm_lk kb_Lc21 1486 = some (1491, kLc21_1486) := rfl
theorem lb_Lc21_1446 : xm_lk kb_Lc21 1446 = none := rfl
theorem lb_Lc21_1458 : xm_lk kb_Lc21 1458 = none := rfl
theorem lb_Lc21_1464 : xm_lk kb_Lc21 1464 = none := rfl
theorem lb_Lc21_1494 : xm_lk kb_Lc21 1494 = none := rfl
theorem lb_Lc21_2034 : xm_lk kb_Lc21 2034 = none := rfl
theorem kc_Lc21 : xm_oks code 8 9 1 false kb_Lc21 := (List.forall_mem_cons.mpr ⟨bk_Lc21_1438, (List.forall_mem_cons.mpr ⟨bk_Lc21_1449, (List.forall_mem_cons.mpr ⟨bk_Lc21_1461, (List.forall_mem_cons.mpr ⟨bk_Lc21_1467, (List.forall_mem_cons.mpr ⟨bk_Lc21_1474, (List.forall_mem_cons.mpr ⟨bk_Lc21_1491, (List.forall_mem_cons.mpr ⟨bk_Lc21_1443, (List.forall_mem_cons.mpr ⟨bk_Lc21_1455, (List.forall_mem_cons.mpr ⟨bk_Lc21_1481, (List.forall_mem_cons.mpr ⟨bk_Lc21_1486, (fun _ h => absurd h List.not_mem_nil)⟩)⟩)⟩)⟩)⟩)⟩)⟩)⟩)⟩)⟩)
def kLc22_1494 : List xm_I := [(.aload 0, 1, 0, 0, 0), (.aload 0, 0, 0, 0, 0), (.iload 0, 5, 0, 0, 0), (.sipush 0, 0, 0, 0, 1)]
theorem bk_Lc22_1494 : xm_okb code 8 9 1 false 1499 1494 kLc22_1494 = true := by decide +kernel
def kLc22_1511 : List xm_I := [(.istore 0, 6, 0, 0, 0), (.aload 0, 2, 0, 0, 0), (.aload 0, 0, 0, 0, 0), (.iload 0, 5, 0, 0, 0)]
theorem bk_Lc22_1511 : xm_okb code 8 9 1 false 1517 1511 kLc22_1511 = true := by decide +kernel
def kLc22_1529 : List xm_I := [(.istore 0, 7, 0, 0, 0), (.aload 0, 2, 0, 0, 0)]
theorem bk_Lc22_1529 : xm_okb code 8 9 1 false 1532 1529 kLc22_1529 = true := by decide +kernel
def kLc22_1535 : List xm_I := [(.iload 0, 6, 0, 0, 0), (.if_icmp .eq 0, 1542, 0, 0, 0), (.sipush 0, 0, 0, 0, 0), (.ireturn, 1, 0, 0, 0)]
theorem bk_Lc22_1535 : xm_okb code 8 9 1 false 1542 1535 kLc22_1535 = true := by decide +kernel
def kLc22_1542 : List xm_I := [(.iload 0, 6, 0, 0, 0), (.ifCond .ne 0, 1559, 0, 0, 0), (.aload 0, 3, 0, 0, 0), (.sipush 0, 0, 0, 0, 0)]
theorem bk_Lc22_1542 : xm_okb code 8 9 1 false 1549 1542 kLc22_1542 = true := by decide +kernel
def kLc22_1559 : List xm_I := [(.goto 0, 2034, 0, 0, 0)]
theorem bk_Lc22_1559 : xm_okb code 8 9 1 false 1562 1559 kLc22_1559 = true := by decide +kernel
def kLc22_1499 : List xm_I := [(.iadd, 0, 0, 0, 0), (.iaload, 1, 0, 0, 0), (.aload 0, 0, 0, 0, 0), (.iload 0, 5, 0, 0, 0)]
theorem bk_Lc22_1499 : xm_okb code 8 9 1 false 1504 1499 kLc22_1499 = true := by decide +kernel
def kLc22_1517 : List xm_I := [(.sipush 0, 0, 0, 0, 1), (.iadd, 0, 0, 0, 0), (.iaload, 1, 0, 0, 0), (.aload 0, 0, 0, 0, 0)]
theorem bk_Lc22_1517 : xm_okb code 8 9 1 false 1521 1517 kLc22_1517 = true := by decide +kernel
def kLc22_1549 : List xm_I := [(.laload, 0, 0, 0, 0), (.iload 0, 7, 0, 0, 0), (.i2l, 0, 0, 0, 0), (.lcmp, 0, 0, 0, 0)]
theorem bk_Lc22_1549 : xm_okb code 8 9 1 false 1554 1549 kLc22_1549 = true := by decide +kernel
def kLc22_1504 : List xm_I := [(.sipush 0, 0, 0, 0, 2), (.iadd, 0, 0, 0, 0), (.iaload, 1, 0, 0, 0), (.aload 0, 3, 0, 0, 0)]
theorem bk_Lc22_1504 : xm_okb code 8 9 1 false 1508 1504 kLc22_1504 = true := by decide +kernel
def kLc22_1521 : List xm_I := [(.iload 0, 5, 0, 0, 0), (.sipush 0, 0, 0, 0, 2), (.iadd, 0, 0, 0, 0), (.iaload, 1, 0, 0, 0)]
theorem bk_Lc22_1521 : xm_okb code 8 9 1 false 1526 1521 kLc22_1521 = true := by decide +kernel
def kLc22_1554 : List xm_I := [(.ifCond .eq 0, 1559, 0, 0, 0), (.sipush 0, 0, 0, 0, 0), (.ireturn, 1, 0, 0, 0)]
theorem bk_Lc22_1554 : xm_okb code 8 9 1 false 1559 1554 kLc22_1554 = true := by decide +kernel
def kb_Lc22 : List (Nat × Nat × List xm_I) := [(1494, 1499, kLc22_1494), (1511, 1517, kLc22_1511), (1529, 1532, kLc22_1529), (1535, 1542, kLc22_1535), (1542, 1549, kLc22_1542), (1559, 1562, kLc22_1559), (1499, 1504, kLc22_1499), (1517, 1521, kLc22_1517), (1549, 1554, kLc22_1549), (1504, 1508, kLc22_1504), (1521, 1526, kLc22_1521), (1554, 1559, kLc22_1554)]
theorem lb_Lc22_1494 : xm_lk kb_Lc22 1494 = some (1499, kLc22_1494) := rfl
theorem lb_Lc22_1511 : xm_lk kb_Lc22 1511 = some (1517, kLc22_1511) := rfl
theorem lb_Lc22_1529 : xm_lk kb_Lc22 1529 = some (1532, kLc22_1529) := rfl
theorem lb_Lc22_1535 : xm_lk kb_Lc22 1535 = some (1542, kLc22_1535) := rfl
theorem lb_Lc22_1542 : xm_lk kb_Lc22 1542 = some (1549, kLc22_1542) := rfl
theorem lb_Lc22_1559 : xm_lk kb_Lc22 1559 = some (1562, kLc22_1559) := rfl
theorem lb_Lc22_1499 : xm_lk kb_Lc22 1499 = some (1504, kLc22_1499) := rfl
theorem lb_Lc22_1517 : xm_lk kb_Lc22 1517 = some (1521, kLc22_1517) := rfl
theorem lb_Lc22_1549 : xm_lk kb_Lc22 1549 = some (1554, kLc22_1549) := rfl
theorem lb_Lc22_1504 : xm_lk kb_Lc22 1504 = some (1508, kLc22_1504) := rfl
theorem lb_Lc22_1521 : xm_lk kb_Lc22 1521 = some (1526, kLc22_1521) := rfl
theorem lb_Lc22_1554 : xm_lk kb_Lc22 1554 = some (1559, kLc22_1554) := rfl
theorem lb_Lc22_1508 : xm_lk kb_Lc22 1508 = none := rfl
theorem lb_Lc22_1526 : xm_lk kb_Lc22 1526 = none := rfl
theorem lb_Lc22_1532 : xm_lk kb_Lc22 1532 = none := rfl
theorem lb_Lc22_1562 : xm_lk kb_Lc22 1562 = none := rfl
theorem lb_Lc22_2034 : xm_lk kb_Lc22 2034 = none := rfl
theorem kc_Lc22 : xm_oks code 8 9 1 false kb_Lc22 := (List.forall_mem_cons.mpr ⟨bk_Lc22_1494, (List.forall_mem_cons.mpr ⟨bk_Lc22_1511, (List.forall_mem_cons.mpr ⟨bk_Lc22_1529, (List.forall_mem_cons.mpr ⟨bk_Lc22_1535, (List.forall_mem_cons.mpr ⟨bk_Lc22_1542, (List.forall_mem_cons.mpr ⟨bk_Lc22_1559, (List.forall_mem_cons.mpr ⟨bk_Lc22_1499, (List.forall_mem_cons.mpr ⟨bk_Lc22_1517, (List.forall_mem_cons.mpr ⟨bk_Lc22_1549, (List.forall_mem_cons.mpr ⟨bk_Lc22_1504, (List.forall_mem_cons.mpr ⟨bk_Lc22_1521, (List.forall_mem_cons.mpr ⟨bk_Lc22_1554, (fun _ h => absurd h List.not_mem_nil)⟩)⟩)⟩)⟩)⟩)⟩)⟩)⟩)⟩)⟩)⟩)⟩)
def kLc23_1562 : List xm_I := [(.aload 0, 1, 0, 0, 0), (.aload 0, 0, 0, 0, 0), (.iload 0, 5, 0, 0, 0), (.sipush 0, 0, 0, 0, 1)]
theorem bk_Lc23_1562 : xm_okb code 8 9 1 false 1567 1562 kLc23_1562 = true := by decide +kernel
def kLc23_1573 : List xm_I := [(.istore 0, 6, 0, 0, 0), (.aload 0, 2, 0, 0, 0), (.aload 0, 0, 0, 0, 0), (.iload 0, 5, 0, 0, 0)]
theorem bk_Lc23_1573 : xm_okb code 8 9 1 false 1579 1573 kLc23_1573 = true := by decide +kernel
def kLc23_1585 : List xm_I := [(.istore 0, 7, 0, 0, 0), (.aload 0, 2, 0, 0, 0)]
theorem bk_Lc23_1585 : xm_okb code 8 9 1 false 1588 1585 kLc23_1585 = true := by decide +kernel
def kLc23_1591 : List xm_I := [(.iload 0, 6, 0, 0, 0), (.if_icmp .eq 0, 1598, 0, 0, 0), (.sipush 0, 0, 0, 0, 0), (.ireturn, 1, 0, 0, 0)]
theorem bk_Lc23_1591 : xm_okb code 8 9 1 false 1598 1591 kLc23_1591 = true := by decide +kernel
def kLc23_1598 : List xm_I := [(.iload 0, 6, 0, 0, 0), (.ifCond .ne 0, 1615, 0, 0, 0), (.aload 0, 3, 0, 0, 0), (.sipush 0, 0, 0, 0, 0)]
theorem bk_Lc23_1598 : xm_okb code 8 9 1 false 1605 1598 kLc23_1598 = true := by decide +kernel
def kLc23_1615 : List xm_I := [(.goto 0, 2034, 0, 0, 0)]
theorem bk_Lc23_1615 : xm_okb code 8 9 1 false 1618 1615 kLc23_1615 = true := by decide +kernel
def kLc23_1567 : List xm_I := [(.iadd, 0, 0, 0, 0), (.iaload, 1, 0, 0, 0), (.aload 0, 3, 0, 0, 0)]
theorem bk_Lc23_1567 : xm_okb code 8 9 1 false 1570 1567 kLc23_1567 = true := by decide +kernel
def kLc23_1579 : List xm_I := [(.sipush 0, 0, 0, 0, 1), (.iadd, 0, 0, 0, 0), (.iaload, 1, 0, 0, 0)]
theorem bk_Lc23_1579 : xm_okb code 8 9 1 false 1582 1579 kLc23_1579 = true := by decide +kernel
def kLc23_1605 : List xm_I := [(.laload, 0, 0, 0, 0), (.iload 0, 7, 0, 0, 0), (.i2l, 0, 0, 0, 0), (.lcmp, 0, 0, 0, 0)]
theorem bk_Lc23_1605 : xm_okb code 8 9 1 false 1610 1605 kLc23_1605 = true := by decide +kernel
def kLc23_1610 : List xm_I := [(.ifCond .eq 0, 1615, 0, 0, 0), (.sipush 0, 0, 0, 0, 0), (.ireturn, 1, 0, 0, 0)]
theorem bk_Lc23_1610 : xm_okb code 8 9 1 false 1615 1610 kLc23_1610 = true := by decide +kernel
def kb_Lc23 : List (Nat × Nat × List xm_I) := [(1562, 1567, kLc23_1562), (1573, 1579, kLc23_1573), (1585, 1588, kLc23_1585), (1591, 1598, kLc23_1591), (1598, 1605, kLc23_1598), (1615, 1618, kLc23_1615), (1567, 1570, kLc23_1567), (1579, 1582, kLc23_1579), (1605, 1610, kLc23_1605), (1610, 1615, kLc23_1610)]
theorem lb_Lc23_1562 : xm_lk kb_Lc23 1562 = some (1567, kLc23_1562) := rfl
theorem lb_Lc23_1573 : xm_lk kb_Lc23 1573 = some (1579, kLc23_1573) := rfl
theorem lb_Lc23_1585 : xm_lk kb_Lc23 1585 = some (1588, kLc23_1585) := rfl
theorem lb_Lc23_1591 : xm_lk kb_Lc23 1591 = some (1598, kLc23_1591) := rfl
theorem lb_Lc23_1598 : xm_lk kb_Lc23 1598 = some (1605, kLc23_1598) := rfl
theorem lb_Lc23_1615 : xm_lk kb_Lc23 1615 = some (1618, kLc23_1615) := rfl
theorem lb_Lc23_1567 : xm_lk kb_Lc23 1567 = some (1570, kLc23_1567) := rfl
theorem lb_Lc23_1579 : xm_lk kb_Lc23 1579 = some (1582, kLc23_1579) := rfl
theorem lb_Lc23_1605 : xm_lk kb_Lc23 1605 = some (1610, kLc23_1605) := rfl
theorem lb_Lc23_1610 : xm_lk kb_Lc23 1610 = some (1615, kLc23_1610) := rfl
theorem lb_Lc23_1570 : xm_lk kb_Lc23 1570 = none := rfl
theorem lb_Lc23_1582 : xm_lk kb_Lc23 1582 = none := rfl
theorem lb_Lc23_1588 : xm_lk kb_Lc23 1588 = none := rfl
theorem lb_Lc23_1618 : xm_lk kb_Lc23 1618 = none := rfl
theorem lb_Lc23_2034 : xm_lk kb_Lc23 2034 = none := rfl
theorem kc_Lc23 : xm_oks code 8 9 1 false kb_Lc23 := (List.forall_mem_cons.mpr ⟨bk_Lc23_1562, (List.forall_mem_cons.mpr ⟨bk_Lc23_1573, (List.forall_mem_cons.mpr ⟨bk_Lc23_1585, (List.forall_mem_cons.mpr ⟨bk_Lc23_1591, (List.forall_mem_cons.mpr ⟨bk_Lc23_1598, (List.forall_mem_cons.mpr ⟨bk_Lc23_1615, (List.forall_mem_cons.mpr ⟨bk_Lc23_1567, (List.forall_mem_cons.mpr ⟨bk_Lc23_1579, (List.forall_mem_cons.mpr ⟨bk_Lc23_1605, (List.forall_mem_cons.mpr ⟨bk_Lc23_1610, (fun _ h => absurd h List.not_mem_nil)⟩)⟩)⟩)⟩)⟩)⟩)⟩)⟩)⟩)⟩)
def kLc24_1618 : List xm_I := [(.aload 0, 1, 0, 0, 0), (.aload 0, 0, 0, 0, 0), (.iload 0, 5, 0, 0, 0), (.sipush 0, 0, 0, 0, 1)]
theorem bk_Lc24_1618 : xm_okb code 8 9 1 false 1623 1618 kLc24_1618 = true := by decide +kernel
def kLc24_1635 : List xm_I := [(.istore 0, 6, 0, 0, 0), (.aload 0, 2, 0, 0, 0), (.aload 0, 0, 0, 0, 0), (.iload 0, 5, 0, 0, 0)]
theorem bk_Lc24_1635 : xm_okb code 8 9 1 false 1641 1635 kLc24_1635 = true := by decide +kernel
def kLc24_1653 : List xm_I := [(.istore 0, 7, 0, 0, 0), (.aload 0, 2, 0, 0, 0)]
theorem bk_Lc24_1653 : xm_okb code 8 9 1 false 1656 1653 kLc24_1653 = true := by decide +kernel
def kLc24_1659 : List xm_I := [(.iload 0, 6, 0, 0, 0), (.if_icmp .eq 0, 1666, 0, 0, 0), (.sipush 0, 0, 0, 0, 0), (.ireturn, 1, 0, 0, 0)]
theorem bk_Lc24_1659 : xm_okb code 8 9 1 false 1666 1659 kLc24_1659 = true := by decide +kernel
def kLc24_1666 : List xm_I := [(.iload 0, 6, 0, 0, 0), (.ifCond .ne 0, 1683, 0, 0, 0), (.aload 0, 3, 0, 0, 0), (.sipush 0, 0, 0, 0, 0)]
theorem bk_Lc24_1666 : xm_okb code 8 9 1 false 1673 1666 kLc24_1666 = true := by decide +kernel
def kLc24_1683 : List xm_I := [(.goto 0, 2034, 0, 0, 0)]
theorem bk_Lc24_1683 : xm_okb code 8 9 1 false 1686 1683 kLc24_1683 = true := by decide +kernel
def kLc24_1623 : List xm_I := [(.iadd, 0, 0, 0, 0), (.iaload, 1, 0, 0, 0), (.aload 0, 0, 0, 0, 0), (.iload 0, 5, 0, 0, 0)]
theorem bk_Lc24_1623 : xm_okb code 8 9 1 false 1628 1623 kLc24_1623 = true := by decide +kernel
def kLc24_1641 : List xm_I := [(.sipush 0, 0, 0, 0, 1), (.iadd, 0, 0, 0, 0), (.iaload, 1, 0, 0, 0), (.aload 0, 0, 0, 0, 0)]
theorem bk_Lc24_1641 : xm_okb code 8 9 1 false 1645 1641 kLc24_1641 = true := by decide +kernel
def kLc24_1673 : List xm_I := [(.laload, 0, 0, 0, 0), (.iload 0, 7, 0, 0, 0), (.i2l, 0, 0, 0, 0), (.lcmp, 0, 0, 0, 0)]
theorem bk_Lc24_1673 : xm_okb code 8 9 1 false 1678 1673 kLc24_1673 = true := by decide +kernel
def kLc24_1628 : List xm_I := [(.sipush 0, 0, 0, 0, 2), (.iadd, 0, 0, 0, 0), (.iaload, 1, 0, 0, 0), (.aload 0, 3, 0, 0, 0)]
theorem bk_Lc24_1628 : xm_okb code 8 9 1 false 1632 1628 kLc24_1628 = true := by decide +kernel
def kLc24_1645 : List xm_I := [(.iload 0, 5, 0, 0, 0), (.sipush 0, 0, 0, 0, 2), (.iadd, 0, 0, 0, 0), (.iaload, 1, 0, 0, 0)]
theorem bk_Lc24_1645 : xm_okb code 8 9 1 false 1650 1645 kLc24_1645 = true := by decide +kernel
def kLc24_1678 : List xm_I := [(.ifCond .eq 0, 1683, 0, 0, 0), (.sipush 0, 0, 0, 0, 0), (.ireturn, 1, 0, 0, 0)]
theorem bk_Lc24_1678 : xm_okb code 8 9 1 false 1683 1678 kLc24_1678 = true := by decide +kernel
def kb_Lc24 : List (Nat × Nat × List xm_I) := [(1618, 1623, kLc24_1618), (1635, 1641, kLc24_1635), (1653, 1656, kLc24_1653), (1659, 1666, kLc24_1659), (1666, 1673, kLc24_1666), (1683, 1686, kLc24_1683), (1623, 1628, kLc24_1623), (1641, 1645, kLc24_1641), (1673, 1678, kLc24_1673), (1628, 1632, kLc24_1628), (1645, 1650, kLc24_1645), (1678, 1683, kLc24_1678)]
theorem lb_Lc24_1618 : xm_lk kb_Lc24 1618 = some (1623, kLc24_1618) := rfl
theorem lb_Lc24_1635 : xm_lk kb_Lc24 1635 = some (1641, kLc24_1635) := rfl
theorem lb_Lc24_1653 : xm_lk kb_Lc24 1653 = some (1656, kLc24_1653) := rfl
theorem lb_Lc24_1659 : xm_lk kb_Lc24 1659 = some (1666, kLc24_1659) := rfl
theorem lb_Lc24_1666 : xm_lk kb_Lc24 1666 = some (1673, kLc24_1666) := rfl
theorem lb_Lc24_1683 : xm_lk kb_Lc24 1683 = some (1686, kLc24_1683) := rfl
theorem lb_Lc24_1623 : xm_lk kb_Lc24 1623 = some (1628, kLc24_1623) := rfl
theorem lb_Lc24_1641 : xm_lk kb_Lc24 1641 = some (1645, kLc24_1641) := rfl
theorem lb_Lc24_1673 : xm_lk kb_Lc24 1673 = some (1678, kLc24_1673) := rfl
theorem lb_Lc24_1628 : xm_lk kb_Lc24 1628 = some (1632, kLc24_1628) := rfl
theorem lb_Lc24_1645 : xm_lk kb_Lc24 1645 = some (1650, kLc24_1645) := rfl
theorem lb_Lc24_1678 : xm_lk kb_Lc24 1678 = some (1683, kLc24_1678) := rfl
theorem lb_Lc24_1632 : xm_lk kb_Lc24 1632 = none := rfl
theorem lb_Lc24_1650 : xm_lk kb_Lc24 1650 = none := rfl
theorem lb_Lc24_1656 : xm_lk kb_Lc24 1656 = none := rfl
theorem lb_Lc24_1686 : xm_lk kb_Lc24 1686 = none := rfl
theorem lb_Lc24_2034 : xm_lk kb_Lc24 2034 = none := rfl
theorem kc_Lc24 : xm_oks code 8 9 1 false kb_Lc24 := (List.forall_mem_cons.mpr ⟨bk_Lc24_1618, (List.forall_mem_cons.mpr ⟨bk_Lc24_1635, (List.forall_mem_cons.mpr ⟨bk_Lc24_1653, (List.forall_mem_cons.mpr ⟨bk_Lc24_1659, (List.forall_mem_cons.mpr ⟨bk_Lc24_1666, (List.forall_mem_cons.mpr ⟨bk_Lc24_1683, (List.forall_mem_cons.mpr ⟨bk_Lc24_1623, (List.forall_mem_cons.mpr ⟨bk_Lc24_1641, (List.forall_mem_cons.mpr ⟨bk_Lc24_1673, (List.forall_mem_cons.mpr ⟨bk_Lc24_1628, (List.forall_mem_cons.mpr ⟨bk_Lc24_1645, (List.forall_mem_cons.mpr ⟨bk_Lc24_1678, (fun _ h => absurd h List.not_mem_nil)⟩)⟩)⟩)⟩)⟩)⟩)⟩)⟩)⟩)⟩)⟩)⟩)
def kLc25_1686 : List xm_I := [(.aload 0, 1, 0, 0, 0), (.aload 0, 0, 0, 0, 0), (.iload 0, 5, 0, 0, 0), (.sipush 0, 0, 0, 0, 1)]
theorem bk_Lc25_1686 : xm_okb code 8 9 1 false 1691 1686 kLc25_1686 = true := by decide +kernel
def kLc25_1697 : List xm_I := [(.istore 0, 6, 0, 0, 0), (.aload 0, 2, 0, 0, 0), (.aload 0, 0, 0, 0, 0), (.iload 0, 5, 0, 0, 0)]
theorem bk_Lc25_1697 : xm_okb code 8 9 1 false 1703 1697 kLc25_1697 = true := by decide +kernel
def kLc25_1709 : List xm_I := [(.istore 0, 7, 0, 0, 0), (.aload 0, 2, 0, 0, 0)]
theorem bk_Lc25_1709 : xm_okb code 8 9 1 false 1712 1709 kLc25_1709 = true := by decide +kernel
def kLc25_1715 : List xm_I := [(.iload 0, 6, 0, 0, 0), (.if_icmp .eq 0, 1722, 0, 0, 0), (.sipush 0, 0, 0, 0, 0), (.ireturn, 1, 0, 0, 0)]
theorem bk_Lc25_1715 : xm_okb code 8 9 1 false 1722 1715 kLc25_1715 = true := by decide +kernel
def kLc25_1722 : List xm_I := [(.iload 0, 6, 0, 0, 0), (.ifCond .ne 0, 1739, 0, 0, 0), (.aload 0, 3, 0, 0, 0), (.sipush 0, 0, 0, 0, 0)]
theorem bk_Lc25_1722 : xm_okb code 8 9 1 false 1729 1722 kLc25_1722 = true := by decide +kernel
def kLc25_1739 : List xm_I := [(.goto 0, 2034, 0, 0, 0)]
theorem bk_Lc25_1739 : xm_okb code 8 9 1 false 1742 1739 kLc25_1739 = true := by decide +kernel
def kLc25_1691 : List xm_I := [(.iadd, 0, 0, 0, 0), (.iaload, 1, 0, 0, 0), (.aload 0, 3, 0, 0, 0)]
theorem bk_Lc25_1691 : xm_okb code 8 9 1 false 1694 1691 kLc25_1691 = true := by decide +kernel
def kLc25_1703 : List xm_I := [(.sipush 0, 0, 0, 0, 1), (.iadd, 0, 0, 0, 0), (.iaload, 1, 0, 0, 0)]
theorem bk_Lc25_1703 : xm_okb code 8 9 1 false 1706 1703 kLc25_1703 = true := by decide +kernel
def kLc25_1729 : List xm_I := [(.laload, 0, 0, 0, 0), (.iload 0, 7, 0, 0, 0), (.i2l, 0, 0, 0, 0), (.lcmp, 0, 0, 0, 0)]
theorem bk_Lc25_1729 : xm_okb code 8 9 1 false 1734 1729 kLc25_1729 = true := by decide +kernel
def kLc25_1734 : List xm_I := [(.ifCond .eq 0, 1739, 0, 0, 0), (.sipush 0, 0, 0, 0, 0), (.ireturn, 1, 0, 0, 0)]
theorem bk_Lc25_1734 : xm_okb code 8 9 1 false 1739 1734 kLc25_1734 = true := by decide +kernel
def kb_Lc25 : List (Nat × Nat × List xm_I) := [(1686, 1691, kLc25_1686), (1697, 1703, kLc25_1697), (1709, 1712, kLc25_1709), (1715, 1722, kLc25_1715), (1722, 1729, kLc25_1722), (1739, 1742, kLc25_1739), (1691, 1694, kLc25_1691), (1703, 1706, kLc25_1703), (1729, 1734, kLc25_1729), (1734, 1739, kLc25_1734)]
theorem lb_Lc25_1686 : xm_lk kb_Lc25 1686 = some (1691, kLc25_1686) := rfl
theorem lb_Lc25_1697 : xm_lk kb_Lc25 1697 = some (1703, kLc25_1697) := rfl
theorem lb_Lc25_1709 : xm_lk kb_Lc25 1709 = some (1712, kLc25_1709) := rfl
theorem lb_Lc25_1715 : xm_lk kb_Lc25 1715 = some (1722, kLc25_1715) := rfl
theorem lb_Lc25_1722 : xm_lk kb_Lc25 1722 = some (1729, kLc25_1722) := rfl
theorem lb_Lc25_1739 : xm_lk kb_Lc25 1739 = some (1742, kLc25_1739) := rfl
theorem lb_Lc25_1691 : xm_lk kb_Lc25 1691 = some (1694, kLc25_1691) := rfl
theorem lb_Lc25_1703 : xm_lk kb_Lc25 1703 = some (1706, kLc25_1703) := rfl
theorem lb_Lc25_1729 : xm_lk kb_Lc25 1729 = some (1734, kLc25_1729) := rfl
theorem lb_Lc25_1734 : xm_lk kb_Lc25 1734 = some (1739, kLc25_1734) := rfl
theorem lb_Lc25_1694 : xm_lk kb_Lc25 1694 = none := rfl
theorem lb_Lc25_1706 : xm_lk kb_Lc25 1706 = none := rfl
theorem lb_Lc25_1712 : xm_lk kb_Lc25 1712 = none := rfl
theorem lb_Lc25_1742 : xm_lk kb_Lc25 1742 = none := rfl
theorem lb_Lc25_2034 : xm_lk kb_Lc25 2034 = none := rfl
theorem kc_Lc25 : xm_oks code 8 9 1 false kb_Lc25 := (List.forall_mem_cons.mpr ⟨bk_Lc25_1686, (List.forall_mem_cons.mpr ⟨bk_Lc25_1697, (List.forall_mem_cons.mpr ⟨bk_Lc25_1709, (List.forall_mem_cons.mpr ⟨bk_Lc25_1715, (List.forall_mem_cons.mpr ⟨bk_Lc25_1722, (List.forall_mem_cons.mpr ⟨bk_Lc25_1739, (List.forall_mem_cons.mpr ⟨bk_Lc25_1691, (List.forall_mem_cons.mpr ⟨bk_Lc25_1703, (List.forall_mem_cons.mpr ⟨bk_Lc25_1729, (List.forall_mem_cons.mpr ⟨bk_Lc25_1734, (fun _ h => absurd h List.not_mem_nil)⟩)⟩)⟩)⟩)⟩)⟩)⟩)⟩)⟩)⟩)
def kLc26_1742 : List xm_I := [(.aload 0, 1, 0, 0, 0), (.aload 0, 0, 0, 0, 0), (.iload 0, 5, 0, 0, 0), (.sipush 0, 0, 0, 0, 1)]
theorem bk_Lc26_1742 : xm_okb code 8 9 1 false 1747 1742 kLc26_1742 = true := by decide +kernel
def kLc26_1759 : List xm_I := [(.istore 0, 6, 0, 0, 0), (.aload 0, 2, 0, 0, 0), (.aload 0, 0, 0, 0, 0), (.iload 0, 5, 0, 0, 0)]
theorem bk_Lc26_1759 : xm_okb code 8 9 1 false 1765 1759 kLc26_1759 = true := by decide +kernel
def kLc26_1777 : List xm_I := [(.istore 0, 7, 0, 0, 0), (.aload 0, 2, 0, 0, 0)]
theorem bk_Lc26_1777 : xm_okb code 8 9 1 false 1780 1777 kLc26_1777 = true := by decide +kernel
def kLc26_1783 : List xm_I := [(.iload 0, 6, 0, 0, 0), (.if_icmp .eq 0, 1790, 0, 0, 0), (.sipush 0, 0, 0, 0, 0), (.ireturn, 1, 0, 0, 0)]
theorem bk_Lc26_1783 : xm_okb code 8 9 1 false 1790 1783 kLc26_1783 = true := by decide +kernel
def kLc26_1790 : List xm_I := [(.iload 0, 6, 0, 0, 0), (.ifCond .ne 0, 1807, 0, 0, 0), (.aload 0, 3, 0, 0, 0), (.sipush 0, 0, 0, 0, 0)]
theorem bk_Lc26_1790 : xm_okb code 8 9 1 false 1797 1790 kLc26_1790 = true := by decide +kernel
def kLc26_1807 : List xm_I := [(.goto 0, 2034, 0, 0, 0)]
theorem bk_Lc26_1807 : xm_okb code 8 9 1 false 1810 1807 kLc26_1807 = true := by decide +kernel
def kLc26_1747 : List xm_I := [(.iadd, 0, 0, 0, 0), (.iaload, 1, 0, 0, 0), (.aload 0, 0, 0, 0, 0), (.iload 0, 5, 0, 0, 0)]
theorem bk_Lc26_1747 : xm_okb code 8 9 1 false 1752 1747 kLc26_1747 = true := by decide +kernel
def kLc26_1765 : List xm_I := [(.sipush 0, 0, 0, 0, 1), (.iadd, 0, 0, 0, 0), (.iaload, 1, 0, 0, 0), (.aload 0, 0, 0, 0, 0)]
theorem bk_Lc26_1765 : xm_okb code 8 9 1 false 1769 1765 kLc26_1765 = true := by decide +kernel
def kLc26_1797 : List xm_I := [(.laload, 0, 0, 0, 0), (.iload 0, 7, 0, 0, 0), (.i2l, 0, 0, 0, 0), (.lcmp, 0, 0, 0, 0)]
theorem bk_Lc26_1797 : xm_okb code 8 9 1 false 1802 1797 kLc26_1797 = true := by decide +kernel
def kLc26_1752 : List xm_I := [(.sipush 0, 0, 0, 0, 2), (.iadd, 0, 0, 0, 0), (.iaload, 1, 0, 0, 0), (.aload 0, 3, 0, 0, 0)]
theorem bk_Lc26_1752 : xm_okb code 8 9 1 false 1756 1752 kLc26_1752 = true := by decide +kernel
def kLc26_1769 : List xm_I := [(.iload 0, 5, 0, 0, 0), (.sipush 0, 0, 0, 0, 2), (.iadd, 0, 0, 0, 0), (.iaload, 1, 0, 0, 0)]
theorem bk_Lc26_1769 : xm_okb code 8 9 1 false 1774 1769 kLc26_1769 = true := by decide +kernel
def kLc26_1802 : List xm_I := [(.ifCond .eq 0, 1807, 0, 0, 0), (.sipush 0, 0, 0, 0, 0), (.ireturn, 1, 0, 0, 0)]
theorem bk_Lc26_1802 : xm_okb code 8 9 1 false 1807 1802 kLc26_1802 = true := by decide +kernel
def kb_Lc26 : List (Nat × Nat × List xm_I) := [(1742, 1747, kLc26_1742), (1759, 1765, kLc26_1759), (1777, 1780, kLc26_1777), (1783, 1790, kLc26_1783), (1790, 1797, kLc26_1790), (1807, 1810, kLc26_1807), (1747, 1752, kLc26_1747), (1765, 1769, kLc26_1765), (1797, 1802, kLc26_1797), (1752, 1756, kLc26_1752), (1769, 1774, kLc26_1769), (1802, 1807, kLc26_1802)]
theorem lb_Lc26_1742 : xm_lk kb_Lc26 1742 = some (1747, kLc26_1742) := rfl
theorem lb_Lc26_1759 : xm_lk kb_Lc26 1759 = some (1765, kLc26_1759) := rfl
theorem lb_Lc26_1777 : xm_lk kb_Lc26 1777 = some (1780, kLc26_1777) := rfl
theorem lb_Lc26_1783 : xm_lk kb_Lc26 1783 = some (1790, kLc26_1783) := rfl
theorem lb_Lc26_1790 : xm_lk kb_Lc26 1790 = some (1797, kLc26_1790) := rfl
theorem lb_Lc26_1807 : xm_lk kb_Lc26 1807 = some (1810, kLc26_1807) := rfl
theorem lb_Lc26_1747 : xm_lk kb_Lc26 1747 = some (1752, kLc26_1747) := rfl
theorem lb_Lc26_1765 : xm_lk kb_Lc26 1765 = some (1769, kLc26_1765) := rfl
theorem lb_Lc26_1797 : xm_lk kb_Lc26 1797 = some (1802, kLc26_1797) := rfl
theorem lb_Lc26_1752 : xm_lk kb_Lc26 1752 = some (1756, kLc26_1752) := rfl
theorem lb_Lc26_1769 : xm_lk kb_Lc26 1769 = some (1774, kLc26_1769) := rfl
theorem lb_Lc26_1802 : xm_lk kb_Lc26 1802 = some (1807, kLc26_1802) := rfl
theorem lb_Lc26_1756 : xm_lk kb_Lc26 1756 = none := rfl
theorem lb_Lc26_1774 : xm_lk kb_Lc26 1774 = none := rfl
theorem lb_Lc26_1780 : xm_lk kb_Lc26 1780 = none := rfl
theorem lb_Lc26_1810 : xm_lk kb_Lc26 1810 = none := rfl
theorem lb_Lc26_2034 : xm_lk kb_Lc26 2034 = none := rfl
theorem kc_Lc26 : xm_oks code 8 9 1 false kb_Lc26 := (List.forall_mem_cons.mpr ⟨bk_Lc26_1742, (List.forall_mem_cons.mpr ⟨bk_Lc26_1759, (List.forall_mem_cons.mpr ⟨bk_Lc26_1777, (List.forall_mem_cons.mpr ⟨bk_Lc26_1783, (List.forall_mem_cons.mpr ⟨bk_Lc26_1790, (List.forall_mem_cons.mpr ⟨bk_Lc26_1807, (List.forall_mem_cons.mpr ⟨bk_Lc26_1747, (List.forall_mem_cons.mpr ⟨bk_Lc26_1765, (List.forall_mem_cons.mpr ⟨bk_Lc26_1797, (List.forall_mem_cons.mpr ⟨bk_Lc26_1752, (List.forall_mem_cons.mpr ⟨bk_Lc26_1769, (List.forall_mem_cons.mpr ⟨bk_Lc26_1802, (fun _ h => absurd h List.not_mem_nil)⟩)⟩)⟩)⟩)⟩)⟩)⟩)⟩)⟩)⟩)⟩)⟩)
def kLc27_1810 : List xm_I := [(.aload 0, 1, 0, 0, 0), (.aload 0, 0, 0, 0, 0), (.iload 0, 5, 0, 0, 0), (.sipush 0, 0, 0, 0, 1)]
theorem bk_Lc27_1810 : xm_okb code 8 9 1 false 1815 1810 kLc27_1810 = true := by decide +kernel
def kLc27_1821 : List xm_I := [(.istore 0, 6, 0, 0, 0), (.aload 0, 2, 0, 0, 0), (.aload 0, 0, 0, 0, 0), (.iload 0, 5, 0, 0, 0)]
theorem bk_Lc27_1821 : xm_okb code 8 9 1 false 1827 1821 kLc27_1821 = true := by decide +kernel
def kLc27_1833 : List xm_I := [(.istore 0, 7, 0, 0, 0), (.aload 0, 2, 0, 0, 0)]
theorem bk_Lc27_1833 : xm_okb code 8 9 1 false 1836 1833 kLc27_1833 = true := by decide +kernel
def kLc27_1839 : List xm_I := [(.iload 0, 6, 0, 0, 0), (.if_icmp .eq 0, 1846, 0, 0, 0), (.sipush 0, 0, 0, 0, 0), (.ireturn, 1, 0, 0, 0)]
theorem bk_Lc27_1839 : xm_okb code 8 9 1 false 1846 1839 kLc27_1839 = true := by decide +kernel
def kLc27_1846 : List xm_I := [(.iload 0, 6, 0, 0, 0), (.ifCond .ne 0, 1863, 0, 0, 0), (.aload 0, 3, 0, 0, 0), (.sipush 0, 0, 0, 0, 0)]
theorem bk_Lc27_1846 : xm_okb code 8 9 1 false 1853 1846 kLc27_1846 = true := by decide +kernel
def kLc27_1863 : List xm_I := [(.goto 0, 2034, 0, 0, 0)]
theorem bk_Lc27_1863 : xm_okb code 8 9 1 false 1866 1863 kLc27_1863 = true := by decide +kernel
def kLc27_1815 : List xm_I := [(.iadd, 0, 0, 0, 0), (.iaload, 1, 0, 0, 0), (.aload 0, 3, 0, 0, 0)]
theorem bk_Lc27_1815 : xm_okb code 8 9 1 false 1818 1815 kLc27_1815 = true := by decide +kernel
def kLc27_1827 : List xm_I := [(.sipush 0, 0, 0, 0, 1), (.iadd, 0, 0, 0, 0), (.iaload, 1, 0, 0, 0)]
theorem bk_Lc27_1827 : xm_okb code 8 9 1 false 1830 1827 kLc27_1827 = true := by decide +kernel
def kLc27_1853 : List xm_I := [(.laload, 0, 0, 0, 0), (.iload 0, 7, 0, 0, 0), (.i2l, 0, 0, 0, 0), (.lcmp, 0, 0, 0, 0)]
theorem bk_Lc27_1853 : xm_okb code 8 9 1 false 1858 1853 kLc27_1853 = true := by decide +kernel
def kLc27_1858 : List xm_I := [(.ifCond .eq 0, 1863, 0, 0, 0), (.sipush 0, 0, 0, 0, 0), (.ireturn, 1, 0, 0, 0)]
theorem bk_Lc27_1858 : xm_okb code 8 9 1 false 1863 1858 kLc27_1858 = true := by decide +kernel
def kb_Lc27 : List (Nat × Nat × List xm_I) := [(1810, 1815, kLc27_1810), (1821, 1827, kLc27_1821), (1833, 1836, kLc27_1833), (1839, 1846, kLc27_1839), (1846, 1853, kLc27_1846), (1863, 1866, kLc27_1863), (1815, 1818, kLc27_1815), (1827, 1830, kLc27_1827), (1853, 1858, kLc27_1853), (1858, 1863, kLc27_1858)]
theorem lb_Lc27_1810 : xm_lk kb_Lc27 1810 = some (1815, kLc27_1810) := rfl
theorem lb_Lc27_1821 : xm_lk kb_Lc27 1821 = some (1827, kLc27_1821) := rfl
theorem lb_Lc27_1833 : xm_lk kb_Lc27 1833 = some (1836, kLc27_1833) := rfl
theorem lb_Lc27_1839 : xm_lk kb_Lc27 1839 = some (1846, kLc27_1839) := rfl
theorem lb_Lc27_1846 : xm_lk kb_Lc27 1846 = some (1853, kLc27_1846) := rfl
theorem lb_Lc27_1863 : xm_lk kb_Lc27 1863 = some (1866, kLc27_1863) := rfl
theorem lb_Lc27_1815 : xm_lk kb_Lc27 1815 = some (1818, kLc27_1815) := rfl
theorem lb_Lc27_1827 : xm_lk kb_Lc27 1827 = some (1830, kLc27_1827) := rfl
theorem lb_Lc27_1853 : xm_lk kb_Lc27 1853 = some (1858, kLc27_1853) := rfl
theorem lb_Lc27_1858 : xm_lk kb_Lc27 1858 = some (1863, kLc27_1858) := rfl
theorem lb_Lc27_1818 : xm_lk kb_Lc27 1818 = none := rfl
theorem lb_Lc27_1830 : xm_lk kb_Lc27 1830 = none := rfl
theorem lb_Lc27_1836 : xm_lk kb_Lc27 1836 = none := rfl
theorem lb_Lc27_1866 : xm_lk kb_Lc27 1866 = none := rfl
theorem lb_Lc27_2034 : xm_lk kb_Lc27 2034 = none := rfl
theorem kc_Lc27 : xm_oks code 8 9 1 false kb_Lc27 := (List.forall_mem_cons.mpr ⟨bk_Lc27_1810, (List.forall_mem_cons.mpr ⟨bk_Lc27_1821, (List.forall_mem_cons.mpr ⟨bk_Lc27_1833, (List.forall_mem_cons.mpr ⟨bk_Lc27_1839, (List.forall_mem_cons.mpr ⟨bk_Lc27_1846, (List.forall_mem_cons.mpr ⟨bk_Lc27_1863, (List.forall_mem_cons.mpr ⟨bk_Lc27_1815, (List.forall_mem_cons.mpr ⟨bk_Lc27_1827, (List.forall_mem_cons.mpr ⟨bk_Lc27_1853, (List.forall_mem_cons.mpr ⟨bk_Lc27_1858, (fun _ h => absurd h List.not_mem_nil)⟩)⟩)⟩)⟩)⟩)⟩)⟩)⟩)⟩)⟩)
def kLc28_1866 : List xm_I := [(.aload 0, 1, 0, 0, 0), (.aload 0, 0, 0, 0, 0), (.iload 0, 5, 0, 0, 0), (.sipush 0, 0, 0, 0, 1)]
theorem bk_Lc28_1866 : xm_okb code 8 9 1 false 1871 1866 kLc28_1866 = true := by decide +kernel
def kLc28_1877 : List xm_I := [(.istore 0, 6, 0, 0, 0), (.aload 0, 2, 0, 0, 0), (.aload 0, 0, 0, 0, 0), (.iload 0, 5, 0, 0, 0)]
theorem bk_Lc28_1877 : xm_okb code 8 9 1 false 1883 1877 kLc28_1877 = true := by decide +kernel
def kLc28_1889 : List xm_I := [(.istore 0, 7, 0, 0, 0), (.aload 0, 2, 0, 0, 0)]
theorem bk_Lc28_1889 : xm_okb code 8 9 1 false 1892 1889 kLc28_1889 = true := by decide +kernel
def kLc28_1895 : List xm_I := [(.iload 0, 6, 0, 0, 0), (.if_icmp .eq 0, 1902, 0, 0, 0), (.sipush 0, 0, 0, 0, 0), (.ireturn, 1, 0, 0, 0)]
theorem bk_Lc28_1895 : xm_okb code 8 9 1 false 1902 1895 kLc28_1895 = true := by decide +kernel
def kLc28_1902 : List xm_I := [(.iload 0, 6, 0, 0, 0), (.ifCond .ne 0, 1919, 0, 0, 0), (.aload 0, 3, 0, 0, 0), (.sipush 0, 0, 0, 0, 0)]
theorem bk_Lc28_1902 : xm_okb code 8 9 1 false 1909 1902 kLc28_1902 = true := by decide +kernel
def kLc28_1919 : List xm_I := [(.goto 0, 2034, 0, 0, 0)]
theorem bk_Lc28_1919 : xm_okb code 8 9 1 false 1922 1919 kLc28_1919 = true := by decide +kernel
def kLc28_1871 : List xm_I := [(.iadd, 0, 0, 0, 0), (.iaload, 1, 0, 0, 0), (.aload 0, 3, 0, 0, 0)]
theorem bk_Lc28_1871 : xm_okb code 8 9 1 false 1874 1871 kLc28_1871 = true := by decide +kernel
def kLc28_1883 : List xm_I := [(.sipush 0, 0, 0, 0, 1), (.iadd, 0, 0, 0, 0), (.iaload, 1, 0, 0, 0)]
theorem bk_Lc28_1883 : xm_okb code 8 9 1 false 1886 1883 kLc28_1883 = true := by decide +kernel
def kLc28_1909 : List xm_I := [(.laload, 0, 0, 0, 0), (.iload 0, 7, 0, 0, 0), (.i2l, 0, 0, 0, 0), (.lcmp, 0, 0, 0, 0)]
theorem bk_Lc28_1909 : xm_okb code 8 9 1 false 1914 1909 kLc28_1909 = true := by decide +kernel
def kLc28_1914 : List xm_I := [(.ifCond .eq 0, 1919, 0, 0, 0), (.sipush 0, 0, 0, 0, 0), (.ireturn, 1, 0, 0, 0)]
theorem bk_Lc28_1914 : xm_okb code 8 9 1 false 1919 1914 kLc28_1914 = true := by decide +kernel
def kb_Lc28 : List (Nat × Nat × List xm_I) := [(1866, 1871, kLc28_1866), (1877, 1883, kLc28_1877), (1889, 1892, kLc28_1889), (1895, 1902, kLc28_1895), (1902, 1909, kLc28_1902), (1919, 1922, kLc28_1919), (1871, 1874, kLc28_1871), (1883, 1886, kLc28_1883), (1909, 1914, kLc28_1909), (1914, 1919, kLc28_1914)]
theorem lb_Lc28_1866 : xm_lk kb_Lc28 1866 = some (1871, kLc28_1866) := rfl
theorem lb_Lc28_1877 : xm_lk kb_Lc28 1877 = some (1883, kLc28_1877) := rfl
theorem lb_Lc28_1889 : xm_lk kb_Lc28 1889 = some (1892, kLc28_1889) := rfl
theorem lb_Lc28_1895 : xm_lk kb_Lc28 1895 = some (1902, kLc28_1895) := rfl
theorem lb_Lc28_1902 : xm_lk kb_Lc28 1902 = some (1909, kLc28_1902) := rfl
theorem lb_Lc28_1919 : xm_lk kb_Lc28 1919 = some (1922, kLc28_1919) := rfl
theorem lb_Lc28_1871 : xm_lk kb_Lc28 1871 = some (1874, kLc28_1871) := rfl
theorem lb_Lc28_1883 : xm_lk kb_Lc28 1883 = some (1886, kLc28_1883) := rfl
theorem lb_Lc28_1909 : xm_lk kb_Lc28 1909 = some (1914, kLc28_1909) := rfl
theorem lb_Lc28_1914 : xm_lk kb_Lc28 1914 = some (1919, kLc28_1914) := rfl
theorem lb_Lc28_1874 : xm_lk kb_Lc28 1874 = none := rfl
theorem lb_Lc28_1886 : xm_lk kb_Lc28 1886 = none := rfl
theorem lb_Lc28_1892 : xm_lk kb_Lc28 1892 = none := rfl
theorem lb_Lc28_1922 : xm_lk kb_Lc28 1922 = none := rfl
theorem lb_Lc28_2034 : xm_lk kb_Lc28 2034 = none := rfl
theorem kc_Lc28 : xm_oks code 8 9 1 false kb_Lc28 := (List.forall_mem_cons.mpr ⟨bk_Lc28_1866, (List.forall_mem_cons.mpr ⟨bk_Lc28_1877, (List.forall_mem_cons.mpr ⟨bk_Lc28_1889, (List.forall_mem_cons.mpr ⟨bk_Lc28_1895, (List.forall_mem_cons.mpr ⟨bk_Lc28_1902, (List.forall_mem_cons.mpr ⟨bk_Lc28_1919, (List.forall_mem_cons.mpr ⟨bk_Lc28_1871, (List.forall_mem_cons.mpr ⟨bk_Lc28_1883, (List.forall_mem_cons.mpr ⟨bk_Lc28_1909, (List.forall_mem_cons.mpr ⟨bk_Lc28_1914, (fun _ h => absurd h List.not_mem_nil)⟩)⟩)⟩)⟩)⟩)⟩)⟩)⟩)⟩)⟩)
def kLc29_1922 : List xm_I := [(.aload 0, 1, 0, 0, 0), (.aload 0, 0, 0, 0, 0), (.iload 0, 5, 0, 0, 0), (.sipush 0, 0, 0, 0, 1)]
theorem bk_Lc29_1922 : xm_okb code 8 9 1 false 1927 1922 kLc29_1922 = true := by decide +kernel
def kLc29_1933 : List xm_I := [(.istore 0, 6, 0, 0, 0), (.aload 0, 2, 0, 0, 0), (.aload 0, 0, 0, 0, 0), (.iload 0, 5, 0, 0, 0)]
theorem bk_Lc29_1933 : xm_okb code 8 9 1 false 1939 1933 kLc29_1933 = true := by decide +kernel
def kLc29_1945 : List xm_I := [(.istore 0, 7, 0, 0, 0), (.aload 0, 2, 0, 0, 0)]
theorem bk_Lc29_1945 : xm_okb code 8 9 1 false 1948 1945 kLc29_1945 = true := by decide +kernel
def kLc29_1951 : List xm_I := [(.iload 0, 6, 0, 0, 0), (.if_icmp .eq 0, 1958, 0, 0, 0), (.sipush 0, 0, 0, 0, 0), (.ireturn, 1, 0, 0, 0)]
theorem bk_Lc29_1951 : xm_okb code 8 9 1 false 1958 1951 kLc29_1951 = true := by decide +kernel
def kLc29_1958 : List xm_I := [(.iload 0, 6, 0, 0, 0), (.ifCond .ne 0, 1975, 0, 0, 0), (.aload 0, 3, 0, 0, 0), (.sipush 0, 0, 0, 0, 0)]
theorem bk_Lc29_1958 : xm_okb code 8 9 1 false 1965 1958 kLc29_1958 = true := by decide +kernel
def kLc29_1975 : List xm_I := [(.goto 0, 2034, 0, 0, 0)]
theorem bk_Lc29_1975 : xm_okb code 8 9 1 false 1978 1975 kLc29_1975 = true := by decide +kernel
def kLc29_1927 : List xm_I := [(.iadd, 0, 0, 0, 0), (.iaload, 1, 0, 0, 0), (.aload 0, 3, 0, 0, 0)]
theorem bk_Lc29_1927 : xm_okb code 8 9 1 false 1930 1927 kLc29_1927 = true := by decide +kernel
def kLc29_1939 : List xm_I := [(.sipush 0, 0, 0, 0, 1), (.iadd, 0, 0, 0, 0), (.iaload, 1, 0, 0, 0)]
theorem bk_Lc29_1939 : xm_okb code 8 9 1 false 1942 1939 kLc29_1939 = true := by decide +kernel
def kLc29_1965 : List xm_I := [(.laload, 0, 0, 0, 0), (.iload 0, 7, 0, 0, 0), (.i2l, 0, 0, 0, 0), (.lcmp, 0, 0, 0, 0)]
theorem bk_Lc29_1965 : xm_okb code 8 9 1 false 1970 1965 kLc29_1965 = true := by decide +kernel
def kLc29_1970 : List xm_I := [(.ifCond .eq 0, 1975, 0, 0, 0), (.sipush 0, 0, 0, 0, 0), (.ireturn, 1, 0, 0, 0)]
theorem bk_Lc29_1970 : xm_okb code 8 9 1 false 1975 1970 kLc29_1970 = true := by decide +kernel
def kb_Lc29 : List (Nat × Nat × List xm_I) := [(1922, 1927, kLc29_1922), (1933, 1939, kLc29_1933), (1945, 1948, kLc29_1945), (1951, 1958, kLc29_1951), (1958, 1965, kLc29_1958), (1975, 1978, kLc29_1975), (1927, 1930, kLc29_1927), (1939, 1942, kLc29_1939), (1965, 1970, kLc29_1965), (1970, 1975, kLc29_1970)]
theorem lb_Lc29_1922 : xm_lk kb_Lc29 1922 = some (1927, kLc29_1922) := rfl
theorem lb_Lc29_1933 : xm_lk kb_Lc29 1933 = some (1939, kLc29_1933) := rfl
theorem lb_Lc29_1945 : xm_lk kb_Lc29 1945 = some (1948, kLc29_1945) := rfl
theorem lb_Lc29_1951 : xm_lk kb_Lc29 1951 = some (1958, kLc29_1951) := rfl
theorem lb_Lc29_1958 : xm_lk kb_Lc29 1958 = some (1965, kLc29_1958) := rfl
theorem lb_Lc29_1975 : xm_lk kb_Lc29 1975 = some (1978, kLc29_1975) := rfl
theorem lb_Lc29_1927 : xm_lk kb_Lc29 1927 = some (1930, kLc29_1927) := rfl
theorem lb_Lc29_1939 : xm_lk kb_Lc29 1939 = some (1942, kLc29_1939) := rfl
theorem lb_Lc29_1965 : xm_lk kb_Lc29 1965 = some (1970, kLc29_1965) := rfl
theorem lb_Lc29_1970 : xm_lk kb_Lc29 1970 = some (1975, kLc29_1970) := rfl
theorem lb_Lc29_1930 : xm_lk kb_Lc29 1930 = none := rfl
theorem lb_Lc29_1942 : xm_lk kb_Lc29 1942 = none := rfl
theorem lb_Lc29_1948 : xm_lk kb_Lc29 1948 = none := rfl
theorem lb_Lc29_1978 : xm_lk kb_Lc29 1978 = none := rfl
theorem lb_Lc29_2034 : xm_lk kb_Lc29 2034 = none := rfl
theorem kc_Lc29 : xm_oks code 8 9 1 false kb_Lc29 := (List.forall_mem_cons.mpr ⟨bk_Lc29_1922, (List.forall_mem_cons.mpr ⟨bk_Lc29_1933, (List.forall_mem_cons.mpr ⟨bk_Lc29_1945, (List.forall_mem_cons.mpr ⟨bk_Lc29_1951, (List.forall_mem_cons.mpr ⟨bk_Lc29_1958, (List.forall_mem_cons.mpr ⟨bk_Lc29_1975, (List.forall_mem_cons.mpr ⟨bk_Lc29_1927, (List.forall_mem_cons.mpr ⟨bk_Lc29_1939, (List.forall_mem_cons.mpr ⟨bk_Lc29_1965, (List.forall_mem_cons.mpr ⟨bk_Lc29_1970, (fun _ h => absurd h List.not_mem_nil)⟩)⟩)⟩)⟩)⟩)⟩)⟩)⟩)⟩)⟩)
def kLc30_1978 : List xm_I := [(.aload 0, 1, 0, 0, 0), (.aload 0, 0, 0, 0, 0), (.iload 0, 5, 0, 0, 0), (.sipush 0, 0, 0, 0, 1)]
theorem bk_Lc30_1978 : xm_okb code 8 9 1 false 1983 1978 kLc30_1978 = true := by decide +kernel
def kLc30_1989 : List xm_I := [(.istore 0, 6, 0, 0, 0), (.aload 0, 2, 0, 0, 0), (.aload 0, 0, 0, 0, 0), (.iload 0, 5, 0, 0, 0)]
theorem bk_Lc30_1989 : xm_okb code 8 9 1 false 1995 1989 kLc30_1989 = true := by decide +kernel
def kLc30_2001 : List xm_I := [(.istore 0, 7, 0, 0, 0), (.aload 0, 2, 0, 0, 0)]
theorem bk_Lc30_2001 : xm_okb code 8 9 1 false 2004 2001 kLc30_2001 = true := by decide +kernel
def kLc30_2007 : List xm_I := [(.iload 0, 6, 0, 0, 0), (.if_icmp .eq 0, 2014, 0, 0, 0), (.sipush 0, 0, 0, 0, 0), (.ireturn, 1, 0, 0, 0)]
theorem bk_Lc30_2007 : xm_okb code 8 9 1 false 2014 2007 kLc30_2007 = true := by decide +kernel
def kLc30_2014 : List xm_I := [(.iload 0, 6, 0, 0, 0), (.ifCond .ne 0, 2031, 0, 0, 0), (.aload 0, 3, 0, 0, 0), (.sipush 0, 0, 0, 0, 0)]
theorem bk_Lc30_2014 : xm_okb code 8 9 1 false 2021 2014 kLc30_2014 = true := by decide +kernel
def kLc30_2031 : List xm_I := [(.goto 0, 2034, 0, 0, 0)]
theorem bk_Lc30_2031 : xm_okb code 8 9 1 false 2034 2031 kLc30_2031 = true := by decide +kernel
def kLc30_1983 : List xm_I := [(.iadd, 0, 0, 0, 0), (.iaload, 1, 0, 0, 0), (.aload 0, 3, 0, 0, 0)]
theorem bk_Lc30_1983 : xm_okb code 8 9 1 false 1986 1983 kLc30_1983 = true := by decide +kernel
def kLc30_1995 : List xm_I := [(.sipush 0, 0, 0, 0, 1), (.iadd, 0, 0, 0, 0), (.iaload, 1, 0, 0, 0)]
theorem bk_Lc30_1995 : xm_okb code 8 9 1 false 1998 1995 kLc30_1995 = true := by decide +kernel
def kLc30_2021 : List xm_I := [(.laload, 0, 0, 0, 0), (.iload 0, 7, 0, 0, 0), (.i2l, 0, 0, 0, 0), (.lcmp, 0, 0, 0, 0)]
theorem bk_Lc30_2021 : xm_okb code 8 9 1 false 2026 2021 kLc30_2021 = true := by decide +kernel
def kLc30_2026 : List xm_I := [(.ifCond .eq 0, 2031, 0, 0, 0), (.sipush 0, 0, 0, 0, 0), (.ireturn, 1, 0, 0, 0)]
theorem bk_Lc30_2026 : xm_okb code 8 9 1 false 2031 2026 kLc30_2026 = true := by decide +kernel
def kb_Lc30 : List (Nat × Nat × List xm_I) := [(1978, 1983, kLc30_1978), (1989, 1995, kLc30_1989), (2001, 2004, kLc30_2001), (2007, 2014, kLc30_2007), (2014, 2021, kLc30_2014), (2031, 2034, kLc30_2031), (1983, 1986, kLc30_1983), (1995, 1998, kLc30_1995), (2021, 2026, kLc30_2021), (2026, 2031, kLc30_2026)]
theorem lb_Lc30_1978 : xm_lk kb_Lc30 1978 = some (1983, kLc30_1978) := rfl
theorem lb_Lc30_1989 : xm_lk kb_Lc30 1989 = some (1995, kLc30_1989) := rfl
theorem lb_Lc30_2001 : xm_lk kb_Lc30 2001 = some (2004, kLc30_2001) := rfl
theorem lb_Lc30_2007 : xm_lk kb_Lc30 2007 = some (2014, kLc30_2007) := rfl
theorem lb_Lc30_2014 : xm_lk kb_Lc30 2014 = some (2021, kLc30_2014) := rfl
theorem lb_Lc30_2031 : xm_lk kb_Lc30 2031 = some (2034, kLc30_2031) := rfl
theorem lb_Lc30_1983 : xm_lk kb_Lc30 1983 = some (1986, kLc30_1983) := rfl
theorem lb_Lc30_1995 : xm_lk kb_Lc30 1995 = some (1998, kLc30_1995) := rfl
theorem lb_Lc30_2021 : xm_lk kb_Lc30 2021 = some (2026, kLc30_2021) := rfl
theorem lb_Lc30_2026 : xm_lk kb_Lc30 2026 = some (2031, kLc30_2026) := rfl
theorem lb_Lc30_1986 : xm_lk kb_Lc30 1986 = none := rfl
theorem lb_Lc30_1998 : xm_lk kb_Lc30 1998 = none := rfl
theorem lb_Lc30_2004 : xm_lk kb_Lc30 2004 = none := rfl
theorem lb_Lc30_2034 : xm_lk kb_Lc30 2034 = none := rfl
theorem kc_Lc30 : xm_oks code 8 9 1 false kb_Lc30 := (List.forall_mem_cons.mpr ⟨bk_Lc30_1978, (List.forall_mem_cons.mpr ⟨bk_Lc30_1989, (List.forall_mem_cons.mpr ⟨bk_Lc30_2001, (List.forall_mem_cons.mpr ⟨bk_Lc30_2007, (List.forall_mem_cons.mpr ⟨bk_Lc30_2014, (List.forall_mem_cons.mpr ⟨bk_Lc30_2031, (List.forall_mem_cons.mpr ⟨bk_Lc30_1983, (List.forall_mem_cons.mpr ⟨bk_Lc30_1995, (List.forall_mem_cons.mpr ⟨bk_Lc30_2021, (List.forall_mem_cons.mpr ⟨bk_Lc30_2026, (fun _ h => absurd h List.not_mem_nil)⟩)⟩)⟩)⟩)⟩)⟩)⟩)⟩)⟩)⟩)
def kLt_2034 : List xm_I := [(.iinc 0 0, 5, 0, 0, 6), (.goto 0, 28, 0, 0, 0)]
theorem bk_Lt_2034 : xm_okb code 8 9 1 false 2040 2034 kLt_2034 = true := by decide +kernel
def kLt_2040 : List xm_I := [(.sipush 0, 0, 0, 0, 1), (.ireturn, 1, 0, 0, 0)]
theorem bk_Lt_2040 : xm_okb code 8 9 1 false 2042 2040 kLt_2040 = true := by decide +kernel
def kb_Lt : List (Nat × Nat × List xm_I) := [(2034, 2040, kLt_2034), (2040, 2042, kLt_2040)]
theorem lb_Lt_2034 : xm_lk kb_Lt 2034 = some (2040, kLt_2034) := rfl
theorem lb_Lt_2040 : xm_lk kb_Lt 2040 = some (2042, kLt_2040) := rfl
theorem lb_Lt_28 : xm_lk kb_Lt 28 = none := rfl
theorem lb_Lt_2042 : xm_lk kb_Lt 2042 = none := rfl
theorem kc_Lt : xm_oks code 8 9 1 false kb_Lt := (List.forall_mem_cons.mpr ⟨bk_Lt_2034, (List.forall_mem_cons.mpr ⟨bk_Lt_2040, (fun _ h => absurd h List.not_mem_nil)⟩)⟩)

/-! WORDS: the tables' good words, by their places -/
def lw_tb : List Cond := lw_tbl.filter goodWord
theorem lw_tb_good : ∀ w ∈ lw_tb, goodWord w = true := fun _ h => (List.mem_filter.mp h).2
theorem lw_tb_in : ∀ w ∈ lw_tb, w ∈ lw_tbl := fun _ h => (List.mem_filter.mp h).1
theorem wq_of (ws : List Cond) (ps : List Nat) (h : ps.map (fun i => lw_tbl[i]?) = ws.map some) (hg : ws.all goodWord = true) : ∀ w ∈ ws, w ∈ lw_tb := by
  intro w hw
  refine List.mem_filter.mpr ⟨?_, List.all_eq_true.mp hg w hw⟩
  have h1 : some w ∈ ps.map (fun i => lw_tbl[i]?) := by rw [h]; exact List.mem_map_of_mem hw
  obtain ⟨i, -, hi⟩ := List.mem_map.mp h1
  exact List.mem_of_getElem? hi
theorem wq_at {ws : List Cond} (h : ∀ w ∈ ws, w ∈ lw_tb) (i : Nat) {w : Cond} (hi : ws[i]? = some w) : w ∈ lw_tb := h w (List.mem_of_getElem? hi)
def xm_ty (ci : Nat) : Nat → FieldType := match ci with
  | 0 => tyX0
  | 1 => tyX1
  | 2 => tyX2
  | 3 => tyX3
  | 4 => tyX4
  | 5 => tyX5
  | 6 => tyX6
  | _ => tyX7
def xm_T (ci : Nat) : u_T := match ci with
  | 0 => TX0
  | 1 => TX1
  | 2 => TX2
  | 3 => TX3
  | 4 => TX4
  | 5 => TX5
  | 6 => TX6
  | _ => TX7
def xm_N (ci : Nat) : Nat := match ci with
  | 0 => 17
  | 1 => 18
  | 2 => 9
  | 3 => 4
  | 4 => 19
  | 5 => 4
  | 6 => 10
  | _ => 14
/-- the name of a class: 0 to 7 as above, 8 the law, 9 Math, 10 String, 11 StringLatin1, 12 Preconditions -/
def xm_C (ci : Nat) : String := match ci with
  | 0 => RX0
  | 1 => RX1
  | 2 => RX2
  | 3 => RX3
  | 4 => RX4
  | 5 => RX5
  | 6 => RX6
  | 7 => RX7
  | 8 => RL
  | 9 => RJ9
  | 10 => RJ0
  | 11 => RJ1
  | _ => RJ3
theorem in_X0 : ∀ w ∈ wsX00, w ∈ lw_tb := wq_of _ [315, 317, 319, 321, 323, 325, 327, 329, 331, 333, 335, 337, 339, 341, 343, 345, 347] (by decide +kernel) (by decide +kernel)
theorem in_X1 : ∀ w ∈ wsX10, w ∈ lw_tb := wq_of _ [385, 387, 389, 391, 393, 395, 397, 399, 401, 403, 405, 407, 409, 411, 413, 415, 417, 419] (by decide +kernel) (by decide +kernel)
theorem in_X2 : ∀ w ∈ wsX20, w ∈ lw_tb := wq_of _ [239, 241, 243, 245, 247, 249, 251, 253, 255] (by decide +kernel) (by decide +kernel)
theorem in_X3 : ∀ w ∈ wsX30, w ∈ lw_tb := wq_of _ [436, 438, 440, 442] (by decide +kernel) (by decide +kernel)
theorem in_X4 : ∀ w ∈ wsX40, w ∈ lw_tb := wq_of _ [183, 185, 187, 189, 191, 193, 195, 197, 199, 201, 203, 205, 207, 209, 211, 213, 215, 217, 219] (by decide +kernel) (by decide +kernel)
theorem in_X5 : ∀ w ∈ wsX50, w ∈ lw_tb := wq_of _ [117, 119, 121, 123] (by decide +kernel) (by decide +kernel)
theorem in_X6 : ∀ w ∈ wsX60, w ∈ lw_tb := wq_of _ [455, 457, 459, 461, 463, 465, 467, 469, 471, 473] (by decide +kernel) (by decide +kernel)
theorem in_X7 : ∀ w ∈ wsX70, w ∈ lw_tb := wq_of _ [1325, 1327, 1329, 1331, 1333, 1335, 1337, 1339, 1341, 1343, 1345, 1347, 1349, 1351] (by decide +kernel) (by decide +kernel)
/-- which field a number of a class names: class, number, the field's class, its place -/
def fl_tab : List (Nat × Nat × Nat × Nat) := [(0, 9, 0, 16), (0, 15, 0, 0), (0, 19, 0, 1), (0, 22, 0, 2), (0, 25, 0, 3), (0, 28, 0, 4), (0, 32, 0, 5), (0, 35, 0, 6), (0, 38, 0, 7), (0, 41, 0, 8), (0, 44, 0, 9), (0, 47, 0, 10), (0, 50, 0, 11), (0, 53, 0, 12), (0, 56, 0, 13), (0, 59, 0, 14), (0, 62, 0, 15), (1, 9, 1, 8), (1, 15, 1, 9), (1, 18, 1, 10), (1, 22, 1, 11), (1, 25, 1, 12), (1, 30, 1, 13), (1, 34, 1, 14), (1, 42, 1, 0), (1, 46, 1, 1), (1, 50, 4, 9), (1, 55, 1, 2), (1, 56, 4, 10), (1, 59, 1, 3), (1, 60, 1, 4), (1, 63, 1, 5), (1, 66, 1, 6), (1, 69, 1, 7), (1, 72, 1, 15), (1, 75, 1, 16), (1, 78, 1, 17), (1, 99, 0, 2), (1, 102, 0, 1), (1, 132, 4, 0), (1, 143, 0, 0), (1, 163, 0, 4), (1, 167, 0, 3), (1, 170, 4, 2), (1, 180, 0, 14), (1, 183, 0, 12), (1, 189, 0, 13), (1, 196, 0, 5), (1, 199, 0, 7), (1, 205, 0, 6), (1, 216, 4, 14), (1, 222, 4, 13), (1, 225, 4, 7), (1, 231, 4, 8), (1, 239, 0, 9), (1, 242, 0, 10), (1, 245, 4, 5), (1, 258, 0, 8), (1, 261, 0, 11), (1, 264, 4, 3), (1, 267, 4, 17), (1, 270, 4, 18), (2, 9, 2, 1), (2, 15, 2, 3), (2, 18, 2, 4), (2, 21, 2, 5), (2, 24, 2, 6), (2, 27, 2, 7), (2, 30, 2, 8), (2, 33, 2, 0), (2, 37, 2, 2), (2, 76, 4, 0), (2, 79, 4, 1), (2, 82, 4, 2), (2, 85, 4, 3), (2, 97, 4, 4), (2, 101, 5, 0), (2, 167, 4, 9), (2, 170, 4, 10), (2, 173, 4, 11), (2, 178, 4, 13), (2, 180, 4, 14), (2, 182, 4, 15), (2, 185, 4, 16), (2, 188, 4, 17), (2, 190, 4, 18), (2, 194, 4, 12), (3, 9, 3, 2), (3, 15, 3, 3), (3, 22, 3, 0), (3, 26, 3, 1), (4, 12, 4, 4), (4, 18, 4, 6), (4, 22, 4, 7), (4, 25, 4, 8), (4, 31, 4, 0), (4, 35, 4, 1), (4, 38, 4, 2), (4, 41, 4, 3), (4, 44, 5, 0), (4, 47, 4, 5), (4, 50, 4, 9), (4, 53, 4, 10), (4, 56, 4, 11), (4, 59, 4, 12), (4, 63, 4, 13), (4, 66, 4, 14), (4, 69, 4, 15), (4, 72, 4, 16), (4, 75, 4, 17), (4, 78, 4, 18), (5, 9, 5, 0), (5, 15, 5, 1), (5, 19, 5, 2), (5, 22, 5, 3), (6, 9, 6, 0), (6, 13, 6, 1), (6, 17, 6, 2), (6, 20, 6, 3), (6, 26, 6, 4), (6, 30, 6, 5), (6, 38, 6, 6), (6, 47, 6, 7), (6, 51, 6, 8), (6, 56, 4, 4), (6, 63, 6, 9), (6, 81, 2, 7), (6, 84, 2, 8), (6, 95, 4, 5), (6, 98, 1, 1), (6, 101, 4, 0), (6, 104, 5, 0), (6, 109, 1, 2), (6, 112, 1, 3), (6, 119, 1, 4), (6, 122, 1, 7), (6, 129, 1, 6), (6, 139, 4, 6), (6, 142, 4, 7), (6, 145, 4, 8), (6, 148, 1, 10), (6, 151, 1, 11), (6, 154, 1, 12), (6, 160, 1, 8), (6, 164, 1, 9), (6, 178, 1, 5), (6, 188, 0, 0), (6, 193, 0, 1), (6, 196, 0, 2), (6, 199, 0, 3), (6, 202, 0, 14), (6, 205, 0, 4), (6, 209, 0, 5), (6, 212, 0, 6), (6, 215, 0, 7), (6, 218, 0, 8), (6, 221, 0, 12), (6, 227, 0, 13)]
def fl_w (e : Nat × Nat × Nat × Nat) : Cond := .fieldLink (xm_C e.1) e.2.1 (xm_T e.2.2.1 e.2.2.2).1 (xm_T e.2.2.1 e.2.2.2).2.1 (xm_T e.2.2.1 e.2.2.2).2.2.1
set_option maxRecDepth 20000 in
theorem fl_ok0 : ∀ w ∈ fl_tab.map fl_w, w ∈ lw_tb := wq_of _ [314, 271, 274, 277, 280, 283, 286, 289, 292, 295, 298, 300, 302, 304, 307, 310, 313, 370, 372, 374, 376, 378, 380, 381, 355, 356, 157, 358, 160, 360, 362, 364, 366, 368, 382, 383, 384, 278, 275, 133, 272, 284, 281, 139, 311, 305, 308, 287, 293, 290, 172, 169, 153, 156, 299, 301, 148, 297, 303, 142, 179, 182, 229, 231, 232, 233, 234, 235, 237, 228, 230, 132, 136, 138, 141, 145, 112, 159, 162, 164, 168, 171, 174, 176, 178, 181, 166, 434, 435, 432, 433, 143, 149, 151, 154, 131, 135, 137, 140, 111, 146, 158, 161, 163, 165, 167, 170, 173, 175, 177, 180, 110, 114, 115, 116, 445, 446, 447, 448, 449, 450, 451, 452, 453, 144, 454, 236, 238, 147, 357, 134, 113, 359, 361, 363, 369, 367, 150, 152, 155, 375, 377, 379, 371, 373, 365, 273, 276, 279, 282, 312, 285, 288, 291, 294, 296, 306, 309] (by decide +kernel) (by decide +kernel)
set_option maxRecDepth 20000 in
theorem fl_ok1 : fl_tab.all (fun e => decide (e.2.2.1 < 8) && decide (e.2.2.2 < xm_N e.2.2.1)) = true := by decide +kernel
def fl_find (own cp : Nat) : Option (Nat × Nat) := (fl_tab.find? (fun e => e.1 == own && e.2.1 == cp)).map (fun e => e.2.2)
theorem fl_ok {own cp ci j : Nat} (h : fl_find own cp = some (ci, j)) : ci < 8 ∧ j < xm_N ci ∧ Cond.fieldLink (xm_C own) cp (xm_T ci j).1 (xm_T ci j).2.1 (xm_T ci j).2.2.1 ∈ lw_tb := by
  unfold fl_find at h
  cases he : fl_tab.find? (fun e => e.1 == own && e.2.1 == cp) with
  | none => rw [he] at h; cases h
  | some e =>
    rw [he] at h
    obtain ⟨a, b, c, d⟩ := e
    have h1 := List.find?_some he
    simp only [Bool.and_eq_true, beq_iff_eq] at h1
    have hm := List.mem_of_find?_eq_some he
    cases h
    obtain ⟨rfl, rfl⟩ := h1
    have h2 := List.all_eq_true.mp fl_ok1 _ hm
    simp only [Bool.and_eq_true, decide_eq_true_eq] at h2
    exact ⟨h2.1, h2.2, fl_ok0 _ (List.mem_map_of_mem (f := fl_w) hm)⟩
def mwl_0_0 : List Cond := [.code yX0_init cX0_init 1 none, .instanceMethod yX0_init, .code yX0_begin cX0_begin 3 none, .instanceMethod yX0_begin, .selects RX0 yX0_begin yX0_begin, .code yX0_rides cX0_rides 1 (some .boolean), .instanceMethod yX0_rides, .selects RX0 yX0_rides yX0_rides, .code yX0_isCommanding cX0_isCommanding 3 (some .boolean), .instanceMethod yX0_isCommanding, .selects RX0 yX0_isCommanding yX0_isCommanding, .code yX0_addSample cX0_addSample 2 none, .instanceMethod yX0_addSample, .selects RX0 yX0_addSample yX0_addSample, .code yX0_keptAt cX0_keptAt 2 (some .int), .instanceMethod yX0_keptAt, .selects RX0 yX0_keptAt yX0_keptAt, .code yX0_meanOfLatest cX0_meanOfLatest 5 (some .int), .instanceMethod yX0_meanOfLatest, .selects RX0 yX0_meanOfLatest yX0_meanOfLatest, .code yX0_spreadOfLatest cX0_spreadOfLatest 6 (some .int), .instanceMethod yX0_spreadOfLatest, .selects RX0 yX0_spreadOfLatest yX0_spreadOfLatest, .initialized RX0]
set_option maxRecDepth 20000 in
theorem mw_0_0 : ∀ w ∈ mwl_0_0, w ∈ lw_tb := wq_of _ [269, 268, 1380, 1378, 1379, 1372, 1370, 1371, 2147, 2145, 2146, 2078, 2076, 2077, 2103, 2101, 2102, 2098, 2096, 2097, 2112, 2110, 2111, 50] (by decide +kernel) (by decide +kernel)
def mwl_1_0 : List Cond := [.code yX1_init cX1_init 3 none, .instanceMethod yX1_init, .code yX1_begin cX1_begin 3 none, .instanceMethod yX1_begin, .selects RX1 yX1_begin yX1_begin, .code yX1_find cX1_find 2 (some (.object "CheckWeigher$Item")), .instanceMethod yX1_find, .selects RX1 yX1_find yX1_find, .code yX1_hasRoom cX1_hasRoom 2 (some .boolean), .instanceMethod yX1_hasRoom, .selects RX1 yX1_hasRoom yX1_hasRoom, .code yX1_add cX1_add 3 (some .int), .instanceMethod yX1_add, .selects RX1 yX1_add yX1_add, .code yX1_tick cX1_tick 1 none, .instanceMethod yX1_tick, .selects RX1 yX1_tick yX1_tick, .code yX1_moveItems cX1_moveItems 2 none, .instanceMethod yX1_moveItems, .selects RX1 yX1_moveItems yX1_moveItems, .code yX1_readCell cX1_readCell 4 none, .instanceMethod yX1_readCell, .selects RX1 yX1_readCell yX1_readCell, .code yX1_collectSamples cX1_collectSamples 3 none, .instanceMethod yX1_collectSamples, .selects RX1 yX1_collectSamples yX1_collectSamples, .code yX1_decideItems cX1_decideItems 2 none, .instanceMethod yX1_decideItems, .selects RX1 yX1_decideItems yX1_decideItems, .code yX1_decide cX1_decide 3 none, .instanceMethod yX1_decide, .selects RX1 yX1_decide yX1_decide, .code yX1_kindOf cX1_kindOf 3 (some .int), .instanceMethod yX1_kindOf, .selects RX1 yX1_kindOf yX1_kindOf, .code yX1_command cX1_command 6 none, .instanceMethod yX1_command, .selects RX1 yX1_command yX1_command, .code yX1_meetGates cX1_meetGates 3 none, .instanceMethod yX1_meetGates]
set_option maxRecDepth 20000 in
theorem mw_1_0 : ∀ w ∈ mwl_1_0, w ∈ lw_tb := wq_of _ [262, 261, 354, 352, 353, 1368, 1366, 1367, 1364, 1362, 1363, 1376, 1374, 1375, 2029, 2027, 2028, 2033, 2032, 30, 2037, 2036, 31, 2066, 2065, 32, 2082, 2081, 33, 2086, 2085, 34, 2108, 2107, 35, 2119, 2118, 36, 2131, 2130] (by decide +kernel) (by decide +kernel)
def mwl_1_1 : List Cond := [.selects RX1 yX1_meetGates yX1_meetGates, .code yX1_comesTo cX1_comesTo 3 (some .boolean), .instanceMethod yX1_comesTo, .selects RX1 yX1_comesTo yX1_comesTo, .code yX1_divert cX1_divert 3 none, .instanceMethod yX1_divert, .selects RX1 yX1_divert yX1_divert, .code yX1_leaveAtEnd cX1_leaveAtEnd 3 none, .instanceMethod yX1_leaveAtEnd, .selects RX1 yX1_leaveAtEnd yX1_leaveAtEnd, .code yX1_zeroTare cX1_zeroTare 3 none, .instanceMethod yX1_zeroTare, .selects RX1 yX1_zeroTare yX1_zeroTare, .code yX1_confirmDiversions cX1_confirmDiversions 3 none, .instanceMethod yX1_confirmDiversions, .selects RX1 yX1_confirmDiversions yX1_confirmDiversions, .code yX1_cellAt cX1_cellAt 2 (some .int), .instanceMethod yX1_cellAt, .selects RX1 yX1_cellAt yX1_cellAt, .code yX1_isOpen cX1_isOpen 2 (some .boolean), .instanceMethod yX1_isOpen, .selects RX1 yX1_isOpen yX1_isOpen, .code yX1_isCommanded cX1_isCommanded 4 (some .boolean), .instanceMethod yX1_isCommanded, .selects RX1 yX1_isCommanded yX1_isCommanded, .code yX1_allAlarms cX1_allAlarms 3 (some .int), .instanceMethod yX1_allAlarms, .selects RX1 yX1_allAlarms yX1_allAlarms, .code yX1_itemsIn cX1_itemsIn 4 (some .int), .instanceMethod yX1_itemsIn, .selects RX1 yX1_itemsIn yX1_itemsIn, .code yX1_itemsOf cX1_itemsOf 4 (some .int), .instanceMethod yX1_itemsOf, .selects RX1 yX1_itemsOf yX1_itemsOf, .code yX1_sumOfGood cX1_sumOfGood 3 (some .int), .instanceMethod yX1_sumOfGood, .selects RX1 yX1_sumOfGood yX1_sumOfGood, .code yX1_itemsWithResult cX1_itemsWithResult 3 (some .int), .instanceMethod yX1_itemsWithResult, .selects RX1 yX1_itemsWithResult yX1_itemsWithResult]
set_option maxRecDepth 20000 in
theorem mw_1_1 : ∀ w ∈ mwl_1_1, w ∈ lw_tb := wq_of _ [37, 2135, 2134, 38, 2151, 2150, 40, 2155, 2154, 41, 2159, 2158, 42, 2163, 2162, 43, 2074, 2072, 2073, 2139, 2137, 2138, 2143, 2142, 39, 2179, 2177, 2178, 2175, 2173, 2174, 2223, 2221, 2222, 2232, 2230, 2231, 2240, 2238, 2239] (by decide +kernel) (by decide +kernel)
def mwl_1_2 : List Cond := [.code yX1_sumOfErrors cX1_sumOfErrors 3 (some .int), .instanceMethod yX1_sumOfErrors, .selects RX1 yX1_sumOfErrors yX1_sumOfErrors, .initialized RX1]
set_option maxRecDepth 20000 in
theorem mw_1_2 : ∀ w ∈ mwl_1_2, w ∈ lw_tb := wq_of _ [2244, 2242, 2243, 49] (by decide +kernel) (by decide +kernel)
def mwl_2_0 : List Cond := [.code yX2_init cX2_init 3 none, .instanceMethod yX2_init, .code yX2_read cX2_read 3 none, .instanceMethod yX2_read, .selects RX2 yX2_read yX2_read, .code yX2_readBelt cX2_readBelt 1 none, .instanceMethod yX2_readBelt, .selects RX2 yX2_readBelt yX2_readBelt, .code yX2_readVibrations cX2_readVibrations 5 none, .instanceMethod yX2_readVibrations, .selects RX2 yX2_readVibrations yX2_readVibrations, .code yX2_readPeriod cX2_readPeriod 1 (some .int), .instanceMethod yX2_readPeriod, .selects RX2 yX2_readPeriod yX2_readPeriod, .code yX2_readGates cX2_readGates 5 none, .instanceMethod yX2_readGates, .selects RX2 yX2_readGates yX2_readGates, .code yX2_readKind cX2_readKind 2 (some .int), .instanceMethod yX2_readKind, .selects RX2 yX2_readKind yX2_readKind, .code yX2_kindAt cX2_kindAt 1 (some .int), .instanceMethod yX2_kindAt, .selects RX2 yX2_kindAt yX2_kindAt, .code yX2_readSettings cX2_readSettings 3 none, .instanceMethod yX2_readSettings, .selects RX2 yX2_readSettings yX2_readSettings, .code yX2_settingAt cX2_settingAt 1 (some .int), .instanceMethod yX2_settingAt, .selects RX2 yX2_settingAt yX2_settingAt, .code yX2_readSetting cX2_readSetting 2 none, .instanceMethod yX2_readSetting, .selects RX2 yX2_readSetting yX2_readSetting, .code yX2_readNotch cX2_readNotch 1 none, .instanceMethod yX2_readNotch, .selects RX2 yX2_readNotch yX2_readNotch, .code yX2_readWord cX2_readWord 2 none, .instanceMethod yX2_readWord, .selects RX2 yX2_readWord yX2_readWord, .code yX2_readSemicolon cX2_readSemicolon 1 none, .instanceMethod yX2_readSemicolon]
set_option maxRecDepth 20000 in
theorem mw_2_0 : ∀ w ∈ mwl_2_0, w ∈ lw_tb := wq_of _ [226, 225, 1109, 1107, 1108, 1132, 1131, 7, 1163, 1162, 14, 1168, 1167, 15, 1176, 1175, 16, 1181, 1180, 17, 1185, 1184, 18, 1204, 1203, 19, 1208, 1207, 20, 1220, 1219, 21, 1224, 1223, 22, 1137, 1136, 8, 1159, 1158] (by decide +kernel) (by decide +kernel)
def mwl_2_1 : List Cond := [.selects RX2 yX2_readSemicolon yX2_readSemicolon, .code yX2_readNumber cX2_readNumber 4 (some .int), .instanceMethod yX2_readNumber, .selects RX2 yX2_readNumber yX2_readNumber, .code yX2_fail cX2_fail 2 none, .instanceMethod yX2_fail, .selects RX2 yX2_fail yX2_fail, .code yX2_isAt cX2_isAt 3 (some .boolean), .instanceMethod yX2_isAt, .selects RX2 yX2_isAt yX2_isAt, .code yX2_value cX2_value 3 (some .int), .instanceMethod yX2_value, .selects RX2 yX2_value yX2_value, .code yX2_advance cX2_advance 1 none, .instanceMethod yX2_advance, .selects RX2 yX2_advance yX2_advance, .code yX2_byteAt cX2_byteAt 2 (some .int), .instanceMethod yX2_byteAt, .selects RX2 yX2_byteAt yX2_byteAt, .code yX2_isBlank cX2_isBlank 1 (some .boolean), .static yX2_isBlank, .code yX2_isLetter cX2_isLetter 1 (some .boolean), .static yX2_isLetter, .code yX2_isDigit cX2_isDigit 1 (some .boolean), .static yX2_isDigit, .initialized RX2]
set_option maxRecDepth 20000 in
theorem mw_2_1 : ∀ w ∈ mwl_2_1, w ∈ lw_tb := wq_of _ [13, 1151, 1150, 11, 1147, 1146, 10, 1141, 1140, 9, 1155, 1154, 12, 1115, 1114, 5, 1119, 1118, 6, 1122, 1121, 1125, 1124, 1128, 1127, 48] (by decide +kernel) (by decide +kernel)
def mwl_3_0 : List Cond := [.code yX3_init cX3_init 2 none, .instanceMethod yX3_init, .code yX3_begin cX3_begin 3 none, .instanceMethod yX3_begin, .selects RX3 yX3_begin yX3_begin, .initialized RX3]
set_option maxRecDepth 20000 in
theorem mw_3_0 : ∀ w ∈ mwl_3_0, w ∈ lw_tb := wq_of _ [426, 425, 431, 429, 430, 51] (by decide +kernel) (by decide +kernel)
def mwl_4_0 : List Cond := [.code yX4_init cX4_init 1 none, .instanceMethod yX4_init, .code yX4_reset cX4_reset 1 none, .instanceMethod yX4_reset, .selects RX4 yX4_reset yX4_reset, .code yX4_hasGate cX4_hasGate 2 (some .boolean), .instanceMethod yX4_hasGate, .selects RX4 yX4_hasGate yX4_hasGate, .code yX4_addGate cX4_addGate 4 none, .instanceMethod yX4_addGate, .selects RX4 yX4_addGate yX4_addGate, .code yX4_gateFor cX4_gateFor 3 (some .int), .instanceMethod yX4_gateFor, .selects RX4 yX4_gateFor yX4_gateFor, .code yX4_lastPosition cX4_lastPosition 1 (some .int), .instanceMethod yX4_lastPosition, .selects RX4 yX4_lastPosition yX4_lastPosition, .code yX4_windowInUse cX4_windowInUse 2 (some .int), .instanceMethod yX4_windowInUse, .selects RX4 yX4_windowInUse yX4_windowInUse, .code yX4_loadCellAlone cX4_loadCellAlone 2 (some .int), .instanceMethod yX4_loadCellAlone, .selects RX4 yX4_loadCellAlone yX4_loadCellAlone, .code yX4_lengthOnTable cX4_lengthOnTable 3 (some .int), .instanceMethod yX4_lengthOnTable, .selects RX4 yX4_lengthOnTable yX4_lengthOnTable, .code yX4_isInPart cX4_isInPart 3 (some .boolean), .instanceMethod yX4_isInPart, .selects RX4 yX4_isInPart yX4_isInPart, .code yX4_isAsWhole cX4_isAsWhole 3 (some .boolean), .instanceMethod yX4_isAsWhole, .selects RX4 yX4_isAsWhole yX4_isAsWhole, .code yX4_ticksFor cX4_ticksFor 2 (some .int), .instanceMethod yX4_ticksFor, .selects RX4 yX4_ticksFor yX4_ticksFor, .initialized RX4]
set_option maxRecDepth 20000 in
theorem mw_4_0 : ∀ w ∈ mwl_4_0, w ∈ lw_tb := wq_of _ [102, 101, 130, 128, 129, 1274, 1272, 1273, 1200, 1198, 1199, 1192, 1190, 1191, 1196, 1194, 1195, 2090, 2088, 2089, 2041, 2039, 2040, 2059, 2057, 2058, 2055, 2053, 2054, 2070, 2068, 2069, 2123, 2121, 2122, 46] (by decide +kernel) (by decide +kernel)
def mwl_5_0 : List Cond := [.code yX5_init cX5_init 1 none, .instanceMethod yX5_init, .code yX5_add cX5_add 4 none, .instanceMethod yX5_add, .selects RX5 yX5_add yX5_add, .code yX5_valueAt cX5_valueAt 5 (some .int), .instanceMethod yX5_valueAt, .selects RX5 yX5_valueAt yX5_valueAt, .code yX5_cancelIn cX5_cancelIn 3 (some .boolean), .instanceMethod yX5_cancelIn, .selects RX5 yX5_cancelIn yX5_cancelIn, .initialized RX5]
set_option maxRecDepth 20000 in
theorem mw_5_0 : ∀ w ∈ mwl_5_0, w ∈ lw_tb := wq_of _ [108, 107, 1172, 1170, 1171, 2048, 2046, 2047, 2094, 2092, 2093, 47] (by decide +kernel) (by decide +kernel)
def mwl_6_0 : List Cond := [.code yX6_init cX6_init 1 none, .instanceMethod yX6_init, .code yX6_append cX6_append 6 (some .int), .instanceMethod yX6_append, .selects RX6 yX6_append yX6_append, .code yX6_addBytes cX6_addBytes 3 none, .instanceMethod yX6_addBytes, .selects RX6 yX6_addBytes yX6_addBytes, .code yX6_truncate cX6_truncate 2 (some .int), .instanceMethod yX6_truncate, .selects RX6 yX6_truncate yX6_truncate, .code yX6_load cX6_load 2 (some .int), .instanceMethod yX6_load, .selects RX6 yX6_load yX6_load, .code yX6_report cX6_report 2 (some .int), .instanceMethod yX6_report, .selects RX6 yX6_report yX6_report, .code yX6_gate cX6_gate 3 (some .int), .instanceMethod yX6_gate, .selects RX6 yX6_gate yX6_gate, .code yX6_put cX6_put 3 (some .int), .instanceMethod yX6_put, .selects RX6 yX6_put yX6_put, .code yX6_step cX6_step 4 (some .int), .instanceMethod yX6_step, .selects RX6 yX6_step yX6_step, .code yX6_jam cX6_jam 4 (some .boolean), .instanceMethod yX6_jam, .selects RX6 yX6_jam yX6_jam, .code yX6_sensor cX6_sensor 4 (some .boolean), .instanceMethod yX6_sensor, .selects RX6 yX6_sensor yX6_sensor, .code yX6_setLimits cX6_setLimits 3 none, .instanceMethod yX6_setLimits, .selects RX6 yX6_setLimits yX6_setLimits, .code yX6_setTare cX6_setTare 3 (some .int), .instanceMethod yX6_setTare, .selects RX6 yX6_setTare yX6_setTare, .code yX6_item cX6_item 4 (some .int), .instanceMethod yX6_item]
set_option maxRecDepth 20000 in
theorem mw_6_0 : ∀ w ∈ mwl_6_0, w ∈ lw_tb := wq_of _ [94, 93, 1081, 1079, 1080, 1100, 1099, 4, 996, 994, 995, 1105, 1103, 1104, 2170, 2168, 2169, 2184, 2182, 2183, 1357, 1355, 1356, 2025, 2023, 2024, 1270, 1268, 1269, 1278, 1276, 1277, 1282, 1280, 1281, 1286, 1284, 1285, 2195, 2193] (by decide +kernel) (by decide +kernel)
def mwl_6_1 : List Cond := [.selects RX6 yX6_item yX6_item, .code yX6_measured cX6_measured 3 (some .int), .instanceMethod yX6_measured, .selects RX6 yX6_measured yX6_measured, .code yX6_sampleOf cX6_sampleOf 4 (some .int), .instanceMethod yX6_sampleOf, .selects RX6 yX6_sampleOf yX6_sampleOf, .code yX6_sample cX6_sample 2 (some .int), .instanceMethod yX6_sample, .selects RX6 yX6_sample yX6_sample, .code yX6_count cX6_count 2 (some .int), .instanceMethod yX6_count, .selects RX6 yX6_count yX6_count, .code yX6_decided cX6_decided 2 (some .int), .instanceMethod yX6_decided, .selects RX6 yX6_decided yX6_decided, .code yX6_meanGood cX6_meanGood 2 (some .double), .instanceMethod yX6_meanGood, .selects RX6 yX6_meanGood yX6_meanGood, .code yX6_meanError cX6_meanError 2 (some .double), .instanceMethod yX6_meanError, .selects RX6 yX6_meanError yX6_meanError, .code yX6_weightWith cX6_weightWith 4 (some .int), .instanceMethod yX6_weightWith, .selects RX6 yX6_weightWith yX6_weightWith, .code yX6_isLength cX6_isLength 1 (some .boolean), .static yX6_isLength, .code yX6_isWindow cX6_isWindow 1 (some .boolean), .static yX6_isWindow, .code yX6_quotient cX6_quotient 2 (some .int), .static yX6_quotient, .code yX6_remainder cX6_remainder 2 (some .int), .static yX6_remainder, .code yX6_quotientUp cX6_quotientUp 2 (some .int), .static yX6_quotientUp, .initialized RX6]
set_option maxRecDepth 20000 in
theorem mw_6_1 : ∀ w ∈ mwl_6_1, w ∈ lw_tb := wq_of _ [2194, 2200, 2198, 2199, 2259, 2257, 2258, 2252, 2250, 2251, 2215, 2213, 2214, 2219, 2217, 2218, 2228, 2226, 2227, 2236, 2234, 2235, 2264, 2262, 2263, 1360, 1359, 2267, 2266, 2044, 2043, 2051, 2050, 2126, 2125, 45] (by decide +kernel) (by decide +kernel)
def mwl_7_0 : List Cond := [.initialized RX7]
set_option maxRecDepth 20000 in
theorem mw_7_0 : ∀ w ∈ mwl_7_0, w ∈ lw_tb := wq_of _ [76] (by decide +kernel) (by decide +kernel)
def mwl_9_0 : List Cond := [.code yJ9_abs_0f7a4 cJ9_abs_0f7a4 1 (some .int), .static yJ9_abs_0f7a4, .code yJ9_max_7cf53 cJ9_max_7cf53 2 (some .int), .static yJ9_max_7cf53, .code yJ9_min_7cf53 cJ9_min_7cf53 2 (some .int), .static yJ9_min_7cf53, .initialized RJ9]
theorem mw_9_0 : ∀ w ∈ mwl_9_0, w ∈ lw_tb := wq_of _ [2211, 2210, 673, 672, 690, 689, 61] (by decide +kernel) (by decide +kernel)
/-- links to nest mates: class, number, method -/
def nw_tab : List (Nat × Nat × MethodName) := [(0, 81, yX6_quotient), (1, 37, yX0_init), (1, 150, yX6_quotient), (4, 11, yX5_init), (4, 85, yX6_quotient), (4, 101, yX6_quotientUp), (5, 25, yX6_remainder)]
def nw_w (q : Nat × Nat × MethodName) : Cond := .methodLinkNest (xm_C q.1) q.2.1 q.2.2 RX6
theorem nw_ok : [2104, 267, 2062, 106, 2042, 2124, 2049].map (fun i => lw_tbl[i]?) = (nw_tab.map nw_w).map some := by decide +kernel

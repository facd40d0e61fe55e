/-! tables of classes, methods and pool entries; printed by wip/whole/tools/mk_tab.py -/
def lw_good : List Cond := lw_tbl.filter goodWord
def inT (i : Nat) (w : Cond) : Bool := decide (lw_tbl[i]? = some w) && goodWord w
theorem inT_mem {i : Nat} {w : Cond} (h : inT i w = true) : w ∈ lw_good := by
  unfold inT at h
  simp only [Bool.and_eq_true, decide_eq_true_eq] at h
  exact List.mem_filter.mpr ⟨List.mem_of_getElem? h.1, h.2⟩
def vw0 : vw_C := ("", (fun _ => ("", "", "", false)), 0)
def cn (n : Nat) : String := (vwCl.getD n vw0).1
def cT (n : Nat) : u_T := (vwCl.getD n vw0).2.1
def cN (n : Nat) : Nat := (vwCl.getD n vw0).2.2
def ftyL : List (List Nat) := [[24, 0, 20, 0, 20, 20, 0, 20, 26, 0, 0, 13], [0, 0, 0, 0, 0, 20], [20, 20, 0, 0, 1, 0, 0], [0, 0, 0, 0, 1, 20], [6, 11, 0, 0, 20, 20, 22, 22, 20, 20, 20, 20, 20, 20, 0, 0, 0], [11, 20, 20, 20, 0, 0, 0, 0, 0, 1], [12, 20, 20, 0], [20, 20, 0, 0, 20, 20, 20, 20, 20, 20], [4, 6, 4], [0, 20, 20, 20], [20, 20, 20, 20, 20], [20, 0, 4, 25, 6, 12, 9, 10, 8, 5, 14, 20, 0, 0, 0], [0, 20, 20, 20, 22, 20, 0, 21, 0, 0, 1, 21, 20, 0, 0, 20, 20, 20, 0, 0, 0, 0, 0, 0, 1, 20, 20, 0, 0, 0, 20, 20, 20, 0, 20, 20, 22, 0, 0, 0, 0, 0, 20, 20, 20, 20, 20, 20, 0, 0, 0, 0, 0, 0, 0, 1, 1, 23, 20, 0, 0, 0, 0]]
def fty (ci k : Nat) : Nat := (ftyL.getD ci []).getD k 0
def layL : List (List Nat) := [[246, 248, 250, 252, 254, 256, 258, 260, 262, 264, 266, 268], [532, 534, 536, 538, 540, 542], [299, 301, 303, 305, 307, 309, 311], [202, 204, 206, 208, 210, 212], [479, 481, 483, 485, 487, 489, 491, 493, 495, 497, 499, 501, 503, 505, 507, 509, 511], [411, 413, 415, 417, 419, 421, 423, 425, 427, 429], [443, 445, 447, 449], [379, 381, 383, 385, 387, 389, 391, 393, 395, 397], [327, 329, 331], [161, 163, 165, 167], [557, 559, 561, 563, 565], [583, 585, 587, 589, 591, 593, 595, 597, 599, 601, 603, 605, 607, 609, 611], [1339, 1341, 1343, 1345, 1347, 1349, 1351, 1353, 1355, 1357, 1359, 1361, 1363, 1365, 1367, 1369, 1371, 1373, 1375, 1377, 1379, 1381, 1383, 1385, 1387, 1389, 1391, 1393, 1395, 1397, 1399, 1401, 1403, 1405, 1407, 1409, 1411, 1413, 1415, 1417, 1419, 1421, 1423, 1425, 1427, 1429, 1431, 1433, 1435, 1437, 1439, 1441, 1443, 1445, 1447, 1449, 1451, 1453, 1455, 1457, 1459, 1461, 1463]]
set_option maxRecDepth 100000 in
theorem lay_ok : ((List.range 13).all fun ci => (List.range (cN ci)).all fun k => inT ((layL.getD ci []).getD k 0) (u_lay (cn ci) (cT ci) k)) = true := by decide +kernel
def iniL : List Nat := [110, 119, 113, 112, 118, 115, 117, 116, 114, 111, 120, 109, 121]
def insL : List Nat := [137, 516, 273, 171, 453, 335, 433, 341, 315, 147, 546, 129, 1271]
theorem ini_ok : ((List.range 13).all fun ci => inT (iniL.getD ci 0) (.initialized (cn ci)) && inT (insL.getD ci 0) (.instantiable (cn ci) (cN ci))) = true := by decide +kernel
abbrev Mt : Type := MethodName × ByteArray × Nat × Option FieldType × Nat × Bool × Nat × Nat × Nat
def t_X0_init : Mt := (yX0_init, cX0_init, 2, none, 0, false, 1, 0, 0)
def t_X0_knotAt : Mt := (yX0_knotAt, cX0_knotAt, 2, (some (.object "NeckKnots$Knot")), 0, false, 2, 3, 0)
def t_X0_lawInForce : Mt := (yX0_lawInForce, cX0_lawInForce, 1, (some (.object "NeckKnots$Script")), 0, false, 1, 3, 0)
def t_X0_addKnot : Mt := (yX0_addKnot, cX0_addKnot, 4, (some .boolean), 0, false, 4, 1, 1)
def t_X0_addBoy : Mt := (yX0_addBoy, cX0_addBoy, 2, (some .boolean), 0, false, 2, 1, 1)
def t_X0_addSight : Mt := (yX0_addSight, cX0_addSight, 3, (some .boolean), 0, false, 3, 1, 1)
def t_X0_addLaw : Mt := (yX0_addLaw, cX0_addLaw, 2, none, 0, false, 2, 0, 0)
def t_X0_copyFrom : Mt := (yX0_copyFrom, cX0_copyFrom, 3, none, 0, false, 2, 0, 0)
def t_X1_init : Mt := (yX1_init, cX1_init, 1, none, 1, false, 1, 0, 0)
def t_X1_deal : Mt := (yX1_deal, cX1_deal, 8, none, 1, false, 6, 0, 0)
def t_X1_dealWord : Mt := (yX1_dealWord, cX1_dealWord, 6, none, 1, false, 1, 0, 0)
def t_X1_next : Mt := (yX1_next, cX1_next, 2, (some .int), 1, false, 2, 1, 0)
def t_X2_init : Mt := (yX2_init, cX2_init, 1, none, 2, false, 1, 0, 0)
def t_X2_ask : Mt := (yX2_ask, cX2_ask, 11, none, 2, false, 8, 0, 0)
def t_X2_nearest : Mt := (yX2_nearest, cX2_nearest, 3, (some .int), 2, true, 3, 1, 0)
def t_X2_askNext : Mt := (yX2_askNext, cX2_askNext, 5, none, 2, false, 4, 0, 0)
def t_X2_weigh : Mt := (yX2_weigh, cX2_weigh, 6, none, 2, false, 3, 0, 0)
def t_X3_init : Mt := (yX3_init, cX3_init, 1, none, 3, false, 1, 0, 0)
def t_X3_begin : Mt := (yX3_begin, cX3_begin, 4, none, 3, false, 4, 0, 0)
def t_X3_copyFrom : Mt := (yX3_copyFrom, cX3_copyFrom, 2, none, 3, false, 2, 0, 0)
def t_X3_side : Mt := (yX3_side, cX3_side, 2, (some .int), 3, false, 2, 1, 0)
def t_X3_lastPlace : Mt := (yX3_lastPlace, cX3_lastPlace, 1, (some .int), 3, false, 1, 1, 0)
def t_X3_push : Mt := (yX3_push, cX3_push, 2, none, 3, false, 2, 0, 0)
def t_X3_pop : Mt := (yX3_pop, cX3_pop, 1, none, 3, false, 1, 0, 0)
def t_X3_swapSides : Mt := (yX3_swapSides, cX3_swapSides, 2, none, 3, false, 1, 0, 0)
def t_X4_init : Mt := (yX4_init, cX4_init, 2, none, 4, false, 2, 0, 0)
def t_X4_prepare : Mt := (yX4_prepare, cX4_prepare, 4, none, 4, false, 3, 0, 0)
def t_X4_cell : Mt := (yX4_cell, cX4_cell, 4, (some .int), 4, true, 4, 1, 0)
def t_X4_fillCells : Mt := (yX4_fillCells, cX4_fillCells, 5, none, 4, false, 2, 0, 0)
def t_X4_fillCell : Mt := (yX4_fillCell, cX4_fillCell, 6, none, 4, false, 5, 0, 0)
def t_X4_extend : Mt := (yX4_extend, cX4_extend, 9, none, 4, false, 6, 0, 0)
def t_X4_mayStand : Mt := (yX4_mayStand, cX4_mayStand, 3, (some .boolean), 4, true, 3, 1, 1)
def t_X4_keep : Mt := (yX4_keep, cX4_keep, 6, none, 4, false, 5, 0, 0)
def t_X4_firstSlot : Mt := (yX4_firstSlot, cX4_firstSlot, 1, (some .int), 4, true, 1, 1, 0)
def t_X4_placeOf : Mt := (yX4_placeOf, cX4_placeOf, 3, (some .int), 4, true, 3, 1, 0)
def t_X4_placeIn : Mt := (yX4_placeIn, cX4_placeIn, 4, (some .int), 4, false, 4, 1, 0)
def t_X4_takesIn : Mt := (yX4_takesIn, cX4_takesIn, 3, (some .int), 4, false, 3, 1, 0)
def t_X4_gripsIn : Mt := (yX4_gripsIn, cX4_gripsIn, 3, (some .int), 4, false, 3, 1, 0)
def t_X4_spell : Mt := (yX4_spell, cX4_spell, 5, none, 4, false, 3, 0, 0)
def t_X4_leanIn : Mt := (yX4_leanIn, cX4_leanIn, 3, (some .int), 4, false, 3, 1, 0)
def t_X4_twistsIn : Mt := (yX4_twistsIn, cX4_twistsIn, 3, (some .int), 4, false, 3, 1, 0)
def t_X4_howMany : Mt := (yX4_howMany, cX4_howMany, 5, (some .int), 4, false, 3, 1, 0)
def t_X4_find : Mt := (yX4_find, cX4_find, 8, (some .int), 4, false, 3, 1, 0)
def t_X4_chooseBest : Mt := (yX4_chooseBest, cX4_chooseBest, 8, (some .int), 4, false, 3, 1, 0)
def t_X4_chooseNearest : Mt := (yX4_chooseNearest, cX4_chooseNearest, 7, (some .int), 4, false, 3, 1, 0)
def t_X4_clearTally : Mt := (yX4_clearTally, cX4_clearTally, 2, none, 4, false, 1, 0, 0)
def t_X4_countFronts : Mt := (yX4_countFronts, cX4_countFronts, 4, none, 4, false, 2, 0, 0)
def t_X4_isFitting : Mt := (yX4_isFitting, cX4_isFitting, 8, (some .boolean), 4, false, 5, 1, 1)
def t_X4_countFitting : Mt := (yX4_countFitting, cX4_countFitting, 6, (some .int), 4, false, 4, 1, 0)
def t_X4_fittingAt : Mt := (yX4_fittingAt, cX4_fittingAt, 7, (some .int), 4, false, 5, 1, 0)
def t_X4_whereToLook : Mt := (yX4_whereToLook, cX4_whereToLook, 9, (some .int), 4, false, 4, 1, 0)
def t_X5_init : Mt := (yX5_init, cX5_init, 1, none, 5, false, 1, 0, 0)
def t_X5_read : Mt := (yX5_read, cX5_read, 6, (some .int), 5, false, 4, 1, 0)
def t_X5_scan : Mt := (yX5_scan, cX5_scan, 5, none, 5, false, 3, 0, 0)
def t_X5_isLetter : Mt := (yX5_isLetter, cX5_isLetter, 1, (some .boolean), 5, true, 1, 1, 1)
def t_X5_isDigit : Mt := (yX5_isDigit, cX5_isDigit, 1, (some .boolean), 5, true, 1, 1, 1)
def t_X5_rowEnd : Mt := (yX5_rowEnd, cX5_rowEnd, 6, (some .int), 5, true, 3, 1, 0)
def t_X5_addToken : Mt := (yX5_addToken, cX5_addToken, 5, none, 5, false, 4, 0, 0)
def t_X5_numberOf : Mt := (yX5_numberOf, cX5_numberOf, 5, (some .int), 5, true, 3, 1, 0)
def t_X5_keyword : Mt := (yX5_keyword, cX5_keyword, 9, (some .int), 5, true, 5, 1, 0)
def t_X5_advance : Mt := (yX5_advance, cX5_advance, 1, none, 5, false, 1, 0, 0)
def t_X5_fail : Mt := (yX5_fail, cX5_fail, 1, none, 5, false, 1, 0, 0)
def t_X5_clause : Mt := (yX5_clause, cX5_clause, 2, none, 5, false, 2, 0, 0)
def t_X5_test : Mt := (yX5_test, cX5_test, 7, none, 5, false, 2, 0, 0)
def t_X5_plain : Mt := (yX5_plain, cX5_plain, 4, none, 5, false, 2, 0, 0)
def t_X5_sum : Mt := (yX5_sum, cX5_sum, 7, none, 5, false, 2, 0, 0)
def t_X5_part : Mt := (yX5_part, cX5_part, 5, none, 5, false, 2, 0, 0)
def t_X5_wordNow : Mt := (yX5_wordNow, cX5_wordNow, 1, (some .int), 5, false, 1, 1, 0)
def t_X6_init : Mt := (yX6_init, cX6_init, 2, none, 6, false, 2, 0, 0)
def t_X6_run : Mt := (yX6_run, cX6_run, 4, (some .int), 6, false, 2, 1, 0)
def t_X6_runOnce : Mt := (yX6_runOnce, cX6_runOnce, 6, (some .boolean), 6, false, 3, 1, 1)
def t_X6_loadWords : Mt := (yX6_loadWords, cX6_loadWords, 8, none, 6, false, 3, 0, 0)
def t_X7_init : Mt := (yX7_init, cX7_init, 3, none, 7, false, 3, 0, 0)
def t_X7_kept : Mt := (yX7_kept, cX7_kept, 2, (some (.object "NeckKnots$Script")), 7, false, 1, 3, 0)
def t_X7_emit : Mt := (yX7_emit, cX7_emit, 3, (some .int), 7, false, 3, 1, 0)
def t_X7_closeSkip : Mt := (yX7_closeSkip, cX7_closeSkip, 2, none, 7, false, 2, 0, 0)
def t_X7_reckon : Mt := (yX7_reckon, cX7_reckon, 10, (some .int), 7, false, 5, 1, 0)
def t_X7_joined : Mt := (yX7_joined, cX7_joined, 7, (some .int), 7, true, 3, 1, 0)
def t_X8_init : Mt := (yX8_init, cX8_init, 3, none, 8, false, 3, 0, 0)
def t_X8_remember : Mt := (yX8_remember, cX8_remember, 1, none, 8, false, 1, 0, 0)
def t_X8_giveBack : Mt := (yX8_giveBack, cX8_giveBack, 1, none, 8, false, 1, 0, 0)
def t_X8_layOn : Mt := (yX8_layOn, cX8_layOn, 4, (some .int), 8, false, 3, 1, 0)
def t_X8_putThrough : Mt := (yX8_putThrough, cX8_putThrough, 3, (some .int), 8, false, 2, 1, 0)
def t_X8_drawBack : Mt := (yX8_drawBack, cX8_drawBack, 3, (some .int), 8, false, 2, 1, 0)
def t_X8_turnOver : Mt := (yX8_turnOver, cX8_turnOver, 3, (some .int), 8, false, 2, 1, 0)
def t_X8_undoLatest : Mt := (yX8_undoLatest, cX8_undoLatest, 5, (some .int), 8, false, 1, 1, 0)
def t_X9_init : Mt := (yX9_init, cX9_init, 1, none, 9, false, 1, 0, 0)
def t_X9_clear : Mt := (yX9_clear, cX9_clear, 1, none, 9, false, 1, 0, 0)
def t_X9_add : Mt := (yX9_add, cX9_add, 4, none, 9, false, 4, 0, 0)
def t_X9_dropOldest : Mt := (yX9_dropOldest, cX9_dropOldest, 2, none, 9, false, 1, 0, 0)
def t_X9_copyFrom : Mt := (yX9_copyFrom, cX9_copyFrom, 2, none, 9, false, 2, 0, 0)
def t_X10_init : Mt := (yX10_init, cX10_init, 1, none, 10, false, 1, 0, 0)
def t_X10_dressed : Mt := (yX10_dressed, cX10_dressed, 1, (some .int), 10, false, 1, 1, 0)
def t_X10_dress : Mt := (yX10_dress, cX10_dress, 5, none, 10, false, 3, 0, 0)
def t_X10_hang : Mt := (yX10_hang, cX10_hang, 6, none, 10, false, 4, 0, 0)
def t_X10_suits : Mt := (yX10_suits, cX10_suits, 4, (some .boolean), 10, false, 4, 1, 1)
def t_X10_mostFrom : Mt := (yX10_mostFrom, cX10_mostFrom, 6, (some .int), 10, false, 4, 1, 0)
def t_X10_firstFor : Mt := (yX10_firstFor, cX10_firstFor, 5, (some .int), 10, false, 4, 1, 0)
def t_X11_init : Mt := (yX11_init, cX11_init, 1, none, 11, false, 1, 0, 0)
def t_X11_knot : Mt := (yX11_knot, cX11_knot, 4, (some .int), 11, false, 4, 1, 0)
def t_X11_of : Mt := (yX11_of, cX11_of, 4, (some .int), 11, false, 3, 1, 0)
def t_X11_terms : Mt := (yX11_terms, cX11_terms, 6, (some .int), 11, false, 3, 1, 0)
def t_X11_feed : Mt := (yX11_feed, cX11_feed, 6, (some .int), 11, false, 6, 1, 0)
def t_X11_end : Mt := (yX11_end, cX11_end, 2, (some .int), 11, false, 2, 1, 0)
def t_X11_row : Mt := (yX11_row, cX11_row, 4, (some .int), 11, false, 1, 1, 0)
def t_X11_lint : Mt := (yX11_lint, cX11_lint, 1, (some .int), 11, false, 1, 1, 0)
def t_X11_law : Mt := (yX11_law, cX11_law, 2, (some .int), 11, false, 1, 1, 0)
def t_X11_orders : Mt := (yX11_orders, cX11_orders, 1, (some .int), 11, false, 1, 1, 0)
def t_X11_fault : Mt := (yX11_fault, cX11_fault, 1, (some .int), 11, false, 1, 1, 0)
def t_X11_stopped : Mt := (yX11_stopped, cX11_stopped, 1, (some .int), 11, false, 1, 1, 0)
def t_X11_force : Mt := (yX11_force, cX11_force, 3, (some .int), 11, false, 2, 1, 0)
def t_X11_asks : Mt := (yX11_asks, cX11_asks, 5, (some .int), 11, false, 4, 1, 0)
def t_X11_lay : Mt := (yX11_lay, cX11_lay, 3, (some .int), 11, false, 3, 1, 0)
def t_X11_through : Mt := (yX11_through, cX11_through, 2, (some .int), 11, false, 2, 1, 0)
def t_X11_draw : Mt := (yX11_draw, cX11_draw, 2, (some .int), 11, false, 2, 1, 0)
def t_X11_mirror : Mt := (yX11_mirror, cX11_mirror, 2, (some .int), 11, false, 2, 1, 0)
def t_X11_undo : Mt := (yX11_undo, cX11_undo, 1, (some .int), 11, false, 1, 1, 0)
def t_X11_front : Mt := (yX11_front, cX11_front, 4, (some .int), 11, false, 3, 1, 0)
def t_X11_ways : Mt := (yX11_ways, cX11_ways, 3, (some .int), 11, false, 3, 1, 0)
def t_X11_word : Mt := (yX11_word, cX11_word, 4, (some .int), 11, false, 4, 1, 0)
def t_X11_rank : Mt := (yX11_rank, cX11_rank, 3, (some .int), 11, false, 2, 1, 0)
def t_X11_best : Mt := (yX11_best, cX11_best, 5, (some .int), 11, false, 3, 1, 0)
def t_X11_change : Mt := (yX11_change, cX11_change, 5, (some .int), 11, false, 3, 1, 0)
def t_X11_alike : Mt := (yX11_alike, cX11_alike, 3, (some .int), 11, false, 3, 1, 0)
def t_X11_sight : Mt := (yX11_sight, cX11_sight, 3, (some .int), 11, false, 3, 1, 0)
def t_X11_forget : Mt := (yX11_forget, cX11_forget, 2, (some .int), 11, false, 1, 1, 0)
def t_X11_fits : Mt := (yX11_fits, cX11_fits, 6, (some .int), 11, false, 5, 1, 0)
def t_X11_look : Mt := (yX11_look, cX11_look, 3, (some .int), 11, false, 3, 1, 0)
def t_X11_boy : Mt := (yX11_boy, cX11_boy, 2, (some .int), 11, false, 2, 1, 0)
def t_X11_home : Mt := (yX11_home, cX11_home, 2, (some .int), 11, false, 1, 1, 0)
def t_X11_wear : Mt := (yX11_wear, cX11_wear, 2, (some .int), 11, false, 2, 1, 0)
def t_X11_hands : Mt := (yX11_hands, cX11_hands, 4, (some .int), 11, false, 4, 1, 0)
def t_X11_drawn : Mt := (yX11_drawn, cX11_drawn, 2, (some .int), 11, false, 2, 1, 0)
def t_X11_image : Mt := (yX11_image, cX11_image, 2, (some .int), 11, false, 2, 1, 0)
def t_X11_back : Mt := (yX11_back, cX11_back, 2, (some .int), 11, false, 2, 1, 0)
def t_X11_count : Mt := (yX11_count, cX11_count, 2, (some .int), 11, false, 2, 1, 0)
def t_X11_status : Mt := (yX11_status, cX11_status, 1, (some .int), 11, false, 1, 1, 0)
def t_X11_granted : Mt := (yX11_granted, cX11_granted, 2, (some .int), 11, false, 2, 1, 0)
def t_X11_refused : Mt := (yX11_refused, cX11_refused, 2, (some .int), 11, false, 2, 1, 0)
def t_X11_outcome : Mt := (yX11_outcome, cX11_outcome, 2, (some .int), 11, false, 2, 1, 0)
def t_X11_putBytes : Mt := (yX11_putBytes, cX11_putBytes, 3, none, 11, false, 2, 0, 0)
def t_X11_emptiedTape : Mt := (yX11_emptiedTape, cX11_emptiedTape, 2, (some .int), 11, false, 1, 1, 0)
def t_X11_knotCanBe : Mt := (yX11_knotCanBe, cX11_knotCanBe, 3, (some .boolean), 11, true, 3, 1, 1)
def t_X11_isPlace : Mt := (yX11_isPlace, cX11_isPlace, 1, (some .boolean), 11, true, 1, 1, 1)
def t_X11_isWordLength : Mt := (yX11_isWordLength, cX11_isWordLength, 1, (some .boolean), 11, true, 1, 1, 1)
def t_X11_mirrored : Mt := (yX11_mirrored, cX11_mirrored, 1, (some .int), 11, true, 1, 1, 0)
def t_X11_startOfWord : Mt := (yX11_startOfWord, cX11_startOfWord, 1, (some .int), 11, true, 1, 1, 0)
def t_X11_canGoThrough : Mt := (yX11_canGoThrough, cX11_canGoThrough, 6, (some .boolean), 11, true, 3, 1, 1)
def t_X11_centresOf : Mt := (yX11_centresOf, cX11_centresOf, 4, (some .int), 11, true, 2, 1, 0)
def t_X11_leanOf : Mt := (yX11_leanOf, cX11_leanOf, 4, (some .int), 11, true, 2, 1, 0)
def t_X11_wound : Mt := (yX11_wound, cX11_wound, 3, (some .int), 11, true, 2, 1, 0)
def t_X11_twistsOf : Mt := (yX11_twistsOf, cX11_twistsOf, 4, (some .int), 11, true, 2, 1, 0)
def t_X11_leftOf : Mt := (yX11_leftOf, cX11_leftOf, 4, (some .int), 11, true, 2, 1, 0)
def t_X11_frontOf : Mt := (yX11_frontOf, cX11_frontOf, 8, (some .int), 11, true, 3, 1, 0)
def t_X11_frontPlace : Mt := (yX11_frontPlace, cX11_frontPlace, 2, (some .int), 11, true, 2, 1, 0)
def t_X12_lies : Mt := (yX12_lies, cX12_lies, 3, (some .boolean), 12, true, 3, 1, 1)
def t_X12_size0 : Mt := (yX12_size0, cX12_size0, 1, (some .int), 12, true, 1, 1, 0)
def t_X12_greater : Mt := (yX12_greater, cX12_greater, 2, (some .int), 12, true, 2, 1, 0)
def t_X12_refuses : Mt := (yX12_refuses, cX12_refuses, 2, (some .int), 12, false, 2, 1, 0)
def t_X12_good : Mt := (yX12_good, cX12_good, 2, (some .int), 12, false, 2, 1, 0)
def t_X12_settled : Mt := (yX12_settled, cX12_settled, 2, (some .int), 12, false, 2, 1, 0)
def t_X12_init : Mt := (yX12_init, cX12_init, 1, none, 12, false, 1, 0, 0)
def t_X12_image : Mt := (yX12_image, cX12_image, 3, (some .int), 12, false, 2, 1, 0)
def t_X12_back : Mt := (yX12_back, cX12_back, 3, (some .int), 12, false, 2, 1, 0)
def t_X12_isKnot : Mt := (yX12_isKnot, cX12_isKnot, 2, (some .boolean), 12, false, 2, 1, 1)
def t_X12_fact : Mt := (yX12_fact, cX12_fact, 3, (some .int), 12, false, 3, 1, 0)
def t_X12_puts : Mt := (yX12_puts, cX12_puts, 4, none, 12, false, 4, 0, 0)
def t_X12_canBe : Mt := (yX12_canBe, cX12_canBe, 3, (some .boolean), 12, true, 3, 1, 1)
def t_X12_adds : Mt := (yX12_adds, cX12_adds, 6, none, 12, false, 4, 0, 0)
def t_X12_knot : Mt := (yX12_knot, cX12_knot, 4, (some .int), 12, false, 4, 1, 0)
def t_X12_of : Mt := (yX12_of, cX12_of, 3, (some .int), 12, false, 3, 1, 0)
def t_X12_isTerm : Mt := (yX12_isTerm, cX12_isTerm, 2, (some .boolean), 12, true, 2, 1, 1)
def t_X12_terms : Mt := (yX12_terms, cX12_terms, 4, (some .int), 12, false, 3, 1, 0)
def t_X12_row : Mt := (yX12_row, cX12_row, 6, (some .int), 12, false, 1, 1, 0)
def t_X12_lint : Mt := (yX12_lint, cX12_lint, 1, (some .int), 12, false, 1, 1, 0)
def t_X12_feed : Mt := (yX12_feed, cX12_feed, 7, (some .int), 12, false, 6, 1, 0)
def t_X12_end : Mt := (yX12_end, cX12_end, 2, (some .int), 12, false, 2, 1, 0)
def t_X12_isSmall : Mt := (yX12_isSmall, cX12_isSmall, 1, (some .boolean), 12, true, 1, 1, 1)
def t_X12_isDigit : Mt := (yX12_isDigit, cX12_isDigit, 1, (some .boolean), 12, true, 1, 1, 1)
def t_X12_wordOf : Mt := (yX12_wordOf, cX12_wordOf, 8, (some .int), 12, false, 3, 1, 0)
def t_X12_splits : Mt := (yX12_splits, cX12_splits, 6, none, 12, false, 2, 0, 0)
def t_X12_fine : Mt := (yX12_fine, cX12_fine, 1, (some .boolean), 12, false, 1, 1, 1)
def t_X12_faults : Mt := (yX12_faults, cX12_faults, 1, none, 12, false, 1, 0, 0)
def t_X12_takes0 : Mt := (yX12_takes0, cX12_takes0, 3, (some .boolean), 12, false, 2, 1, 1)
def t_X12_must : Mt := (yX12_must, cX12_must, 2, none, 12, false, 2, 0, 0)
def t_X12_leaf : Mt := (yX12_leaf, cX12_leaf, 1, none, 12, false, 1, 0, 0)
def t_X12_sign : Mt := (yX12_sign, cX12_sign, 1, (some .int), 12, true, 1, 1, 0)
def t_X12_mustNumber : Mt := (yX12_mustNumber, cX12_mustNumber, 3, none, 12, false, 3, 0, 0)
def t_X12_readClause : Mt := (yX12_readClause, cX12_readClause, 1, none, 12, false, 1, 0, 0)
def t_X12_readOrder : Mt := (yX12_readOrder, cX12_readOrder, 1, none, 12, false, 1, 0, 0)
def t_X12_readOne : Mt := (yX12_readOne, cX12_readOne, 1, none, 12, false, 1, 0, 0)
def t_X12_readTest : Mt := (yX12_readTest, cX12_readTest, 2, none, 12, false, 2, 0, 0)
def t_X12_readBoth : Mt := (yX12_readBoth, cX12_readBoth, 2, none, 12, false, 2, 0, 0)
def t_X12_readPlain : Mt := (yX12_readPlain, cX12_readPlain, 4, none, 12, false, 2, 0, 0)
def t_X12_readSum : Mt := (yX12_readSum, cX12_readSum, 2, none, 12, false, 2, 0, 0)
def t_X12_readTerm : Mt := (yX12_readTerm, cX12_readTerm, 2, none, 12, false, 2, 0, 0)
def t_X12_readPart : Mt := (yX12_readPart, cX12_readPart, 3, none, 12, false, 2, 0, 0)
def t_X12_reads : Mt := (yX12_reads, cX12_reads, 2, (some .boolean), 12, false, 1, 1, 1)
def t_X12_readsAs : Mt := (yX12_readsAs, cX12_readsAs, 2, (some .boolean), 12, false, 2, 1, 1)
def t_X12_lays : Mt := (yX12_lays, cX12_lays, 3, none, 12, false, 2, 0, 0)
def t_X12_law : Mt := (yX12_law, cX12_law, 1, (some .int), 12, false, 1, 1, 0)
def t_X12_fault : Mt := (yX12_fault, cX12_fault, 1, (some .int), 12, false, 1, 1, 0)
def t_X12_force : Mt := (yX12_force, cX12_force, 3, (some .int), 12, false, 2, 1, 0)
def t_X12_codeAt : Mt := (yX12_codeAt, cX12_codeAt, 2, (some .int), 12, false, 2, 1, 0)
def t_X12_passes0 : Mt := (yX12_passes0, cX12_passes0, 3, (some .boolean), 12, false, 2, 1, 1)
def t_X12_bounded : Mt := (yX12_bounded, cX12_bounded, 4, (some .long), 12, false, 3, 2, 0)
def t_X12_sumOf : Mt := (yX12_sumOf, cX12_sumOf, 7, (some .long), 12, false, 2, 2, 0)
def t_X12_termOf : Mt := (yX12_termOf, cX12_termOf, 7, (some .long), 12, false, 2, 2, 0)
def t_X12_partOf : Mt := (yX12_partOf, cX12_partOf, 5, (some .long), 12, false, 2, 2, 0)
def t_X12_testOf : Mt := (yX12_testOf, cX12_testOf, 4, (some .boolean), 12, false, 2, 1, 1)
def t_X12_bothOf : Mt := (yX12_bothOf, cX12_bothOf, 4, (some .boolean), 12, false, 2, 1, 1)
def t_X12_plainOf : Mt := (yX12_plainOf, cX12_plainOf, 3, (some .boolean), 12, false, 2, 1, 1)
def t_X12_positiveOf : Mt := (yX12_positiveOf, cX12_positiveOf, 7, (some .boolean), 12, false, 2, 1, 1)
def t_X12_tells : Mt := (yX12_tells, cX12_tells, 12, (some .int), 12, false, 5, 1, 0)
def t_X12_sideOf : Mt := (yX12_sideOf, cX12_sideOf, 2, (some .int), 12, false, 2, 1, 0)
def t_X12_sets : Mt := (yX12_sets, cX12_sets, 2, none, 12, false, 2, 0, 0)
def t_X12_takesBy : Mt := (yX12_takesBy, cX12_takesBy, 2, (some .int), 12, false, 2, 1, 0)
def t_X12_gripsBy : Mt := (yX12_gripsBy, cX12_gripsBy, 2, (some .int), 12, false, 2, 1, 0)
def t_X12_isBarred : Mt := (yX12_isBarred, cX12_isBarred, 2, (some .boolean), 12, false, 2, 1, 1)
def t_X12_takesKnot : Mt := (yX12_takesKnot, cX12_takesKnot, 3, none, 12, false, 2, 0, 0)
def t_X12_takesAll : Mt := (yX12_takesAll, cX12_takesAll, 3, (some .int), 12, false, 1, 1, 0)
def t_X12_gripsAll : Mt := (yX12_gripsAll, cX12_gripsAll, 3, (some .int), 12, false, 1, 1, 0)
def t_X12_centres : Mt := (yX12_centres, cX12_centres, 3, (some .int), 12, false, 1, 1, 0)
def t_X12_leans : Mt := (yX12_leans, cX12_leans, 3, (some .int), 12, false, 1, 1, 0)
def t_X12_isWound : Mt := (yX12_isWound, cX12_isWound, 3, (some .boolean), 12, false, 2, 1, 1)
def t_X12_twists : Mt := (yX12_twists, cX12_twists, 3, (some .int), 12, false, 1, 1, 0)
def t_X12_leftOver : Mt := (yX12_leftOver, cX12_leftOver, 3, (some .int), 12, false, 1, 1, 0)
def t_X12_canThrough : Mt := (yX12_canThrough, cX12_canThrough, 1, (some .boolean), 12, false, 1, 1, 1)
def t_X12_holds : Mt := (yX12_holds, cX12_holds, 2, (some .boolean), 12, false, 2, 1, 1)
def t_X12_frontOf : Mt := (yX12_frontOf, cX12_frontOf, 5, (some .int), 12, false, 1, 1, 0)
def t_X12_front : Mt := (yX12_front, cX12_front, 3, (some .int), 12, false, 3, 1, 0)
def t_X12_asks : Mt := (yX12_asks, cX12_asks, 4, (some .int), 12, false, 4, 1, 0)
def t_X12_keeps : Mt := (yX12_keeps, cX12_keeps, 4, none, 12, false, 2, 0, 0)
def t_X12_undo : Mt := (yX12_undo, cX12_undo, 3, (some .int), 12, false, 1, 1, 0)
def t_X12_goodOr : Mt := (yX12_goodOr, cX12_goodOr, 2, (some .int), 12, false, 2, 1, 0)
def t_X12_laysKept : Mt := (yX12_laysKept, cX12_laysKept, 4, (some .int), 12, false, 3, 1, 0)
def t_X12_throughsKept : Mt := (yX12_throughsKept, cX12_throughsKept, 2, (some .int), 12, false, 2, 1, 0)
def t_X12_drawsKept : Mt := (yX12_drawsKept, cX12_drawsKept, 3, (some .int), 12, false, 2, 1, 0)
def t_X12_mirrorsKept : Mt := (yX12_mirrorsKept, cX12_mirrorsKept, 3, (some .int), 12, false, 2, 1, 0)
def t_X12_mirrored : Mt := (yX12_mirrored, cX12_mirrored, 1, (some .int), 12, true, 1, 1, 0)
def t_X12_lay : Mt := (yX12_lay, cX12_lay, 3, (some .int), 12, false, 3, 1, 0)
def t_X12_through : Mt := (yX12_through, cX12_through, 2, (some .int), 12, false, 2, 1, 0)
def t_X12_draw : Mt := (yX12_draw, cX12_draw, 2, (some .int), 12, false, 2, 1, 0)
def t_X12_mirror : Mt := (yX12_mirror, cX12_mirror, 2, (some .int), 12, false, 2, 1, 0)
def t_X12_askOf : Mt := (yX12_askOf, cX12_askOf, 4, (some .int), 12, true, 4, 1, 0)
def t_X12_asksAll : Mt := (yX12_asksAll, cX12_asksAll, 6, none, 12, false, 1, 0, 0)
def t_X12_wordsOf : Mt := (yX12_wordsOf, cX12_wordsOf, 1, (some .int), 12, true, 1, 1, 0)
def t_X12_isLong : Mt := (yX12_isLong, cX12_isLong, 1, (some .boolean), 12, true, 1, 1, 1)
def t_X12_following : Mt := (yX12_following, cX12_following, 4, (some .int), 12, true, 2, 1, 0)
def t_X12_opens : Mt := (yX12_opens, cX12_opens, 4, none, 12, false, 3, 0, 0)
def t_X12_askAt : Mt := (yX12_askAt, cX12_askAt, 2, (some .int), 12, false, 2, 1, 0)
def t_X12_isProper : Mt := (yX12_isProper, cX12_isProper, 3, (some .boolean), 12, false, 1, 1, 1)
def t_X12_takesWord : Mt := (yX12_takesWord, cX12_takesWord, 3, (some .int), 12, false, 1, 1, 0)
def t_X12_gripsWord : Mt := (yX12_gripsWord, cX12_gripsWord, 3, (some .int), 12, false, 1, 1, 0)
def t_X12_opensProper : Mt := (yX12_opensProper, cX12_opensProper, 3, (some .boolean), 12, false, 3, 1, 1)
def t_X12_ways : Mt := (yX12_ways, cX12_ways, 5, (some .int), 12, false, 3, 1, 0)
def t_X12_word : Mt := (yX12_word, cX12_word, 6, (some .int), 12, false, 4, 1, 0)
def t_X12_unlike : Mt := (yX12_unlike, cX12_unlike, 4, (some .int), 12, false, 2, 1, 0)
def t_X12_rank : Mt := (yX12_rank, cX12_rank, 4, (some .int), 12, false, 2, 1, 0)
def t_X12_isBetter : Mt := (yX12_isBetter, cX12_isBetter, 1, (some .boolean), 12, false, 1, 1, 1)
def t_X12_best : Mt := (yX12_best, cX12_best, 5, (some .int), 12, false, 3, 1, 0)
def t_X12_change : Mt := (yX12_change, cX12_change, 7, (some .int), 12, false, 3, 1, 0)
def t_X12_alike : Mt := (yX12_alike, cX12_alike, 6, (some .int), 12, false, 3, 1, 0)
def t_X12_sight : Mt := (yX12_sight, cX12_sight, 4, (some .int), 12, false, 3, 1, 0)
def t_X12_forget : Mt := (yX12_forget, cX12_forget, 2, (some .int), 12, false, 1, 1, 0)
def t_X12_isFitting : Mt := (yX12_isFitting, cX12_isFitting, 7, (some .boolean), 12, false, 4, 1, 1)
def t_X12_fits : Mt := (yX12_fits, cX12_fits, 7, (some .int), 12, false, 5, 1, 0)
def t_X12_look : Mt := (yX12_look, cX12_look, 8, (some .int), 12, false, 3, 1, 0)
def t_X12_boy : Mt := (yX12_boy, cX12_boy, 3, (some .int), 12, false, 2, 1, 0)
def t_X12_home : Mt := (yX12_home, cX12_home, 2, (some .int), 12, false, 1, 1, 0)
def t_X12_isWorn : Mt := (yX12_isWorn, cX12_isWorn, 5, (some .boolean), 12, false, 3, 1, 1)
def t_X12_triesBoy : Mt := (yX12_triesBoy, cX12_triesBoy, 4, none, 12, false, 3, 0, 0)
def t_X12_wear : Mt := (yX12_wear, cX12_wear, 3, (some .int), 12, false, 2, 1, 0)
def t_X12_stopped : Mt := (yX12_stopped, cX12_stopped, 1, (some .int), 12, false, 1, 1, 0)
def t_X12_orders : Mt := (yX12_orders, cX12_orders, 5, (some .int), 12, false, 1, 1, 0)
def t_X12_looks : Mt := (yX12_looks, cX12_looks, 3, none, 12, false, 1, 0, 0)
def t_X12_goesAlong : Mt := (yX12_goesAlong, cX12_goesAlong, 5, none, 12, false, 3, 0, 0)
def t_X12_small : Mt := (yX12_small, cX12_small, 2, (some .int), 12, true, 1, 1, 0)
def t_X12_obeys : Mt := (yX12_obeys, cX12_obeys, 2, (some .int), 12, false, 1, 1, 0)
def t_X12_runs : Mt := (yX12_runs, cX12_runs, 6, (some .boolean), 12, false, 2, 1, 1)
def t_X12_draws : Mt := (yX12_draws, cX12_draws, 2, (some .int), 12, false, 2, 1, 0)
def t_X12_hands : Mt := (yX12_hands, cX12_hands, 7, (some .int), 12, false, 4, 1, 0)
def t_X12_drawn : Mt := (yX12_drawn, cX12_drawn, 2, (some .int), 12, false, 2, 1, 0)
def t_X12_count : Mt := (yX12_count, cX12_count, 2, (some .int), 12, false, 2, 1, 0)
def t_X12_status : Mt := (yX12_status, cX12_status, 1, (some .int), 12, false, 1, 1, 0)
def mt0 : Mt := (⟨"", "", ""⟩, ⟨#[]⟩, 0, none, 0, false, 0, 0, 0)
def mTab : List Mt := [t_X0_init, t_X0_knotAt, t_X0_lawInForce, t_X0_addKnot, t_X0_addBoy, t_X0_addSight, t_X0_addLaw, t_X0_copyFrom, t_X1_init, t_X1_deal, t_X1_dealWord, t_X1_next, t_X2_init, t_X2_ask, t_X2_nearest, t_X2_askNext, t_X2_weigh, t_X3_init, t_X3_begin, t_X3_copyFrom, t_X3_side, t_X3_lastPlace, t_X3_push, t_X3_pop, t_X3_swapSides, t_X4_init, t_X4_prepare, t_X4_cell, t_X4_fillCells, t_X4_fillCell, t_X4_extend, t_X4_mayStand, t_X4_keep, t_X4_firstSlot, t_X4_placeOf, t_X4_placeIn, t_X4_takesIn, t_X4_gripsIn, t_X4_spell, t_X4_leanIn, t_X4_twistsIn, t_X4_howMany, t_X4_find, t_X4_chooseBest, t_X4_chooseNearest, t_X4_clearTally, t_X4_countFronts, t_X4_isFitting, t_X4_countFitting, t_X4_fittingAt, t_X4_whereToLook, t_X5_init, t_X5_read, t_X5_scan, t_X5_isLetter, t_X5_isDigit, t_X5_rowEnd, t_X5_addToken, t_X5_numberOf, t_X5_keyword, t_X5_advance, t_X5_fail, t_X5_clause, t_X5_test, t_X5_plain, t_X5_sum, t_X5_part, t_X5_wordNow, t_X6_init, t_X6_run, t_X6_runOnce, t_X6_loadWords, t_X7_init, t_X7_kept, t_X7_emit, t_X7_closeSkip, t_X7_reckon, t_X7_joined, t_X8_init, t_X8_remember, t_X8_giveBack, t_X8_layOn, t_X8_putThrough, t_X8_drawBack, t_X8_turnOver, t_X8_undoLatest, t_X9_init, t_X9_clear, t_X9_add, t_X9_dropOldest, t_X9_copyFrom, t_X10_init, t_X10_dressed, t_X10_dress, t_X10_hang, t_X10_suits, t_X10_mostFrom, t_X10_firstFor, t_X11_init, t_X11_knot, t_X11_of, t_X11_terms, t_X11_feed, t_X11_end, t_X11_row, t_X11_lint, t_X11_law, t_X11_orders, t_X11_fault, t_X11_stopped, t_X11_force, t_X11_asks, t_X11_lay, t_X11_through, t_X11_draw, t_X11_mirror, t_X11_undo, t_X11_front, t_X11_ways, t_X11_word, t_X11_rank, t_X11_best, t_X11_change, t_X11_alike, t_X11_sight, t_X11_forget, t_X11_fits, t_X11_look, t_X11_boy, t_X11_home, t_X11_wear, t_X11_hands, t_X11_drawn, t_X11_image, t_X11_back, t_X11_count, t_X11_status, t_X11_granted, t_X11_refused, t_X11_outcome, t_X11_putBytes, t_X11_emptiedTape, t_X11_knotCanBe, t_X11_isPlace, t_X11_isWordLength, t_X11_mirrored, t_X11_startOfWord, t_X11_canGoThrough, t_X11_centresOf, t_X11_leanOf, t_X11_wound, t_X11_twistsOf, t_X11_leftOf, t_X11_frontOf, t_X11_frontPlace, t_X12_lies, t_X12_size0, t_X12_greater, t_X12_refuses, t_X12_good, t_X12_settled, t_X12_init, t_X12_image, t_X12_back, t_X12_isKnot, t_X12_fact, t_X12_puts, t_X12_canBe, t_X12_adds, t_X12_knot, t_X12_of, t_X12_isTerm, t_X12_terms, t_X12_row, t_X12_lint, t_X12_feed, t_X12_end, t_X12_isSmall, t_X12_isDigit, t_X12_wordOf, t_X12_splits, t_X12_fine, t_X12_faults, t_X12_takes0, t_X12_must, t_X12_leaf, t_X12_sign, t_X12_mustNumber, t_X12_readClause, t_X12_readOrder, t_X12_readOne, t_X12_readTest, t_X12_readBoth, t_X12_readPlain, t_X12_readSum, t_X12_readTerm, t_X12_readPart, t_X12_reads, t_X12_readsAs, t_X12_lays, t_X12_law, t_X12_fault, t_X12_force, t_X12_codeAt, t_X12_passes0, t_X12_bounded, t_X12_sumOf, t_X12_termOf, t_X12_partOf, t_X12_testOf, t_X12_bothOf, t_X12_plainOf, t_X12_positiveOf, t_X12_tells, t_X12_sideOf, t_X12_sets, t_X12_takesBy, t_X12_gripsBy, t_X12_isBarred, t_X12_takesKnot, t_X12_takesAll, t_X12_gripsAll, t_X12_centres, t_X12_leans, t_X12_isWound, t_X12_twists, t_X12_leftOver, t_X12_canThrough, t_X12_holds, t_X12_frontOf, t_X12_front, t_X12_asks, t_X12_keeps, t_X12_undo, t_X12_goodOr, t_X12_laysKept, t_X12_throughsKept, t_X12_drawsKept, t_X12_mirrorsKept, t_X12_mirrored, t_X12_lay, t_X12_through, t_X12_draw, t_X12_mirror, t_X12_askOf, t_X12_asksAll, t_X12_wordsOf, t_X12_isLong, t_X12_following, t_X12_opens, t_X12_askAt, t_X12_isProper, t_X12_takesWord, t_X12_gripsWord, t_X12_opensProper, t_X12_ways, t_X12_word, t_X12_unlike, t_X12_rank, t_X12_isBetter, t_X12_best, t_X12_change, t_X12_alike, t_X12_sight, t_X12_forget, t_X12_isFitting, t_X12_fits, t_X12_look, t_X12_boy, t_X12_home, t_X12_isWorn, t_X12_triesBoy, t_X12_wear, t_X12_stopped, t_X12_orders, t_X12_looks, t_X12_goesAlong, t_X12_small, t_X12_obeys, t_X12_runs, t_X12_draws, t_X12_hands, t_X12_drawn, t_X12_count, t_X12_status]
def mY (j : Nat) : MethodName := (mTab.getD j mt0).1
def mC (j : Nat) : ByteArray := (mTab.getD j mt0).2.1
def mN (j : Nat) : Nat := (mTab.getD j mt0).2.2.1
def mR (j : Nat) : Option FieldType := (mTab.getD j mt0).2.2.2.1
def mOw (j : Nat) : Nat := (mTab.getD j mt0).2.2.2.2.1
def mS (j : Nat) : Bool := (mTab.getD j mt0).2.2.2.2.2.1
def mNa (j : Nat) : Nat := (mTab.getD j mt0).2.2.2.2.2.2.1
def mRt (j : Nat) : Nat := (mTab.getD j mt0).2.2.2.2.2.2.2.1
def mB (j : Nat) : Nat := (mTab.getD j mt0).2.2.2.2.2.2.2.2
def codL : List Nat := [140, 648, 656, 628, 1191, 1154, 859, 876, 519, 1235, 1239, 1243, 276, 664, 679, 917, 652, 174, 632, 880, 660, 900, 922, 948, 956, 456, 1032, 1047, 1040, 1044, 1052, 1062, 1056, 1059, 1073, 1082, 1103, 1107, 1070, 1116, 1120, 1066, 1090, 1098, 1129, 1142, 1138, 1170, 1166, 1175, 1183, 338, 730, 734, 740, 743, 737, 747, 803, 751, 814, 826, 810, 838, 842, 818, 822, 830, 436, 868, 891, 895, 344, 850, 834, 846, 668, 672, 318, 872, 961, 907, 934, 944, 952, 1011, 150, 636, 926, 930, 886, 549, 1226, 1203, 1207, 1217, 1213, 1222, 132, 617, 644, 698, 702, 710, 714, 722, 726, 864, 969, 973, 977, 981, 987, 992, 997, 1002, 1007, 1015, 1025, 1078, 1086, 1094, 1125, 1134, 1150, 1158, 1162, 1179, 1187, 1195, 1199, 1230, 1252, 1256, 1261, 1265, 1269, 640, 624, 965, 706, 718, 620, 910, 1028, 940, 1036, 937, 682, 685, 691, 688, 694, 1018, 1021, 1473, 1620, 1884, 1477, 1481, 1489, 1274, 1470, 1485, 1512, 1520, 1504, 1496, 1500, 1493, 1508, 1627, 1624, 1631, 1635, 1639, 1643, 1662, 1665, 1669, 1659, 1686, 1702, 1682, 1706, 1710, 1559, 1714, 1730, 1678, 1674, 1718, 1722, 1726, 1690, 1694, 1698, 1655, 1651, 1734, 1647, 1738, 1742, 1544, 1563, 1567, 1548, 1552, 1556, 1573, 1577, 1581, 1585, 1540, 1536, 1532, 1528, 1593, 1758, 1516, 1524, 1589, 1601, 1605, 1613, 1609, 1617, 1790, 1597, 1750, 1746, 1754, 1774, 1762, 1778, 1770, 1786, 1798, 1806, 1809, 1766, 1782, 1794, 1802, 1823, 1820, 1826, 1816, 1837, 1834, 1845, 1841, 1865, 1869, 1830, 1813, 1849, 1857, 1853, 1873, 1861, 1877, 1881, 1888, 1892, 1900, 1896, 1904, 1908, 1912, 1924, 1920, 1916, 1928, 1932, 1944, 1940, 1951, 1948, 1936, 1960, 1956, 1967, 1971, 1975]
def stL : List Nat := [139, 646, 654, 626, 1189, 1152, 857, 874, 518, 1233, 1238, 1242, 275, 662, 678, 915, 650, 173, 630, 878, 658, 898, 920, 946, 954, 455, 1030, 1046, 1039, 1043, 1051, 1061, 1055, 1058, 1072, 1080, 1101, 1105, 1069, 1114, 1118, 1064, 1088, 1096, 1127, 1141, 1136, 1169, 1164, 1173, 1181, 337, 728, 733, 739, 742, 736, 746, 802, 750, 813, 825, 809, 837, 841, 817, 821, 829, 435, 866, 890, 894, 343, 848, 832, 844, 666, 671, 317, 870, 959, 905, 932, 942, 950, 1009, 149, 634, 924, 929, 884, 548, 1224, 1201, 1206, 1216, 1212, 1221, 131, 615, 642, 696, 700, 708, 712, 720, 724, 862, 967, 971, 975, 979, 985, 990, 995, 1000, 1005, 1013, 1023, 1076, 1084, 1092, 1123, 1132, 1148, 1156, 1160, 1177, 1185, 1193, 1197, 1228, 1250, 1254, 1259, 1263, 1267, 639, 623, 964, 705, 717, 619, 909, 1027, 939, 1035, 936, 681, 684, 690, 687, 693, 1017, 1020, 1472, 1619, 1883, 1476, 1480, 1488, 1273, 1468, 1483, 1511, 1519, 1503, 1495, 1499, 1491, 1506, 1626, 1622, 1629, 1633, 1637, 1641, 1661, 1664, 1668, 1658, 1685, 1701, 1681, 1705, 1709, 1558, 1713, 1729, 1677, 1673, 1717, 1721, 1725, 1689, 1693, 1697, 1654, 1650, 1733, 1645, 1736, 1740, 1543, 1562, 1566, 1547, 1551, 1555, 1572, 1576, 1580, 1584, 1539, 1535, 1531, 1527, 1592, 1757, 1515, 1523, 1588, 1600, 1604, 1612, 1608, 1616, 1789, 1596, 1749, 1744, 1752, 1773, 1760, 1777, 1769, 1785, 1797, 1805, 1808, 1764, 1780, 1792, 1800, 1822, 1819, 1825, 1815, 1836, 1833, 1844, 1840, 1864, 1868, 1829, 1811, 1847, 1856, 1851, 1872, 1859, 1875, 1879, 1886, 1890, 1899, 1894, 1902, 1906, 1910, 1923, 1919, 1914, 1926, 1930, 1943, 1939, 1950, 1947, 1935, 1959, 1954, 1965, 1969, 1973]
def seL : List Nat := [0, 647, 655, 627, 1190, 1153, 858, 875, 0, 1234, 29, 30, 0, 663, 0, 916, 651, 0, 631, 879, 659, 899, 921, 947, 955, 0, 1031, 0, 18, 19, 20, 0, 21, 0, 0, 1081, 1102, 1106, 22, 1115, 1119, 1065, 1089, 1097, 1128, 23, 1137, 24, 1165, 1174, 1182, 0, 729, 4, 0, 0, 0, 5, 0, 0, 7, 10, 6, 12, 13, 8, 9, 11, 0, 867, 14, 15, 0, 849, 833, 845, 667, 0, 0, 871, 960, 906, 933, 943, 951, 1010, 0, 635, 925, 16, 885, 0, 1225, 1202, 25, 27, 26, 28, 0, 616, 643, 697, 701, 709, 713, 721, 725, 863, 968, 972, 976, 980, 986, 991, 996, 1001, 1006, 1014, 1024, 1077, 1085, 1093, 1124, 1133, 1149, 1157, 1161, 1178, 1186, 1194, 1198, 1229, 1251, 1255, 1260, 1264, 1268, 1, 0, 17, 2, 3, 0, 0, 0, 0, 0, 0, 0, 0, 0, 0, 0, 0, 0, 0, 0, 0, 31, 32, 33, 0, 1469, 1484, 36, 38, 35, 0, 34, 1492, 1507, 0, 1623, 1630, 1634, 1638, 1642, 0, 0, 65, 64, 69, 73, 68, 74, 75, 0, 76, 80, 67, 66, 77, 78, 79, 70, 71, 72, 63, 62, 81, 1646, 1737, 1741, 44, 48, 49, 45, 46, 47, 50, 51, 52, 53, 43, 42, 41, 40, 55, 83, 37, 39, 54, 57, 58, 60, 59, 61, 88, 56, 82, 1745, 1753, 85, 1761, 86, 84, 87, 89, 90, 0, 1765, 1781, 1793, 1801, 0, 91, 0, 0, 0, 93, 95, 94, 97, 98, 92, 1812, 1848, 96, 1852, 99, 1860, 1876, 1880, 1887, 1891, 100, 1895, 1903, 1907, 1911, 102, 101, 1915, 1927, 1931, 105, 104, 0, 106, 103, 107, 1955, 1966, 1970, 1974]
def mChk (j : Nat) : Bool := (if mS j then inT (stL.getD j 0) (.static (mY j)) else inT (stL.getD j 0) (.instanceMethod (mY j)) && (decide ((mY j).name = "<init>") || inT (seL.getD j 0) (.selects (cn (mOw j)) (mY j) (mY j)))) &&
  decide ((mY j).cls = cn (mOw j)) && decide (mOw j < 13) && plainName (mY j).cls && decide ((mY j).cls ≠ "java/lang/invoke/MethodHandle" ∧ (mY j).cls ≠ "java/lang/invoke/VarHandle") && decide ((parseMethodDescriptor (mY j).desc).map (fun d => d.parameters.length) = some (mNa j - if mS j then 0 else 1)) && decide (mN j ≤ 20) && decide (mRt j ≤ 3)
set_option maxRecDepth 100000 in
theorem m_ok0 : ((List.range 60).all fun j => mChk (0 + j)) = true := by decide +kernel
set_option maxRecDepth 100000 in
theorem m_ok1 : ((List.range 60).all fun j => mChk (60 + j)) = true := by decide +kernel
set_option maxRecDepth 100000 in
theorem m_ok2 : ((List.range 60).all fun j => mChk (120 + j)) = true := by decide +kernel
set_option maxRecDepth 100000 in
theorem m_ok3 : ((List.range 60).all fun j => mChk (180 + j)) = true := by decide +kernel
set_option maxRecDepth 100000 in
theorem m_ok4 : ((List.range 45).all fun j => mChk (240 + j)) = true := by decide +kernel
def poolF : List (Nat × Nat × Nat × Nat × Nat) := [(9, 9, 9, 0, 152), (8, 104, 9, 0, 153), (11, 355, 9, 0, 154), (9, 15, 9, 1, 155), (8, 110, 9, 1, 156), (9, 19, 9, 2, 157), (8, 107, 9, 2, 158), (9, 22, 9, 3, 159), (8, 113, 9, 3, 160), (3, 9, 3, 0, 176), (11, 129, 3, 0, 177), (10, 68, 3, 0, 178), (8, 91, 3, 0, 179), (3, 15, 3, 1, 180), (11, 134, 3, 1, 181), (2, 80, 3, 1, 182), (3, 18, 3, 2, 183), (11, 137, 3, 2, 184), (8, 70, 3, 2, 185), (6, 122, 3, 2, 186), (3, 21, 3, 3, 187), (11, 140, 3, 3, 188), (2, 66, 3, 3, 189), (10, 65, 3, 3, 190), (8, 47, 3, 3, 191), (6, 103, 3, 3, 192), (3, 24, 3, 4, 193), (11, 143, 3, 4, 194), (8, 37, 3, 4, 195), (10, 75, 3, 4, 196), (3, 28, 3, 5, 197), (11, 156, 3, 5, 198), (10, 60, 3, 5, 199), (8, 87, 3, 5, 200), (2, 95, 3, 5, 201), (0, 11, 0, 0, 215), (10, 47, 0, 0, 216), (0, 17, 0, 1, 217), (11, 115, 0, 1, 218), (10, 27, 0, 1, 219), (6, 88, 0, 1, 220), (0, 21, 0, 2, 221), (10, 85, 0, 2, 222), (0, 25, 0, 3, 223), (10, 37, 0, 3, 224), (11, 323, 0, 3, 225), (0, 28, 0, 4, 226), (4, 172, 0, 4, 227), (0, 31, 0, 5, 228), (4, 175, 0, 5, 229), (0, 34, 0, 6, 230), (4, 169, 0, 6, 231), (11, 306, 0, 6, 232), (0, 37, 0, 7, 233), (4, 67, 0, 7, 234), (11, 153, 0, 7, 235), (2, 77, 0, 7, 236), (10, 82, 0, 7, 237), (0, 42, 0, 8, 238), (0, 46, 0, 9, 239), (11, 180, 0, 9, 240), (0, 49, 0, 10, 241), (11, 211, 0, 10, 242), (0, 55, 0, 11, 243), (11, 106, 0, 11, 244), (8, 77, 0, 11, 245), (2, 9, 2, 0, 278), (2, 15, 2, 1, 279), (2, 18, 2, 2, 280), (8, 67, 2, 2, 281), (4, 102, 2, 2, 282), (11, 222, 2, 2, 283), (2, 22, 2, 3, 284), (4, 105, 2, 3, 285), (11, 225, 2, 3, 286), (2, 25, 2, 4, 287), (8, 61, 2, 4, 288), (4, 108, 2, 4, 289), (11, 228, 2, 4, 290), (2, 29, 2, 5, 291), (11, 147, 2, 5, 292), (10, 57, 2, 5, 293), (8, 64, 2, 5, 294), (6, 125, 2, 5, 295), (2, 32, 2, 6, 296), (11, 150, 2, 6, 297), (10, 79, 2, 6, 298), (8, 18, 8, 0, 322), (6, 84, 8, 0, 323), (8, 21, 8, 1, 324), (6, 112, 8, 1, 325), (8, 12, 8, 2, 326), (7, 18, 7, 0, 346), (6, 96, 7, 0, 347), (7, 22, 7, 1, 348), (6, 93, 7, 1, 349), (7, 9, 7, 2, 350), (5, 54, 7, 2, 351), (7, 15, 7, 3, 352), (6, 31, 7, 3, 353), (5, 57, 7, 3, 354), (2, 35, 7, 3, 355), (7, 25, 7, 4, 356), (2, 57, 7, 4, 357), (6, 67, 7, 4, 358), (5, 112, 7, 4, 359), (7, 28, 7, 5, 360), (6, 36, 7, 5, 361), (5, 113, 7, 5, 362), (7, 31, 7, 6, 363), (2, 50, 7, 6, 364), (6, 60, 7, 6, 365), (5, 116, 7, 6, 366), (7, 34, 7, 7, 367), (2, 53, 7, 7, 368), (6, 63, 7, 7, 369), (5, 122, 7, 7, 370), (7, 37, 7, 8, 371), (2, 40, 7, 8, 372), (6, 50, 7, 8, 373), (5, 125, 7, 8, 374), (7, 40, 7, 9, 375), (2, 43, 7, 9, 376), (6, 53, 7, 9, 377), (5, 131, 7, 9, 378), (5, 14, 5, 0, 400), (11, 187, 5, 0, 401), (5, 20, 5, 1, 402), (5, 24, 5, 2, 403), (5, 27, 5, 3, 404), (5, 30, 5, 4, 405), (5, 34, 5, 5, 406), (5, 37, 5, 6, 407), (5, 40, 5, 7, 408), (5, 43, 5, 8, 409), (5, 46, 5, 9, 410), (6, 22, 6, 0, 438), (6, 11, 6, 1, 439), (6, 15, 6, 2, 440), (6, 18, 6, 3, 441), (11, 201, 6, 3, 442), (4, 63, 4, 0, 458), (4, 9, 4, 1, 459), (4, 15, 4, 2, 460), (4, 19, 4, 3, 461), (4, 22, 4, 4, 462), (4, 26, 4, 5, 463), (4, 29, 4, 6, 464), (4, 33, 4, 7, 465), (4, 36, 4, 8, 466), (11, 264, 4, 8, 467), (4, 39, 4, 9, 468), (4, 42, 4, 10, 469), (4, 45, 4, 11, 470), (4, 48, 4, 12, 471), (4, 51, 4, 13, 472), (4, 54, 4, 14, 473), (11, 278, 4, 14, 474), (4, 57, 4, 15, 475), (11, 296, 4, 15, 476), (4, 60, 4, 16, 477), (11, 299, 4, 16, 478), (1, 9, 1, 0, 521), (1, 15, 1, 1, 522), (11, 343, 1, 1, 523), (1, 18, 1, 2, 524), (11, 340, 1, 2, 525), (1, 21, 1, 3, 526), (11, 344, 1, 3, 527), (1, 24, 1, 4, 528), (11, 347, 1, 4, 529), (1, 27, 1, 5, 530), (11, 350, 1, 5, 531), (10, 9, 10, 0, 551), (10, 15, 10, 1, 552), (10, 18, 10, 2, 553), (10, 21, 10, 3, 554), (10, 24, 10, 4, 555), (11, 332, 10, 4, 556), (11, 9, 11, 0, 568), (11, 13, 11, 1, 569), (11, 20, 11, 2, 570), (11, 24, 11, 3, 571), (11, 31, 11, 4, 572), (11, 40, 11, 5, 573), (11, 47, 11, 6, 574), (11, 56, 11, 7, 575), (11, 65, 11, 8, 576), (11, 72, 11, 9, 577), (11, 79, 11, 10, 578), (11, 83, 11, 11, 579), (11, 86, 11, 12, 580), (11, 89, 11, 13, 581), (11, 92, 11, 14, 582), (12, 3, 12, 0, 1276), (12, 7, 12, 1, 1277), (12, 24, 12, 2, 1278), (12, 27, 12, 3, 1279), (12, 30, 12, 4, 1280), (12, 34, 12, 5, 1281), (12, 178, 12, 6, 1282), (12, 37, 12, 7, 1283), (12, 252, 12, 8, 1284), (12, 255, 12, 9, 1285), (12, 226, 12, 10, 1286), (12, 41, 12, 11, 1287), (12, 44, 12, 12, 1288), (12, 175, 12, 13, 1289), (12, 47, 12, 14, 1290), (12, 50, 12, 15, 1291), (12, 53, 12, 16, 1292), (12, 56, 12, 17, 1293), (12, 181, 12, 18, 1294), (12, 201, 12, 19, 1295), (12, 210, 12, 20, 1296), (12, 194, 12, 21, 1297), (12, 280, 12, 22, 1298), (12, 277, 12, 23, 1299), (12, 290, 12, 24, 1300), (12, 59, 12, 25, 1301), (12, 62, 12, 26, 1302), (12, 322, 12, 27, 1303), (12, 328, 12, 28, 1304), (12, 168, 12, 29, 1305), (12, 65, 12, 30, 1306), (12, 68, 12, 31, 1307), (12, 71, 12, 32, 1308), (12, 11, 12, 33, 1309), (12, 74, 12, 34, 1310), (12, 77, 12, 35, 1311), (12, 80, 12, 36, 1312), (12, 413, 12, 37, 1313), (12, 416, 12, 38, 1314), (12, 428, 12, 39, 1315), (12, 431, 12, 40, 1316), (12, 410, 12, 41, 1317), (12, 83, 12, 42, 1318), (12, 86, 12, 43, 1319), (12, 89, 12, 44, 1320), (12, 92, 12, 45, 1321), (12, 95, 12, 46, 1322), (12, 98, 12, 47, 1323), (12, 440, 12, 48, 1324), (12, 101, 12, 49, 1325), (12, 449, 12, 50, 1326), (12, 452, 12, 51, 1327), (12, 455, 12, 52, 1328), (12, 470, 12, 53, 1329), (12, 464, 12, 54, 1330), (12, 467, 12, 55, 1331), (12, 473, 12, 56, 1332), (12, 104, 12, 57, 1333), (12, 108, 12, 58, 1334), (12, 111, 12, 59, 1335), (12, 498, 12, 60, 1336), (12, 501, 12, 61, 1337), (12, 491, 12, 62, 1338)]
def poolM : List (Nat × Nat × Nat × Nat) := [(11, 19, 0, 138), (11, 37, 78, 316), (8, 11, 0, 321), (5, 11, 72, 342), (11, 53, 68, 434), (11, 62, 25, 454), (11, 95, 142, 618), (11, 99, 138, 621), (11, 103, 3, 625), (0, 60, 18, 629), (11, 110, 87, 633), (11, 118, 137, 637), (11, 121, 1, 645), (11, 125, 16, 649), (2, 71, 2, 653), (2, 83, 20, 657), (2, 91, 13, 661), (2, 46, 76, 665), (7, 53, 77, 670), (2, 62, 14, 677), (11, 159, 148, 680), (11, 163, 149, 683), (11, 166, 151, 686), (11, 361, 150, 689), (11, 169, 152, 692), (11, 172, 140, 703), (11, 176, 141, 715), (11, 183, 52, 727), (5, 50, 53, 731), (5, 70, 56, 735), (5, 78, 54, 738), (5, 82, 55, 741), (5, 74, 57, 744), (5, 87, 59, 749), (5, 93, 58, 801), (5, 60, 62, 807), (5, 64, 60, 811), (5, 119, 65, 815), (5, 143, 66, 819), (5, 67, 61, 823), (5, 146, 67, 827), (5, 137, 74, 831), (5, 128, 63, 835), (5, 134, 64, 839), (5, 140, 75, 843), (11, 191, 73, 847), (7, 43, 72, 852), (11, 197, 6, 856), (11, 204, 69, 865), (6, 26, 79, 869), (8, 25, 7, 873), (0, 64, 19, 877), (0, 74, 90, 883), (6, 39, 70, 888), (6, 46, 71, 892), (6, 99, 1, 896), (6, 108, 21, 897), (6, 116, 16, 901), (6, 56, 76, 902), (6, 70, 81, 904), (8, 33, 1, 911), (8, 43, 21, 912), (8, 51, 16, 913), (8, 57, 15, 914), (2, 87, 21, 918), (8, 73, 22, 919), (8, 81, 88, 923), (9, 25, 89, 927), (6, 74, 82, 931), (11, 358, 145, 938), (6, 78, 83, 941), (8, 98, 23, 945), (6, 81, 84, 949), (8, 101, 24, 953), (6, 43, 80, 958), (11, 208, 139, 962), (11, 214, 143, 982), (11, 218, 15, 983), (11, 231, 81, 988), (11, 235, 82, 993), (11, 238, 83, 998), (11, 241, 84, 1003), (11, 244, 85, 1008), (11, 247, 153, 1016), (11, 251, 154, 1019), (11, 254, 144, 1026), (11, 257, 26, 1029), (4, 72, 2, 1033), (4, 80, 28, 1037), (4, 88, 29, 1041), (4, 92, 27, 1045), (4, 96, 13, 1048), (4, 84, 30, 1049), (4, 112, 32, 1053), (4, 119, 33, 1057), (4, 115, 31, 1060), (11, 261, 41, 1063), (4, 126, 38, 1067), (4, 122, 34, 1071), (11, 267, 35, 1079), (11, 271, 42, 1087), (11, 274, 43, 1095), (4, 145, 26, 1099), (4, 149, 36, 1100), (4, 153, 37, 1104), (11, 281, 39, 1113), (11, 284, 40, 1117), (11, 287, 36, 1121), (11, 290, 44, 1126), (4, 156, 35, 1130), (11, 293, 46, 1135), (4, 159, 45, 1139), (11, 302, 5, 1151), (11, 309, 48, 1163), (4, 181, 47, 1167), (11, 313, 49, 1172), (11, 317, 50, 1180), (11, 320, 4, 1188), (11, 326, 93, 1200), (10, 33, 94, 1204), (10, 51, 16, 1208), (10, 40, 96, 1210), (10, 88, 95, 1214), (10, 44, 97, 1219), (11, 329, 92, 1223), (11, 336, 9, 1232), (1, 31, 10, 1236), (1, 52, 11, 1240), (1, 34, 42, 1245), (1, 40, 37, 1246), (1, 44, 39, 1247), (11, 351, 7, 1257), (12, 114, 155, 1471), (12, 118, 158, 1474), (12, 14, 159, 1478), (12, 121, 160, 1486), (12, 128, 167, 1494), (12, 131, 168, 1497), (12, 124, 166, 1501), (12, 134, 164, 1509), (12, 138, 219, 1513), (12, 142, 165, 1517), (12, 146, 220, 1521), (12, 338, 216, 1525), (12, 331, 215, 1529), (12, 325, 214, 1533), (12, 334, 213, 1537), (12, 283, 203, 1541), (12, 307, 206, 1545), (12, 293, 207, 1549), (12, 301, 208, 1553), (12, 242, 186, 1557), (12, 304, 204, 1560), (12, 297, 205, 1564), (12, 319, 209, 1570), (12, 310, 210, 1574), (12, 313, 211, 1578), (12, 316, 212, 1582), (12, 150, 221, 1586), (12, 341, 217, 1590), (12, 153, 228, 1594), (12, 156, 222, 1598), (12, 159, 223, 1602), (12, 162, 225, 1606), (12, 344, 224, 1610), (12, 165, 226, 1614), (12, 347, 156, 1618), (12, 171, 171, 1625), (12, 270, 198, 1648), (12, 267, 197, 1652), (12, 261, 180, 1656), (12, 184, 177, 1660), (12, 187, 178, 1663), (12, 190, 179, 1666), (12, 264, 190, 1671), (12, 230, 189, 1675), (12, 204, 183, 1679), (12, 197, 181, 1683), (12, 213, 194, 1687), (12, 246, 195, 1691), (12, 249, 196, 1695), (12, 207, 182, 1699), (12, 216, 184, 1703), (12, 258, 185, 1707), (12, 222, 187, 1711), (12, 219, 191, 1715), (12, 236, 192, 1719), (12, 239, 193, 1723), (12, 233, 188, 1727), (12, 274, 199, 1731), (12, 350, 229, 1747), (12, 353, 218, 1755), (12, 365, 235, 1767), (12, 356, 232, 1771), (12, 368, 234, 1775), (12, 371, 236, 1783), (12, 359, 227, 1787), (12, 374, 237, 1795), (12, 377, 238, 1803), (12, 362, 239, 1807), (12, 395, 247, 1814), (12, 398, 245, 1817), (12, 380, 244, 1821), (12, 401, 246, 1824), (12, 404, 254, 1827), (12, 389, 249, 1831), (12, 383, 248, 1835), (12, 392, 251, 1838), (12, 386, 250, 1842), (12, 407, 257, 1854), (12, 419, 252, 1862), (12, 422, 253, 1866), (12, 425, 259, 1870), (12, 434, 157, 1882), (12, 437, 265, 1897), (12, 446, 271, 1917), (12, 443, 270, 1921), (12, 458, 279, 1933), (12, 482, 276, 1937), (12, 461, 275, 1941), (12, 486, 278, 1945), (12, 478, 277, 1949), (12, 504, 280, 1957)]
def poolN : List (Nat × Nat × Nat × Nat) := [(0, 54, 86, 148), (0, 59, 17, 172), (11, 30, 12, 274), (11, 46, 51, 336), (11, 71, 8, 517), (11, 78, 91, 547), (8, 29, 143, 908), (8, 94, 147, 935), (3, 38, 145, 957), (4, 76, 146, 1034), (4, 142, 148, 1074), (4, 139, 151, 1108), (4, 130, 149, 1109), (4, 162, 153, 1143), (4, 178, 145, 1171), (10, 71, 153, 1209)]
def poolC : List (Nat × Nat × Nat × Nat) := [(11, 17, 0, 136), (0, 9, 3, 142), (0, 40, 7, 144), (0, 52, 9, 146), (11, 28, 2, 272), (11, 35, 8, 314), (8, 9, 0, 320), (11, 44, 5, 334), (5, 9, 7, 340), (11, 51, 6, 432), (11, 60, 4, 452), (11, 69, 1, 515), (11, 76, 10, 545), (7, 10, 7, 851)]
def poolX : List (Nat × Nat × Nat × Nat) := [(11, 1, 1, 133), (0, 3, 1, 141), (9, 3, 1, 151), (3, 3, 1, 175), (2, 3, 1, 277), (8, 3, 1, 319), (5, 3, 1, 339), (7, 3, 1, 345), (6, 3, 1, 437), (4, 3, 1, 457), (1, 3, 1, 520), (10, 3, 1, 550), (5, 102, 6, 752), (5, 108, 7, 762), (5, 96, 3, 804), (7, 46, 5, 853), (3, 32, 5, 881), (0, 68, 5, 882), (9, 28, 5, 887), (4, 134, 4, 1110), (4, 166, 2, 1144), (10, 92, 2, 1218), (1, 47, 2, 1248), (12, 18, 1, 1275)]
def poolI : List (Nat × Nat × Int × Nat) := [(7, 52, -2147483648, 669), (2, 56, -2147483648, 676), (6, 66, -2147483648, 903), (11, 335, 1000000, 1231), (1, 56, 1000003, 1244), (12, 193, 1000000, 1670)]
def poolJ : List (Nat × Nat × Int × Nat) := [(7, 57, -2147483648, 673), (7, 59, -1000000000, 674), (7, 61, 1000000000, 675), (12, 286, 1000000000, 1568), (12, 288, -1000000000, 1569), (12, 476, 1000000, 1952), (12, 489, 1103, 1961), (12, 494, 12345, 1962), (12, 496, 1000003, 1963)]
def jdkY (c : Nat) : MethodName := match c with
  | 1 => Lib.objectInit
  | 2 => Lib.Math.max.name
  | 3 => Lib.Math.min.name
  | 4 => Lib.Math.abs.name
  | 5 => arraycopyName
  | 6 => yJ0_length_8abf5
  | _ => yJ0_charAt_5068e
set_option maxRecDepth 100000 in
theorem poolF_ok : (poolF.all fun q => inT q.2.2.2.2 (.fieldLink (cn q.1) q.2.1 (cT q.2.2.1 q.2.2.2.1).1 (cT q.2.2.1 q.2.2.2.1).2.1 (cT q.2.2.1 q.2.2.2.1).2.2.1) && decide (q.2.2.1 < 13) && decide (q.2.2.2.1 < cN q.2.2.1)) = true := by decide +kernel
set_option maxRecDepth 100000 in
theorem poolM_ok : (poolM.all fun q => inT q.2.2.2 (.methodLink (cn q.1) q.2.1 (mY q.2.2.1)) && decide (q.2.2.1 < 285)) = true := by decide +kernel
set_option maxRecDepth 100000 in
theorem poolN_ok : (poolN.all fun q => decide (lw_tbl[q.2.2.2]? = some (.methodLinkNest (cn q.1) q.2.1 (mY q.2.2.1) "NeckKnots")) && decide (q.2.2.1 < 285)) = true := by decide +kernel
set_option maxRecDepth 100000 in
theorem poolC_ok : (poolC.all fun q => inT q.2.2.2 (.classLink (cn q.1) q.2.1 (cn q.2.2.1)) && decide (q.2.2.1 < 13)) = true := by decide +kernel
set_option maxRecDepth 100000 in
theorem poolX_ok : (poolX.all fun q => inT q.2.2.2 (.methodLink (cn q.1) q.2.1 (jdkY q.2.2.1))) = true := by decide +kernel
set_option maxRecDepth 100000 in
theorem poolI_ok : (poolI.all fun q => inT q.2.2.2 (.constant (cn q.1) q.2.1 (Int32.ofInt q.2.2.1)) && decide (-2147483648 ≤ q.2.2.1 ∧ q.2.2.1 < 2147483648)) = true := by decide +kernel
set_option maxRecDepth 100000 in
theorem poolJ_ok : (poolJ.all fun q => inT q.2.2.2 (.constantLong (cn q.1) q.2.1 (Int64.ofInt q.2.2.1)) && decide (-9223372036854775808 ≤ q.2.2.1 ∧ q.2.2.1 < 9223372036854775808)) = true := by decide +kernel

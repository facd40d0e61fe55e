/-! tables of classes, methods and pool entries; printed by wip/whole/tools/mk_tab.py -/
def lw_good : List Cond := lw_tbl.filter goodWord
def inT (i : Nat) (w : Cond) : Bool := decide (lw_tbl[i]? = some w) && goodWord w
theorem inT_mem {i : Nat} {w : Cond} (h : inT i w = true) : w ∈ lw_good := by
  unfold inT at h
  simp only [Bool.and_eq_true, decide_eq_true_eq] at h
  exact List.mem_filter.mpr ⟨List.mem_of_getElem? h.1, h.2⟩
def vw0 : vw_C := ("", (fun _ => ("", "", "", false)), 0)
def cn (n : Nat) : String := (vwCl.getD n vw0).1
def cT (n : Nat) : u_T := (vwCl.getD n vw0).2.1
def cN (n : Nat) : Nat := (vwCl.getD n vw0).2.2
def ftyL : List (List Nat) := [[24, 0, 20, 0, 20, 20, 0, 20, 26, 0, 0, 13], [0, 0, 0, 0, 0, 20], [20, 20, 0, 0, 1, 0, 0], [0, 0, 0, 0, 1, 20], [6, 11, 0, 0, 20, 20, 22, 22, 20, 20, 20, 20, 20, 20, 0, 0, 0], [11, 20, 20, 20, 0, 0, 0, 0, 0, 1], [12, 20, 20, 0], [20, 20, 0, 0, 20, 20, 20, 20, 20, 20], [4, 6, 4], [0, 20, 20, 20], [20, 20, 20, 20, 20], [20, 0, 4, 25, 6, 12, 9, 10, 8, 5, 14, 20, 0, 0, 0], [0, 20, 20, 20, 22, 20, 0, 21, 0, 0, 1, 21, 20, 0, 0, 20, 20, 20, 0, 0, 0, 0, 0, 0, 1, 20, 20, 0, 0, 0, 20, 20, 20, 0, 20, 20, 22, 0, 0, 0, 0, 0, 20, 20, 20, 20, 20, 20, 0, 0, 0, 0, 0, 0, 0, 1, 1, 23, 20, 0, 0, 0, 0]]
def fty (ci k : Nat) : Nat := (ftyL.getD ci []).getD k 0
def layL : List (List Nat) := [[247, 249, 251, 253, 255, 257, 259, 261, 263, 265, 267, 269], [533, 535, 537, 539, 541, 543], [300, 302, 304, 306, 308, 310, 312], [203, 205, 207, 209, 211, 213], [480, 482, 484, 486, 488, 490, 492, 494, 496, 498, 500, 502, 504, 506, 508, 510, 512], [412, 414, 416, 418, 420, 422, 424, 426, 428, 430], [444, 446, 448, 450], [380, 382, 384, 386, 388, 390, 392, 394, 396, 398], [328, 330, 332], [162, 164, 166, 168], [558, 560, 562, 564, 566], [584, 586, 588, 590, 592, 594, 596, 598, 600, 602, 604, 606, 608, 610, 612], [1345, 1347, 1349, 1351, 1353, 1355, 1357, 1359, 1361, 1363, 1365, 1367, 1369, 1371, 1373, 1375, 1377, 1379, 1381, 1383, 1385, 1387, 1389, 1391, 1393, 1395, 1397, 1399, 1401, 1403, 1405, 1407, 1409, 1411, 1413, 1415, 1417, 1419, 1421, 1423, 1425, 1427, 1429, 1431, 1433, 1435, 1437, 1439, 1441, 1443, 1445, 1447, 1449, 1451, 1453, 1455, 1457, 1459, 1461, 1463, 1465, 1467, 1469]]
set_option maxRecDepth 100000 in
theorem lay_ok : ((List.range 13).all fun ci => (List.range (cN ci)).all fun k => inT ((layL.getD ci []).getD k 0) (u_lay (cn ci) (cT ci) k)) = true := by decide +kernel
def iniL : List Nat := [111, 120, 114, 113, 119, 116, 118, 117, 115, 112, 121, 110, 122]
def insL : List Nat := [138, 517, 274, 172, 454, 336, 434, 342, 316, 148, 547, 130, 1277]
theorem ini_ok : ((List.range 13).all fun ci => inT (iniL.getD ci 0) (.initialized (cn ci)) && inT (insL.getD ci 0) (.instantiable (cn ci) (cN ci))) = true := by decide +kernel
abbrev Mt : Type := MethodName × ByteArray × Nat × Option FieldType × Nat × Bool × Nat × Nat × Nat
def t_X0_init : Mt := (yX0_init, cX0_init, 2, none, 0, false, 1, 0, 0)
def t_X0_knotAt : Mt := (yX0_knotAt, cX0_knotAt, 2, (some (.object "NeckKnots$Knot")), 0, false, 2, 3, 0)
def t_X0_lawInForce : Mt := (yX0_lawInForce, cX0_lawInForce, 1, (some (.object "NeckKnots$Script")), 0, false, 1, 3, 0)
def t_X0_addKnot : Mt := (yX0_addKnot, cX0_addKnot, 4, (some .boolean), 0, false, 4, 1, 1)
def t_X0_addBoy : Mt := (yX0_addBoy, cX0_addBoy, 2, (some .boolean), 0, false, 2, 1, 1)
def t_X0_addSight : Mt := (yX0_addSight, cX0_addSight, 3, (some .boolean), 0, false, 3, 1, 1)
def t_X0_addLaw : Mt := (yX0_addLaw, cX0_addLaw, 2, none, 0, false, 2, 0, 0)
def t_X0_copyFrom : Mt := (yX0_copyFrom, cX0_copyFrom, 3, none, 0, false, 2, 0, 0)
def t_X1_init : Mt := (yX1_init, cX1_init, 1, none, 1, false, 1, 0, 0)
def t_X1_deal : Mt := (yX1_deal, cX1_deal, 8, none, 1, false, 6, 0, 0)
def t_X1_dealWord : Mt := (yX1_dealWord, cX1_dealWord, 6, none, 1, false, 1, 0, 0)
def t_X1_next : Mt := (yX1_next, cX1_next, 2, (some .int), 1, false, 2, 1, 0)
def t_X2_init : Mt := (yX2_init, cX2_init, 1, none, 2, false, 1, 0, 0)
def t_X2_ask : Mt := (yX2_ask, cX2_ask, 11, none, 2, false, 8, 0, 0)
def t_X2_nearest : Mt := (yX2_nearest, cX2_nearest, 3, (some .int), 2, true, 3, 1, 0)
def t_X2_askNext : Mt := (yX2_askNext, cX2_askNext, 5, none, 2, false, 4, 0, 0)
def t_X2_weigh : Mt := (yX2_weigh, cX2_weigh, 6, none, 2, false, 3, 0, 0)
def t_X3_init : Mt := (yX3_init, cX3_init, 1, none, 3, false, 1, 0, 0)
def t_X3_begin : Mt := (yX3_begin, cX3_begin, 4, none, 3, false, 4, 0, 0)
def t_X3_copyFrom : Mt := (yX3_copyFrom, cX3_copyFrom, 2, none, 3, false, 2, 0, 0)
def t_X3_side : Mt := (yX3_side, cX3_side, 2, (some .int), 3, false, 2, 1, 0)
def t_X3_lastPlace : Mt := (yX3_lastPlace, cX3_lastPlace, 1, (some .int), 3, false, 1, 1, 0)
def t_X3_push : Mt := (yX3_push, cX3_push, 2, none, 3, false, 2, 0, 0)
def t_X3_pop : Mt := (yX3_pop, cX3_pop, 1, none, 3, false, 1, 0, 0)
def t_X3_swapSides : Mt := (yX3_swapSides, cX3_swapSides, 2, none, 3, false, 1, 0, 0)
def t_X4_init : Mt := (yX4_init, cX4_init, 2, none, 4, false, 2, 0, 0)
def t_X4_prepare : Mt := (yX4_prepare, cX4_prepare, 4, none, 4, false, 3, 0, 0)
def t_X4_cell : Mt := (yX4_cell, cX4_cell, 4, (some .int), 4, true, 4, 1, 0)
def t_X4_fillCells : Mt := (yX4_fillCells, cX4_fillCells, 5, none, 4, false, 2, 0, 0)
def t_X4_fillCell : Mt := (yX4_fillCell, cX4_fillCell, 6, none, 4, false, 5, 0, 0)
def t_X4_extend : Mt := (yX4_extend, cX4_extend, 7, none, 4, false, 6, 0, 0)
def t_X4_extendBy : Mt := (yX4_extendBy, cX4_extendBy, 9, none, 4, false, 7, 0, 0)
def t_X4_mayStand : Mt := (yX4_mayStand, cX4_mayStand, 3, (some .boolean), 4, true, 3, 1, 1)
def t_X4_keep : Mt := (yX4_keep, cX4_keep, 6, none, 4, false, 5, 0, 0)
def t_X4_firstSlot : Mt := (yX4_firstSlot, cX4_firstSlot, 1, (some .int), 4, true, 1, 1, 0)
def t_X4_placeOf : Mt := (yX4_placeOf, cX4_placeOf, 3, (some .int), 4, true, 3, 1, 0)
def t_X4_placeIn : Mt := (yX4_placeIn, cX4_placeIn, 4, (some .int), 4, false, 4, 1, 0)
def t_X4_takesIn : Mt := (yX4_takesIn, cX4_takesIn, 3, (some .int), 4, false, 3, 1, 0)
def t_X4_gripsIn : Mt := (yX4_gripsIn, cX4_gripsIn, 3, (some .int), 4, false, 3, 1, 0)
def t_X4_spell : Mt := (yX4_spell, cX4_spell, 5, none, 4, false, 3, 0, 0)
def t_X4_leanIn : Mt := (yX4_leanIn, cX4_leanIn, 3, (some .int), 4, false, 3, 1, 0)
def t_X4_twistsIn : Mt := (yX4_twistsIn, cX4_twistsIn, 3, (some .int), 4, false, 3, 1, 0)
def t_X4_howMany : Mt := (yX4_howMany, cX4_howMany, 5, (some .int), 4, false, 3, 1, 0)
def t_X4_find : Mt := (yX4_find, cX4_find, 8, (some .int), 4, false, 3, 1, 0)
def t_X4_chooseBest : Mt := (yX4_chooseBest, cX4_chooseBest, 8, (some .int), 4, false, 3, 1, 0)
def t_X4_chooseNearest : Mt := (yX4_chooseNearest, cX4_chooseNearest, 7, (some .int), 4, false, 3, 1, 0)
def t_X4_clearTally : Mt := (yX4_clearTally, cX4_clearTally, 2, none, 4, false, 1, 0, 0)
def t_X4_countFronts : Mt := (yX4_countFronts, cX4_countFronts, 4, none, 4, false, 2, 0, 0)
def t_X4_isFitting : Mt := (yX4_isFitting, cX4_isFitting, 8, (some .boolean), 4, false, 5, 1, 1)
def t_X4_countFitting : Mt := (yX4_countFitting, cX4_countFitting, 6, (some .int), 4, false, 4, 1, 0)
def t_X4_fittingAt : Mt := (yX4_fittingAt, cX4_fittingAt, 7, (some .int), 4, false, 5, 1, 0)
def t_X4_whereToLook : Mt := (yX4_whereToLook, cX4_whereToLook, 9, (some .int), 4, false, 4, 1, 0)
def t_X5_init : Mt := (yX5_init, cX5_init, 1, none, 5, false, 1, 0, 0)
def t_X5_read : Mt := (yX5_read, cX5_read, 6, (some .int), 5, false, 4, 1, 0)
def t_X5_scan : Mt := (yX5_scan, cX5_scan, 5, none, 5, false, 3, 0, 0)
def t_X5_isLetter : Mt := (yX5_isLetter, cX5_isLetter, 1, (some .boolean), 5, true, 1, 1, 1)
def t_X5_isDigit : Mt := (yX5_isDigit, cX5_isDigit, 1, (some .boolean), 5, true, 1, 1, 1)
def t_X5_rowEnd : Mt := (yX5_rowEnd, cX5_rowEnd, 6, (some .int), 5, true, 3, 1, 0)
def t_X5_addToken : Mt := (yX5_addToken, cX5_addToken, 5, none, 5, false, 4, 0, 0)
def t_X5_numberOf : Mt := (yX5_numberOf, cX5_numberOf, 5, (some .int), 5, true, 3, 1, 0)
def t_X5_keyword : Mt := (yX5_keyword, cX5_keyword, 9, (some .int), 5, true, 5, 1, 0)
def t_X5_advance : Mt := (yX5_advance, cX5_advance, 1, none, 5, false, 1, 0, 0)
def t_X5_fail : Mt := (yX5_fail, cX5_fail, 1, none, 5, false, 1, 0, 0)
def t_X5_clause : Mt := (yX5_clause, cX5_clause, 2, none, 5, false, 2, 0, 0)
def t_X5_test : Mt := (yX5_test, cX5_test, 7, none, 5, false, 2, 0, 0)
def t_X5_plain : Mt := (yX5_plain, cX5_plain, 4, none, 5, false, 2, 0, 0)
def t_X5_sum : Mt := (yX5_sum, cX5_sum, 7, none, 5, false, 2, 0, 0)
def t_X5_part : Mt := (yX5_part, cX5_part, 5, none, 5, false, 2, 0, 0)
def t_X5_wordNow : Mt := (yX5_wordNow, cX5_wordNow, 1, (some .int), 5, false, 1, 1, 0)
def t_X6_init : Mt := (yX6_init, cX6_init, 2, none, 6, false, 2, 0, 0)
def t_X6_run : Mt := (yX6_run, cX6_run, 4, (some .int), 6, false, 2, 1, 0)
def t_X6_runOnce : Mt := (yX6_runOnce, cX6_runOnce, 6, (some .boolean), 6, false, 3, 1, 1)
def t_X6_loadWords : Mt := (yX6_loadWords, cX6_loadWords, 8, none, 6, false, 3, 0, 0)
def t_X7_init : Mt := (yX7_init, cX7_init, 3, none, 7, false, 3, 0, 0)
def t_X7_kept : Mt := (yX7_kept, cX7_kept, 2, (some (.object "NeckKnots$Script")), 7, false, 1, 3, 0)
def t_X7_emit : Mt := (yX7_emit, cX7_emit, 3, (some .int), 7, false, 3, 1, 0)
def t_X7_closeSkip : Mt := (yX7_closeSkip, cX7_closeSkip, 2, none, 7, false, 2, 0, 0)
def t_X7_reckon : Mt := (yX7_reckon, cX7_reckon, 10, (some .int), 7, false, 5, 1, 0)
def t_X7_joined : Mt := (yX7_joined, cX7_joined, 7, (some .int), 7, true, 3, 1, 0)
def t_X8_init : Mt := (yX8_init, cX8_init, 3, none, 8, false, 3, 0, 0)
def t_X8_remember : Mt := (yX8_remember, cX8_remember, 1, none, 8, false, 1, 0, 0)
def t_X8_giveBack : Mt := (yX8_giveBack, cX8_giveBack, 1, none, 8, false, 1, 0, 0)
def t_X8_layOn : Mt := (yX8_layOn, cX8_layOn, 4, (some .int), 8, false, 3, 1, 0)
def t_X8_putThrough : Mt := (yX8_putThrough, cX8_putThrough, 3, (some .int), 8, false, 2, 1, 0)
def t_X8_drawBack : Mt := (yX8_drawBack, cX8_drawBack, 3, (some .int), 8, false, 2, 1, 0)
def t_X8_turnOver : Mt := (yX8_turnOver, cX8_turnOver, 3, (some .int), 8, false, 2, 1, 0)
def t_X8_undoLatest : Mt := (yX8_undoLatest, cX8_undoLatest, 5, (some .int), 8, false, 1, 1, 0)
def t_X9_init : Mt := (yX9_init, cX9_init, 1, none, 9, false, 1, 0, 0)
def t_X9_clear : Mt := (yX9_clear, cX9_clear, 1, none, 9, false, 1, 0, 0)
def t_X9_add : Mt := (yX9_add, cX9_add, 4, none, 9, false, 4, 0, 0)
def t_X9_dropOldest : Mt := (yX9_dropOldest, cX9_dropOldest, 2, none, 9, false, 1, 0, 0)
def t_X9_copyFrom : Mt := (yX9_copyFrom, cX9_copyFrom, 2, none, 9, false, 2, 0, 0)
def t_X10_init : Mt := (yX10_init, cX10_init, 1, none, 10, false, 1, 0, 0)
def t_X10_dressed : Mt := (yX10_dressed, cX10_dressed, 1, (some .int), 10, false, 1, 1, 0)
def t_X10_dress : Mt := (yX10_dress, cX10_dress, 5, none, 10, false, 3, 0, 0)
def t_X10_hang : Mt := (yX10_hang, cX10_hang, 6, none, 10, false, 4, 0, 0)
def t_X10_suits : Mt := (yX10_suits, cX10_suits, 4, (some .boolean), 10, false, 4, 1, 1)
def t_X10_mostFrom : Mt := (yX10_mostFrom, cX10_mostFrom, 6, (some .int), 10, false, 4, 1, 0)
def t_X10_firstFor : Mt := (yX10_firstFor, cX10_firstFor, 5, (some .int), 10, false, 4, 1, 0)
def t_X11_init : Mt := (yX11_init, cX11_init, 1, none, 11, false, 1, 0, 0)
def t_X11_knot : Mt := (yX11_knot, cX11_knot, 4, (some .int), 11, false, 4, 1, 0)
def t_X11_of : Mt := (yX11_of, cX11_of, 4, (some .int), 11, false, 3, 1, 0)
def t_X11_terms : Mt := (yX11_terms, cX11_terms, 6, (some .int), 11, false, 3, 1, 0)
def t_X11_feed : Mt := (yX11_feed, cX11_feed, 6, (some .int), 11, false, 6, 1, 0)
def t_X11_end : Mt := (yX11_end, cX11_end, 2, (some .int), 11, false, 2, 1, 0)
def t_X11_row : Mt := (yX11_row, cX11_row, 4, (some .int), 11, false, 1, 1, 0)
def t_X11_lint : Mt := (yX11_lint, cX11_lint, 1, (some .int), 11, false, 1, 1, 0)
def t_X11_law : Mt := (yX11_law, cX11_law, 2, (some .int), 11, false, 1, 1, 0)
def t_X11_orders : Mt := (yX11_orders, cX11_orders, 1, (some .int), 11, false, 1, 1, 0)
def t_X11_fault : Mt := (yX11_fault, cX11_fault, 1, (some .int), 11, false, 1, 1, 0)
def t_X11_stopped : Mt := (yX11_stopped, cX11_stopped, 1, (some .int), 11, false, 1, 1, 0)
def t_X11_force : Mt := (yX11_force, cX11_force, 3, (some .int), 11, false, 2, 1, 0)
def t_X11_asks : Mt := (yX11_asks, cX11_asks, 5, (some .int), 11, false, 4, 1, 0)
def t_X11_lay : Mt := (yX11_lay, cX11_lay, 3, (some .int), 11, false, 3, 1, 0)
def t_X11_through : Mt := (yX11_through, cX11_through, 2, (some .int), 11, false, 2, 1, 0)
def t_X11_draw : Mt := (yX11_draw, cX11_draw, 2, (some .int), 11, false, 2, 1, 0)
def t_X11_mirror : Mt := (yX11_mirror, cX11_mirror, 2, (some .int), 11, false, 2, 1, 0)
def t_X11_undo : Mt := (yX11_undo, cX11_undo, 1, (some .int), 11, false, 1, 1, 0)
def t_X11_front : Mt := (yX11_front, cX11_front, 4, (some .int), 11, false, 3, 1, 0)
def t_X11_ways : Mt := (yX11_ways, cX11_ways, 3, (some .int), 11, false, 3, 1, 0)
def t_X11_word : Mt := (yX11_word, cX11_word, 4, (some .int), 11, false, 4, 1, 0)
def t_X11_rank : Mt := (yX11_rank, cX11_rank, 3, (some .int), 11, false, 2, 1, 0)
def t_X11_best : Mt := (yX11_best, cX11_best, 5, (some .int), 11, false, 3, 1, 0)
def t_X11_change : Mt := (yX11_change, cX11_change, 5, (some .int), 11, false, 3, 1, 0)
def t_X11_alike : Mt := (yX11_alike, cX11_alike, 3, (some .int), 11, false, 3, 1, 0)
def t_X11_sight : Mt := (yX11_sight, cX11_sight, 3, (some .int), 11, false, 3, 1, 0)
def t_X11_forget : Mt := (yX11_forget, cX11_forget, 2, (some .int), 11, false, 1, 1, 0)
def t_X11_fits : Mt := (yX11_fits, cX11_fits, 6, (some .int), 11, false, 5, 1, 0)
def t_X11_look : Mt := (yX11_look, cX11_look, 3, (some .int), 11, false, 3, 1, 0)
def t_X11_boy : Mt := (yX11_boy, cX11_boy, 2, (some .int), 11, false, 2, 1, 0)
def t_X11_home : Mt := (yX11_home, cX11_home, 2, (some .int), 11, false, 1, 1, 0)
def t_X11_wear : Mt := (yX11_wear, cX11_wear, 2, (some .int), 11, false, 2, 1, 0)
def t_X11_hands : Mt := (yX11_hands, cX11_hands, 4, (some .int), 11, false, 4, 1, 0)
def t_X11_drawn : Mt := (yX11_drawn, cX11_drawn, 2, (some .int), 11, false, 2, 1, 0)
def t_X11_image : Mt := (yX11_image, cX11_image, 2, (some .int), 11, false, 2, 1, 0)
def t_X11_back : Mt := (yX11_back, cX11_back, 2, (some .int), 11, false, 2, 1, 0)
def t_X11_count : Mt := (yX11_count, cX11_count, 2, (some .int), 11, false, 2, 1, 0)
def t_X11_status : Mt := (yX11_status, cX11_status, 1, (some .int), 11, false, 1, 1, 0)
def t_X11_granted : Mt := (yX11_granted, cX11_granted, 2, (some .int), 11, false, 2, 1, 0)
def t_X11_refused : Mt := (yX11_refused, cX11_refused, 2, (some .int), 11, false, 2, 1, 0)
def t_X11_outcome : Mt := (yX11_outcome, cX11_outcome, 2, (some .int), 11, false, 2, 1, 0)
def t_X11_putBytes : Mt := (yX11_putBytes, cX11_putBytes, 3, none, 11, false, 2, 0, 0)
def t_X11_emptiedTape : Mt := (yX11_emptiedTape, cX11_emptiedTape, 2, (some .int), 11, false, 1, 1, 0)
def t_X11_knotCanBe : Mt := (yX11_knotCanBe, cX11_knotCanBe, 3, (some .boolean), 11, true, 3, 1, 1)
def t_X11_isPlace : Mt := (yX11_isPlace, cX11_isPlace, 1, (some .boolean), 11, true, 1, 1, 1)
def t_X11_isWordLength : Mt := (yX11_isWordLength, cX11_isWordLength, 1, (some .boolean), 11, true, 1, 1, 1)
def t_X11_mirrored : Mt := (yX11_mirrored, cX11_mirrored, 1, (some .int), 11, true, 1, 1, 0)
def t_X11_startOfWord : Mt := (yX11_startOfWord, cX11_startOfWord, 1, (some .int), 11, true, 1, 1, 0)
def t_X11_canGoThrough : Mt := (yX11_canGoThrough, cX11_canGoThrough, 6, (some .boolean), 11, true, 3, 1, 1)
def t_X11_centresOf : Mt := (yX11_centresOf, cX11_centresOf, 4, (some .int), 11, true, 2, 1, 0)
def t_X11_leanOf : Mt := (yX11_leanOf, cX11_leanOf, 4, (some .int), 11, true, 2, 1, 0)
def t_X11_wound : Mt := (yX11_wound, cX11_wound, 3, (some .int), 11, true, 2, 1, 0)
def t_X11_twistsOf : Mt := (yX11_twistsOf, cX11_twistsOf, 4, (some .int), 11, true, 2, 1, 0)
def t_X11_leftOf : Mt := (yX11_leftOf, cX11_leftOf, 4, (some .int), 11, true, 2, 1, 0)
def t_X11_frontOf : Mt := (yX11_frontOf, cX11_frontOf, 8, (some .int), 11, true, 3, 1, 0)
def t_X11_frontPlace : Mt := (yX11_frontPlace, cX11_frontPlace, 2, (some .int), 11, true, 2, 1, 0)
def t_X12_lies : Mt := (yX12_lies, cX12_lies, 3, (some .boolean), 12, true, 3, 1, 1)
def t_X12_size0 : Mt := (yX12_size0, cX12_size0, 1, (some .int), 12, true, 1, 1, 0)
def t_X12_greater : Mt := (yX12_greater, cX12_greater, 2, (some .int), 12, true, 2, 1, 0)
def t_X12_refuses : Mt := (yX12_refuses, cX12_refuses, 2, (some .int), 12, false, 2, 1, 0)
def t_X12_good : Mt := (yX12_good, cX12_good, 2, (some .int), 12, false, 2, 1, 0)
def t_X12_settled : Mt := (yX12_settled, cX12_settled, 2, (some .int), 12, false, 2, 1, 0)
def t_X12_init : Mt := (yX12_init, cX12_init, 1, none, 12, false, 1, 0, 0)
def t_X12_image : Mt := (yX12_image, cX12_image, 3, (some .int), 12, false, 2, 1, 0)
def t_X12_back : Mt := (yX12_back, cX12_back, 3, (some .int), 12, false, 2, 1, 0)
def t_X12_isKnot : Mt := (yX12_isKnot, cX12_isKnot, 2, (some .boolean), 12, false, 2, 1, 1)
def t_X12_fact : Mt := (yX12_fact, cX12_fact, 3, (some .int), 12, false, 3, 1, 0)
def t_X12_puts : Mt := (yX12_puts, cX12_puts, 4, none, 12, false, 4, 0, 0)
def t_X12_canBe : Mt := (yX12_canBe, cX12_canBe, 3, (some .boolean), 12, true, 3, 1, 1)
def t_X12_adds : Mt := (yX12_adds, cX12_adds, 6, none, 12, false, 4, 0, 0)
def t_X12_knot : Mt := (yX12_knot, cX12_knot, 4, (some .int), 12, false, 4, 1, 0)
def t_X12_of : Mt := (yX12_of, cX12_of, 3, (some .int), 12, false, 3, 1, 0)
def t_X12_isTerm : Mt := (yX12_isTerm, cX12_isTerm, 2, (some .boolean), 12, true, 2, 1, 1)
def t_X12_terms : Mt := (yX12_terms, cX12_terms, 4, (some .int), 12, false, 3, 1, 0)
def t_X12_row : Mt := (yX12_row, cX12_row, 6, (some .int), 12, false, 1, 1, 0)
def t_X12_lint : Mt := (yX12_lint, cX12_lint, 1, (some .int), 12, false, 1, 1, 0)
def t_X12_feed : Mt := (yX12_feed, cX12_feed, 7, (some .int), 12, false, 6, 1, 0)
def t_X12_end : Mt := (yX12_end, cX12_end, 2, (some .int), 12, false, 2, 1, 0)
def t_X12_isSmall : Mt := (yX12_isSmall, cX12_isSmall, 1, (some .boolean), 12, true, 1, 1, 1)
def t_X12_isDigit : Mt := (yX12_isDigit, cX12_isDigit, 1, (some .boolean), 12, true, 1, 1, 1)
def t_X12_wordOf : Mt := (yX12_wordOf, cX12_wordOf, 8, (some .int), 12, false, 3, 1, 0)
def t_X12_splits : Mt := (yX12_splits, cX12_splits, 6, none, 12, false, 2, 0, 0)
def t_X12_fine : Mt := (yX12_fine, cX12_fine, 1, (some .boolean), 12, false, 1, 1, 1)
def t_X12_faults : Mt := (yX12_faults, cX12_faults, 1, none, 12, false, 1, 0, 0)
def t_X12_takes0 : Mt := (yX12_takes0, cX12_takes0, 3, (some .boolean), 12, false, 2, 1, 1)
def t_X12_must : Mt := (yX12_must, cX12_must, 2, none, 12, false, 2, 0, 0)
def t_X12_leaf : Mt := (yX12_leaf, cX12_leaf, 1, none, 12, false, 1, 0, 0)
def t_X12_sign : Mt := (yX12_sign, cX12_sign, 1, (some .int), 12, true, 1, 1, 0)
def t_X12_mustNumber : Mt := (yX12_mustNumber, cX12_mustNumber, 3, none, 12, false, 3, 0, 0)
def t_X12_readClause : Mt := (yX12_readClause, cX12_readClause, 1, none, 12, false, 1, 0, 0)
def t_X12_readOrder : Mt := (yX12_readOrder, cX12_readOrder, 1, none, 12, false, 1, 0, 0)
def t_X12_readOne : Mt := (yX12_readOne, cX12_readOne, 1, none, 12, false, 1, 0, 0)
def t_X12_readTest : Mt := (yX12_readTest, cX12_readTest, 2, none, 12, false, 2, 0, 0)
def t_X12_readBoth : Mt := (yX12_readBoth, cX12_readBoth, 2, none, 12, false, 2, 0, 0)
def t_X12_readPlain : Mt := (yX12_readPlain, cX12_readPlain, 4, none, 12, false, 2, 0, 0)
def t_X12_readSum : Mt := (yX12_readSum, cX12_readSum, 2, none, 12, false, 2, 0, 0)
def t_X12_readTerm : Mt := (yX12_readTerm, cX12_readTerm, 2, none, 12, false, 2, 0, 0)
def t_X12_readPart : Mt := (yX12_readPart, cX12_readPart, 3, none, 12, false, 2, 0, 0)
def t_X12_reads : Mt := (yX12_reads, cX12_reads, 2, (some .boolean), 12, false, 1, 1, 1)
def t_X12_readsAs : Mt := (yX12_readsAs, cX12_readsAs, 2, (some .boolean), 12, false, 2, 1, 1)
def t_X12_lays : Mt := (yX12_lays, cX12_lays, 3, none, 12, false, 2, 0, 0)
def t_X12_law : Mt := (yX12_law, cX12_law, 1, (some .int), 12, false, 1, 1, 0)
def t_X12_fault : Mt := (yX12_fault, cX12_fault, 1, (some .int), 12, false, 1, 1, 0)
def t_X12_force : Mt := (yX12_force, cX12_force, 3, (some .int), 12, false, 2, 1, 0)
def t_X12_codeAt : Mt := (yX12_codeAt, cX12_codeAt, 2, (some .int), 12, false, 2, 1, 0)
def t_X12_passes0 : Mt := (yX12_passes0, cX12_passes0, 3, (some .boolean), 12, false, 2, 1, 1)
def t_X12_bounded : Mt := (yX12_bounded, cX12_bounded, 4, (some .long), 12, false, 3, 2, 0)
def t_X12_sumOf : Mt := (yX12_sumOf, cX12_sumOf, 7, (some .long), 12, false, 2, 2, 0)
def t_X12_termOf : Mt := (yX12_termOf, cX12_termOf, 7, (some .long), 12, false, 2, 2, 0)
def t_X12_partOf : Mt := (yX12_partOf, cX12_partOf, 5, (some .long), 12, false, 2, 2, 0)
def t_X12_testOf : Mt := (yX12_testOf, cX12_testOf, 4, (some .boolean), 12, false, 2, 1, 1)
def t_X12_bothOf : Mt := (yX12_bothOf, cX12_bothOf, 4, (some .boolean), 12, false, 2, 1, 1)
def t_X12_plainOf : Mt := (yX12_plainOf, cX12_plainOf, 3, (some .boolean), 12, false, 2, 1, 1)
def t_X12_positiveOf : Mt := (yX12_positiveOf, cX12_positiveOf, 7, (some .boolean), 12, false, 2, 1, 1)
def t_X12_tells : Mt := (yX12_tells, cX12_tells, 12, (some .int), 12, false, 5, 1, 0)
def t_X12_sideOf : Mt := (yX12_sideOf, cX12_sideOf, 2, (some .int), 12, false, 2, 1, 0)
def t_X12_sets : Mt := (yX12_sets, cX12_sets, 2, none, 12, false, 2, 0, 0)
def t_X12_takesBy : Mt := (yX12_takesBy, cX12_takesBy, 2, (some .int), 12, false, 2, 1, 0)
def t_X12_gripsBy : Mt := (yX12_gripsBy, cX12_gripsBy, 2, (some .int), 12, false, 2, 1, 0)
def t_X12_isBarred : Mt := (yX12_isBarred, cX12_isBarred, 2, (some .boolean), 12, false, 2, 1, 1)
def t_X12_takesKnot : Mt := (yX12_takesKnot, cX12_takesKnot, 3, none, 12, false, 2, 0, 0)
def t_X12_takesAll : Mt := (yX12_takesAll, cX12_takesAll, 3, (some .int), 12, false, 1, 1, 0)
def t_X12_gripsAll : Mt := (yX12_gripsAll, cX12_gripsAll, 3, (some .int), 12, false, 1, 1, 0)
def t_X12_centres : Mt := (yX12_centres, cX12_centres, 3, (some .int), 12, false, 1, 1, 0)
def t_X12_leans : Mt := (yX12_leans, cX12_leans, 3, (some .int), 12, false, 1, 1, 0)
def t_X12_isWound : Mt := (yX12_isWound, cX12_isWound, 3, (some .boolean), 12, false, 2, 1, 1)
def t_X12_twists : Mt := (yX12_twists, cX12_twists, 3, (some .int), 12, false, 1, 1, 0)
def t_X12_leftOver : Mt := (yX12_leftOver, cX12_leftOver, 3, (some .int), 12, false, 1, 1, 0)
def t_X12_canThrough : Mt := (yX12_canThrough, cX12_canThrough, 1, (some .boolean), 12, false, 1, 1, 1)
def t_X12_holds : Mt := (yX12_holds, cX12_holds, 2, (some .boolean), 12, false, 2, 1, 1)
def t_X12_frontOf : Mt := (yX12_frontOf, cX12_frontOf, 5, (some .int), 12, false, 1, 1, 0)
def t_X12_front : Mt := (yX12_front, cX12_front, 3, (some .int), 12, false, 3, 1, 0)
def t_X12_asks : Mt := (yX12_asks, cX12_asks, 4, (some .int), 12, false, 4, 1, 0)
def t_X12_keeps : Mt := (yX12_keeps, cX12_keeps, 4, none, 12, false, 2, 0, 0)
def t_X12_undo : Mt := (yX12_undo, cX12_undo, 3, (some .int), 12, false, 1, 1, 0)
def t_X12_goodOr : Mt := (yX12_goodOr, cX12_goodOr, 2, (some .int), 12, false, 2, 1, 0)
def t_X12_laysKept : Mt := (yX12_laysKept, cX12_laysKept, 4, (some .int), 12, false, 3, 1, 0)
def t_X12_throughsKept : Mt := (yX12_throughsKept, cX12_throughsKept, 2, (some .int), 12, false, 2, 1, 0)
def t_X12_drawsKept : Mt := (yX12_drawsKept, cX12_drawsKept, 3, (some .int), 12, false, 2, 1, 0)
def t_X12_mirrorsKept : Mt := (yX12_mirrorsKept, cX12_mirrorsKept, 3, (some .int), 12, false, 2, 1, 0)
def t_X12_mirrored : Mt := (yX12_mirrored, cX12_mirrored, 1, (some .int), 12, true, 1, 1, 0)
def t_X12_lay : Mt := (yX12_lay, cX12_lay, 3, (some .int), 12, false, 3, 1, 0)
def t_X12_through : Mt := (yX12_through, cX12_through, 2, (some .int), 12, false, 2, 1, 0)
def t_X12_draw : Mt := (yX12_draw, cX12_draw, 2, (some .int), 12, false, 2, 1, 0)
def t_X12_mirror : Mt := (yX12_mirror, cX12_mirror, 2, (some .int), 12, false, 2, 1, 0)
def t_X12_askOf : Mt := (yX12_askOf, cX12_askOf, 4, (some .int), 12, true, 4, 1, 0)
def t_X12_asksAll : Mt := (yX12_asksAll, cX12_asksAll, 6, none, 12, false, 1, 0, 0)
def t_X12_wordsOf : Mt := (yX12_wordsOf, cX12_wordsOf, 1, (some .int), 12, true, 1, 1, 0)
def t_X12_isLong : Mt := (yX12_isLong, cX12_isLong, 1, (some .boolean), 12, true, 1, 1, 1)
def t_X12_following : Mt := (yX12_following, cX12_following, 4, (some .int), 12, true, 2, 1, 0)
def t_X12_opens : Mt := (yX12_opens, cX12_opens, 4, none, 12, false, 3, 0, 0)
def t_X12_askAt : Mt := (yX12_askAt, cX12_askAt, 2, (some .int), 12, false, 2, 1, 0)
def t_X12_isProper : Mt := (yX12_isProper, cX12_isProper, 3, (some .boolean), 12, false, 1, 1, 1)
def t_X12_takesWord : Mt := (yX12_takesWord, cX12_takesWord, 3, (some .int), 12, false, 1, 1, 0)
def t_X12_gripsWord : Mt := (yX12_gripsWord, cX12_gripsWord, 3, (some .int), 12, false, 1, 1, 0)
def t_X12_opensProper : Mt := (yX12_opensProper, cX12_opensProper, 3, (some .boolean), 12, false, 3, 1, 1)
def t_X12_ways : Mt := (yX12_ways, cX12_ways, 5, (some .int), 12, false, 3, 1, 0)
def t_X12_word : Mt := (yX12_word, cX12_word, 6, (some .int), 12, false, 4, 1, 0)
def t_X12_unlike : Mt := (yX12_unlike, cX12_unlike, 4, (some .int), 12, false, 2, 1, 0)
def t_X12_rank : Mt := (yX12_rank, cX12_rank, 4, (some .int), 12, false, 2, 1, 0)
def t_X12_isBetter : Mt := (yX12_isBetter, cX12_isBetter, 1, (some .boolean), 12, false, 1, 1, 1)
def t_X12_best : Mt := (yX12_best, cX12_best, 5, (some .int), 12, false, 3, 1, 0)
def t_X12_change : Mt := (yX12_change, cX12_change, 7, (some .int), 12, false, 3, 1, 0)
def t_X12_alike : Mt := (yX12_alike, cX12_alike, 6, (some .int), 12, false, 3, 1, 0)
def t_X12_sight : Mt := (yX12_sight, cX12_sight, 4, (some .int), 12, false, 3, 1, 0)
def t_X12_forget : Mt := (yX12_forget, cX12_forget, 2, (some .int), 12, false, 1, 1, 0)
def t_X12_isFitting : Mt := (yX12_isFitting, cX12_isFitting, 7, (some .boolean), 12, false, 4, 1, 1)
def t_X12_fits : Mt := (yX12_fits, cX12_fits, 7, (some .int), 12, false, 5, 1, 0)
def t_X12_look : Mt := (yX12_look, cX12_look, 8, (some .int), 12, false, 3, 1, 0)
def t_X12_boy : Mt := (yX12_boy, cX12_boy, 3, (some .int), 12, false, 2, 1, 0)
def t_X12_home : Mt := (yX12_home, cX12_home, 2, (some .int), 12, false, 1, 1, 0)
def t_X12_isWorn : Mt := (yX12_isWorn, cX12_isWorn, 5, (some .boolean), 12, false, 3, 1, 1)
def t_X12_triesBoy : Mt := (yX12_triesBoy, cX12_triesBoy, 4, none, 12, false, 3, 0, 0)
def t_X12_wear : Mt := (yX12_wear, cX12_wear, 3, (some .int), 12, false, 2, 1, 0)
def t_X12_stopped : Mt := (yX12_stopped, cX12_stopped, 1, (some .int), 12, false, 1, 1, 0)
def t_X12_orders : Mt := (yX12_orders, cX12_orders, 5, (some .int), 12, false, 1, 1, 0)
def t_X12_looks : Mt := (yX12_looks, cX12_looks, 3, none, 12, false, 1, 0, 0)
def t_X12_goesAlong : Mt := (yX12_goesAlong, cX12_goesAlong, 5, none, 12, false, 3, 0, 0)
def t_X12_small : Mt := (yX12_small, cX12_small, 2, (some .int), 12, true, 1, 1, 0)
def t_X12_obeys : Mt := (yX12_obeys, cX12_obeys, 2, (some .int), 12, false, 1, 1, 0)
def t_X12_runs : Mt := (yX12_runs, cX12_runs, 6, (some .boolean), 12, false, 2, 1, 1)
def t_X12_draws : Mt := (yX12_draws, cX12_draws, 2, (some .int), 12, false, 2, 1, 0)
def t_X12_hands : Mt := (yX12_hands, cX12_hands, 7, (some .int), 12, false, 4, 1, 0)
def t_X12_drawn : Mt := (yX12_drawn, cX12_drawn, 2, (some .int), 12, false, 2, 1, 0)
def t_X12_count : Mt := (yX12_count, cX12_count, 2, (some .int), 12, false, 2, 1, 0)
def t_X12_status : Mt := (yX12_status, cX12_status, 1, (some .int), 12, false, 1, 1, 0)
def mt0 : Mt := (⟨"", "", ""⟩, ⟨#[]⟩, 0, none, 0, false, 0, 0, 0)
def mTab : List Mt := [t_X0_init, t_X0_knotAt, t_X0_lawInForce, t_X0_addKnot, t_X0_addBoy, t_X0_addSight, t_X0_addLaw, t_X0_copyFrom, t_X1_init, t_X1_deal, t_X1_dealWord, t_X1_next, t_X2_init, t_X2_ask, t_X2_nearest, t_X2_askNext, t_X2_weigh, t_X3_init, t_X3_begin, t_X3_copyFrom, t_X3_side, t_X3_lastPlace, t_X3_push, t_X3_pop, t_X3_swapSides, t_X4_init, t_X4_prepare, t_X4_cell, t_X4_fillCells, t_X4_fillCell, t_X4_extend, t_X4_extendBy, t_X4_mayStand, t_X4_keep, t_X4_firstSlot, t_X4_placeOf, t_X4_placeIn, t_X4_takesIn, t_X4_gripsIn, t_X4_spell, t_X4_leanIn, t_X4_twistsIn, t_X4_howMany, t_X4_find, t_X4_chooseBest, t_X4_chooseNearest, t_X4_clearTally, t_X4_countFronts, t_X4_isFitting, t_X4_countFitting, t_X4_fittingAt, t_X4_whereToLook, t_X5_init, t_X5_read, t_X5_scan, t_X5_isLetter, t_X5_isDigit, t_X5_rowEnd, t_X5_addToken, t_X5_numberOf, t_X5_keyword, t_X5_advance, t_X5_fail, t_X5_clause, t_X5_test, t_X5_plain, t_X5_sum, t_X5_part, t_X5_wordNow, t_X6_init, t_X6_run, t_X6_runOnce, t_X6_loadWords, t_X7_init, t_X7_kept, t_X7_emit, t_X7_closeSkip, t_X7_reckon, t_X7_joined, t_X8_init, t_X8_remember, t_X8_giveBack, t_X8_layOn, t_X8_putThrough, t_X8_drawBack, t_X8_turnOver, t_X8_undoLatest, t_X9_init, t_X9_clear, t_X9_add, t_X9_dropOldest, t_X9_copyFrom, t_X10_init, t_X10_dressed, t_X10_dress, t_X10_hang, t_X10_suits, t_X10_mostFrom, t_X10_firstFor, t_X11_init, t_X11_knot, t_X11_of, t_X11_terms, t_X11_feed, t_X11_end, t_X11_row, t_X11_lint, t_X11_law, t_X11_orders, t_X11_fault, t_X11_stopped, t_X11_force, t_X11_asks, t_X11_lay, t_X11_through, t_X11_draw, t_X11_mirror, t_X11_undo, t_X11_front, t_X11_ways, t_X11_word, t_X11_rank, t_X11_best, t_X11_change, t_X11_alike, t_X11_sight, t_X11_forget, t_X11_fits, t_X11_look, t_X11_boy, t_X11_home, t_X11_wear, t_X11_hands, t_X11_drawn, t_X11_image, t_X11_back, t_X11_count, t_X11_status, t_X11_granted, t_X11_refused, t_X11_outcome, t_X11_putBytes, t_X11_emptiedTape, t_X11_knotCanBe, t_X11_isPlace, t_X11_isWordLength, t_X11_mirrored, t_X11_startOfWord, t_X11_canGoThrough, t_X11_centresOf, t_X11_leanOf, t_X11_wound, t_X11_twistsOf, t_X11_leftOf, t_X11_frontOf, t_X11_frontPlace, t_X12_lies, t_X12_size0, t_X12_greater, t_X12_refuses, t_X12_good, t_X12_settled, t_X12_init, t_X12_image, t_X12_back, t_X12_isKnot, t_X12_fact, t_X12_puts, t_X12_canBe, t_X12_adds, t_X12_knot, t_X12_of, t_X12_isTerm, t_X12_terms, t_X12_row, t_X12_lint, t_X12_feed, t_X12_end, t_X12_isSmall, t_X12_isDigit, t_X12_wordOf, t_X12_splits, t_X12_fine, t_X12_faults, t_X12_takes0, t_X12_must, t_X12_leaf, t_X12_sign, t_X12_mustNumber, t_X12_readClause, t_X12_readOrder, t_X12_readOne, t_X12_readTest, t_X12_readBoth, t_X12_readPlain, t_X12_readSum, t_X12_readTerm, t_X12_readPart, t_X12_reads, t_X12_readsAs, t_X12_lays, t_X12_law, t_X12_fault, t_X12_force, t_X12_codeAt, t_X12_passes0, t_X12_bounded, t_X12_sumOf, t_X12_termOf, t_X12_partOf, t_X12_testOf, t_X12_bothOf, t_X12_plainOf, t_X12_positiveOf, t_X12_tells, t_X12_sideOf, t_X12_sets, t_X12_takesBy, t_X12_gripsBy, t_X12_isBarred, t_X12_takesKnot, t_X12_takesAll, t_X12_gripsAll, t_X12_centres, t_X12_leans, t_X12_isWound, t_X12_twists, t_X12_leftOver, t_X12_canThrough, t_X12_holds, t_X12_frontOf, t_X12_front, t_X12_asks, t_X12_keeps, t_X12_undo, t_X12_goodOr, t_X12_laysKept, t_X12_throughsKept, t_X12_drawsKept, t_X12_mirrorsKept, t_X12_mirrored, t_X12_lay, t_X12_through, t_X12_draw, t_X12_mirror, t_X12_askOf, t_X12_asksAll, t_X12_wordsOf, t_X12_isLong, t_X12_following, t_X12_opens, t_X12_askAt, t_X12_isProper, t_X12_takesWord, t_X12_gripsWord, t_X12_opensProper, t_X12_ways, t_X12_word, t_X12_unlike, t_X12_rank, t_X12_isBetter, t_X12_best, t_X12_change, t_X12_alike, t_X12_sight, t_X12_forget, t_X12_isFitting, t_X12_fits, t_X12_look, t_X12_boy, t_X12_home, t_X12_isWorn, t_X12_triesBoy, t_X12_wear, t_X12_stopped, t_X12_orders, t_X12_looks, t_X12_goesAlong, t_X12_small, t_X12_obeys, t_X12_runs, t_X12_draws, t_X12_hands, t_X12_drawn, t_X12_count, t_X12_status]
def mY (j : Nat) : MethodName := (mTab.getD j mt0).1
def mC (j : Nat) : ByteArray := (mTab.getD j mt0).2.1
def mN (j : Nat) : Nat := (mTab.getD j mt0).2.2.1
def mR (j : Nat) : Option FieldType := (mTab.getD j mt0).2.2.2.1
def mOw (j : Nat) : Nat := (mTab.getD j mt0).2.2.2.2.1
def mS (j : Nat) : Bool := (mTab.getD j mt0).2.2.2.2.2.1
def mNa (j : Nat) : Nat := (mTab.getD j mt0).2.2.2.2.2.2.1
def mRt (j : Nat) : Nat := (mTab.getD j mt0).2.2.2.2.2.2.2.1
def mB (j : Nat) : Nat := (mTab.getD j mt0).2.2.2.2.2.2.2.2
def codL : List Nat := [141, 649, 657, 629, 1197, 1160, 863, 880, 520, 1241, 1245, 1249, 277, 665, 683, 921, 653, 175, 633, 884, 661, 904, 926, 952, 960, 457, 1036, 1051, 1044, 1048, 1056, 1067, 1070, 1060, 1063, 1081, 1090, 1111, 1115, 1078, 1124, 1128, 1074, 1098, 1106, 1137, 1150, 1146, 1176, 1172, 1181, 1189, 339, 734, 738, 744, 747, 741, 751, 807, 755, 818, 830, 814, 842, 846, 822, 826, 834, 437, 872, 895, 899, 345, 854, 838, 850, 669, 676, 319, 876, 965, 911, 938, 948, 956, 1015, 151, 637, 930, 934, 890, 550, 1232, 1209, 1213, 1223, 1219, 1228, 133, 618, 645, 702, 706, 714, 718, 726, 730, 868, 973, 977, 981, 985, 991, 996, 1001, 1006, 1011, 1019, 1029, 1086, 1094, 1102, 1133, 1142, 1156, 1164, 1168, 1185, 1193, 1201, 1205, 1236, 1258, 1262, 1267, 1271, 1275, 641, 625, 969, 710, 722, 621, 914, 1032, 944, 1040, 941, 686, 689, 695, 692, 698, 1022, 1025, 1479, 1626, 1890, 1483, 1487, 1495, 1280, 1476, 1491, 1518, 1526, 1510, 1502, 1506, 1499, 1514, 1633, 1630, 1637, 1641, 1645, 1649, 1668, 1671, 1675, 1665, 1692, 1708, 1688, 1712, 1716, 1565, 1720, 1736, 1684, 1680, 1724, 1728, 1732, 1696, 1700, 1704, 1661, 1657, 1740, 1653, 1744, 1748, 1550, 1569, 1573, 1554, 1558, 1562, 1579, 1583, 1587, 1591, 1546, 1542, 1538, 1534, 1599, 1764, 1522, 1530, 1595, 1607, 1611, 1619, 1615, 1623, 1796, 1603, 1756, 1752, 1760, 1780, 1768, 1784, 1776, 1792, 1804, 1812, 1815, 1772, 1788, 1800, 1808, 1829, 1826, 1832, 1822, 1843, 1840, 1851, 1847, 1871, 1875, 1836, 1819, 1855, 1863, 1859, 1879, 1867, 1883, 1887, 1894, 1898, 1906, 1902, 1910, 1914, 1918, 1930, 1926, 1922, 1934, 1938, 1950, 1946, 1957, 1954, 1942, 1966, 1962, 1973, 1977, 1981]
def stL : List Nat := [140, 647, 655, 627, 1195, 1158, 861, 878, 519, 1239, 1244, 1248, 276, 663, 682, 919, 651, 174, 631, 882, 659, 902, 924, 950, 958, 456, 1034, 1050, 1043, 1047, 1055, 1066, 1069, 1059, 1062, 1080, 1088, 1109, 1113, 1077, 1122, 1126, 1072, 1096, 1104, 1135, 1149, 1144, 1175, 1170, 1179, 1187, 338, 732, 737, 743, 746, 740, 750, 806, 754, 817, 829, 813, 841, 845, 821, 825, 833, 436, 870, 894, 898, 344, 852, 836, 848, 667, 675, 318, 874, 963, 909, 936, 946, 954, 1013, 150, 635, 928, 933, 888, 549, 1230, 1207, 1212, 1222, 1218, 1227, 132, 616, 643, 700, 704, 712, 716, 724, 728, 866, 971, 975, 979, 983, 989, 994, 999, 1004, 1009, 1017, 1027, 1084, 1092, 1100, 1131, 1140, 1154, 1162, 1166, 1183, 1191, 1199, 1203, 1234, 1256, 1260, 1265, 1269, 1273, 640, 624, 968, 709, 721, 620, 913, 1031, 943, 1039, 940, 685, 688, 694, 691, 697, 1021, 1024, 1478, 1625, 1889, 1482, 1486, 1494, 1279, 1474, 1489, 1517, 1525, 1509, 1501, 1505, 1497, 1512, 1632, 1628, 1635, 1639, 1643, 1647, 1667, 1670, 1674, 1664, 1691, 1707, 1687, 1711, 1715, 1564, 1719, 1735, 1683, 1679, 1723, 1727, 1731, 1695, 1699, 1703, 1660, 1656, 1739, 1651, 1742, 1746, 1549, 1568, 1572, 1553, 1557, 1561, 1578, 1582, 1586, 1590, 1545, 1541, 1537, 1533, 1598, 1763, 1521, 1529, 1594, 1606, 1610, 1618, 1614, 1622, 1795, 1602, 1755, 1750, 1758, 1779, 1766, 1783, 1775, 1791, 1803, 1811, 1814, 1770, 1786, 1798, 1806, 1828, 1825, 1831, 1821, 1842, 1839, 1850, 1846, 1870, 1874, 1835, 1817, 1853, 1862, 1857, 1878, 1865, 1881, 1885, 1892, 1896, 1905, 1900, 1908, 1912, 1916, 1929, 1925, 1920, 1932, 1936, 1949, 1945, 1956, 1953, 1941, 1965, 1960, 1971, 1975, 1979]
def seL : List Nat := [0, 648, 656, 628, 1196, 1159, 862, 879, 0, 1240, 30, 31, 0, 664, 0, 920, 652, 0, 632, 883, 660, 903, 925, 951, 959, 0, 1035, 0, 18, 19, 20, 22, 0, 21, 0, 0, 1089, 1110, 1114, 23, 1123, 1127, 1073, 1097, 1105, 1136, 24, 1145, 25, 1171, 1180, 1188, 0, 733, 4, 0, 0, 0, 5, 0, 0, 7, 10, 6, 12, 13, 8, 9, 11, 0, 871, 14, 15, 0, 853, 837, 849, 668, 0, 0, 875, 964, 910, 937, 947, 955, 1014, 0, 636, 929, 16, 889, 0, 1231, 1208, 26, 28, 27, 29, 0, 617, 644, 701, 705, 713, 717, 725, 729, 867, 972, 976, 980, 984, 990, 995, 1000, 1005, 1010, 1018, 1028, 1085, 1093, 1101, 1132, 1141, 1155, 1163, 1167, 1184, 1192, 1200, 1204, 1235, 1257, 1261, 1266, 1270, 1274, 1, 0, 17, 2, 3, 0, 0, 0, 0, 0, 0, 0, 0, 0, 0, 0, 0, 0, 0, 0, 0, 32, 33, 34, 0, 1475, 1490, 37, 39, 36, 0, 35, 1498, 1513, 0, 1629, 1636, 1640, 1644, 1648, 0, 0, 66, 65, 70, 74, 69, 75, 76, 0, 77, 81, 68, 67, 78, 79, 80, 71, 72, 73, 64, 63, 82, 1652, 1743, 1747, 45, 49, 50, 46, 47, 48, 51, 52, 53, 54, 44, 43, 42, 41, 56, 84, 38, 40, 55, 58, 59, 61, 60, 62, 89, 57, 83, 1751, 1759, 86, 1767, 87, 85, 88, 90, 91, 0, 1771, 1787, 1799, 1807, 0, 92, 0, 0, 0, 94, 96, 95, 98, 99, 93, 1818, 1854, 97, 1858, 100, 1866, 1882, 1886, 1893, 1897, 101, 1901, 1909, 1913, 1917, 103, 102, 1921, 1933, 1937, 106, 105, 0, 107, 104, 108, 1961, 1972, 1976, 1980]
def mChk (j : Nat) : Bool := (if mS j then inT (stL.getD j 0) (.static (mY j)) else inT (stL.getD j 0) (.instanceMethod (mY j)) && (decide ((mY j).name = "<init>") || inT (seL.getD j 0) (.selects (cn (mOw j)) (mY j) (mY j)))) &&
  decide ((mY j).cls = cn (mOw j)) && decide (mOw j < 13) && plainName (mY j).cls && decide ((mY j).cls ≠ "java/lang/invoke/MethodHandle" ∧ (mY j).cls ≠ "java/lang/invoke/VarHandle") && decide ((parseMethodDescriptor (mY j).desc).map (fun d => d.parameters.length) = some (mNa j - if mS j then 0 else 1)) && decide (mN j ≤ 20) && decide (mRt j ≤ 3)
set_option maxRecDepth 100000 in
theorem m_ok0 : ((List.range 60).all fun j => mChk (0 + j)) = true := by decide +kernel
set_option maxRecDepth 100000 in
theorem m_ok1 : ((List.range 60).all fun j => mChk (60 + j)) = true := by decide +kernel
set_option maxRecDepth 100000 in
theorem m_ok2 : ((List.range 60).all fun j => mChk (120 + j)) = true := by decide +kernel
set_option maxRecDepth 100000 in
theorem m_ok3 : ((List.range 60).all fun j => mChk (180 + j)) = true := by decide +kernel
set_option maxRecDepth 100000 in
theorem m_ok4 : ((List.range 46).all fun j => mChk (240 + j)) = true := by decide +kernel
def poolF : List (Nat × Nat × Nat × Nat × Nat) := [(9, 9, 9, 0, 153), (8, 104, 9, 0, 154), (11, 355, 9, 0, 155), (9, 15, 9, 1, 156), (8, 110, 9, 1, 157), (9, 19, 9, 2, 158), (8, 107, 9, 2, 159), (9, 22, 9, 3, 160), (8, 113, 9, 3, 161), (3, 9, 3, 0, 177), (11, 129, 3, 0, 178), (10, 68, 3, 0, 179), (8, 91, 3, 0, 180), (3, 15, 3, 1, 181), (11, 134, 3, 1, 182), (2, 80, 3, 1, 183), (3, 18, 3, 2, 184), (11, 137, 3, 2, 185), (8, 70, 3, 2, 186), (6, 122, 3, 2, 187), (3, 21, 3, 3, 188), (11, 140, 3, 3, 189), (2, 66, 3, 3, 190), (10, 65, 3, 3, 191), (8, 47, 3, 3, 192), (6, 103, 3, 3, 193), (3, 24, 3, 4, 194), (11, 143, 3, 4, 195), (8, 37, 3, 4, 196), (10, 75, 3, 4, 197), (3, 28, 3, 5, 198), (11, 156, 3, 5, 199), (10, 60, 3, 5, 200), (8, 87, 3, 5, 201), (2, 95, 3, 5, 202), (0, 11, 0, 0, 216), (10, 47, 0, 0, 217), (0, 17, 0, 1, 218), (11, 115, 0, 1, 219), (10, 27, 0, 1, 220), (6, 88, 0, 1, 221), (0, 21, 0, 2, 222), (10, 85, 0, 2, 223), (0, 25, 0, 3, 224), (10, 37, 0, 3, 225), (11, 323, 0, 3, 226), (0, 28, 0, 4, 227), (4, 176, 0, 4, 228), (0, 31, 0, 5, 229), (4, 179, 0, 5, 230), (0, 34, 0, 6, 231), (4, 173, 0, 6, 232), (11, 306, 0, 6, 233), (0, 37, 0, 7, 234), (4, 67, 0, 7, 235), (11, 153, 0, 7, 236), (2, 77, 0, 7, 237), (10, 82, 0, 7, 238), (0, 42, 0, 8, 239), (0, 46, 0, 9, 240), (11, 180, 0, 9, 241), (0, 49, 0, 10, 242), (11, 211, 0, 10, 243), (0, 55, 0, 11, 244), (11, 106, 0, 11, 245), (8, 77, 0, 11, 246), (2, 9, 2, 0, 279), (2, 15, 2, 1, 280), (2, 18, 2, 2, 281), (8, 67, 2, 2, 282), (4, 102, 2, 2, 283), (11, 222, 2, 2, 284), (2, 22, 2, 3, 285), (4, 105, 2, 3, 286), (11, 225, 2, 3, 287), (2, 25, 2, 4, 288), (8, 61, 2, 4, 289), (4, 108, 2, 4, 290), (11, 228, 2, 4, 291), (2, 29, 2, 5, 292), (11, 147, 2, 5, 293), (10, 57, 2, 5, 294), (8, 64, 2, 5, 295), (6, 125, 2, 5, 296), (2, 32, 2, 6, 297), (11, 150, 2, 6, 298), (10, 79, 2, 6, 299), (8, 18, 8, 0, 323), (6, 84, 8, 0, 324), (8, 21, 8, 1, 325), (6, 112, 8, 1, 326), (8, 12, 8, 2, 327), (7, 18, 7, 0, 347), (6, 96, 7, 0, 348), (7, 22, 7, 1, 349), (6, 93, 7, 1, 350), (7, 9, 7, 2, 351), (5, 54, 7, 2, 352), (7, 15, 7, 3, 353), (6, 31, 7, 3, 354), (5, 57, 7, 3, 355), (2, 35, 7, 3, 356), (7, 25, 7, 4, 357), (2, 57, 7, 4, 358), (6, 67, 7, 4, 359), (5, 112, 7, 4, 360), (7, 28, 7, 5, 361), (6, 36, 7, 5, 362), (5, 113, 7, 5, 363), (7, 31, 7, 6, 364), (2, 50, 7, 6, 365), (6, 60, 7, 6, 366), (5, 116, 7, 6, 367), (7, 34, 7, 7, 368), (2, 53, 7, 7, 369), (6, 63, 7, 7, 370), (5, 122, 7, 7, 371), (7, 37, 7, 8, 372), (2, 40, 7, 8, 373), (6, 50, 7, 8, 374), (5, 125, 7, 8, 375), (7, 40, 7, 9, 376), (2, 43, 7, 9, 377), (6, 53, 7, 9, 378), (5, 131, 7, 9, 379), (5, 14, 5, 0, 401), (11, 187, 5, 0, 402), (5, 20, 5, 1, 403), (5, 24, 5, 2, 404), (5, 27, 5, 3, 405), (5, 30, 5, 4, 406), (5, 34, 5, 5, 407), (5, 37, 5, 6, 408), (5, 40, 5, 7, 409), (5, 43, 5, 8, 410), (5, 46, 5, 9, 411), (6, 22, 6, 0, 439), (6, 11, 6, 1, 440), (6, 15, 6, 2, 441), (6, 18, 6, 3, 442), (11, 201, 6, 3, 443), (4, 63, 4, 0, 459), (4, 9, 4, 1, 460), (4, 15, 4, 2, 461), (4, 19, 4, 3, 462), (4, 22, 4, 4, 463), (4, 26, 4, 5, 464), (4, 29, 4, 6, 465), (4, 33, 4, 7, 466), (4, 36, 4, 8, 467), (11, 264, 4, 8, 468), (4, 39, 4, 9, 469), (4, 42, 4, 10, 470), (4, 45, 4, 11, 471), (4, 48, 4, 12, 472), (4, 51, 4, 13, 473), (4, 54, 4, 14, 474), (11, 278, 4, 14, 475), (4, 57, 4, 15, 476), (11, 296, 4, 15, 477), (4, 60, 4, 16, 478), (11, 299, 4, 16, 479), (1, 9, 1, 0, 522), (1, 15, 1, 1, 523), (11, 343, 1, 1, 524), (1, 18, 1, 2, 525), (11, 340, 1, 2, 526), (1, 21, 1, 3, 527), (11, 344, 1, 3, 528), (1, 24, 1, 4, 529), (11, 347, 1, 4, 530), (1, 27, 1, 5, 531), (11, 350, 1, 5, 532), (10, 9, 10, 0, 552), (10, 15, 10, 1, 553), (10, 18, 10, 2, 554), (10, 21, 10, 3, 555), (10, 24, 10, 4, 556), (11, 332, 10, 4, 557), (11, 9, 11, 0, 569), (11, 13, 11, 1, 570), (11, 20, 11, 2, 571), (11, 24, 11, 3, 572), (11, 31, 11, 4, 573), (11, 40, 11, 5, 574), (11, 47, 11, 6, 575), (11, 56, 11, 7, 576), (11, 65, 11, 8, 577), (11, 72, 11, 9, 578), (11, 79, 11, 10, 579), (11, 83, 11, 11, 580), (11, 86, 11, 12, 581), (11, 89, 11, 13, 582), (11, 92, 11, 14, 583), (12, 3, 12, 0, 1282), (12, 7, 12, 1, 1283), (12, 24, 12, 2, 1284), (12, 27, 12, 3, 1285), (12, 30, 12, 4, 1286), (12, 34, 12, 5, 1287), (12, 178, 12, 6, 1288), (12, 37, 12, 7, 1289), (12, 252, 12, 8, 1290), (12, 255, 12, 9, 1291), (12, 226, 12, 10, 1292), (12, 41, 12, 11, 1293), (12, 44, 12, 12, 1294), (12, 175, 12, 13, 1295), (12, 47, 12, 14, 1296), (12, 50, 12, 15, 1297), (12, 53, 12, 16, 1298), (12, 56, 12, 17, 1299), (12, 181, 12, 18, 1300), (12, 201, 12, 19, 1301), (12, 210, 12, 20, 1302), (12, 194, 12, 21, 1303), (12, 280, 12, 22, 1304), (12, 277, 12, 23, 1305), (12, 290, 12, 24, 1306), (12, 59, 12, 25, 1307), (12, 62, 12, 26, 1308), (12, 322, 12, 27, 1309), (12, 328, 12, 28, 1310), (12, 168, 12, 29, 1311), (12, 65, 12, 30, 1312), (12, 68, 12, 31, 1313), (12, 71, 12, 32, 1314), (12, 11, 12, 33, 1315), (12, 74, 12, 34, 1316), (12, 77, 12, 35, 1317), (12, 80, 12, 36, 1318), (12, 413, 12, 37, 1319), (12, 416, 12, 38, 1320), (12, 428, 12, 39, 1321), (12, 431, 12, 40, 1322), (12, 410, 12, 41, 1323), (12, 83, 12, 42, 1324), (12, 86, 12, 43, 1325), (12, 89, 12, 44, 1326), (12, 92, 12, 45, 1327), (12, 95, 12, 46, 1328), (12, 98, 12, 47, 1329), (12, 440, 12, 48, 1330), (12, 101, 12, 49, 1331), (12, 449, 12, 50, 1332), (12, 452, 12, 51, 1333), (12, 455, 12, 52, 1334), (12, 470, 12, 53, 1335), (12, 464, 12, 54, 1336), (12, 467, 12, 55, 1337), (12, 473, 12, 56, 1338), (12, 104, 12, 57, 1339), (12, 108, 12, 58, 1340), (12, 111, 12, 59, 1341), (12, 498, 12, 60, 1342), (12, 501, 12, 61, 1343), (12, 491, 12, 62, 1344)]
def poolM : List (Nat × Nat × Nat × Nat) := [(11, 19, 0, 139), (11, 37, 79, 317), (8, 11, 0, 322), (5, 11, 73, 343), (11, 53, 69, 435), (11, 62, 25, 455), (11, 95, 143, 619), (11, 99, 139, 622), (11, 103, 3, 626), (0, 60, 18, 630), (11, 110, 88, 634), (11, 118, 138, 638), (11, 121, 1, 646), (11, 125, 16, 650), (2, 71, 2, 654), (2, 83, 20, 658), (2, 91, 13, 662), (2, 46, 77, 666), (7, 59, 78, 674), (2, 62, 14, 681), (11, 159, 149, 684), (11, 163, 150, 687), (11, 166, 152, 690), (11, 361, 151, 693), (11, 169, 153, 696), (11, 172, 141, 707), (11, 176, 142, 719), (11, 183, 53, 731), (5, 50, 54, 735), (5, 70, 57, 739), (5, 78, 55, 742), (5, 82, 56, 745), (5, 74, 58, 748), (5, 87, 60, 753), (5, 93, 59, 805), (5, 60, 63, 811), (5, 64, 61, 815), (5, 119, 66, 819), (5, 143, 67, 823), (5, 67, 62, 827), (5, 146, 68, 831), (5, 137, 75, 835), (5, 128, 64, 839), (5, 134, 65, 843), (5, 140, 76, 847), (11, 191, 74, 851), (7, 43, 73, 856), (11, 197, 6, 860), (11, 204, 70, 869), (6, 26, 80, 873), (8, 25, 7, 877), (0, 64, 19, 881), (0, 74, 91, 887), (6, 39, 71, 892), (6, 46, 72, 896), (6, 99, 1, 900), (6, 108, 21, 901), (6, 116, 16, 905), (6, 56, 77, 906), (6, 70, 82, 908), (8, 33, 1, 915), (8, 43, 21, 916), (8, 51, 16, 917), (8, 57, 15, 918), (2, 87, 21, 922), (8, 73, 22, 923), (8, 81, 89, 927), (9, 25, 90, 931), (6, 74, 83, 935), (11, 358, 146, 942), (6, 78, 84, 945), (8, 98, 23, 949), (6, 81, 85, 953), (8, 101, 24, 957), (6, 43, 81, 962), (11, 208, 140, 966), (11, 214, 144, 986), (11, 218, 15, 987), (11, 231, 82, 992), (11, 235, 83, 997), (11, 238, 84, 1002), (11, 241, 85, 1007), (11, 244, 86, 1012), (11, 247, 154, 1020), (11, 251, 155, 1023), (11, 254, 145, 1030), (11, 257, 26, 1033), (4, 72, 2, 1037), (4, 80, 28, 1041), (4, 88, 29, 1045), (4, 92, 27, 1049), (4, 96, 13, 1052), (4, 84, 30, 1053), (4, 112, 33, 1057), (4, 123, 34, 1061), (4, 115, 31, 1064), (4, 119, 32, 1068), (11, 261, 42, 1071), (4, 130, 39, 1075), (4, 126, 35, 1079), (11, 267, 36, 1087), (11, 271, 43, 1095), (11, 274, 44, 1103), (4, 149, 26, 1107), (4, 153, 37, 1108), (4, 157, 38, 1112), (11, 281, 40, 1121), (11, 284, 41, 1125), (11, 287, 37, 1129), (11, 290, 45, 1134), (4, 160, 36, 1138), (11, 293, 47, 1143), (4, 163, 46, 1147), (11, 302, 5, 1157), (11, 309, 49, 1169), (4, 185, 48, 1173), (11, 313, 50, 1178), (11, 317, 51, 1186), (11, 320, 4, 1194), (11, 326, 94, 1206), (10, 33, 95, 1210), (10, 51, 16, 1214), (10, 40, 97, 1216), (10, 88, 96, 1220), (10, 44, 98, 1225), (11, 329, 93, 1229), (11, 336, 9, 1238), (1, 31, 10, 1242), (1, 52, 11, 1246), (1, 34, 43, 1251), (1, 40, 38, 1252), (1, 44, 40, 1253), (11, 351, 7, 1263), (12, 114, 156, 1477), (12, 118, 159, 1480), (12, 14, 160, 1484), (12, 121, 161, 1492), (12, 128, 168, 1500), (12, 131, 169, 1503), (12, 124, 167, 1507), (12, 134, 165, 1515), (12, 138, 220, 1519), (12, 142, 166, 1523), (12, 146, 221, 1527), (12, 338, 217, 1531), (12, 331, 216, 1535), (12, 325, 215, 1539), (12, 334, 214, 1543), (12, 283, 204, 1547), (12, 307, 207, 1551), (12, 293, 208, 1555), (12, 301, 209, 1559), (12, 242, 187, 1563), (12, 304, 205, 1566), (12, 297, 206, 1570), (12, 319, 210, 1576), (12, 310, 211, 1580), (12, 313, 212, 1584), (12, 316, 213, 1588), (12, 150, 222, 1592), (12, 341, 218, 1596), (12, 153, 229, 1600), (12, 156, 223, 1604), (12, 159, 224, 1608), (12, 162, 226, 1612), (12, 344, 225, 1616), (12, 165, 227, 1620), (12, 347, 157, 1624), (12, 171, 172, 1631), (12, 270, 199, 1654), (12, 267, 198, 1658), (12, 261, 181, 1662), (12, 184, 178, 1666), (12, 187, 179, 1669), (12, 190, 180, 1672), (12, 264, 191, 1677), (12, 230, 190, 1681), (12, 204, 184, 1685), (12, 197, 182, 1689), (12, 213, 195, 1693), (12, 246, 196, 1697), (12, 249, 197, 1701), (12, 207, 183, 1705), (12, 216, 185, 1709), (12, 258, 186, 1713), (12, 222, 188, 1717), (12, 219, 192, 1721), (12, 236, 193, 1725), (12, 239, 194, 1729), (12, 233, 189, 1733), (12, 274, 200, 1737), (12, 350, 230, 1753), (12, 353, 219, 1761), (12, 365, 236, 1773), (12, 356, 233, 1777), (12, 368, 235, 1781), (12, 371, 237, 1789), (12, 359, 228, 1793), (12, 374, 238, 1801), (12, 377, 239, 1809), (12, 362, 240, 1813), (12, 395, 248, 1820), (12, 398, 246, 1823), (12, 380, 245, 1827), (12, 401, 247, 1830), (12, 404, 255, 1833), (12, 389, 250, 1837), (12, 383, 249, 1841), (12, 392, 252, 1844), (12, 386, 251, 1848), (12, 407, 258, 1860), (12, 419, 253, 1868), (12, 422, 254, 1872), (12, 425, 260, 1876), (12, 434, 158, 1888), (12, 437, 266, 1903), (12, 446, 272, 1923), (12, 443, 271, 1927), (12, 458, 280, 1939), (12, 482, 277, 1943), (12, 461, 276, 1947), (12, 486, 279, 1951), (12, 478, 278, 1955), (12, 504, 281, 1963)]
def poolN : List (Nat × Nat × Nat × Nat) := [(0, 54, 87, 149), (0, 59, 17, 173), (11, 30, 12, 275), (11, 46, 52, 337), (11, 71, 8, 518), (11, 78, 92, 548), (8, 29, 144, 912), (8, 94, 148, 939), (3, 38, 146, 961), (4, 76, 147, 1038), (4, 146, 149, 1082), (4, 143, 152, 1116), (4, 134, 150, 1117), (4, 166, 154, 1151), (4, 182, 146, 1177), (10, 71, 154, 1215)]
def poolC : List (Nat × Nat × Nat × Nat) := [(11, 17, 0, 137), (0, 9, 3, 143), (0, 40, 7, 145), (0, 52, 9, 147), (11, 28, 2, 273), (11, 35, 8, 315), (8, 9, 0, 321), (11, 44, 5, 335), (5, 9, 7, 341), (11, 51, 6, 433), (11, 60, 4, 453), (11, 69, 1, 516), (11, 76, 10, 546), (7, 10, 7, 855)]
def poolX : List (Nat × Nat × Nat × Nat) := [(11, 1, 1, 134), (0, 3, 1, 142), (9, 3, 1, 152), (3, 3, 1, 176), (2, 3, 1, 278), (8, 3, 1, 320), (5, 3, 1, 340), (7, 3, 1, 346), (6, 3, 1, 438), (4, 3, 1, 458), (1, 3, 1, 521), (10, 3, 1, 551), (7, 53, 2, 671), (5, 102, 6, 756), (5, 108, 7, 766), (5, 96, 3, 808), (7, 46, 5, 857), (3, 32, 5, 885), (0, 68, 5, 886), (9, 28, 5, 891), (4, 138, 4, 1118), (4, 170, 2, 1152), (10, 92, 2, 1224), (1, 47, 2, 1254), (12, 18, 1, 1281)]
def poolI : List (Nat × Nat × Int × Nat) := [(7, 52, -2147483648, 670), (2, 56, -2147483648, 680), (6, 66, -2147483648, 907), (11, 335, 1000000, 1237), (1, 56, 1000003, 1250), (12, 193, 1000000, 1676)]
def poolJ : List (Nat × Nat × Int × Nat) := [(7, 63, -2147483648, 677), (7, 65, -1000000000, 678), (7, 67, 1000000000, 679), (12, 286, 1000000000, 1574), (12, 288, -1000000000, 1575), (12, 476, 1000000, 1958), (12, 489, 1103, 1967), (12, 494, 12345, 1968), (12, 496, 1000003, 1969)]
def jdkY (c : Nat) : MethodName := match c with
  | 1 => Lib.objectInit
  | 2 => Lib.Math.max.name
  | 3 => Lib.Math.min.name
  | 4 => Lib.Math.abs.name
  | 5 => arraycopyName
  | 6 => yJ0_length_8abf5
  | _ => yJ0_charAt_5068e
set_option maxRecDepth 100000 in
theorem poolF_ok : (poolF.all fun q => inT q.2.2.2.2 (.fieldLink (cn q.1) q.2.1 (cT q.2.2.1 q.2.2.2.1).1 (cT q.2.2.1 q.2.2.2.1).2.1 (cT q.2.2.1 q.2.2.2.1).2.2.1) && decide (q.2.2.1 < 13) && decide (q.2.2.2.1 < cN q.2.2.1)) = true := by decide +kernel
set_option maxRecDepth 100000 in
theorem poolM_ok : (poolM.all fun q => inT q.2.2.2 (.methodLink (cn q.1) q.2.1 (mY q.2.2.1)) && decide (q.2.2.1 < 286)) = true := by decide +kernel
set_option maxRecDepth 100000 in
theorem poolN_ok : (poolN.all fun q => decide (lw_tbl[q.2.2.2]? = some (.methodLinkNest (cn q.1) q.2.1 (mY q.2.2.1) "NeckKnots")) && decide (q.2.2.1 < 286)) = true := by decide +kernel
set_option maxRecDepth 100000 in
theorem poolC_ok : (poolC.all fun q => inT q.2.2.2 (.classLink (cn q.1) q.2.1 (cn q.2.2.1)) && decide (q.2.2.1 < 13)) = true := by decide +kernel
set_option maxRecDepth 100000 in
theorem poolX_ok : (poolX.all fun q => inT q.2.2.2 (.methodLink (cn q.1) q.2.1 (jdkY q.2.2.1))) = true := by decide +kernel
set_option maxRecDepth 100000 in
theorem poolI_ok : (poolI.all fun q => inT q.2.2.2 (.constant (cn q.1) q.2.1 (Int32.ofInt q.2.2.1)) && decide (-2147483648 ≤ q.2.2.1 ∧ q.2.2.1 < 2147483648)) = true := by decide +kernel
set_option maxRecDepth 100000 in
theorem poolJ_ok : (poolJ.all fun q => inT q.2.2.2 (.constantLong (cn q.1) q.2.1 (Int64.ofInt q.2.2.1)) && decide (-9223372036854775808 ≤ q.2.2.1 ∧ q.2.2.1 < 9223372036854775808)) = true := by decide +kernel

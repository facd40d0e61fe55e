theorem cw_mem {i : Nat} {y : MethodName} {b : ByteArray} {n : Nat} {r : Option FieldType} (h : lw_tbl[i]? = some (.code y b n r)) : Cond.code y b n r ∈ lw_good := List.mem_filter.mpr ⟨List.mem_of_getElem? h, rfl⟩
set_option maxRecDepth 100000 in
theorem cw_X0_init : Cond.code t_X0_init.1 t_X0_init.2.1 t_X0_init.2.2.1 t_X0_init.2.2.2.1 ∈ lw_good := cw_mem (i := 141) (y := yX0_init) (b := cX0_init) (n := 2) (r := none) rfl
set_option maxRecDepth 100000 in
theorem cw_X0_knotAt : Cond.code t_X0_knotAt.1 t_X0_knotAt.2.1 t_X0_knotAt.2.2.1 t_X0_knotAt.2.2.2.1 ∈ lw_good := cw_mem (i := 649) (y := yX0_knotAt) (b := cX0_knotAt) (n := 2) (r := (some (.object "NeckKnots$Knot"))) rfl
set_option maxRecDepth 100000 in
theorem cw_X0_lawInForce : Cond.code t_X0_lawInForce.1 t_X0_lawInForce.2.1 t_X0_lawInForce.2.2.1 t_X0_lawInForce.2.2.2.1 ∈ lw_good := cw_mem (i := 657) (y := yX0_lawInForce) (b := cX0_lawInForce) (n := 1) (r := (some (.object "NeckKnots$Script"))) rfl
set_option maxRecDepth 100000 in
theorem cw_X0_addKnot : Cond.code t_X0_addKnot.1 t_X0_addKnot.2.1 t_X0_addKnot.2.2.1 t_X0_addKnot.2.2.2.1 ∈ lw_good := cw_mem (i := 629) (y := yX0_addKnot) (b := cX0_addKnot) (n := 4) (r := (some .boolean)) rfl
set_option maxRecDepth 100000 in
theorem cw_X0_addBoy : Cond.code t_X0_addBoy.1 t_X0_addBoy.2.1 t_X0_addBoy.2.2.1 t_X0_addBoy.2.2.2.1 ∈ lw_good := cw_mem (i := 1197) (y := yX0_addBoy) (b := cX0_addBoy) (n := 2) (r := (some .boolean)) rfl
set_option maxRecDepth 100000 in
theorem cw_X0_addSight : Cond.code t_X0_addSight.1 t_X0_addSight.2.1 t_X0_addSight.2.2.1 t_X0_addSight.2.2.2.1 ∈ lw_good := cw_mem (i := 1160) (y := yX0_addSight) (b := cX0_addSight) (n := 3) (r := (some .boolean)) rfl
set_option maxRecDepth 100000 in
theorem cw_X0_addLaw : Cond.code t_X0_addLaw.1 t_X0_addLaw.2.1 t_X0_addLaw.2.2.1 t_X0_addLaw.2.2.2.1 ∈ lw_good := cw_mem (i := 863) (y := yX0_addLaw) (b := cX0_addLaw) (n := 2) (r := none) rfl
set_option maxRecDepth 100000 in
theorem cw_X0_copyFrom : Cond.code t_X0_copyFrom.1 t_X0_copyFrom.2.1 t_X0_copyFrom.2.2.1 t_X0_copyFrom.2.2.2.1 ∈ lw_good := cw_mem (i := 880) (y := yX0_copyFrom) (b := cX0_copyFrom) (n := 3) (r := none) rfl
set_option maxRecDepth 100000 in
theorem cw_X1_init : Cond.code t_X1_init.1 t_X1_init.2.1 t_X1_init.2.2.1 t_X1_init.2.2.2.1 ∈ lw_good := cw_mem (i := 520) (y := yX1_init) (b := cX1_init) (n := 1) (r := none) rfl
set_option maxRecDepth 100000 in
theorem cw_X1_deal : Cond.code t_X1_deal.1 t_X1_deal.2.1 t_X1_deal.2.2.1 t_X1_deal.2.2.2.1 ∈ lw_good := cw_mem (i := 1241) (y := yX1_deal) (b := cX1_deal) (n := 8) (r := none) rfl
set_option maxRecDepth 100000 in
theorem cw_X1_dealWord : Cond.code t_X1_dealWord.1 t_X1_dealWord.2.1 t_X1_dealWord.2.2.1 t_X1_dealWord.2.2.2.1 ∈ lw_good := cw_mem (i := 1245) (y := yX1_dealWord) (b := cX1_dealWord) (n := 6) (r := none) rfl
set_option maxRecDepth 100000 in
theorem cw_X1_next : Cond.code t_X1_next.1 t_X1_next.2.1 t_X1_next.2.2.1 t_X1_next.2.2.2.1 ∈ lw_good := cw_mem (i := 1249) (y := yX1_next) (b := cX1_next) (n := 2) (r := (some .int)) rfl
set_option maxRecDepth 100000 in
theorem cw_X2_init : Cond.code t_X2_init.1 t_X2_init.2.1 t_X2_init.2.2.1 t_X2_init.2.2.2.1 ∈ lw_good := cw_mem (i := 277) (y := yX2_init) (b := cX2_init) (n := 1) (r := none) rfl
set_option maxRecDepth 100000 in
theorem cw_X2_ask : Cond.code t_X2_ask.1 t_X2_ask.2.1 t_X2_ask.2.2.1 t_X2_ask.2.2.2.1 ∈ lw_good := cw_mem (i := 665) (y := yX2_ask) (b := cX2_ask) (n := 11) (r := none) rfl
set_option maxRecDepth 100000 in
theorem cw_X2_nearest : Cond.code t_X2_nearest.1 t_X2_nearest.2.1 t_X2_nearest.2.2.1 t_X2_nearest.2.2.2.1 ∈ lw_good := cw_mem (i := 683) (y := yX2_nearest) (b := cX2_nearest) (n := 3) (r := (some .int)) rfl
set_option maxRecDepth 100000 in
theorem cw_X2_askNext : Cond.code t_X2_askNext.1 t_X2_askNext.2.1 t_X2_askNext.2.2.1 t_X2_askNext.2.2.2.1 ∈ lw_good := cw_mem (i := 921) (y := yX2_askNext) (b := cX2_askNext) (n := 5) (r := none) rfl
set_option maxRecDepth 100000 in
theorem cw_X2_weigh : Cond.code t_X2_weigh.1 t_X2_weigh.2.1 t_X2_weigh.2.2.1 t_X2_weigh.2.2.2.1 ∈ lw_good := cw_mem (i := 653) (y := yX2_weigh) (b := cX2_weigh) (n := 6) (r := none) rfl
set_option maxRecDepth 100000 in
theorem cw_X3_init : Cond.code t_X3_init.1 t_X3_init.2.1 t_X3_init.2.2.1 t_X3_init.2.2.2.1 ∈ lw_good := cw_mem (i := 175) (y := yX3_init) (b := cX3_init) (n := 1) (r := none) rfl
set_option maxRecDepth 100000 in
theorem cw_X3_begin : Cond.code t_X3_begin.1 t_X3_begin.2.1 t_X3_begin.2.2.1 t_X3_begin.2.2.2.1 ∈ lw_good := cw_mem (i := 633) (y := yX3_begin) (b := cX3_begin) (n := 4) (r := none) rfl
set_option maxRecDepth 100000 in
theorem cw_X3_copyFrom : Cond.code t_X3_copyFrom.1 t_X3_copyFrom.2.1 t_X3_copyFrom.2.2.1 t_X3_copyFrom.2.2.2.1 ∈ lw_good := cw_mem (i := 884) (y := yX3_copyFrom) (b := cX3_copyFrom) (n := 2) (r := none) rfl
set_option maxRecDepth 100000 in
theorem cw_X3_side : Cond.code t_X3_side.1 t_X3_side.2.1 t_X3_side.2.2.1 t_X3_side.2.2.2.1 ∈ lw_good := cw_mem (i := 661) (y := yX3_side) (b := cX3_side) (n := 2) (r := (some .int)) rfl
set_option maxRecDepth 100000 in
theorem cw_X3_lastPlace : Cond.code t_X3_lastPlace.1 t_X3_lastPlace.2.1 t_X3_lastPlace.2.2.1 t_X3_lastPlace.2.2.2.1 ∈ lw_good := cw_mem (i := 904) (y := yX3_lastPlace) (b := cX3_lastPlace) (n := 1) (r := (some .int)) rfl
set_option maxRecDepth 100000 in
theorem cw_X3_push : Cond.code t_X3_push.1 t_X3_push.2.1 t_X3_push.2.2.1 t_X3_push.2.2.2.1 ∈ lw_good := cw_mem (i := 926) (y := yX3_push) (b := cX3_push) (n := 2) (r := none) rfl
set_option maxRecDepth 100000 in
theorem cw_X3_pop : Cond.code t_X3_pop.1 t_X3_pop.2.1 t_X3_pop.2.2.1 t_X3_pop.2.2.2.1 ∈ lw_good := cw_mem (i := 952) (y := yX3_pop) (b := cX3_pop) (n := 1) (r := none) rfl
set_option maxRecDepth 100000 in
theorem cw_X3_swapSides : Cond.code t_X3_swapSides.1 t_X3_swapSides.2.1 t_X3_swapSides.2.2.1 t_X3_swapSides.2.2.2.1 ∈ lw_good := cw_mem (i := 960) (y := yX3_swapSides) (b := cX3_swapSides) (n := 2) (r := none) rfl
set_option maxRecDepth 100000 in
theorem cw_X4_init : Cond.code t_X4_init.1 t_X4_init.2.1 t_X4_init.2.2.1 t_X4_init.2.2.2.1 ∈ lw_good := cw_mem (i := 457) (y := yX4_init) (b := cX4_init) (n := 2) (r := none) rfl
set_option maxRecDepth 100000 in
theorem cw_X4_prepare : Cond.code t_X4_prepare.1 t_X4_prepare.2.1 t_X4_prepare.2.2.1 t_X4_prepare.2.2.2.1 ∈ lw_good := cw_mem (i := 1036) (y := yX4_prepare) (b := cX4_prepare) (n := 4) (r := none) rfl
set_option maxRecDepth 100000 in
theorem cw_X4_cell : Cond.code t_X4_cell.1 t_X4_cell.2.1 t_X4_cell.2.2.1 t_X4_cell.2.2.2.1 ∈ lw_good := cw_mem (i := 1051) (y := yX4_cell) (b := cX4_cell) (n := 4) (r := (some .int)) rfl
set_option maxRecDepth 100000 in
theorem cw_X4_fillCells : Cond.code t_X4_fillCells.1 t_X4_fillCells.2.1 t_X4_fillCells.2.2.1 t_X4_fillCells.2.2.2.1 ∈ lw_good := cw_mem (i := 1044) (y := yX4_fillCells) (b := cX4_fillCells) (n := 5) (r := none) rfl
set_option maxRecDepth 100000 in
theorem cw_X4_fillCell : Cond.code t_X4_fillCell.1 t_X4_fillCell.2.1 t_X4_fillCell.2.2.1 t_X4_fillCell.2.2.2.1 ∈ lw_good := cw_mem (i := 1048) (y := yX4_fillCell) (b := cX4_fillCell) (n := 6) (r := none) rfl
set_option maxRecDepth 100000 in
theorem cw_X4_extend : Cond.code t_X4_extend.1 t_X4_extend.2.1 t_X4_extend.2.2.1 t_X4_extend.2.2.2.1 ∈ lw_good := cw_mem (i := 1056) (y := yX4_extend) (b := cX4_extend) (n := 7) (r := none) rfl
set_option maxRecDepth 100000 in
theorem cw_X4_extendBy : Cond.code t_X4_extendBy.1 t_X4_extendBy.2.1 t_X4_extendBy.2.2.1 t_X4_extendBy.2.2.2.1 ∈ lw_good := cw_mem (i := 1067) (y := yX4_extendBy) (b := cX4_extendBy) (n := 9) (r := none) rfl
set_option maxRecDepth 100000 in
theorem cw_X4_mayStand : Cond.code t_X4_mayStand.1 t_X4_mayStand.2.1 t_X4_mayStand.2.2.1 t_X4_mayStand.2.2.2.1 ∈ lw_good := cw_mem (i := 1070) (y := yX4_mayStand) (b := cX4_mayStand) (n := 3) (r := (some .boolean)) rfl
set_option maxRecDepth 100000 in
theorem cw_X4_keep : Cond.code t_X4_keep.1 t_X4_keep.2.1 t_X4_keep.2.2.1 t_X4_keep.2.2.2.1 ∈ lw_good := cw_mem (i := 1060) (y := yX4_keep) (b := cX4_keep) (n := 6) (r := none) rfl
set_option maxRecDepth 100000 in
theorem cw_X4_firstSlot : Cond.code t_X4_firstSlot.1 t_X4_firstSlot.2.1 t_X4_firstSlot.2.2.1 t_X4_firstSlot.2.2.2.1 ∈ lw_good := cw_mem (i := 1063) (y := yX4_firstSlot) (b := cX4_firstSlot) (n := 1) (r := (some .int)) rfl
set_option maxRecDepth 100000 in
theorem cw_X4_placeOf : Cond.code t_X4_placeOf.1 t_X4_placeOf.2.1 t_X4_placeOf.2.2.1 t_X4_placeOf.2.2.2.1 ∈ lw_good := cw_mem (i := 1081) (y := yX4_placeOf) (b := cX4_placeOf) (n := 3) (r := (some .int)) rfl
set_option maxRecDepth 100000 in
theorem cw_X4_placeIn : Cond.code t_X4_placeIn.1 t_X4_placeIn.2.1 t_X4_placeIn.2.2.1 t_X4_placeIn.2.2.2.1 ∈ lw_good := cw_mem (i := 1090) (y := yX4_placeIn) (b := cX4_placeIn) (n := 4) (r := (some .int)) rfl
set_option maxRecDepth 100000 in
theorem cw_X4_takesIn : Cond.code t_X4_takesIn.1 t_X4_takesIn.2.1 t_X4_takesIn.2.2.1 t_X4_takesIn.2.2.2.1 ∈ lw_good := cw_mem (i := 1111) (y := yX4_takesIn) (b := cX4_takesIn) (n := 3) (r := (some .int)) rfl
set_option maxRecDepth 100000 in
theorem cw_X4_gripsIn : Cond.code t_X4_gripsIn.1 t_X4_gripsIn.2.1 t_X4_gripsIn.2.2.1 t_X4_gripsIn.2.2.2.1 ∈ lw_good := cw_mem (i := 1115) (y := yX4_gripsIn) (b := cX4_gripsIn) (n := 3) (r := (some .int)) rfl
set_option maxRecDepth 100000 in
theorem cw_X4_spell : Cond.code t_X4_spell.1 t_X4_spell.2.1 t_X4_spell.2.2.1 t_X4_spell.2.2.2.1 ∈ lw_good := cw_mem (i := 1078) (y := yX4_spell) (b := cX4_spell) (n := 5) (r := none) rfl
set_option maxRecDepth 100000 in
theorem cw_X4_leanIn : Cond.code t_X4_leanIn.1 t_X4_leanIn.2.1 t_X4_leanIn.2.2.1 t_X4_leanIn.2.2.2.1 ∈ lw_good := cw_mem (i := 1124) (y := yX4_leanIn) (b := cX4_leanIn) (n := 3) (r := (some .int)) rfl
set_option maxRecDepth 100000 in
theorem cw_X4_twistsIn : Cond.code t_X4_twistsIn.1 t_X4_twistsIn.2.1 t_X4_twistsIn.2.2.1 t_X4_twistsIn.2.2.2.1 ∈ lw_good := cw_mem (i := 1128) (y := yX4_twistsIn) (b := cX4_twistsIn) (n := 3) (r := (some .int)) rfl
set_option maxRecDepth 100000 in
theorem cw_X4_howMany : Cond.code t_X4_howMany.1 t_X4_howMany.2.1 t_X4_howMany.2.2.1 t_X4_howMany.2.2.2.1 ∈ lw_good := cw_mem (i := 1074) (y := yX4_howMany) (b := cX4_howMany) (n := 5) (r := (some .int)) rfl
set_option maxRecDepth 100000 in
theorem cw_X4_find : Cond.code t_X4_find.1 t_X4_find.2.1 t_X4_find.2.2.1 t_X4_find.2.2.2.1 ∈ lw_good := cw_mem (i := 1098) (y := yX4_find) (b := cX4_find) (n := 8) (r := (some .int)) rfl
set_option maxRecDepth 100000 in
theorem cw_X4_chooseBest : Cond.code t_X4_chooseBest.1 t_X4_chooseBest.2.1 t_X4_chooseBest.2.2.1 t_X4_chooseBest.2.2.2.1 ∈ lw_good := cw_mem (i := 1106) (y := yX4_chooseBest) (b := cX4_chooseBest) (n := 8) (r := (some .int)) rfl
set_option maxRecDepth 100000 in
theorem cw_X4_chooseNearest : Cond.code t_X4_chooseNearest.1 t_X4_chooseNearest.2.1 t_X4_chooseNearest.2.2.1 t_X4_chooseNearest.2.2.2.1 ∈ lw_good := cw_mem (i := 1137) (y := yX4_chooseNearest) (b := cX4_chooseNearest) (n := 7) (r := (some .int)) rfl
set_option maxRecDepth 100000 in
theorem cw_X4_clearTally : Cond.code t_X4_clearTally.1 t_X4_clearTally.2.1 t_X4_clearTally.2.2.1 t_X4_clearTally.2.2.2.1 ∈ lw_good := cw_mem (i := 1150) (y := yX4_clearTally) (b := cX4_clearTally) (n := 2) (r := none) rfl
set_option maxRecDepth 100000 in
theorem cw_X4_countFronts : Cond.code t_X4_countFronts.1 t_X4_countFronts.2.1 t_X4_countFronts.2.2.1 t_X4_countFronts.2.2.2.1 ∈ lw_good := cw_mem (i := 1146) (y := yX4_countFronts) (b := cX4_countFronts) (n := 4) (r := none) rfl
set_option maxRecDepth 100000 in
theorem cw_X4_isFitting : Cond.code t_X4_isFitting.1 t_X4_isFitting.2.1 t_X4_isFitting.2.2.1 t_X4_isFitting.2.2.2.1 ∈ lw_good := cw_mem (i := 1176) (y := yX4_isFitting) (b := cX4_isFitting) (n := 8) (r := (some .boolean)) rfl
set_option maxRecDepth 100000 in
theorem cw_X4_countFitting : Cond.code t_X4_countFitting.1 t_X4_countFitting.2.1 t_X4_countFitting.2.2.1 t_X4_countFitting.2.2.2.1 ∈ lw_good := cw_mem (i := 1172) (y := yX4_countFitting) (b := cX4_countFitting) (n := 6) (r := (some .int)) rfl
set_option maxRecDepth 100000 in
theorem cw_X4_fittingAt : Cond.code t_X4_fittingAt.1 t_X4_fittingAt.2.1 t_X4_fittingAt.2.2.1 t_X4_fittingAt.2.2.2.1 ∈ lw_good := cw_mem (i := 1181) (y := yX4_fittingAt) (b := cX4_fittingAt) (n := 7) (r := (some .int)) rfl
set_option maxRecDepth 100000 in
theorem cw_X4_whereToLook : Cond.code t_X4_whereToLook.1 t_X4_whereToLook.2.1 t_X4_whereToLook.2.2.1 t_X4_whereToLook.2.2.2.1 ∈ lw_good := cw_mem (i := 1189) (y := yX4_whereToLook) (b := cX4_whereToLook) (n := 9) (r := (some .int)) rfl
set_option maxRecDepth 100000 in
theorem cw_X5_init : Cond.code t_X5_init.1 t_X5_init.2.1 t_X5_init.2.2.1 t_X5_init.2.2.2.1 ∈ lw_good := cw_mem (i := 339) (y := yX5_init) (b := cX5_init) (n := 1) (r := none) rfl
set_option maxRecDepth 100000 in
theorem cw_X5_read : Cond.code t_X5_read.1 t_X5_read.2.1 t_X5_read.2.2.1 t_X5_read.2.2.2.1 ∈ lw_good := cw_mem (i := 734) (y := yX5_read) (b := cX5_read) (n := 6) (r := (some .int)) rfl
set_option maxRecDepth 100000 in
theorem cw_X5_scan : Cond.code t_X5_scan.1 t_X5_scan.2.1 t_X5_scan.2.2.1 t_X5_scan.2.2.2.1 ∈ lw_good := cw_mem (i := 738) (y := yX5_scan) (b := cX5_scan) (n := 5) (r := none) rfl
set_option maxRecDepth 100000 in
theorem cw_X5_isLetter : Cond.code t_X5_isLetter.1 t_X5_isLetter.2.1 t_X5_isLetter.2.2.1 t_X5_isLetter.2.2.2.1 ∈ lw_good := cw_mem (i := 744) (y := yX5_isLetter) (b := cX5_isLetter) (n := 1) (r := (some .boolean)) rfl
set_option maxRecDepth 100000 in
theorem cw_X5_isDigit : Cond.code t_X5_isDigit.1 t_X5_isDigit.2.1 t_X5_isDigit.2.2.1 t_X5_isDigit.2.2.2.1 ∈ lw_good := cw_mem (i := 747) (y := yX5_isDigit) (b := cX5_isDigit) (n := 1) (r := (some .boolean)) rfl
set_option maxRecDepth 100000 in
theorem cw_X5_rowEnd : Cond.code t_X5_rowEnd.1 t_X5_rowEnd.2.1 t_X5_rowEnd.2.2.1 t_X5_rowEnd.2.2.2.1 ∈ lw_good := cw_mem (i := 741) (y := yX5_rowEnd) (b := cX5_rowEnd) (n := 6) (r := (some .int)) rfl
set_option maxRecDepth 100000 in
theorem cw_X5_addToken : Cond.code t_X5_addToken.1 t_X5_addToken.2.1 t_X5_addToken.2.2.1 t_X5_addToken.2.2.2.1 ∈ lw_good := cw_mem (i := 751) (y := yX5_addToken) (b := cX5_addToken) (n := 5) (r := none) rfl
set_option maxRecDepth 100000 in
theorem cw_X5_numberOf : Cond.code t_X5_numberOf.1 t_X5_numberOf.2.1 t_X5_numberOf.2.2.1 t_X5_numberOf.2.2.2.1 ∈ lw_good := cw_mem (i := 807) (y := yX5_numberOf) (b := cX5_numberOf) (n := 5) (r := (some .int)) rfl
set_option maxRecDepth 100000 in
theorem cw_X5_keyword : Cond.code t_X5_keyword.1 t_X5_keyword.2.1 t_X5_keyword.2.2.1 t_X5_keyword.2.2.2.1 ∈ lw_good := cw_mem (i := 755) (y := yX5_keyword) (b := cX5_keyword) (n := 9) (r := (some .int)) rfl
set_option maxRecDepth 100000 in
theorem cw_X5_advance : Cond.code t_X5_advance.1 t_X5_advance.2.1 t_X5_advance.2.2.1 t_X5_advance.2.2.2.1 ∈ lw_good := cw_mem (i := 818) (y := yX5_advance) (b := cX5_advance) (n := 1) (r := none) rfl
set_option maxRecDepth 100000 in
theorem cw_X5_fail : Cond.code t_X5_fail.1 t_X5_fail.2.1 t_X5_fail.2.2.1 t_X5_fail.2.2.2.1 ∈ lw_good := cw_mem (i := 830) (y := yX5_fail) (b := cX5_fail) (n := 1) (r := none) rfl
set_option maxRecDepth 100000 in
theorem cw_X5_clause : Cond.code t_X5_clause.1 t_X5_clause.2.1 t_X5_clause.2.2.1 t_X5_clause.2.2.2.1 ∈ lw_good := cw_mem (i := 814) (y := yX5_clause) (b := cX5_clause) (n := 2) (r := none) rfl
set_option maxRecDepth 100000 in
theorem cw_X5_test : Cond.code t_X5_test.1 t_X5_test.2.1 t_X5_test.2.2.1 t_X5_test.2.2.2.1 ∈ lw_good := cw_mem (i := 842) (y := yX5_test) (b := cX5_test) (n := 7) (r := none) rfl
set_option maxRecDepth 100000 in
theorem cw_X5_plain : Cond.code t_X5_plain.1 t_X5_plain.2.1 t_X5_plain.2.2.1 t_X5_plain.2.2.2.1 ∈ lw_good := cw_mem (i := 846) (y := yX5_plain) (b := cX5_plain) (n := 4) (r := none) rfl
set_option maxRecDepth 100000 in
theorem cw_X5_sum : Cond.code t_X5_sum.1 t_X5_sum.2.1 t_X5_sum.2.2.1 t_X5_sum.2.2.2.1 ∈ lw_good := cw_mem (i := 822) (y := yX5_sum) (b := cX5_sum) (n := 7) (r := none) rfl
set_option maxRecDepth 100000 in
theorem cw_X5_part : Cond.code t_X5_part.1 t_X5_part.2.1 t_X5_part.2.2.1 t_X5_part.2.2.2.1 ∈ lw_good := cw_mem (i := 826) (y := yX5_part) (b := cX5_part) (n := 5) (r := none) rfl
set_option maxRecDepth 100000 in
theorem cw_X5_wordNow : Cond.code t_X5_wordNow.1 t_X5_wordNow.2.1 t_X5_wordNow.2.2.1 t_X5_wordNow.2.2.2.1 ∈ lw_good := cw_mem (i := 834) (y := yX5_wordNow) (b := cX5_wordNow) (n := 1) (r := (some .int)) rfl
set_option maxRecDepth 100000 in
theorem cw_X6_init : Cond.code t_X6_init.1 t_X6_init.2.1 t_X6_init.2.2.1 t_X6_init.2.2.2.1 ∈ lw_good := cw_mem (i := 437) (y := yX6_init) (b := cX6_init) (n := 2) (r := none) rfl
set_option maxRecDepth 100000 in
theorem cw_X6_run : Cond.code t_X6_run.1 t_X6_run.2.1 t_X6_run.2.2.1 t_X6_run.2.2.2.1 ∈ lw_good := cw_mem (i := 872) (y := yX6_run) (b := cX6_run) (n := 4) (r := (some .int)) rfl
set_option maxRecDepth 100000 in
theorem cw_X6_runOnce : Cond.code t_X6_runOnce.1 t_X6_runOnce.2.1 t_X6_runOnce.2.2.1 t_X6_runOnce.2.2.2.1 ∈ lw_good := cw_mem (i := 895) (y := yX6_runOnce) (b := cX6_runOnce) (n := 6) (r := (some .boolean)) rfl
set_option maxRecDepth 100000 in
theorem cw_X6_loadWords : Cond.code t_X6_loadWords.1 t_X6_loadWords.2.1 t_X6_loadWords.2.2.1 t_X6_loadWords.2.2.2.1 ∈ lw_good := cw_mem (i := 899) (y := yX6_loadWords) (b := cX6_loadWords) (n := 8) (r := none) rfl
set_option maxRecDepth 100000 in
theorem cw_X7_init : Cond.code t_X7_init.1 t_X7_init.2.1 t_X7_init.2.2.1 t_X7_init.2.2.2.1 ∈ lw_good := cw_mem (i := 345) (y := yX7_init) (b := cX7_init) (n := 3) (r := none) rfl
set_option maxRecDepth 100000 in
theorem cw_X7_kept : Cond.code t_X7_kept.1 t_X7_kept.2.1 t_X7_kept.2.2.1 t_X7_kept.2.2.2.1 ∈ lw_good := cw_mem (i := 854) (y := yX7_kept) (b := cX7_kept) (n := 2) (r := (some (.object "NeckKnots$Script"))) rfl
set_option maxRecDepth 100000 in
theorem cw_X7_emit : Cond.code t_X7_emit.1 t_X7_emit.2.1 t_X7_emit.2.2.1 t_X7_emit.2.2.2.1 ∈ lw_good := cw_mem (i := 838) (y := yX7_emit) (b := cX7_emit) (n := 3) (r := (some .int)) rfl
set_option maxRecDepth 100000 in
theorem cw_X7_closeSkip : Cond.code t_X7_closeSkip.1 t_X7_closeSkip.2.1 t_X7_closeSkip.2.2.1 t_X7_closeSkip.2.2.2.1 ∈ lw_good := cw_mem (i := 850) (y := yX7_closeSkip) (b := cX7_closeSkip) (n := 2) (r := none) rfl
set_option maxRecDepth 100000 in
theorem cw_X7_reckon : Cond.code t_X7_reckon.1 t_X7_reckon.2.1 t_X7_reckon.2.2.1 t_X7_reckon.2.2.2.1 ∈ lw_good := cw_mem (i := 669) (y := yX7_reckon) (b := cX7_reckon) (n := 10) (r := (some .int)) rfl
set_option maxRecDepth 100000 in
theorem cw_X7_joined : Cond.code t_X7_joined.1 t_X7_joined.2.1 t_X7_joined.2.2.1 t_X7_joined.2.2.2.1 ∈ lw_good := cw_mem (i := 676) (y := yX7_joined) (b := cX7_joined) (n := 7) (r := (some .int)) rfl
set_option maxRecDepth 100000 in
theorem cw_X8_init : Cond.code t_X8_init.1 t_X8_init.2.1 t_X8_init.2.2.1 t_X8_init.2.2.2.1 ∈ lw_good := cw_mem (i := 319) (y := yX8_init) (b := cX8_init) (n := 3) (r := none) rfl
set_option maxRecDepth 100000 in
theorem cw_X8_remember : Cond.code t_X8_remember.1 t_X8_remember.2.1 t_X8_remember.2.2.1 t_X8_remember.2.2.2.1 ∈ lw_good := cw_mem (i := 876) (y := yX8_remember) (b := cX8_remember) (n := 1) (r := none) rfl
set_option maxRecDepth 100000 in
theorem cw_X8_giveBack : Cond.code t_X8_giveBack.1 t_X8_giveBack.2.1 t_X8_giveBack.2.2.1 t_X8_giveBack.2.2.2.1 ∈ lw_good := cw_mem (i := 965) (y := yX8_giveBack) (b := cX8_giveBack) (n := 1) (r := none) rfl
set_option maxRecDepth 100000 in
theorem cw_X8_layOn : Cond.code t_X8_layOn.1 t_X8_layOn.2.1 t_X8_layOn.2.2.1 t_X8_layOn.2.2.2.1 ∈ lw_good := cw_mem (i := 911) (y := yX8_layOn) (b := cX8_layOn) (n := 4) (r := (some .int)) rfl
set_option maxRecDepth 100000 in
theorem cw_X8_putThrough : Cond.code t_X8_putThrough.1 t_X8_putThrough.2.1 t_X8_putThrough.2.2.1 t_X8_putThrough.2.2.2.1 ∈ lw_good := cw_mem (i := 938) (y := yX8_putThrough) (b := cX8_putThrough) (n := 3) (r := (some .int)) rfl
set_option maxRecDepth 100000 in
theorem cw_X8_drawBack : Cond.code t_X8_drawBack.1 t_X8_drawBack.2.1 t_X8_drawBack.2.2.1 t_X8_drawBack.2.2.2.1 ∈ lw_good := cw_mem (i := 948) (y := yX8_drawBack) (b := cX8_drawBack) (n := 3) (r := (some .int)) rfl
set_option maxRecDepth 100000 in
theorem cw_X8_turnOver : Cond.code t_X8_turnOver.1 t_X8_turnOver.2.1 t_X8_turnOver.2.2.1 t_X8_turnOver.2.2.2.1 ∈ lw_good := cw_mem (i := 956) (y := yX8_turnOver) (b := cX8_turnOver) (n := 3) (r := (some .int)) rfl
set_option maxRecDepth 100000 in
theorem cw_X8_undoLatest : Cond.code t_X8_undoLatest.1 t_X8_undoLatest.2.1 t_X8_undoLatest.2.2.1 t_X8_undoLatest.2.2.2.1 ∈ lw_good := cw_mem (i := 1015) (y := yX8_undoLatest) (b := cX8_undoLatest) (n := 5) (r := (some .int)) rfl
set_option maxRecDepth 100000 in
theorem cw_X9_init : Cond.code t_X9_init.1 t_X9_init.2.1 t_X9_init.2.2.1 t_X9_init.2.2.2.1 ∈ lw_good := cw_mem (i := 151) (y := yX9_init) (b := cX9_init) (n := 1) (r := none) rfl
set_option maxRecDepth 100000 in
theorem cw_X9_clear : Cond.code t_X9_clear.1 t_X9_clear.2.1 t_X9_clear.2.2.1 t_X9_clear.2.2.2.1 ∈ lw_good := cw_mem (i := 637) (y := yX9_clear) (b := cX9_clear) (n := 1) (r := none) rfl
set_option maxRecDepth 100000 in
theorem cw_X9_add : Cond.code t_X9_add.1 t_X9_add.2.1 t_X9_add.2.2.1 t_X9_add.2.2.2.1 ∈ lw_good := cw_mem (i := 930) (y := yX9_add) (b := cX9_add) (n := 4) (r := none) rfl
set_option maxRecDepth 100000 in
theorem cw_X9_dropOldest : Cond.code t_X9_dropOldest.1 t_X9_dropOldest.2.1 t_X9_dropOldest.2.2.1 t_X9_dropOldest.2.2.2.1 ∈ lw_good := cw_mem (i := 934) (y := yX9_dropOldest) (b := cX9_dropOldest) (n := 2) (r := none) rfl
set_option maxRecDepth 100000 in
theorem cw_X9_copyFrom : Cond.code t_X9_copyFrom.1 t_X9_copyFrom.2.1 t_X9_copyFrom.2.2.1 t_X9_copyFrom.2.2.2.1 ∈ lw_good := cw_mem (i := 890) (y := yX9_copyFrom) (b := cX9_copyFrom) (n := 2) (r := none) rfl
set_option maxRecDepth 100000 in
theorem cw_X10_init : Cond.code t_X10_init.1 t_X10_init.2.1 t_X10_init.2.2.1 t_X10_init.2.2.2.1 ∈ lw_good := cw_mem (i := 550) (y := yX10_init) (b := cX10_init) (n := 1) (r := none) rfl
set_option maxRecDepth 100000 in
theorem cw_X10_dressed : Cond.code t_X10_dressed.1 t_X10_dressed.2.1 t_X10_dressed.2.2.1 t_X10_dressed.2.2.2.1 ∈ lw_good := cw_mem (i := 1232) (y := yX10_dressed) (b := cX10_dressed) (n := 1) (r := (some .int)) rfl
set_option maxRecDepth 100000 in
theorem cw_X10_dress : Cond.code t_X10_dress.1 t_X10_dress.2.1 t_X10_dress.2.2.1 t_X10_dress.2.2.2.1 ∈ lw_good := cw_mem (i := 1209) (y := yX10_dress) (b := cX10_dress) (n := 5) (r := none) rfl
set_option maxRecDepth 100000 in
theorem cw_X10_hang : Cond.code t_X10_hang.1 t_X10_hang.2.1 t_X10_hang.2.2.1 t_X10_hang.2.2.2.1 ∈ lw_good := cw_mem (i := 1213) (y := yX10_hang) (b := cX10_hang) (n := 6) (r := none) rfl
set_option maxRecDepth 100000 in
theorem cw_X10_suits : Cond.code t_X10_suits.1 t_X10_suits.2.1 t_X10_suits.2.2.1 t_X10_suits.2.2.2.1 ∈ lw_good := cw_mem (i := 1223) (y := yX10_suits) (b := cX10_suits) (n := 4) (r := (some .boolean)) rfl
set_option maxRecDepth 100000 in
theorem cw_X10_mostFrom : Cond.code t_X10_mostFrom.1 t_X10_mostFrom.2.1 t_X10_mostFrom.2.2.1 t_X10_mostFrom.2.2.2.1 ∈ lw_good := cw_mem (i := 1219) (y := yX10_mostFrom) (b := cX10_mostFrom) (n := 6) (r := (some .int)) rfl
set_option maxRecDepth 100000 in
theorem cw_X10_firstFor : Cond.code t_X10_firstFor.1 t_X10_firstFor.2.1 t_X10_firstFor.2.2.1 t_X10_firstFor.2.2.2.1 ∈ lw_good := cw_mem (i := 1228) (y := yX10_firstFor) (b := cX10_firstFor) (n := 5) (r := (some .int)) rfl
set_option maxRecDepth 100000 in
theorem cw_X11_init : Cond.code t_X11_init.1 t_X11_init.2.1 t_X11_init.2.2.1 t_X11_init.2.2.2.1 ∈ lw_good := cw_mem (i := 133) (y := yX11_init) (b := cX11_init) (n := 1) (r := none) rfl
set_option maxRecDepth 100000 in
theorem cw_X11_knot : Cond.code t_X11_knot.1 t_X11_knot.2.1 t_X11_knot.2.2.1 t_X11_knot.2.2.2.1 ∈ lw_good := cw_mem (i := 618) (y := yX11_knot) (b := cX11_knot) (n := 4) (r := (some .int)) rfl
set_option maxRecDepth 100000 in
theorem cw_X11_of : Cond.code t_X11_of.1 t_X11_of.2.1 t_X11_of.2.2.1 t_X11_of.2.2.2.1 ∈ lw_good := cw_mem (i := 645) (y := yX11_of) (b := cX11_of) (n := 4) (r := (some .int)) rfl
set_option maxRecDepth 100000 in
theorem cw_X11_terms : Cond.code t_X11_terms.1 t_X11_terms.2.1 t_X11_terms.2.2.1 t_X11_terms.2.2.2.1 ∈ lw_good := cw_mem (i := 702) (y := yX11_terms) (b := cX11_terms) (n := 6) (r := (some .int)) rfl
set_option maxRecDepth 100000 in
theorem cw_X11_feed : Cond.code t_X11_feed.1 t_X11_feed.2.1 t_X11_feed.2.2.1 t_X11_feed.2.2.2.1 ∈ lw_good := cw_mem (i := 706) (y := yX11_feed) (b := cX11_feed) (n := 6) (r := (some .int)) rfl
set_option maxRecDepth 100000 in
theorem cw_X11_end : Cond.code t_X11_end.1 t_X11_end.2.1 t_X11_end.2.2.1 t_X11_end.2.2.2.1 ∈ lw_good := cw_mem (i := 714) (y := yX11_end) (b := cX11_end) (n := 2) (r := (some .int)) rfl
set_option maxRecDepth 100000 in
theorem cw_X11_row : Cond.code t_X11_row.1 t_X11_row.2.1 t_X11_row.2.2.1 t_X11_row.2.2.2.1 ∈ lw_good := cw_mem (i := 718) (y := yX11_row) (b := cX11_row) (n := 4) (r := (some .int)) rfl
set_option maxRecDepth 100000 in
theorem cw_X11_lint : Cond.code t_X11_lint.1 t_X11_lint.2.1 t_X11_lint.2.2.1 t_X11_lint.2.2.2.1 ∈ lw_good := cw_mem (i := 726) (y := yX11_lint) (b := cX11_lint) (n := 1) (r := (some .int)) rfl
set_option maxRecDepth 100000 in
theorem cw_X11_law : Cond.code t_X11_law.1 t_X11_law.2.1 t_X11_law.2.2.1 t_X11_law.2.2.2.1 ∈ lw_good := cw_mem (i := 730) (y := yX11_law) (b := cX11_law) (n := 2) (r := (some .int)) rfl
set_option maxRecDepth 100000 in
theorem cw_X11_orders : Cond.code t_X11_orders.1 t_X11_orders.2.1 t_X11_orders.2.2.1 t_X11_orders.2.2.2.1 ∈ lw_good := cw_mem (i := 868) (y := yX11_orders) (b := cX11_orders) (n := 1) (r := (some .int)) rfl
set_option maxRecDepth 100000 in
theorem cw_X11_fault : Cond.code t_X11_fault.1 t_X11_fault.2.1 t_X11_fault.2.2.1 t_X11_fault.2.2.2.1 ∈ lw_good := cw_mem (i := 973) (y := yX11_fault) (b := cX11_fault) (n := 1) (r := (some .int)) rfl
set_option maxRecDepth 100000 in
theorem cw_X11_stopped : Cond.code t_X11_stopped.1 t_X11_stopped.2.1 t_X11_stopped.2.2.1 t_X11_stopped.2.2.2.1 ∈ lw_good := cw_mem (i := 977) (y := yX11_stopped) (b := cX11_stopped) (n := 1) (r := (some .int)) rfl
set_option maxRecDepth 100000 in
theorem cw_X11_force : Cond.code t_X11_force.1 t_X11_force.2.1 t_X11_force.2.2.1 t_X11_force.2.2.2.1 ∈ lw_good := cw_mem (i := 981) (y := yX11_force) (b := cX11_force) (n := 3) (r := (some .int)) rfl
set_option maxRecDepth 100000 in
theorem cw_X11_asks : Cond.code t_X11_asks.1 t_X11_asks.2.1 t_X11_asks.2.2.1 t_X11_asks.2.2.2.1 ∈ lw_good := cw_mem (i := 985) (y := yX11_asks) (b := cX11_asks) (n := 5) (r := (some .int)) rfl
set_option maxRecDepth 100000 in
theorem cw_X11_lay : Cond.code t_X11_lay.1 t_X11_lay.2.1 t_X11_lay.2.2.1 t_X11_lay.2.2.2.1 ∈ lw_good := cw_mem (i := 991) (y := yX11_lay) (b := cX11_lay) (n := 3) (r := (some .int)) rfl
set_option maxRecDepth 100000 in
theorem cw_X11_through : Cond.code t_X11_through.1 t_X11_through.2.1 t_X11_through.2.2.1 t_X11_through.2.2.2.1 ∈ lw_good := cw_mem (i := 996) (y := yX11_through) (b := cX11_through) (n := 2) (r := (some .int)) rfl
set_option maxRecDepth 100000 in
theorem cw_X11_draw : Cond.code t_X11_draw.1 t_X11_draw.2.1 t_X11_draw.2.2.1 t_X11_draw.2.2.2.1 ∈ lw_good := cw_mem (i := 1001) (y := yX11_draw) (b := cX11_draw) (n := 2) (r := (some .int)) rfl
set_option maxRecDepth 100000 in
theorem cw_X11_mirror : Cond.code t_X11_mirror.1 t_X11_mirror.2.1 t_X11_mirror.2.2.1 t_X11_mirror.2.2.2.1 ∈ lw_good := cw_mem (i := 1006) (y := yX11_mirror) (b := cX11_mirror) (n := 2) (r := (some .int)) rfl
set_option maxRecDepth 100000 in
theorem cw_X11_undo : Cond.code t_X11_undo.1 t_X11_undo.2.1 t_X11_undo.2.2.1 t_X11_undo.2.2.2.1 ∈ lw_good := cw_mem (i := 1011) (y := yX11_undo) (b := cX11_undo) (n := 1) (r := (some .int)) rfl
set_option maxRecDepth 100000 in
theorem cw_X11_front : Cond.code t_X11_front.1 t_X11_front.2.1 t_X11_front.2.2.1 t_X11_front.2.2.2.1 ∈ lw_good := cw_mem (i := 1019) (y := yX11_front) (b := cX11_front) (n := 4) (r := (some .int)) rfl
set_option maxRecDepth 100000 in
theorem cw_X11_ways : Cond.code t_X11_ways.1 t_X11_ways.2.1 t_X11_ways.2.2.1 t_X11_ways.2.2.2.1 ∈ lw_good := cw_mem (i := 1029) (y := yX11_ways) (b := cX11_ways) (n := 3) (r := (some .int)) rfl
set_option maxRecDepth 100000 in
theorem cw_X11_word : Cond.code t_X11_word.1 t_X11_word.2.1 t_X11_word.2.2.1 t_X11_word.2.2.2.1 ∈ lw_good := cw_mem (i := 1086) (y := yX11_word) (b := cX11_word) (n := 4) (r := (some .int)) rfl
set_option maxRecDepth 100000 in
theorem cw_X11_rank : Cond.code t_X11_rank.1 t_X11_rank.2.1 t_X11_rank.2.2.1 t_X11_rank.2.2.2.1 ∈ lw_good := cw_mem (i := 1094) (y := yX11_rank) (b := cX11_rank) (n := 3) (r := (some .int)) rfl
set_option maxRecDepth 100000 in
theorem cw_X11_best : Cond.code t_X11_best.1 t_X11_best.2.1 t_X11_best.2.2.1 t_X11_best.2.2.2.1 ∈ lw_good := cw_mem (i := 1102) (y := yX11_best) (b := cX11_best) (n := 5) (r := (some .int)) rfl
set_option maxRecDepth 100000 in
theorem cw_X11_change : Cond.code t_X11_change.1 t_X11_change.2.1 t_X11_change.2.2.1 t_X11_change.2.2.2.1 ∈ lw_good := cw_mem (i := 1133) (y := yX11_change) (b := cX11_change) (n := 5) (r := (some .int)) rfl
set_option maxRecDepth 100000 in
theorem cw_X11_alike : Cond.code t_X11_alike.1 t_X11_alike.2.1 t_X11_alike.2.2.1 t_X11_alike.2.2.2.1 ∈ lw_good := cw_mem (i := 1142) (y := yX11_alike) (b := cX11_alike) (n := 3) (r := (some .int)) rfl
set_option maxRecDepth 100000 in
theorem cw_X11_sight : Cond.code t_X11_sight.1 t_X11_sight.2.1 t_X11_sight.2.2.1 t_X11_sight.2.2.2.1 ∈ lw_good := cw_mem (i := 1156) (y := yX11_sight) (b := cX11_sight) (n := 3) (r := (some .int)) rfl
set_option maxRecDepth 100000 in
theorem cw_X11_forget : Cond.code t_X11_forget.1 t_X11_forget.2.1 t_X11_forget.2.2.1 t_X11_forget.2.2.2.1 ∈ lw_good := cw_mem (i := 1164) (y := yX11_forget) (b := cX11_forget) (n := 2) (r := (some .int)) rfl
set_option maxRecDepth 100000 in
theorem cw_X11_fits : Cond.code t_X11_fits.1 t_X11_fits.2.1 t_X11_fits.2.2.1 t_X11_fits.2.2.2.1 ∈ lw_good := cw_mem (i := 1168) (y := yX11_fits) (b := cX11_fits) (n := 6) (r := (some .int)) rfl
set_option maxRecDepth 100000 in
theorem cw_X11_look : Cond.code t_X11_look.1 t_X11_look.2.1 t_X11_look.2.2.1 t_X11_look.2.2.2.1 ∈ lw_good := cw_mem (i := 1185) (y := yX11_look) (b := cX11_look) (n := 3) (r := (some .int)) rfl
set_option maxRecDepth 100000 in
theorem cw_X11_boy : Cond.code t_X11_boy.1 t_X11_boy.2.1 t_X11_boy.2.2.1 t_X11_boy.2.2.2.1 ∈ lw_good := cw_mem (i := 1193) (y := yX11_boy) (b := cX11_boy) (n := 2) (r := (some .int)) rfl
set_option maxRecDepth 100000 in
theorem cw_X11_home : Cond.code t_X11_home.1 t_X11_home.2.1 t_X11_home.2.2.1 t_X11_home.2.2.2.1 ∈ lw_good := cw_mem (i := 1201) (y := yX11_home) (b := cX11_home) (n := 2) (r := (some .int)) rfl
set_option maxRecDepth 100000 in
theorem cw_X11_wear : Cond.code t_X11_wear.1 t_X11_wear.2.1 t_X11_wear.2.2.1 t_X11_wear.2.2.2.1 ∈ lw_good := cw_mem (i := 1205) (y := yX11_wear) (b := cX11_wear) (n := 2) (r := (some .int)) rfl
set_option maxRecDepth 100000 in
theorem cw_X11_hands : Cond.code t_X11_hands.1 t_X11_hands.2.1 t_X11_hands.2.2.1 t_X11_hands.2.2.2.1 ∈ lw_good := cw_mem (i := 1236) (y := yX11_hands) (b := cX11_hands) (n := 4) (r := (some .int)) rfl
set_option maxRecDepth 100000 in
theorem cw_X11_drawn : Cond.code t_X11_drawn.1 t_X11_drawn.2.1 t_X11_drawn.2.2.1 t_X11_drawn.2.2.2.1 ∈ lw_good := cw_mem (i := 1258) (y := yX11_drawn) (b := cX11_drawn) (n := 2) (r := (some .int)) rfl
set_option maxRecDepth 100000 in
theorem cw_X11_image : Cond.code t_X11_image.1 t_X11_image.2.1 t_X11_image.2.2.1 t_X11_image.2.2.2.1 ∈ lw_good := cw_mem (i := 1262) (y := yX11_image) (b := cX11_image) (n := 2) (r := (some .int)) rfl
set_option maxRecDepth 100000 in
theorem cw_X11_back : Cond.code t_X11_back.1 t_X11_back.2.1 t_X11_back.2.2.1 t_X11_back.2.2.2.1 ∈ lw_good := cw_mem (i := 1267) (y := yX11_back) (b := cX11_back) (n := 2) (r := (some .int)) rfl
set_option maxRecDepth 100000 in
theorem cw_X11_count : Cond.code t_X11_count.1 t_X11_count.2.1 t_X11_count.2.2.1 t_X11_count.2.2.2.1 ∈ lw_good := cw_mem (i := 1271) (y := yX11_count) (b := cX11_count) (n := 2) (r := (some .int)) rfl
set_option maxRecDepth 100000 in
theorem cw_X11_status : Cond.code t_X11_status.1 t_X11_status.2.1 t_X11_status.2.2.1 t_X11_status.2.2.2.1 ∈ lw_good := cw_mem (i := 1275) (y := yX11_status) (b := cX11_status) (n := 1) (r := (some .int)) rfl
set_option maxRecDepth 100000 in
theorem cw_X11_granted : Cond.code t_X11_granted.1 t_X11_granted.2.1 t_X11_granted.2.2.1 t_X11_granted.2.2.2.1 ∈ lw_good := cw_mem (i := 641) (y := yX11_granted) (b := cX11_granted) (n := 2) (r := (some .int)) rfl
set_option maxRecDepth 100000 in
theorem cw_X11_refused : Cond.code t_X11_refused.1 t_X11_refused.2.1 t_X11_refused.2.2.1 t_X11_refused.2.2.2.1 ∈ lw_good := cw_mem (i := 625) (y := yX11_refused) (b := cX11_refused) (n := 2) (r := (some .int)) rfl
set_option maxRecDepth 100000 in
theorem cw_X11_outcome : Cond.code t_X11_outcome.1 t_X11_outcome.2.1 t_X11_outcome.2.2.1 t_X11_outcome.2.2.2.1 ∈ lw_good := cw_mem (i := 969) (y := yX11_outcome) (b := cX11_outcome) (n := 2) (r := (some .int)) rfl
set_option maxRecDepth 100000 in
theorem cw_X11_putBytes : Cond.code t_X11_putBytes.1 t_X11_putBytes.2.1 t_X11_putBytes.2.2.1 t_X11_putBytes.2.2.2.1 ∈ lw_good := cw_mem (i := 710) (y := yX11_putBytes) (b := cX11_putBytes) (n := 3) (r := none) rfl
set_option maxRecDepth 100000 in
theorem cw_X11_emptiedTape : Cond.code t_X11_emptiedTape.1 t_X11_emptiedTape.2.1 t_X11_emptiedTape.2.2.1 t_X11_emptiedTape.2.2.2.1 ∈ lw_good := cw_mem (i := 722) (y := yX11_emptiedTape) (b := cX11_emptiedTape) (n := 2) (r := (some .int)) rfl
set_option maxRecDepth 100000 in
theorem cw_X11_knotCanBe : Cond.code t_X11_knotCanBe.1 t_X11_knotCanBe.2.1 t_X11_knotCanBe.2.2.1 t_X11_knotCanBe.2.2.2.1 ∈ lw_good := cw_mem (i := 621) (y := yX11_knotCanBe) (b := cX11_knotCanBe) (n := 3) (r := (some .boolean)) rfl
set_option maxRecDepth 100000 in
theorem cw_X11_isPlace : Cond.code t_X11_isPlace.1 t_X11_isPlace.2.1 t_X11_isPlace.2.2.1 t_X11_isPlace.2.2.2.1 ∈ lw_good := cw_mem (i := 914) (y := yX11_isPlace) (b := cX11_isPlace) (n := 1) (r := (some .boolean)) rfl
set_option maxRecDepth 100000 in
theorem cw_X11_isWordLength : Cond.code t_X11_isWordLength.1 t_X11_isWordLength.2.1 t_X11_isWordLength.2.2.1 t_X11_isWordLength.2.2.2.1 ∈ lw_good := cw_mem (i := 1032) (y := yX11_isWordLength) (b := cX11_isWordLength) (n := 1) (r := (some .boolean)) rfl
set_option maxRecDepth 100000 in
theorem cw_X11_mirrored : Cond.code t_X11_mirrored.1 t_X11_mirrored.2.1 t_X11_mirrored.2.2.1 t_X11_mirrored.2.2.2.1 ∈ lw_good := cw_mem (i := 944) (y := yX11_mirrored) (b := cX11_mirrored) (n := 1) (r := (some .int)) rfl
set_option maxRecDepth 100000 in
theorem cw_X11_startOfWord : Cond.code t_X11_startOfWord.1 t_X11_startOfWord.2.1 t_X11_startOfWord.2.2.1 t_X11_startOfWord.2.2.2.1 ∈ lw_good := cw_mem (i := 1040) (y := yX11_startOfWord) (b := cX11_startOfWord) (n := 1) (r := (some .int)) rfl
set_option maxRecDepth 100000 in
theorem cw_X11_canGoThrough : Cond.code t_X11_canGoThrough.1 t_X11_canGoThrough.2.1 t_X11_canGoThrough.2.2.1 t_X11_canGoThrough.2.2.2.1 ∈ lw_good := cw_mem (i := 941) (y := yX11_canGoThrough) (b := cX11_canGoThrough) (n := 6) (r := (some .boolean)) rfl
set_option maxRecDepth 100000 in
theorem cw_X11_centresOf : Cond.code t_X11_centresOf.1 t_X11_centresOf.2.1 t_X11_centresOf.2.2.1 t_X11_centresOf.2.2.2.1 ∈ lw_good := cw_mem (i := 686) (y := yX11_centresOf) (b := cX11_centresOf) (n := 4) (r := (some .int)) rfl
set_option maxRecDepth 100000 in
theorem cw_X11_leanOf : Cond.code t_X11_leanOf.1 t_X11_leanOf.2.1 t_X11_leanOf.2.2.1 t_X11_leanOf.2.2.2.1 ∈ lw_good := cw_mem (i := 689) (y := yX11_leanOf) (b := cX11_leanOf) (n := 4) (r := (some .int)) rfl
set_option maxRecDepth 100000 in
theorem cw_X11_wound : Cond.code t_X11_wound.1 t_X11_wound.2.1 t_X11_wound.2.2.1 t_X11_wound.2.2.2.1 ∈ lw_good := cw_mem (i := 695) (y := yX11_wound) (b := cX11_wound) (n := 3) (r := (some .int)) rfl
set_option maxRecDepth 100000 in
theorem cw_X11_twistsOf : Cond.code t_X11_twistsOf.1 t_X11_twistsOf.2.1 t_X11_twistsOf.2.2.1 t_X11_twistsOf.2.2.2.1 ∈ lw_good := cw_mem (i := 692) (y := yX11_twistsOf) (b := cX11_twistsOf) (n := 4) (r := (some .int)) rfl
set_option maxRecDepth 100000 in
theorem cw_X11_leftOf : Cond.code t_X11_leftOf.1 t_X11_leftOf.2.1 t_X11_leftOf.2.2.1 t_X11_leftOf.2.2.2.1 ∈ lw_good := cw_mem (i := 698) (y := yX11_leftOf) (b := cX11_leftOf) (n := 4) (r := (some .int)) rfl
set_option maxRecDepth 100000 in
theorem cw_X11_frontOf : Cond.code t_X11_frontOf.1 t_X11_frontOf.2.1 t_X11_frontOf.2.2.1 t_X11_frontOf.2.2.2.1 ∈ lw_good := cw_mem (i := 1022) (y := yX11_frontOf) (b := cX11_frontOf) (n := 8) (r := (some .int)) rfl
set_option maxRecDepth 100000 in
theorem cw_X11_frontPlace : Cond.code t_X11_frontPlace.1 t_X11_frontPlace.2.1 t_X11_frontPlace.2.2.1 t_X11_frontPlace.2.2.2.1 ∈ lw_good := cw_mem (i := 1025) (y := yX11_frontPlace) (b := cX11_frontPlace) (n := 2) (r := (some .int)) rfl
set_option maxRecDepth 100000 in
theorem cw_X12_lies : Cond.code t_X12_lies.1 t_X12_lies.2.1 t_X12_lies.2.2.1 t_X12_lies.2.2.2.1 ∈ lw_good := cw_mem (i := 1479) (y := yX12_lies) (b := cX12_lies) (n := 3) (r := (some .boolean)) rfl
set_option maxRecDepth 100000 in
theorem cw_X12_size0 : Cond.code t_X12_size0.1 t_X12_size0.2.1 t_X12_size0.2.2.1 t_X12_size0.2.2.2.1 ∈ lw_good := cw_mem (i := 1626) (y := yX12_size0) (b := cX12_size0) (n := 1) (r := (some .int)) rfl
set_option maxRecDepth 100000 in
theorem cw_X12_greater : Cond.code t_X12_greater.1 t_X12_greater.2.1 t_X12_greater.2.2.1 t_X12_greater.2.2.2.1 ∈ lw_good := cw_mem (i := 1890) (y := yX12_greater) (b := cX12_greater) (n := 2) (r := (some .int)) rfl
set_option maxRecDepth 100000 in
theorem cw_X12_refuses : Cond.code t_X12_refuses.1 t_X12_refuses.2.1 t_X12_refuses.2.2.1 t_X12_refuses.2.2.2.1 ∈ lw_good := cw_mem (i := 1483) (y := yX12_refuses) (b := cX12_refuses) (n := 2) (r := (some .int)) rfl
set_option maxRecDepth 100000 in
theorem cw_X12_good : Cond.code t_X12_good.1 t_X12_good.2.1 t_X12_good.2.2.1 t_X12_good.2.2.2.1 ∈ lw_good := cw_mem (i := 1487) (y := yX12_good) (b := cX12_good) (n := 2) (r := (some .int)) rfl
set_option maxRecDepth 100000 in
theorem cw_X12_settled : Cond.code t_X12_settled.1 t_X12_settled.2.1 t_X12_settled.2.2.1 t_X12_settled.2.2.2.1 ∈ lw_good := cw_mem (i := 1495) (y := yX12_settled) (b := cX12_settled) (n := 2) (r := (some .int)) rfl
set_option maxRecDepth 100000 in
theorem cw_X12_init : Cond.code t_X12_init.1 t_X12_init.2.1 t_X12_init.2.2.1 t_X12_init.2.2.2.1 ∈ lw_good := cw_mem (i := 1280) (y := yX12_init) (b := cX12_init) (n := 1) (r := none) rfl
set_option maxRecDepth 100000 in
theorem cw_X12_image : Cond.code t_X12_image.1 t_X12_image.2.1 t_X12_image.2.2.1 t_X12_image.2.2.2.1 ∈ lw_good := cw_mem (i := 1476) (y := yX12_image) (b := cX12_image) (n := 3) (r := (some .int)) rfl
set_option maxRecDepth 100000 in
theorem cw_X12_back : Cond.code t_X12_back.1 t_X12_back.2.1 t_X12_back.2.2.1 t_X12_back.2.2.2.1 ∈ lw_good := cw_mem (i := 1491) (y := yX12_back) (b := cX12_back) (n := 3) (r := (some .int)) rfl
set_option maxRecDepth 100000 in
theorem cw_X12_isKnot : Cond.code t_X12_isKnot.1 t_X12_isKnot.2.1 t_X12_isKnot.2.2.1 t_X12_isKnot.2.2.2.1 ∈ lw_good := cw_mem (i := 1518) (y := yX12_isKnot) (b := cX12_isKnot) (n := 2) (r := (some .boolean)) rfl
set_option maxRecDepth 100000 in
theorem cw_X12_fact : Cond.code t_X12_fact.1 t_X12_fact.2.1 t_X12_fact.2.2.1 t_X12_fact.2.2.2.1 ∈ lw_good := cw_mem (i := 1526) (y := yX12_fact) (b := cX12_fact) (n := 3) (r := (some .int)) rfl
set_option maxRecDepth 100000 in
theorem cw_X12_puts : Cond.code t_X12_puts.1 t_X12_puts.2.1 t_X12_puts.2.2.1 t_X12_puts.2.2.2.1 ∈ lw_good := cw_mem (i := 1510) (y := yX12_puts) (b := cX12_puts) (n := 4) (r := none) rfl
set_option maxRecDepth 100000 in
theorem cw_X12_canBe : Cond.code t_X12_canBe.1 t_X12_canBe.2.1 t_X12_canBe.2.2.1 t_X12_canBe.2.2.2.1 ∈ lw_good := cw_mem (i := 1502) (y := yX12_canBe) (b := cX12_canBe) (n := 3) (r := (some .boolean)) rfl
set_option maxRecDepth 100000 in
theorem cw_X12_adds : Cond.code t_X12_adds.1 t_X12_adds.2.1 t_X12_adds.2.2.1 t_X12_adds.2.2.2.1 ∈ lw_good := cw_mem (i := 1506) (y := yX12_adds) (b := cX12_adds) (n := 6) (r := none) rfl
set_option maxRecDepth 100000 in
theorem cw_X12_knot : Cond.code t_X12_knot.1 t_X12_knot.2.1 t_X12_knot.2.2.1 t_X12_knot.2.2.2.1 ∈ lw_good := cw_mem (i := 1499) (y := yX12_knot) (b := cX12_knot) (n := 4) (r := (some .int)) rfl
set_option maxRecDepth 100000 in
theorem cw_X12_of : Cond.code t_X12_of.1 t_X12_of.2.1 t_X12_of.2.2.1 t_X12_of.2.2.2.1 ∈ lw_good := cw_mem (i := 1514) (y := yX12_of) (b := cX12_of) (n := 3) (r := (some .int)) rfl
set_option maxRecDepth 100000 in
theorem cw_X12_isTerm : Cond.code t_X12_isTerm.1 t_X12_isTerm.2.1 t_X12_isTerm.2.2.1 t_X12_isTerm.2.2.2.1 ∈ lw_good := cw_mem (i := 1633) (y := yX12_isTerm) (b := cX12_isTerm) (n := 2) (r := (some .boolean)) rfl
set_option maxRecDepth 100000 in
theorem cw_X12_terms : Cond.code t_X12_terms.1 t_X12_terms.2.1 t_X12_terms.2.2.1 t_X12_terms.2.2.2.1 ∈ lw_good := cw_mem (i := 1630) (y := yX12_terms) (b := cX12_terms) (n := 4) (r := (some .int)) rfl
set_option maxRecDepth 100000 in
theorem cw_X12_row : Cond.code t_X12_row.1 t_X12_row.2.1 t_X12_row.2.2.1 t_X12_row.2.2.2.1 ∈ lw_good := cw_mem (i := 1637) (y := yX12_row) (b := cX12_row) (n := 6) (r := (some .int)) rfl
set_option maxRecDepth 100000 in
theorem cw_X12_lint : Cond.code t_X12_lint.1 t_X12_lint.2.1 t_X12_lint.2.2.1 t_X12_lint.2.2.2.1 ∈ lw_good := cw_mem (i := 1641) (y := yX12_lint) (b := cX12_lint) (n := 1) (r := (some .int)) rfl
set_option maxRecDepth 100000 in
theorem cw_X12_feed : Cond.code t_X12_feed.1 t_X12_feed.2.1 t_X12_feed.2.2.1 t_X12_feed.2.2.2.1 ∈ lw_good := cw_mem (i := 1645) (y := yX12_feed) (b := cX12_feed) (n := 7) (r := (some .int)) rfl
set_option maxRecDepth 100000 in
theorem cw_X12_end : Cond.code t_X12_end.1 t_X12_end.2.1 t_X12_end.2.2.1 t_X12_end.2.2.2.1 ∈ lw_good := cw_mem (i := 1649) (y := yX12_end) (b := cX12_end) (n := 2) (r := (some .int)) rfl
set_option maxRecDepth 100000 in
theorem cw_X12_isSmall : Cond.code t_X12_isSmall.1 t_X12_isSmall.2.1 t_X12_isSmall.2.2.1 t_X12_isSmall.2.2.2.1 ∈ lw_good := cw_mem (i := 1668) (y := yX12_isSmall) (b := cX12_isSmall) (n := 1) (r := (some .boolean)) rfl
set_option maxRecDepth 100000 in
theorem cw_X12_isDigit : Cond.code t_X12_isDigit.1 t_X12_isDigit.2.1 t_X12_isDigit.2.2.1 t_X12_isDigit.2.2.2.1 ∈ lw_good := cw_mem (i := 1671) (y := yX12_isDigit) (b := cX12_isDigit) (n := 1) (r := (some .boolean)) rfl
set_option maxRecDepth 100000 in
theorem cw_X12_wordOf : Cond.code t_X12_wordOf.1 t_X12_wordOf.2.1 t_X12_wordOf.2.2.1 t_X12_wordOf.2.2.2.1 ∈ lw_good := cw_mem (i := 1675) (y := yX12_wordOf) (b := cX12_wordOf) (n := 8) (r := (some .int)) rfl
set_option maxRecDepth 100000 in
theorem cw_X12_splits : Cond.code t_X12_splits.1 t_X12_splits.2.1 t_X12_splits.2.2.1 t_X12_splits.2.2.2.1 ∈ lw_good := cw_mem (i := 1665) (y := yX12_splits) (b := cX12_splits) (n := 6) (r := none) rfl
set_option maxRecDepth 100000 in
theorem cw_X12_fine : Cond.code t_X12_fine.1 t_X12_fine.2.1 t_X12_fine.2.2.1 t_X12_fine.2.2.2.1 ∈ lw_good := cw_mem (i := 1692) (y := yX12_fine) (b := cX12_fine) (n := 1) (r := (some .boolean)) rfl
set_option maxRecDepth 100000 in
theorem cw_X12_faults : Cond.code t_X12_faults.1 t_X12_faults.2.1 t_X12_faults.2.2.1 t_X12_faults.2.2.2.1 ∈ lw_good := cw_mem (i := 1708) (y := yX12_faults) (b := cX12_faults) (n := 1) (r := none) rfl
set_option maxRecDepth 100000 in
theorem cw_X12_takes0 : Cond.code t_X12_takes0.1 t_X12_takes0.2.1 t_X12_takes0.2.2.1 t_X12_takes0.2.2.2.1 ∈ lw_good := cw_mem (i := 1688) (y := yX12_takes0) (b := cX12_takes0) (n := 3) (r := (some .boolean)) rfl
set_option maxRecDepth 100000 in
theorem cw_X12_must : Cond.code t_X12_must.1 t_X12_must.2.1 t_X12_must.2.2.1 t_X12_must.2.2.2.1 ∈ lw_good := cw_mem (i := 1712) (y := yX12_must) (b := cX12_must) (n := 2) (r := none) rfl
set_option maxRecDepth 100000 in
theorem cw_X12_leaf : Cond.code t_X12_leaf.1 t_X12_leaf.2.1 t_X12_leaf.2.2.1 t_X12_leaf.2.2.2.1 ∈ lw_good := cw_mem (i := 1716) (y := yX12_leaf) (b := cX12_leaf) (n := 1) (r := none) rfl
set_option maxRecDepth 100000 in
theorem cw_X12_sign : Cond.code t_X12_sign.1 t_X12_sign.2.1 t_X12_sign.2.2.1 t_X12_sign.2.2.2.1 ∈ lw_good := cw_mem (i := 1565) (y := yX12_sign) (b := cX12_sign) (n := 1) (r := (some .int)) rfl
set_option maxRecDepth 100000 in
theorem cw_X12_mustNumber : Cond.code t_X12_mustNumber.1 t_X12_mustNumber.2.1 t_X12_mustNumber.2.2.1 t_X12_mustNumber.2.2.2.1 ∈ lw_good := cw_mem (i := 1720) (y := yX12_mustNumber) (b := cX12_mustNumber) (n := 3) (r := none) rfl
set_option maxRecDepth 100000 in
theorem cw_X12_readClause : Cond.code t_X12_readClause.1 t_X12_readClause.2.1 t_X12_readClause.2.2.1 t_X12_readClause.2.2.2.1 ∈ lw_good := cw_mem (i := 1736) (y := yX12_readClause) (b := cX12_readClause) (n := 1) (r := none) rfl
set_option maxRecDepth 100000 in
theorem cw_X12_readOrder : Cond.code t_X12_readOrder.1 t_X12_readOrder.2.1 t_X12_readOrder.2.2.1 t_X12_readOrder.2.2.2.1 ∈ lw_good := cw_mem (i := 1684) (y := yX12_readOrder) (b := cX12_readOrder) (n := 1) (r := none) rfl
set_option maxRecDepth 100000 in
theorem cw_X12_readOne : Cond.code t_X12_readOne.1 t_X12_readOne.2.1 t_X12_readOne.2.2.1 t_X12_readOne.2.2.2.1 ∈ lw_good := cw_mem (i := 1680) (y := yX12_readOne) (b := cX12_readOne) (n := 1) (r := none) rfl
set_option maxRecDepth 100000 in
theorem cw_X12_readTest : Cond.code t_X12_readTest.1 t_X12_readTest.2.1 t_X12_readTest.2.2.1 t_X12_readTest.2.2.2.1 ∈ lw_good := cw_mem (i := 1724) (y := yX12_readTest) (b := cX12_readTest) (n := 2) (r := none) rfl
set_option maxRecDepth 100000 in
theorem cw_X12_readBoth : Cond.code t_X12_readBoth.1 t_X12_readBoth.2.1 t_X12_readBoth.2.2.1 t_X12_readBoth.2.2.2.1 ∈ lw_good := cw_mem (i := 1728) (y := yX12_readBoth) (b := cX12_readBoth) (n := 2) (r := none) rfl
set_option maxRecDepth 100000 in
theorem cw_X12_readPlain : Cond.code t_X12_readPlain.1 t_X12_readPlain.2.1 t_X12_readPlain.2.2.1 t_X12_readPlain.2.2.2.1 ∈ lw_good := cw_mem (i := 1732) (y := yX12_readPlain) (b := cX12_readPlain) (n := 4) (r := none) rfl
set_option maxRecDepth 100000 in
theorem cw_X12_readSum : Cond.code t_X12_readSum.1 t_X12_readSum.2.1 t_X12_readSum.2.2.1 t_X12_readSum.2.2.2.1 ∈ lw_good := cw_mem (i := 1696) (y := yX12_readSum) (b := cX12_readSum) (n := 2) (r := none) rfl
set_option maxRecDepth 100000 in
theorem cw_X12_readTerm : Cond.code t_X12_readTerm.1 t_X12_readTerm.2.1 t_X12_readTerm.2.2.1 t_X12_readTerm.2.2.2.1 ∈ lw_good := cw_mem (i := 1700) (y := yX12_readTerm) (b := cX12_readTerm) (n := 2) (r := none) rfl
set_option maxRecDepth 100000 in
theorem cw_X12_readPart : Cond.code t_X12_readPart.1 t_X12_readPart.2.1 t_X12_readPart.2.2.1 t_X12_readPart.2.2.2.1 ∈ lw_good := cw_mem (i := 1704) (y := yX12_readPart) (b := cX12_readPart) (n := 3) (r := none) rfl
set_option maxRecDepth 100000 in
theorem cw_X12_reads : Cond.code t_X12_reads.1 t_X12_reads.2.1 t_X12_reads.2.2.1 t_X12_reads.2.2.2.1 ∈ lw_good := cw_mem (i := 1661) (y := yX12_reads) (b := cX12_reads) (n := 2) (r := (some .boolean)) rfl
set_option maxRecDepth 100000 in
theorem cw_X12_readsAs : Cond.code t_X12_readsAs.1 t_X12_readsAs.2.1 t_X12_readsAs.2.2.1 t_X12_readsAs.2.2.2.1 ∈ lw_good := cw_mem (i := 1657) (y := yX12_readsAs) (b := cX12_readsAs) (n := 2) (r := (some .boolean)) rfl
set_option maxRecDepth 100000 in
theorem cw_X12_lays : Cond.code t_X12_lays.1 t_X12_lays.2.1 t_X12_lays.2.2.1 t_X12_lays.2.2.2.1 ∈ lw_good := cw_mem (i := 1740) (y := yX12_lays) (b := cX12_lays) (n := 3) (r := none) rfl
set_option maxRecDepth 100000 in
theorem cw_X12_law : Cond.code t_X12_law.1 t_X12_law.2.1 t_X12_law.2.2.1 t_X12_law.2.2.2.1 ∈ lw_good := cw_mem (i := 1653) (y := yX12_law) (b := cX12_law) (n := 1) (r := (some .int)) rfl
set_option maxRecDepth 100000 in
theorem cw_X12_fault : Cond.code t_X12_fault.1 t_X12_fault.2.1 t_X12_fault.2.2.1 t_X12_fault.2.2.2.1 ∈ lw_good := cw_mem (i := 1744) (y := yX12_fault) (b := cX12_fault) (n := 1) (r := (some .int)) rfl
set_option maxRecDepth 100000 in
theorem cw_X12_force : Cond.code t_X12_force.1 t_X12_force.2.1 t_X12_force.2.2.1 t_X12_force.2.2.2.1 ∈ lw_good := cw_mem (i := 1748) (y := yX12_force) (b := cX12_force) (n := 3) (r := (some .int)) rfl
set_option maxRecDepth 100000 in
theorem cw_X12_codeAt : Cond.code t_X12_codeAt.1 t_X12_codeAt.2.1 t_X12_codeAt.2.2.1 t_X12_codeAt.2.2.2.1 ∈ lw_good := cw_mem (i := 1550) (y := yX12_codeAt) (b := cX12_codeAt) (n := 2) (r := (some .int)) rfl
set_option maxRecDepth 100000 in
theorem cw_X12_passes0 : Cond.code t_X12_passes0.1 t_X12_passes0.2.1 t_X12_passes0.2.2.1 t_X12_passes0.2.2.2.1 ∈ lw_good := cw_mem (i := 1569) (y := yX12_passes0) (b := cX12_passes0) (n := 3) (r := (some .boolean)) rfl
set_option maxRecDepth 100000 in
theorem cw_X12_bounded : Cond.code t_X12_bounded.1 t_X12_bounded.2.1 t_X12_bounded.2.2.1 t_X12_bounded.2.2.2.1 ∈ lw_good := cw_mem (i := 1573) (y := yX12_bounded) (b := cX12_bounded) (n := 4) (r := (some .long)) rfl
set_option maxRecDepth 100000 in
theorem cw_X12_sumOf : Cond.code t_X12_sumOf.1 t_X12_sumOf.2.1 t_X12_sumOf.2.2.1 t_X12_sumOf.2.2.2.1 ∈ lw_good := cw_mem (i := 1554) (y := yX12_sumOf) (b := cX12_sumOf) (n := 7) (r := (some .long)) rfl
set_option maxRecDepth 100000 in
theorem cw_X12_termOf : Cond.code t_X12_termOf.1 t_X12_termOf.2.1 t_X12_termOf.2.2.1 t_X12_termOf.2.2.2.1 ∈ lw_good := cw_mem (i := 1558) (y := yX12_termOf) (b := cX12_termOf) (n := 7) (r := (some .long)) rfl
set_option maxRecDepth 100000 in
theorem cw_X12_partOf : Cond.code t_X12_partOf.1 t_X12_partOf.2.1 t_X12_partOf.2.2.1 t_X12_partOf.2.2.2.1 ∈ lw_good := cw_mem (i := 1562) (y := yX12_partOf) (b := cX12_partOf) (n := 5) (r := (some .long)) rfl
set_option maxRecDepth 100000 in
theorem cw_X12_testOf : Cond.code t_X12_testOf.1 t_X12_testOf.2.1 t_X12_testOf.2.2.1 t_X12_testOf.2.2.2.1 ∈ lw_good := cw_mem (i := 1579) (y := yX12_testOf) (b := cX12_testOf) (n := 4) (r := (some .boolean)) rfl
set_option maxRecDepth 100000 in
theorem cw_X12_bothOf : Cond.code t_X12_bothOf.1 t_X12_bothOf.2.1 t_X12_bothOf.2.2.1 t_X12_bothOf.2.2.2.1 ∈ lw_good := cw_mem (i := 1583) (y := yX12_bothOf) (b := cX12_bothOf) (n := 4) (r := (some .boolean)) rfl
set_option maxRecDepth 100000 in
theorem cw_X12_plainOf : Cond.code t_X12_plainOf.1 t_X12_plainOf.2.1 t_X12_plainOf.2.2.1 t_X12_plainOf.2.2.2.1 ∈ lw_good := cw_mem (i := 1587) (y := yX12_plainOf) (b := cX12_plainOf) (n := 3) (r := (some .boolean)) rfl
set_option maxRecDepth 100000 in
theorem cw_X12_positiveOf : Cond.code t_X12_positiveOf.1 t_X12_positiveOf.2.1 t_X12_positiveOf.2.2.1 t_X12_positiveOf.2.2.2.1 ∈ lw_good := cw_mem (i := 1591) (y := yX12_positiveOf) (b := cX12_positiveOf) (n := 7) (r := (some .boolean)) rfl
set_option maxRecDepth 100000 in
theorem cw_X12_tells : Cond.code t_X12_tells.1 t_X12_tells.2.1 t_X12_tells.2.2.1 t_X12_tells.2.2.2.1 ∈ lw_good := cw_mem (i := 1546) (y := yX12_tells) (b := cX12_tells) (n := 12) (r := (some .int)) rfl
set_option maxRecDepth 100000 in
theorem cw_X12_sideOf : Cond.code t_X12_sideOf.1 t_X12_sideOf.2.1 t_X12_sideOf.2.2.1 t_X12_sideOf.2.2.2.1 ∈ lw_good := cw_mem (i := 1542) (y := yX12_sideOf) (b := cX12_sideOf) (n := 2) (r := (some .int)) rfl
set_option maxRecDepth 100000 in
theorem cw_X12_sets : Cond.code t_X12_sets.1 t_X12_sets.2.1 t_X12_sets.2.2.1 t_X12_sets.2.2.2.1 ∈ lw_good := cw_mem (i := 1538) (y := yX12_sets) (b := cX12_sets) (n := 2) (r := none) rfl
set_option maxRecDepth 100000 in
theorem cw_X12_takesBy : Cond.code t_X12_takesBy.1 t_X12_takesBy.2.1 t_X12_takesBy.2.2.1 t_X12_takesBy.2.2.2.1 ∈ lw_good := cw_mem (i := 1534) (y := yX12_takesBy) (b := cX12_takesBy) (n := 2) (r := (some .int)) rfl
set_option maxRecDepth 100000 in
theorem cw_X12_gripsBy : Cond.code t_X12_gripsBy.1 t_X12_gripsBy.2.1 t_X12_gripsBy.2.2.1 t_X12_gripsBy.2.2.2.1 ∈ lw_good := cw_mem (i := 1599) (y := yX12_gripsBy) (b := cX12_gripsBy) (n := 2) (r := (some .int)) rfl
set_option maxRecDepth 100000 in
theorem cw_X12_isBarred : Cond.code t_X12_isBarred.1 t_X12_isBarred.2.1 t_X12_isBarred.2.2.1 t_X12_isBarred.2.2.2.1 ∈ lw_good := cw_mem (i := 1764) (y := yX12_isBarred) (b := cX12_isBarred) (n := 2) (r := (some .boolean)) rfl
set_option maxRecDepth 100000 in
theorem cw_X12_takesKnot : Cond.code t_X12_takesKnot.1 t_X12_takesKnot.2.1 t_X12_takesKnot.2.2.1 t_X12_takesKnot.2.2.2.1 ∈ lw_good := cw_mem (i := 1522) (y := yX12_takesKnot) (b := cX12_takesKnot) (n := 3) (r := none) rfl
set_option maxRecDepth 100000 in
theorem cw_X12_takesAll : Cond.code t_X12_takesAll.1 t_X12_takesAll.2.1 t_X12_takesAll.2.2.1 t_X12_takesAll.2.2.2.1 ∈ lw_good := cw_mem (i := 1530) (y := yX12_takesAll) (b := cX12_takesAll) (n := 3) (r := (some .int)) rfl
set_option maxRecDepth 100000 in
theorem cw_X12_gripsAll : Cond.code t_X12_gripsAll.1 t_X12_gripsAll.2.1 t_X12_gripsAll.2.2.1 t_X12_gripsAll.2.2.2.1 ∈ lw_good := cw_mem (i := 1595) (y := yX12_gripsAll) (b := cX12_gripsAll) (n := 3) (r := (some .int)) rfl
set_option maxRecDepth 100000 in
theorem cw_X12_centres : Cond.code t_X12_centres.1 t_X12_centres.2.1 t_X12_centres.2.2.1 t_X12_centres.2.2.2.1 ∈ lw_good := cw_mem (i := 1607) (y := yX12_centres) (b := cX12_centres) (n := 3) (r := (some .int)) rfl
set_option maxRecDepth 100000 in
theorem cw_X12_leans : Cond.code t_X12_leans.1 t_X12_leans.2.1 t_X12_leans.2.2.1 t_X12_leans.2.2.2.1 ∈ lw_good := cw_mem (i := 1611) (y := yX12_leans) (b := cX12_leans) (n := 3) (r := (some .int)) rfl
set_option maxRecDepth 100000 in
theorem cw_X12_isWound : Cond.code t_X12_isWound.1 t_X12_isWound.2.1 t_X12_isWound.2.2.1 t_X12_isWound.2.2.2.1 ∈ lw_good := cw_mem (i := 1619) (y := yX12_isWound) (b := cX12_isWound) (n := 3) (r := (some .boolean)) rfl
set_option maxRecDepth 100000 in
theorem cw_X12_twists : Cond.code t_X12_twists.1 t_X12_twists.2.1 t_X12_twists.2.2.1 t_X12_twists.2.2.2.1 ∈ lw_good := cw_mem (i := 1615) (y := yX12_twists) (b := cX12_twists) (n := 3) (r := (some .int)) rfl
set_option maxRecDepth 100000 in
theorem cw_X12_leftOver : Cond.code t_X12_leftOver.1 t_X12_leftOver.2.1 t_X12_leftOver.2.2.1 t_X12_leftOver.2.2.2.1 ∈ lw_good := cw_mem (i := 1623) (y := yX12_leftOver) (b := cX12_leftOver) (n := 3) (r := (some .int)) rfl
set_option maxRecDepth 100000 in
theorem cw_X12_canThrough : Cond.code t_X12_canThrough.1 t_X12_canThrough.2.1 t_X12_canThrough.2.2.1 t_X12_canThrough.2.2.2.1 ∈ lw_good := cw_mem (i := 1796) (y := yX12_canThrough) (b := cX12_canThrough) (n := 1) (r := (some .boolean)) rfl
set_option maxRecDepth 100000 in
theorem cw_X12_holds : Cond.code t_X12_holds.1 t_X12_holds.2.1 t_X12_holds.2.2.1 t_X12_holds.2.2.2.1 ∈ lw_good := cw_mem (i := 1603) (y := yX12_holds) (b := cX12_holds) (n := 2) (r := (some .boolean)) rfl
set_option maxRecDepth 100000 in
theorem cw_X12_frontOf : Cond.code t_X12_frontOf.1 t_X12_frontOf.2.1 t_X12_frontOf.2.2.1 t_X12_frontOf.2.2.2.1 ∈ lw_good := cw_mem (i := 1756) (y := yX12_frontOf) (b := cX12_frontOf) (n := 5) (r := (some .int)) rfl
set_option maxRecDepth 100000 in
theorem cw_X12_front : Cond.code t_X12_front.1 t_X12_front.2.1 t_X12_front.2.2.1 t_X12_front.2.2.2.1 ∈ lw_good := cw_mem (i := 1752) (y := yX12_front) (b := cX12_front) (n := 3) (r := (some .int)) rfl
set_option maxRecDepth 100000 in
theorem cw_X12_asks : Cond.code t_X12_asks.1 t_X12_asks.2.1 t_X12_asks.2.2.1 t_X12_asks.2.2.2.1 ∈ lw_good := cw_mem (i := 1760) (y := yX12_asks) (b := cX12_asks) (n := 4) (r := (some .int)) rfl
set_option maxRecDepth 100000 in
theorem cw_X12_keeps : Cond.code t_X12_keeps.1 t_X12_keeps.2.1 t_X12_keeps.2.2.1 t_X12_keeps.2.2.2.1 ∈ lw_good := cw_mem (i := 1780) (y := yX12_keeps) (b := cX12_keeps) (n := 4) (r := none) rfl
set_option maxRecDepth 100000 in
theorem cw_X12_undo : Cond.code t_X12_undo.1 t_X12_undo.2.1 t_X12_undo.2.2.1 t_X12_undo.2.2.2.1 ∈ lw_good := cw_mem (i := 1768) (y := yX12_undo) (b := cX12_undo) (n := 3) (r := (some .int)) rfl
set_option maxRecDepth 100000 in
theorem cw_X12_goodOr : Cond.code t_X12_goodOr.1 t_X12_goodOr.2.1 t_X12_goodOr.2.2.1 t_X12_goodOr.2.2.2.1 ∈ lw_good := cw_mem (i := 1784) (y := yX12_goodOr) (b := cX12_goodOr) (n := 2) (r := (some .int)) rfl
set_option maxRecDepth 100000 in
theorem cw_X12_laysKept : Cond.code t_X12_laysKept.1 t_X12_laysKept.2.1 t_X12_laysKept.2.2.1 t_X12_laysKept.2.2.2.1 ∈ lw_good := cw_mem (i := 1776) (y := yX12_laysKept) (b := cX12_laysKept) (n := 4) (r := (some .int)) rfl
set_option maxRecDepth 100000 in
theorem cw_X12_throughsKept : Cond.code t_X12_throughsKept.1 t_X12_throughsKept.2.1 t_X12_throughsKept.2.2.1 t_X12_throughsKept.2.2.2.1 ∈ lw_good := cw_mem (i := 1792) (y := yX12_throughsKept) (b := cX12_throughsKept) (n := 2) (r := (some .int)) rfl
set_option maxRecDepth 100000 in
theorem cw_X12_drawsKept : Cond.code t_X12_drawsKept.1 t_X12_drawsKept.2.1 t_X12_drawsKept.2.2.1 t_X12_drawsKept.2.2.2.1 ∈ lw_good := cw_mem (i := 1804) (y := yX12_drawsKept) (b := cX12_drawsKept) (n := 3) (r := (some .int)) rfl
set_option maxRecDepth 100000 in
theorem cw_X12_mirrorsKept : Cond.code t_X12_mirrorsKept.1 t_X12_mirrorsKept.2.1 t_X12_mirrorsKept.2.2.1 t_X12_mirrorsKept.2.2.2.1 ∈ lw_good := cw_mem (i := 1812) (y := yX12_mirrorsKept) (b := cX12_mirrorsKept) (n := 3) (r := (some .int)) rfl
set_option maxRecDepth 100000 in
theorem cw_X12_mirrored : Cond.code t_X12_mirrored.1 t_X12_mirrored.2.1 t_X12_mirrored.2.2.1 t_X12_mirrored.2.2.2.1 ∈ lw_good := cw_mem (i := 1815) (y := yX12_mirrored) (b := cX12_mirrored) (n := 1) (r := (some .int)) rfl
set_option maxRecDepth 100000 in
theorem cw_X12_lay : Cond.code t_X12_lay.1 t_X12_lay.2.1 t_X12_lay.2.2.1 t_X12_lay.2.2.2.1 ∈ lw_good := cw_mem (i := 1772) (y := yX12_lay) (b := cX12_lay) (n := 3) (r := (some .int)) rfl
set_option maxRecDepth 100000 in
theorem cw_X12_through : Cond.code t_X12_through.1 t_X12_through.2.1 t_X12_through.2.2.1 t_X12_through.2.2.2.1 ∈ lw_good := cw_mem (i := 1788) (y := yX12_through) (b := cX12_through) (n := 2) (r := (some .int)) rfl
set_option maxRecDepth 100000 in
theorem cw_X12_draw : Cond.code t_X12_draw.1 t_X12_draw.2.1 t_X12_draw.2.2.1 t_X12_draw.2.2.2.1 ∈ lw_good := cw_mem (i := 1800) (y := yX12_draw) (b := cX12_draw) (n := 2) (r := (some .int)) rfl
set_option maxRecDepth 100000 in
theorem cw_X12_mirror : Cond.code t_X12_mirror.1 t_X12_mirror.2.1 t_X12_mirror.2.2.1 t_X12_mirror.2.2.2.1 ∈ lw_good := cw_mem (i := 1808) (y := yX12_mirror) (b := cX12_mirror) (n := 2) (r := (some .int)) rfl
set_option maxRecDepth 100000 in
theorem cw_X12_askOf : Cond.code t_X12_askOf.1 t_X12_askOf.2.1 t_X12_askOf.2.2.1 t_X12_askOf.2.2.2.1 ∈ lw_good := cw_mem (i := 1829) (y := yX12_askOf) (b := cX12_askOf) (n := 4) (r := (some .int)) rfl
set_option maxRecDepth 100000 in
theorem cw_X12_asksAll : Cond.code t_X12_asksAll.1 t_X12_asksAll.2.1 t_X12_asksAll.2.2.1 t_X12_asksAll.2.2.2.1 ∈ lw_good := cw_mem (i := 1826) (y := yX12_asksAll) (b := cX12_asksAll) (n := 6) (r := none) rfl
set_option maxRecDepth 100000 in
theorem cw_X12_wordsOf : Cond.code t_X12_wordsOf.1 t_X12_wordsOf.2.1 t_X12_wordsOf.2.2.1 t_X12_wordsOf.2.2.2.1 ∈ lw_good := cw_mem (i := 1832) (y := yX12_wordsOf) (b := cX12_wordsOf) (n := 1) (r := (some .int)) rfl
set_option maxRecDepth 100000 in
theorem cw_X12_isLong : Cond.code t_X12_isLong.1 t_X12_isLong.2.1 t_X12_isLong.2.2.1 t_X12_isLong.2.2.2.1 ∈ lw_good := cw_mem (i := 1822) (y := yX12_isLong) (b := cX12_isLong) (n := 1) (r := (some .boolean)) rfl
set_option maxRecDepth 100000 in
theorem cw_X12_following : Cond.code t_X12_following.1 t_X12_following.2.1 t_X12_following.2.2.1 t_X12_following.2.2.2.1 ∈ lw_good := cw_mem (i := 1843) (y := yX12_following) (b := cX12_following) (n := 4) (r := (some .int)) rfl
set_option maxRecDepth 100000 in
theorem cw_X12_opens : Cond.code t_X12_opens.1 t_X12_opens.2.1 t_X12_opens.2.2.1 t_X12_opens.2.2.2.1 ∈ lw_good := cw_mem (i := 1840) (y := yX12_opens) (b := cX12_opens) (n := 4) (r := none) rfl
set_option maxRecDepth 100000 in
theorem cw_X12_askAt : Cond.code t_X12_askAt.1 t_X12_askAt.2.1 t_X12_askAt.2.2.1 t_X12_askAt.2.2.2.1 ∈ lw_good := cw_mem (i := 1851) (y := yX12_askAt) (b := cX12_askAt) (n := 2) (r := (some .int)) rfl
set_option maxRecDepth 100000 in
theorem cw_X12_isProper : Cond.code t_X12_isProper.1 t_X12_isProper.2.1 t_X12_isProper.2.2.1 t_X12_isProper.2.2.2.1 ∈ lw_good := cw_mem (i := 1847) (y := yX12_isProper) (b := cX12_isProper) (n := 3) (r := (some .boolean)) rfl
set_option maxRecDepth 100000 in
theorem cw_X12_takesWord : Cond.code t_X12_takesWord.1 t_X12_takesWord.2.1 t_X12_takesWord.2.2.1 t_X12_takesWord.2.2.2.1 ∈ lw_good := cw_mem (i := 1871) (y := yX12_takesWord) (b := cX12_takesWord) (n := 3) (r := (some .int)) rfl
set_option maxRecDepth 100000 in
theorem cw_X12_gripsWord : Cond.code t_X12_gripsWord.1 t_X12_gripsWord.2.1 t_X12_gripsWord.2.2.1 t_X12_gripsWord.2.2.2.1 ∈ lw_good := cw_mem (i := 1875) (y := yX12_gripsWord) (b := cX12_gripsWord) (n := 3) (r := (some .int)) rfl
set_option maxRecDepth 100000 in
theorem cw_X12_opensProper : Cond.code t_X12_opensProper.1 t_X12_opensProper.2.1 t_X12_opensProper.2.2.1 t_X12_opensProper.2.2.2.1 ∈ lw_good := cw_mem (i := 1836) (y := yX12_opensProper) (b := cX12_opensProper) (n := 3) (r := (some .boolean)) rfl
set_option maxRecDepth 100000 in
theorem cw_X12_ways : Cond.code t_X12_ways.1 t_X12_ways.2.1 t_X12_ways.2.2.1 t_X12_ways.2.2.2.1 ∈ lw_good := cw_mem (i := 1819) (y := yX12_ways) (b := cX12_ways) (n := 5) (r := (some .int)) rfl
set_option maxRecDepth 100000 in
theorem cw_X12_word : Cond.code t_X12_word.1 t_X12_word.2.1 t_X12_word.2.2.1 t_X12_word.2.2.2.1 ∈ lw_good := cw_mem (i := 1855) (y := yX12_word) (b := cX12_word) (n := 6) (r := (some .int)) rfl
set_option maxRecDepth 100000 in
theorem cw_X12_unlike : Cond.code t_X12_unlike.1 t_X12_unlike.2.1 t_X12_unlike.2.2.1 t_X12_unlike.2.2.2.1 ∈ lw_good := cw_mem (i := 1863) (y := yX12_unlike) (b := cX12_unlike) (n := 4) (r := (some .int)) rfl
set_option maxRecDepth 100000 in
theorem cw_X12_rank : Cond.code t_X12_rank.1 t_X12_rank.2.1 t_X12_rank.2.2.1 t_X12_rank.2.2.2.1 ∈ lw_good := cw_mem (i := 1859) (y := yX12_rank) (b := cX12_rank) (n := 4) (r := (some .int)) rfl
set_option maxRecDepth 100000 in
theorem cw_X12_isBetter : Cond.code t_X12_isBetter.1 t_X12_isBetter.2.1 t_X12_isBetter.2.2.1 t_X12_isBetter.2.2.2.1 ∈ lw_good := cw_mem (i := 1879) (y := yX12_isBetter) (b := cX12_isBetter) (n := 1) (r := (some .boolean)) rfl
set_option maxRecDepth 100000 in
theorem cw_X12_best : Cond.code t_X12_best.1 t_X12_best.2.1 t_X12_best.2.2.1 t_X12_best.2.2.2.1 ∈ lw_good := cw_mem (i := 1867) (y := yX12_best) (b := cX12_best) (n := 5) (r := (some .int)) rfl
set_option maxRecDepth 100000 in
theorem cw_X12_change : Cond.code t_X12_change.1 t_X12_change.2.1 t_X12_change.2.2.1 t_X12_change.2.2.2.1 ∈ lw_good := cw_mem (i := 1883) (y := yX12_change) (b := cX12_change) (n := 7) (r := (some .int)) rfl
set_option maxRecDepth 100000 in
theorem cw_X12_alike : Cond.code t_X12_alike.1 t_X12_alike.2.1 t_X12_alike.2.2.1 t_X12_alike.2.2.2.1 ∈ lw_good := cw_mem (i := 1887) (y := yX12_alike) (b := cX12_alike) (n := 6) (r := (some .int)) rfl
set_option maxRecDepth 100000 in
theorem cw_X12_sight : Cond.code t_X12_sight.1 t_X12_sight.2.1 t_X12_sight.2.2.1 t_X12_sight.2.2.2.1 ∈ lw_good := cw_mem (i := 1894) (y := yX12_sight) (b := cX12_sight) (n := 4) (r := (some .int)) rfl
set_option maxRecDepth 100000 in
theorem cw_X12_forget : Cond.code t_X12_forget.1 t_X12_forget.2.1 t_X12_forget.2.2.1 t_X12_forget.2.2.2.1 ∈ lw_good := cw_mem (i := 1898) (y := yX12_forget) (b := cX12_forget) (n := 2) (r := (some .int)) rfl
set_option maxRecDepth 100000 in
theorem cw_X12_isFitting : Cond.code t_X12_isFitting.1 t_X12_isFitting.2.1 t_X12_isFitting.2.2.1 t_X12_isFitting.2.2.2.1 ∈ lw_good := cw_mem (i := 1906) (y := yX12_isFitting) (b := cX12_isFitting) (n := 7) (r := (some .boolean)) rfl
set_option maxRecDepth 100000 in
theorem cw_X12_fits : Cond.code t_X12_fits.1 t_X12_fits.2.1 t_X12_fits.2.2.1 t_X12_fits.2.2.2.1 ∈ lw_good := cw_mem (i := 1902) (y := yX12_fits) (b := cX12_fits) (n := 7) (r := (some .int)) rfl
set_option maxRecDepth 100000 in
theorem cw_X12_look : Cond.code t_X12_look.1 t_X12_look.2.1 t_X12_look.2.2.1 t_X12_look.2.2.2.1 ∈ lw_good := cw_mem (i := 1910) (y := yX12_look) (b := cX12_look) (n := 8) (r := (some .int)) rfl
set_option maxRecDepth 100000 in
theorem cw_X12_boy : Cond.code t_X12_boy.1 t_X12_boy.2.1 t_X12_boy.2.2.1 t_X12_boy.2.2.2.1 ∈ lw_good := cw_mem (i := 1914) (y := yX12_boy) (b := cX12_boy) (n := 3) (r := (some .int)) rfl
set_option maxRecDepth 100000 in
theorem cw_X12_home : Cond.code t_X12_home.1 t_X12_home.2.1 t_X12_home.2.2.1 t_X12_home.2.2.2.1 ∈ lw_good := cw_mem (i := 1918) (y := yX12_home) (b := cX12_home) (n := 2) (r := (some .int)) rfl
set_option maxRecDepth 100000 in
theorem cw_X12_isWorn : Cond.code t_X12_isWorn.1 t_X12_isWorn.2.1 t_X12_isWorn.2.2.1 t_X12_isWorn.2.2.2.1 ∈ lw_good := cw_mem (i := 1930) (y := yX12_isWorn) (b := cX12_isWorn) (n := 5) (r := (some .boolean)) rfl
set_option maxRecDepth 100000 in
theorem cw_X12_triesBoy : Cond.code t_X12_triesBoy.1 t_X12_triesBoy.2.1 t_X12_triesBoy.2.2.1 t_X12_triesBoy.2.2.2.1 ∈ lw_good := cw_mem (i := 1926) (y := yX12_triesBoy) (b := cX12_triesBoy) (n := 4) (r := none) rfl
set_option maxRecDepth 100000 in
theorem cw_X12_wear : Cond.code t_X12_wear.1 t_X12_wear.2.1 t_X12_wear.2.2.1 t_X12_wear.2.2.2.1 ∈ lw_good := cw_mem (i := 1922) (y := yX12_wear) (b := cX12_wear) (n := 3) (r := (some .int)) rfl
set_option maxRecDepth 100000 in
theorem cw_X12_stopped : Cond.code t_X12_stopped.1 t_X12_stopped.2.1 t_X12_stopped.2.2.1 t_X12_stopped.2.2.2.1 ∈ lw_good := cw_mem (i := 1934) (y := yX12_stopped) (b := cX12_stopped) (n := 1) (r := (some .int)) rfl
set_option maxRecDepth 100000 in
theorem cw_X12_orders : Cond.code t_X12_orders.1 t_X12_orders.2.1 t_X12_orders.2.2.1 t_X12_orders.2.2.2.1 ∈ lw_good := cw_mem (i := 1938) (y := yX12_orders) (b := cX12_orders) (n := 5) (r := (some .int)) rfl
set_option maxRecDepth 100000 in
theorem cw_X12_looks : Cond.code t_X12_looks.1 t_X12_looks.2.1 t_X12_looks.2.2.1 t_X12_looks.2.2.2.1 ∈ lw_good := cw_mem (i := 1950) (y := yX12_looks) (b := cX12_looks) (n := 3) (r := none) rfl
set_option maxRecDepth 100000 in
theorem cw_X12_goesAlong : Cond.code t_X12_goesAlong.1 t_X12_goesAlong.2.1 t_X12_goesAlong.2.2.1 t_X12_goesAlong.2.2.2.1 ∈ lw_good := cw_mem (i := 1946) (y := yX12_goesAlong) (b := cX12_goesAlong) (n := 5) (r := none) rfl
set_option maxRecDepth 100000 in
theorem cw_X12_small : Cond.code t_X12_small.1 t_X12_small.2.1 t_X12_small.2.2.1 t_X12_small.2.2.2.1 ∈ lw_good := cw_mem (i := 1957) (y := yX12_small) (b := cX12_small) (n := 2) (r := (some .int)) rfl
set_option maxRecDepth 100000 in
theorem cw_X12_obeys : Cond.code t_X12_obeys.1 t_X12_obeys.2.1 t_X12_obeys.2.2.1 t_X12_obeys.2.2.2.1 ∈ lw_good := cw_mem (i := 1954) (y := yX12_obeys) (b := cX12_obeys) (n := 2) (r := (some .int)) rfl
set_option maxRecDepth 100000 in
theorem cw_X12_runs : Cond.code t_X12_runs.1 t_X12_runs.2.1 t_X12_runs.2.2.1 t_X12_runs.2.2.2.1 ∈ lw_good := cw_mem (i := 1942) (y := yX12_runs) (b := cX12_runs) (n := 6) (r := (some .boolean)) rfl
set_option maxRecDepth 100000 in
theorem cw_X12_draws : Cond.code t_X12_draws.1 t_X12_draws.2.1 t_X12_draws.2.2.1 t_X12_draws.2.2.2.1 ∈ lw_good := cw_mem (i := 1966) (y := yX12_draws) (b := cX12_draws) (n := 2) (r := (some .int)) rfl
set_option maxRecDepth 100000 in
theorem cw_X12_hands : Cond.code t_X12_hands.1 t_X12_hands.2.1 t_X12_hands.2.2.1 t_X12_hands.2.2.2.1 ∈ lw_good := cw_mem (i := 1962) (y := yX12_hands) (b := cX12_hands) (n := 7) (r := (some .int)) rfl
set_option maxRecDepth 100000 in
theorem cw_X12_drawn : Cond.code t_X12_drawn.1 t_X12_drawn.2.1 t_X12_drawn.2.2.1 t_X12_drawn.2.2.2.1 ∈ lw_good := cw_mem (i := 1973) (y := yX12_drawn) (b := cX12_drawn) (n := 2) (r := (some .int)) rfl
set_option maxRecDepth 100000 in
theorem cw_X12_count : Cond.code t_X12_count.1 t_X12_count.2.1 t_X12_count.2.2.1 t_X12_count.2.2.2.1 ∈ lw_good := cw_mem (i := 1977) (y := yX12_count) (b := cX12_count) (n := 2) (r := (some .int)) rfl
set_option maxRecDepth 100000 in
theorem cw_X12_status : Cond.code t_X12_status.1 t_X12_status.2.1 t_X12_status.2.2.1 t_X12_status.2.2.2.1 ∈ lw_good := cw_mem (i := 1981) (y := yX12_status) (b := cX12_status) (n := 1) (r := (some .int)) rfl
set_option maxRecDepth 100000 in
theorem cw_all : ∀ t ∈ mTab, Cond.code t.1 t.2.1 t.2.2.1 t.2.2.2.1 ∈ lw_good := List.forall_mem_cons.mpr ⟨cw_X0_init, List.forall_mem_cons.mpr ⟨cw_X0_knotAt, List.forall_mem_cons.mpr ⟨cw_X0_lawInForce, List.forall_mem_cons.mpr ⟨cw_X0_addKnot, List.forall_mem_cons.mpr ⟨cw_X0_addBoy, List.forall_mem_cons.mpr ⟨cw_X0_addSight, List.forall_mem_cons.mpr ⟨cw_X0_addLaw, List.forall_mem_cons.mpr ⟨cw_X0_copyFrom, List.forall_mem_cons.mpr ⟨cw_X1_init, List.forall_mem_cons.mpr ⟨cw_X1_deal, List.forall_mem_cons.mpr ⟨cw_X1_dealWord, List.forall_mem_cons.mpr ⟨cw_X1_next, List.forall_mem_cons.mpr ⟨cw_X2_init, List.forall_mem_cons.mpr ⟨cw_X2_ask, List.forall_mem_cons.mpr ⟨cw_X2_nearest, List.forall_mem_cons.mpr ⟨cw_X2_askNext, List.forall_mem_cons.mpr ⟨cw_X2_weigh, List.forall_mem_cons.mpr ⟨cw_X3_init, List.forall_mem_cons.mpr ⟨cw_X3_begin, List.forall_mem_cons.mpr ⟨cw_X3_copyFrom, List.forall_mem_cons.mpr ⟨cw_X3_side, List.forall_mem_cons.mpr ⟨cw_X3_lastPlace, List.forall_mem_cons.mpr ⟨cw_X3_push, List.forall_mem_cons.mpr ⟨cw_X3_pop, List.forall_mem_cons.mpr ⟨cw_X3_swapSides, List.forall_mem_cons.mpr ⟨cw_X4_init, List.forall_mem_cons.mpr ⟨cw_X4_prepare, List.forall_mem_cons.mpr ⟨cw_X4_cell, List.forall_mem_cons.mpr ⟨cw_X4_fillCells, List.forall_mem_cons.mpr ⟨cw_X4_fillCell, List.forall_mem_cons.mpr ⟨cw_X4_extend, List.forall_mem_cons.mpr ⟨cw_X4_extendBy, List.forall_mem_cons.mpr ⟨cw_X4_mayStand, List.forall_mem_cons.mpr ⟨cw_X4_keep, List.forall_mem_cons.mpr ⟨cw_X4_firstSlot, List.forall_mem_cons.mpr ⟨cw_X4_placeOf, List.forall_mem_cons.mpr ⟨cw_X4_placeIn, List.forall_mem_cons.mpr ⟨cw_X4_takesIn, List.forall_mem_cons.mpr ⟨cw_X4_gripsIn, List.forall_mem_cons.mpr ⟨cw_X4_spell, List.forall_mem_cons.mpr ⟨cw_X4_leanIn, List.forall_mem_cons.mpr ⟨cw_X4_twistsIn, List.forall_mem_cons.mpr ⟨cw_X4_howMany, List.forall_mem_cons.mpr ⟨cw_X4_find, List.forall_mem_cons.mpr ⟨cw_X4_chooseBest, List.forall_mem_cons.mpr ⟨cw_X4_chooseNearest, List.forall_mem_cons.mpr ⟨cw_X4_clearTally, List.forall_mem_cons.mpr ⟨cw_X4_countFronts, List.forall_mem_cons.mpr ⟨cw_X4_isFitting, List.forall_mem_cons.mpr ⟨cw_X4_countFitting, List.forall_mem_cons.mpr ⟨cw_X4_fittingAt, List.forall_mem_cons.mpr ⟨cw_X4_whereToLook, List.forall_mem_cons.mpr ⟨cw_X5_init, List.forall_mem_cons.mpr ⟨cw_X5_read, List.forall_mem_cons.mpr ⟨cw_X5_scan, List.forall_mem_cons.mpr ⟨cw_X5_isLetter, List.forall_mem_cons.mpr ⟨cw_X5_isDigit, List.forall_mem_cons.mpr ⟨cw_X5_rowEnd, List.forall_mem_cons.mpr ⟨cw_X5_addToken, List.forall_mem_cons.mpr ⟨cw_X5_numberOf, List.forall_mem_cons.mpr ⟨cw_X5_keyword, List.forall_mem_cons.mpr ⟨cw_X5_advance, List.forall_mem_cons.mpr ⟨cw_X5_fail, List.forall_mem_cons.mpr ⟨cw_X5_clause, List.forall_mem_cons.mpr ⟨cw_X5_test, List.forall_mem_cons.mpr ⟨cw_X5_plain, List.forall_mem_cons.mpr ⟨cw_X5_sum, List.forall_mem_cons.mpr ⟨cw_X5_part, List.forall_mem_cons.mpr ⟨cw_X5_wordNow, List.forall_mem_cons.mpr ⟨cw_X6_init, List.forall_mem_cons.mpr ⟨cw_X6_run, List.forall_mem_cons.mpr ⟨cw_X6_runOnce, List.forall_mem_cons.mpr ⟨cw_X6_loadWords, List.forall_mem_cons.mpr ⟨cw_X7_init, List.forall_mem_cons.mpr ⟨cw_X7_kept, List.forall_mem_cons.mpr ⟨cw_X7_emit, List.forall_mem_cons.mpr ⟨cw_X7_closeSkip, List.forall_mem_cons.mpr ⟨cw_X7_reckon, List.forall_mem_cons.mpr ⟨cw_X7_joined, List.forall_mem_cons.mpr ⟨cw_X8_init, List.forall_mem_cons.mpr ⟨cw_X8_remember, List.forall_mem_cons.mpr ⟨cw_X8_giveBack, List.forall_mem_cons.mpr ⟨cw_X8_layOn, List.forall_mem_cons.mpr ⟨cw_X8_putThrough, List.forall_mem_cons.mpr ⟨cw_X8_drawBack, List.forall_mem_cons.mpr ⟨cw_X8_turnOver, List.forall_mem_cons.mpr ⟨cw_X8_undoLatest, List.forall_mem_cons.mpr ⟨cw_X9_init, List.forall_mem_cons.mpr ⟨cw_X9_clear, List.forall_mem_cons.mpr ⟨cw_X9_add, List.forall_mem_cons.mpr ⟨cw_X9_dropOldest, List.forall_mem_cons.mpr ⟨cw_X9_copyFrom, List.forall_mem_cons.mpr ⟨cw_X10_init, List.forall_mem_cons.mpr ⟨cw_X10_dressed, List.forall_mem_cons.mpr ⟨cw_X10_dress, List.forall_mem_cons.mpr ⟨cw_X10_hang, List.forall_mem_cons.mpr ⟨cw_X10_suits, List.forall_mem_cons.mpr ⟨cw_X10_mostFrom, List.forall_mem_cons.mpr ⟨cw_X10_firstFor, List.forall_mem_cons.mpr ⟨cw_X11_init, List.forall_mem_cons.mpr ⟨cw_X11_knot, List.forall_mem_cons.mpr ⟨cw_X11_of, List.forall_mem_cons.mpr ⟨cw_X11_terms, List.forall_mem_cons.mpr ⟨cw_X11_feed, List.forall_mem_cons.mpr ⟨cw_X11_end, List.forall_mem_cons.mpr ⟨cw_X11_row, List.forall_mem_cons.mpr ⟨cw_X11_lint, List.forall_mem_cons.mpr ⟨cw_X11_law, List.forall_mem_cons.mpr ⟨cw_X11_orders, List.forall_mem_cons.mpr ⟨cw_X11_fault, List.forall_mem_cons.mpr ⟨cw_X11_stopped, List.forall_mem_cons.mpr ⟨cw_X11_force, List.forall_mem_cons.mpr ⟨cw_X11_asks, List.forall_mem_cons.mpr ⟨cw_X11_lay, List.forall_mem_cons.mpr ⟨cw_X11_through, List.forall_mem_cons.mpr ⟨cw_X11_draw, List.forall_mem_cons.mpr ⟨cw_X11_mirror, List.forall_mem_cons.mpr ⟨cw_X11_undo, List.forall_mem_cons.mpr ⟨cw_X11_front, List.forall_mem_cons.mpr ⟨cw_X11_ways, List.forall_mem_cons.mpr ⟨cw_X11_word, List.forall_mem_cons.mpr ⟨cw_X11_rank, List.forall_mem_cons.mpr ⟨cw_X11_best, List.forall_mem_cons.mpr ⟨cw_X11_change, List.forall_mem_cons.mpr ⟨cw_X11_alike, List.forall_mem_cons.mpr ⟨cw_X11_sight, List.forall_mem_cons.mpr ⟨cw_X11_forget, List.forall_mem_cons.mpr ⟨cw_X11_fits, List.forall_mem_cons.mpr ⟨cw_X11_look, List.forall_mem_cons.mpr ⟨cw_X11_boy, List.forall_mem_cons.mpr ⟨cw_X11_home, List.forall_mem_cons.mpr ⟨cw_X11_wear, List.forall_mem_cons.mpr ⟨cw_X11_hands, List.forall_mem_cons.mpr ⟨cw_X11_drawn, List.forall_mem_cons.mpr ⟨cw_X11_image, List.forall_mem_cons.mpr ⟨cw_X11_back, List.forall_mem_cons.mpr ⟨cw_X11_count, List.forall_mem_cons.mpr ⟨cw_X11_status, List.forall_mem_cons.mpr ⟨cw_X11_granted, List.forall_mem_cons.mpr ⟨cw_X11_refused, List.forall_mem_cons.mpr ⟨cw_X11_outcome, List.forall_mem_cons.mpr ⟨cw_X11_putBytes, List.forall_mem_cons.mpr ⟨cw_X11_emptiedTape, List.forall_mem_cons.mpr ⟨cw_X11_knotCanBe, List.forall_mem_cons.mpr ⟨cw_X11_isPlace, List.forall_mem_cons.mpr ⟨cw_X11_isWordLength, List.forall_mem_cons.mpr ⟨cw_X11_mirrored, List.forall_mem_cons.mpr ⟨cw_X11_startOfWord, List.forall_mem_cons.mpr ⟨cw_X11_canGoThrough, List.forall_mem_cons.mpr ⟨cw_X11_centresOf, List.forall_mem_cons.mpr ⟨cw_X11_leanOf, List.forall_mem_cons.mpr ⟨cw_X11_wound, List.forall_mem_cons.mpr ⟨cw_X11_twistsOf, List.forall_mem_cons.mpr ⟨cw_X11_leftOf, List.forall_mem_cons.mpr ⟨cw_X11_frontOf, List.forall_mem_cons.mpr ⟨cw_X11_frontPlace, List.forall_mem_cons.mpr ⟨cw_X12_lies, List.forall_mem_cons.mpr ⟨cw_X12_size0, List.forall_mem_cons.mpr ⟨cw_X12_greater, List.forall_mem_cons.mpr ⟨cw_X12_refuses, List.forall_mem_cons.mpr ⟨cw_X12_good, List.forall_mem_cons.mpr ⟨cw_X12_settled, List.forall_mem_cons.mpr ⟨cw_X12_init, List.forall_mem_cons.mpr ⟨cw_X12_image, List.forall_mem_cons.mpr ⟨cw_X12_back, List.forall_mem_cons.mpr ⟨cw_X12_isKnot, List.forall_mem_cons.mpr ⟨cw_X12_fact, List.forall_mem_cons.mpr ⟨cw_X12_puts, List.forall_mem_cons.mpr ⟨cw_X12_canBe, List.forall_mem_cons.mpr ⟨cw_X12_adds, List.forall_mem_cons.mpr ⟨cw_X12_knot, List.forall_mem_cons.mpr ⟨cw_X12_of, List.forall_mem_cons.mpr ⟨cw_X12_isTerm, List.forall_mem_cons.mpr ⟨cw_X12_terms, List.forall_mem_cons.mpr ⟨cw_X12_row, List.forall_mem_cons.mpr ⟨cw_X12_lint, List.forall_mem_cons.mpr ⟨cw_X12_feed, List.forall_mem_cons.mpr ⟨cw_X12_end, List.forall_mem_cons.mpr ⟨cw_X12_isSmall, List.forall_mem_cons.mpr ⟨cw_X12_isDigit, List.forall_mem_cons.mpr ⟨cw_X12_wordOf, List.forall_mem_cons.mpr ⟨cw_X12_splits, List.forall_mem_cons.mpr ⟨cw_X12_fine, List.forall_mem_cons.mpr ⟨cw_X12_faults, List.forall_mem_cons.mpr ⟨cw_X12_takes0, List.forall_mem_cons.mpr ⟨cw_X12_must, List.forall_mem_cons.mpr ⟨cw_X12_leaf, List.forall_mem_cons.mpr ⟨cw_X12_sign, List.forall_mem_cons.mpr ⟨cw_X12_mustNumber, List.forall_mem_cons.mpr ⟨cw_X12_readClause, List.forall_mem_cons.mpr ⟨cw_X12_readOrder, List.forall_mem_cons.mpr ⟨cw_X12_readOne, List.forall_mem_cons.mpr ⟨cw_X12_readTest, List.forall_mem_cons.mpr ⟨cw_X12_readBoth, List.forall_mem_cons.mpr ⟨cw_X12_readPlain, List.forall_mem_cons.mpr ⟨cw_X12_readSum, List.forall_mem_cons.mpr ⟨cw_X12_readTerm, List.forall_mem_cons.mpr ⟨cw_X12_readPart, List.forall_mem_cons.mpr ⟨cw_X12_reads, List.forall_mem_cons.mpr ⟨cw_X12_readsAs, List.forall_mem_cons.mpr ⟨cw_X12_lays, List.forall_mem_cons.mpr ⟨cw_X12_law, List.forall_mem_cons.mpr ⟨cw_X12_fault, List.forall_mem_cons.mpr ⟨cw_X12_force, List.forall_mem_cons.mpr ⟨cw_X12_codeAt, List.forall_mem_cons.mpr ⟨cw_X12_passes0, List.forall_mem_cons.mpr ⟨cw_X12_bounded, List.forall_mem_cons.mpr ⟨cw_X12_sumOf, List.forall_mem_cons.mpr ⟨cw_X12_termOf, List.forall_mem_cons.mpr ⟨cw_X12_partOf, List.forall_mem_cons.mpr ⟨cw_X12_testOf, List.forall_mem_cons.mpr ⟨cw_X12_bothOf, List.forall_mem_cons.mpr ⟨cw_X12_plainOf, List.forall_mem_cons.mpr ⟨cw_X12_positiveOf, List.forall_mem_cons.mpr ⟨cw_X12_tells, List.forall_mem_cons.mpr ⟨cw_X12_sideOf, List.forall_mem_cons.mpr ⟨cw_X12_sets, List.forall_mem_cons.mpr ⟨cw_X12_takesBy, List.forall_mem_cons.mpr ⟨cw_X12_gripsBy, List.forall_mem_cons.mpr ⟨cw_X12_isBarred, List.forall_mem_cons.mpr ⟨cw_X12_takesKnot, List.forall_mem_cons.mpr ⟨cw_X12_takesAll, List.forall_mem_cons.mpr ⟨cw_X12_gripsAll, List.forall_mem_cons.mpr ⟨cw_X12_centres, List.forall_mem_cons.mpr ⟨cw_X12_leans, List.forall_mem_cons.mpr ⟨cw_X12_isWound, List.forall_mem_cons.mpr ⟨cw_X12_twists, List.forall_mem_cons.mpr ⟨cw_X12_leftOver, List.forall_mem_cons.mpr ⟨cw_X12_canThrough, List.forall_mem_cons.mpr ⟨cw_X12_holds, List.forall_mem_cons.mpr ⟨cw_X12_frontOf, List.forall_mem_cons.mpr ⟨cw_X12_front, List.forall_mem_cons.mpr ⟨cw_X12_asks, List.forall_mem_cons.mpr ⟨cw_X12_keeps, List.forall_mem_cons.mpr ⟨cw_X12_undo, List.forall_mem_cons.mpr ⟨cw_X12_goodOr, List.forall_mem_cons.mpr ⟨cw_X12_laysKept, List.forall_mem_cons.mpr ⟨cw_X12_throughsKept, List.forall_mem_cons.mpr ⟨cw_X12_drawsKept, List.forall_mem_cons.mpr ⟨cw_X12_mirrorsKept, List.forall_mem_cons.mpr ⟨cw_X12_mirrored, List.forall_mem_cons.mpr ⟨cw_X12_lay, List.forall_mem_cons.mpr ⟨cw_X12_through, List.forall_mem_cons.mpr ⟨cw_X12_draw, List.forall_mem_cons.mpr ⟨cw_X12_mirror, List.forall_mem_cons.mpr ⟨cw_X12_askOf, List.forall_mem_cons.mpr ⟨cw_X12_asksAll, List.forall_mem_cons.mpr ⟨cw_X12_wordsOf, List.forall_mem_cons.mpr ⟨cw_X12_isLong, List.forall_mem_cons.mpr ⟨cw_X12_following, List.forall_mem_cons.mpr ⟨cw_X12_opens, List.forall_mem_cons.mpr ⟨cw_X12_askAt, List.forall_mem_cons.mpr ⟨cw_X12_isProper, List.forall_mem_cons.mpr ⟨cw_X12_takesWord, List.forall_mem_cons.mpr ⟨cw_X12_gripsWord, List.forall_mem_cons.mpr ⟨cw_X12_opensProper, List.forall_mem_cons.mpr ⟨cw_X12_ways, List.forall_mem_cons.mpr ⟨cw_X12_word, List.forall_mem_cons.mpr ⟨cw_X12_unlike, List.forall_mem_cons.mpr ⟨cw_X12_rank, List.forall_mem_cons.mpr ⟨cw_X12_isBetter, List.forall_mem_cons.mpr ⟨cw_X12_best, List.forall_mem_cons.mpr ⟨cw_X12_change, List.forall_mem_cons.mpr ⟨cw_X12_alike, List.forall_mem_cons.mpr ⟨cw_X12_sight, List.forall_mem_cons.mpr ⟨cw_X12_forget, List.forall_mem_cons.mpr ⟨cw_X12_isFitting, List.forall_mem_cons.mpr ⟨cw_X12_fits, List.forall_mem_cons.mpr ⟨cw_X12_look, List.forall_mem_cons.mpr ⟨cw_X12_boy, List.forall_mem_cons.mpr ⟨cw_X12_home, List.forall_mem_cons.mpr ⟨cw_X12_isWorn, List.forall_mem_cons.mpr ⟨cw_X12_triesBoy, List.forall_mem_cons.mpr ⟨cw_X12_wear, List.forall_mem_cons.mpr ⟨cw_X12_stopped, List.forall_mem_cons.mpr ⟨cw_X12_orders, List.forall_mem_cons.mpr ⟨cw_X12_looks, List.forall_mem_cons.mpr ⟨cw_X12_goesAlong, List.forall_mem_cons.mpr ⟨cw_X12_small, List.forall_mem_cons.mpr ⟨cw_X12_obeys, List.forall_mem_cons.mpr ⟨cw_X12_runs, List.forall_mem_cons.mpr ⟨cw_X12_draws, List.forall_mem_cons.mpr ⟨cw_X12_hands, List.forall_mem_cons.mpr ⟨cw_X12_drawn, List.forall_mem_cons.mpr ⟨cw_X12_count, List.forall_mem_cons.mpr ⟨cw_X12_status, fun _ h => absurd h List.not_mem_nil⟩⟩⟩⟩⟩⟩⟩⟩⟩⟩⟩⟩⟩⟩⟩⟩⟩⟩⟩⟩⟩⟩⟩⟩⟩⟩⟩⟩⟩⟩⟩⟩⟩⟩⟩⟩⟩⟩⟩⟩⟩⟩⟩⟩⟩⟩⟩⟩⟩⟩⟩⟩⟩⟩⟩⟩⟩⟩⟩⟩⟩⟩⟩⟩⟩⟩⟩⟩⟩⟩⟩⟩⟩⟩⟩⟩⟩⟩⟩⟩⟩⟩⟩⟩⟩⟩⟩⟩⟩⟩⟩⟩⟩⟩⟩⟩⟩⟩⟩⟩⟩⟩⟩⟩⟩⟩⟩⟩⟩⟩⟩⟩⟩⟩⟩⟩⟩⟩⟩⟩⟩⟩⟩⟩⟩⟩⟩⟩⟩⟩⟩⟩⟩⟩⟩⟩⟩⟩⟩⟩⟩⟩⟩⟩⟩⟩⟩⟩⟩⟩⟩⟩⟩⟩⟩⟩⟩⟩⟩⟩⟩⟩⟩⟩⟩⟩⟩⟩⟩⟩⟩⟩⟩⟩⟩⟩⟩⟩⟩⟩⟩⟩⟩⟩⟩⟩⟩⟩⟩⟩⟩⟩⟩⟩⟩⟩⟩⟩⟩⟩⟩⟩⟩⟩⟩⟩⟩⟩⟩⟩⟩⟩⟩⟩⟩⟩⟩⟩⟩⟩⟩⟩⟩⟩⟩⟩⟩⟩⟩⟩⟩⟩⟩⟩⟩⟩⟩⟩⟩⟩⟩⟩⟩⟩⟩⟩⟩⟩⟩⟩⟩⟩⟩⟩⟩⟩⟩⟩⟩⟩⟩⟩⟩⟩⟩⟩⟩⟩⟩⟩⟩⟩⟩⟩⟩⟩⟩⟩⟩⟩⟩⟩⟩⟩⟩⟩

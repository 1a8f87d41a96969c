/-! the methods with their rooms; words, fields, calls by their places (printed by wip/p28/gen.py) -/
def M_X0_init : MT := (yX0_init, cX0_init, 2, none, [], 2, 41)
def M_X0_remember : MT := (yX0_remember, cX0_remember, 2, none, [], 2, 47)
def M_X1_init : MT := (yX1_init, cX1_init, 1, none, [], 1, 21)
def M_X1_beginAnew : MT := (yX1_beginAnew, cX1_beginAnew, 2, none, [], 0, 0)
def M_X1_copyFrom : MT := (yX1_copyFrom, cX1_copyFrom, 2, none, [], 1, 26)
def M_X1_hasProcess : MT := (yX1_hasProcess, cX1_hasProcess, 2, (some .boolean), [], 0, 0)
def M_X1_hasPage : MT := (yX1_hasPage, cX1_hasPage, 3, (some .boolean), [], 1, 21)
def M_X1_hasGroup : MT := (yX1_hasGroup, cX1_hasGroup, 3, (some .boolean), [], 1, 21)
def M_X1_processes : MT := (yX1_processes, cX1_processes, 1, (some .int), [], 0, 0)
def M_X1_freeFrames : MT := (yX1_freeFrames, cX1_freeFrames, 3, (some .int), [], 0, 0)
def M_X1_sharedFrames : MT := (yX1_sharedFrames, cX1_sharedFrames, 3, (some .int), [], 1, 21)
def M_X1_freeRuns : MT := (yX1_freeRuns, cX1_freeRuns, 3, (some .int), [], 1, 22)
def M_X1_bigGroups : MT := (yX1_bigGroups, cX1_bigGroups, 1, (some .int), [], 1, 20)
def M_X1_widows : MT := (yX1_widows, cX1_widows, 4, (some .int), [], 4, 91)
def M_X1_frameOf : MT := (yX1_frameOf, cX1_frameOf, 4, (some .int), [], 0, 0)
def M_X1_valueOf : MT := (yX1_valueOf, cX1_valueOf, 4, (some .int), [], 1, 23)
def M_X1_usersOfFrameOf : MT := (yX1_usersOfFrameOf, cX1_usersOfFrameOf, 4, (some .int), [], 1, 23)
def M_X1_userAt : MT := (yX1_userAt, cX1_userAt, 6, (some .int), [], 1, 23)
def M_X1_isBig : MT := (yX1_isBig, cX1_isBig, 4, (some .boolean), [], 0, 0)
def M_X1_runOf : MT := (yX1_runOf, cX1_runOf, 3, (some .int), [], 1, 23)
def M_X1_isWidow : MT := (yX1_isWidow, cX1_isWidow, 3, (some .boolean), [], 3, 69)
def M_X1_bigGroupsInRun : MT := (yX1_bigGroupsInRun, cX1_bigGroupsInRun, 5, (some .int), [], 2, 45)
def M_X1_pagesWithFrame : MT := (yX1_pagesWithFrame, cX1_pagesWithFrame, 5, (some .int), [], 1, 23)
def M_X1_pagesWithSharedFrame : MT := (yX1_pagesWithSharedFrame, cX1_pagesWithSharedFrame, 5, (some .int), [], 1, 23)
def M_X1_pagesWithValueZero : MT := (yX1_pagesWithValueZero, cX1_pagesWithValueZero, 5, (some .int), [], 2, 46)
def M_X1_isShared : MT := (yX1_isShared, cX1_isShared, 2, (some .boolean), [], 0, 0)
def M_X1_isRunFree : MT := (yX1_isRunFree, cX1_isRunFree, 3, (some .boolean), [], 0, 0)
def M_X1_lowestFreeRun : MT := (yX1_lowestFreeRun, cX1_lowestFreeRun, 2, (some .int), [], 1, 22)
def M_X1_lowestSingleFrame : MT := (yX1_lowestSingleFrame, cX1_lowestSingleFrame, 3, (some .int), [], 1, 22)
def M_X1_takeFrame : MT := (yX1_takeFrame, cX1_takeFrame, 4, none, [], 0, 0)
def M_X1_letGo : MT := (yX1_letGo, cX1_letGo, 4, (some .int), [], 1, 23)
def M_X1_becomeBig : MT := (yX1_becomeBig, cX1_becomeBig, 3, none, [], 0, 0)
def M_X1_becomeSmall : MT := (yX1_becomeSmall, cX1_becomeSmall, 3, none, [], 0, 0)
def M_X1_becomeTorn : MT := (yX1_becomeTorn, cX1_becomeTorn, 3, none, [], 1, 22)
def M_X1_outcomeOfWrite : MT := (yX1_outcomeOfWrite, cX1_outcomeOfWrite, 4, (some .int), [], 2, 43)
def M_X1_doWrite : MT := (yX1_doWrite, cX1_doWrite, 6, (some .int), [], 4, 93)
def M_X1_bringIn : MT := (yX1_bringIn, cX1_bringIn, 5, none, [], 3, 69)
def M_X1_bringInWhole : MT := (yX1_bringInWhole, cX1_bringInWhole, 6, none, [], 1, 23)
def M_X1_copyOut : MT := (yX1_copyOut, cX1_copyOut, 4, none, [], 3, 69)
def M_X1_takeSingleFrame : MT := (yX1_takeSingleFrame, cX1_takeSingleFrame, 4, none, [], 2, 46)
def M_X1_lowestUnusedProcess : MT := (yX1_lowestUnusedProcess, cX1_lowestUnusedProcess, 2, (some .int), [], 1, 21)
def M_X1_canFork : MT := (yX1_canFork, cX1_canFork, 2, (some .boolean), [], 2, 42)
def M_X1_doFork : MT := (yX1_doFork, cX1_doFork, 5, (some .int), [], 2, 42)
def M_X1_canExit : MT := (yX1_canExit, cX1_canExit, 2, (some .boolean), [], 1, 21)
def M_X1_doExit : MT := (yX1_doExit, cX1_doExit, 4, (some .int), [], 2, 46)
def M_X1_obstacleToMarriage : MT := (yX1_obstacleToMarriage, cX1_obstacleToMarriage, 3, (some .int), [], 2, 47)
def M_X1_isInPlace : MT := (yX1_isInPlace, cX1_isInPlace, 5, (some .boolean), [], 1, 23)
def M_X1_doMarry : MT := (yX1_doMarry, cX1_doMarry, 4, (some .int), [], 3, 72)
def M_X1_moveTo : MT := (yX1_moveTo, cX1_moveTo, 7, (some .int), [], 2, 46)
def M_X1_marryNext : MT := (yX1_marryNext, cX1_marryNext, 5, (some .boolean), [], 4, 95)
def M_X1_doTear : MT := (yX1_doTear, cX1_doTear, 4, (some .int), [], 2, 45)
def M_X1_doPress : MT := (yX1_doPress, cX1_doPress, 4, (some .int), [], 4, 95)
def M_X1_loseFirstPage : MT := (yX1_loseFirstPage, cX1_loseFirstPage, 4, (some .boolean), [], 2, 46)
def M_X1_tearEmptiestGroup : MT := (yX1_tearEmptiestGroup, cX1_tearEmptiestGroup, 6, (some .boolean), [], 3, 70)
def M_X2_init : MT := (yX2_init, cX2_init, 1, none, [], 1, 20)
def M_X3_init : MT := (yX3_init, cX3_init, 2, none, [], 3, 62)
def M_X3_about : MT := (yX3_about, cX3_about, 2, (some .int), [], 6, 114)
def M_X3_page : MT := (yX3_page, cX3_page, 4, (some .int), [], 7, 112)
def M_X3_user : MT := (yX3_user, cX3_user, 3, (some .int), [], 6, 90)
def M_X3_group : MT := (yX3_group, cX3_group, 4, (some .int), [], 7, 112)
def M_X3_write : MT := (yX3_write, cX3_write, 4, (some .int), [], 7, 118)
def M_X3_fork : MT := (yX3_fork, cX3_fork, 2, (some .int), [], 7, 111)
def M_X3_exit : MT := (yX3_exit, cX3_exit, 2, (some .int), [], 7, 111)
def M_X3_marry : MT := (yX3_marry, cX3_marry, 3, (some .int), [], 7, 112)
def M_X3_tear : MT := (yX3_tear, cX3_tear, 3, (some .int), [], 7, 112)
def M_X3_press : MT := (yX3_press, cX3_press, 2, (some .int), [], 6, 118)
def M_X3_setEager : MT := (yX3_setEager, cX3_setEager, 2, (some .int), [], 3, 68)
def M_X3_whyNot : MT := (yX3_whyNot, cX3_whyNot, 3, (some .int), [], 7, 112)
def M_X3_wouldDo : MT := (yX3_wouldDo, cX3_wouldDo, 3, (some .int), [], 7, 112)
def M_X3_marriages : MT := (yX3_marriages, cX3_marriages, 2, (some .int), [], 5, 119)
def M_X3_mostFree : MT := (yX3_mostFree, cX3_mostFree, 1, (some .int), [], 5, 118)
def M_X3_writable : MT := (yX3_writable, cX3_writable, 3, (some .int), [], 7, 118)
def M_X3_requireProcess : MT := (yX3_requireProcess, cX3_requireProcess, 2, none, [], 6, 90)
def M_X3_requirePage : MT := (yX3_requirePage, cX3_requirePage, 3, none, [], 6, 90)
def M_X3_requireGroup : MT := (yX3_requireGroup, cX3_requireGroup, 3, none, [], 6, 90)
def M_J6_bitCount_0f7a4 : MT := (yJ6_bitCount_0f7a4, cJ6_bitCount_0f7a4, 1, (some .int), [], 0, 0)
def M_L_cell : MT := (yL_cell, cL_cell, 2, (some .int), [], 0, 0)
def M_L_low : MT := (yL_low, cL_low, 2, (some .int), [], 0, 0)
def M_L_write : MT := (yL_write, cL_write, 5, (some .int), [(0, 7, 8, 16), (0, 7, 12, 18), (0, 7, 17, 20)], 8, 141)
def M_L_fork : MT := (yL_fork, cL_fork, 3, (some .int), [(0, 5, 6, 16), (0, 5, 9, 20)], 8, 132)
def M_L_exit : MT := (yL_exit, cL_exit, 3, (some .int), [(0, 5, 6, 16), (0, 5, 9, 20)], 8, 132)
def M_L_marry : MT := (yL_marry, cL_marry, 4, (some .int), [(0, 6, 7, 16), (0, 6, 10, 20)], 8, 134)
def M_L_tear : MT := (yL_tear, cL_tear, 4, (some .int), [(0, 6, 7, 16), (0, 6, 10, 20)], 8, 134)
def M_L_frame : MT := (yL_frame, cL_frame, 3, (some .int), [], 0, 0)
def M_L_one : MT := (yL_one, cL_one, 2, (some .boolean), [], 0, 0)
def M_L_freeRun : MT := (yL_freeRun, cL_freeRun, 2, (some .boolean), [], 0, 0)
def M_L_run : MT := (yL_run, cL_run, 2, (some .int), [], 1, 21)
def M_L_single : MT := (yL_single, cL_single, 2, (some .int), [], 2, 42)
def M_L_free : MT := (yL_free, cL_free, 3, (some .int), [], 0, 0)
def M_L_empty : MT := (yL_empty, cL_empty, 4, (some .boolean), [], 1, 22)
def M_L_would : MT := (yL_would, cL_would, 5, (some .int), [], 3, 63)
def M_L_writes : MT := (yL_writes, cL_writes, 9, (some .int), [], 4, 87)
def M_L_place : MT := (yL_place, cL_place, 5, (some .boolean), [], 1, 22)
def M_L_why : MT := (yL_why, cL_why, 6, (some .int), [], 2, 46)
def M_L_weds : MT := (yL_weds, cL_weds, 7, (some .int), [], 3, 71)
def M_L_press : MT := (yL_press, cL_press, 11, (some .int), [], 1, 22)
def M_L_same : MT := (yL_same, cL_same, 16, (some .boolean), [], 8, 135)
def M_L_copy : MT := (yL_copy, cL_copy, 7, none, [], 0, 0)
def M_L_could : MT := (yL_could, cL_could, 12, (some .boolean), [], 8, 140)
def M_L_law : MT := (x, code, maxLocals, ret, [], 11, 410)
theorem k_t1 {w : Cond} (h : w ∈ tables_1_1) : w ∈ lw_tbl := List.mem_append_right _ (List.mem_append_left _ h)
theorem k_t2 {w : Cond} (h : w ∈ tables_1_2) : w ∈ lw_tbl := List.mem_append_right _ (List.mem_append_right _ (List.mem_append_left _ h))
theorem k_t3 {w : Cond} (h : w ∈ tables_1_3) : w ∈ lw_tbl := List.mem_append_right _ (List.mem_append_right _ (List.mem_append_right _ h))
theorem k_sel {q : MethodName × Nat} (h : q ∈ lw_privs) : Cond.selects q.1.cls q.1 q.1 ∈ lw_tbl := List.mem_append_left _ (List.mem_map.mpr ⟨q, h, rfl⟩)
theorem k_0 : Cond.fieldLink RX2 9 RX2 "signs" "[C" ∈ g_WS := List.mem_filter.mpr ⟨k_t1 (List.mem_of_getElem? (i := 28) (by decide +kernel)), rfl⟩
theorem k_1 : Cond.fieldLink RX1 9 RX1 "frames" "[I" ∈ g_WS := List.mem_filter.mpr ⟨k_t1 (List.mem_of_getElem? (i := 45) (by decide +kernel)), rfl⟩
theorem k_2 : Cond.fieldLink RX1 15 RX1 "users" "[I" ∈ g_WS := List.mem_filter.mpr ⟨k_t1 (List.mem_of_getElem? (i := 46) (by decide +kernel)), rfl⟩
theorem k_3 : Cond.fieldLink RX1 18 RX1 "values" "[I" ∈ g_WS := List.mem_filter.mpr ⟨k_t1 (List.mem_of_getElem? (i := 47) (by decide +kernel)), rfl⟩
theorem k_4 : Cond.fieldLink RX1 24 RX1 "processes" "I" ∈ g_WS := List.mem_filter.mpr ⟨k_t1 (List.mem_of_getElem? (i := 48) (by decide +kernel)), rfl⟩
theorem k_5 : Cond.fieldLink RX1 28 RX1 "bigs" "I" ∈ g_WS := List.mem_filter.mpr ⟨k_t1 (List.mem_of_getElem? (i := 49) (by decide +kernel)), rfl⟩
theorem k_6 : Cond.fieldLink RX1 31 RX1 "eager" "Z" ∈ g_WS := List.mem_filter.mpr ⟨k_t1 (List.mem_of_getElem? (i := 50) (by decide +kernel)), rfl⟩
theorem k_7 : Cond.fieldLink RX3 117 RX1 "eager" "Z" ∈ g_WS := List.mem_filter.mpr ⟨k_t1 (List.mem_of_getElem? (i := 51) (by decide +kernel)), rfl⟩
theorem k_8 : Cond.fieldLink RX1 35 RX1 "copies" "I" ∈ g_WS := List.mem_filter.mpr ⟨k_t1 (List.mem_of_getElem? (i := 52) (by decide +kernel)), rfl⟩
theorem k_9 : Cond.fieldLink RX3 104 RX1 "copies" "I" ∈ g_WS := List.mem_filter.mpr ⟨k_t1 (List.mem_of_getElem? (i := 53) (by decide +kernel)), rfl⟩
theorem k_10 : Cond.fieldLink RX1 38 RX1 "faults" "I" ∈ g_WS := List.mem_filter.mpr ⟨k_t1 (List.mem_of_getElem? (i := 54) (by decide +kernel)), rfl⟩
theorem k_11 : Cond.fieldLink RX3 108 RX1 "faults" "I" ∈ g_WS := List.mem_filter.mpr ⟨k_t1 (List.mem_of_getElem? (i := 55) (by decide +kernel)), rfl⟩
theorem k_12 : Cond.fieldLink RX1 41 RX1 "tears" "I" ∈ g_WS := List.mem_filter.mpr ⟨k_t1 (List.mem_of_getElem? (i := 56) (by decide +kernel)), rfl⟩
theorem k_13 : Cond.fieldLink RX3 111 RX1 "tears" "I" ∈ g_WS := List.mem_filter.mpr ⟨k_t1 (List.mem_of_getElem? (i := 57) (by decide +kernel)), rfl⟩
theorem k_14 : Cond.fieldLink RX1 44 RX1 "losses" "I" ∈ g_WS := List.mem_filter.mpr ⟨k_t1 (List.mem_of_getElem? (i := 58) (by decide +kernel)), rfl⟩
theorem k_15 : Cond.fieldLink RX3 114 RX1 "losses" "I" ∈ g_WS := List.mem_filter.mpr ⟨k_t1 (List.mem_of_getElem? (i := 59) (by decide +kernel)), rfl⟩
theorem k_16 : Cond.fieldLink RX0 11 RX0 "ring" "[LPageMarriages$Memory;" ∈ g_WS := List.mem_filter.mpr ⟨k_t1 (List.mem_of_getElem? (i := 91) (by decide +kernel)), rfl⟩
theorem k_17 : Cond.fieldLink RX0 22 RX0 "next" "I" ∈ g_WS := List.mem_filter.mpr ⟨k_t1 (List.mem_of_getElem? (i := 92) (by decide +kernel)), rfl⟩
theorem k_18 : Cond.fieldLink RX0 18 RX0 "size" "I" ∈ g_WS := List.mem_filter.mpr ⟨k_t1 (List.mem_of_getElem? (i := 93) (by decide +kernel)), rfl⟩
theorem k_19 : Cond.fieldLink RX3 10 RX3 "story" "LPageMarriages$Story;" ∈ g_WS := List.mem_filter.mpr ⟨k_t1 (List.mem_of_getElem? (i := 101) (by decide +kernel)), rfl⟩
theorem k_20 : Cond.fieldLink RX3 19 RX3 "present" "LPageMarriages$Memory;" ∈ g_WS := List.mem_filter.mpr ⟨k_t1 (List.mem_of_getElem? (i := 102) (by decide +kernel)), rfl⟩
theorem k_21 : Cond.fieldLink RX3 23 RX3 "trial" "LPageMarriages$Memory;" ∈ g_WS := List.mem_filter.mpr ⟨k_t1 (List.mem_of_getElem? (i := 103) (by decide +kernel)), rfl⟩
theorem k_22 : Cond.fieldLink RX3 29 RX3 "history" "LPageMarriages$History;" ∈ g_WS := List.mem_filter.mpr ⟨k_t1 (List.mem_of_getElem? (i := 104) (by decide +kernel)), rfl⟩
theorem k_23 : Cond.fieldLink RX3 33 RX3 "slots" "[LPageMarriages$Memory;" ∈ g_WS := List.mem_filter.mpr ⟨k_t1 (List.mem_of_getElem? (i := 105) (by decide +kernel)), rfl⟩
theorem k_24 : Cond.fieldLink RX3 37 RX3 "filled" "[Z" ∈ g_WS := List.mem_filter.mpr ⟨k_t1 (List.mem_of_getElem? (i := 106) (by decide +kernel)), rfl⟩
theorem k_25 : Cond.code (mY M_X0_init) (mC M_X0_init) (mL M_X0_init) (mR M_X0_init) ∈ g_WS := List.mem_filter.mpr ⟨k_t1 (List.mem_of_getElem? (i := 86) (by decide +kernel)), rfl⟩
theorem k_26 : Cond.initialized RX0 ∈ g_WS := List.mem_filter.mpr ⟨k_t1 (List.mem_of_getElem? (i := 4) (by decide +kernel)), rfl⟩
theorem k_27 : Cond.instanceMethod yX0_init ∈ g_WS := List.mem_filter.mpr ⟨k_t1 (List.mem_of_getElem? (i := 85) (by decide +kernel)), rfl⟩
theorem k_28 : Cond.code (mY M_X0_remember) (mC M_X0_remember) (mL M_X0_remember) (mR M_X0_remember) ∈ g_WS := List.mem_filter.mpr ⟨k_t1 (List.mem_of_getElem? (i := 196) (by decide +kernel)), rfl⟩
theorem k_29 : Cond.instanceMethod yX0_remember ∈ g_WS := List.mem_filter.mpr ⟨k_t1 (List.mem_of_getElem? (i := 194) (by decide +kernel)), rfl⟩
theorem k_30 : Cond.selects RX0 yX0_remember yX0_remember ∈ g_WS := List.mem_filter.mpr ⟨k_t1 (List.mem_of_getElem? (i := 195) (by decide +kernel)), rfl⟩
theorem k_31 : Cond.code (mY M_X1_init) (mC M_X1_init) (mL M_X1_init) (mR M_X1_init) ∈ g_WS := List.mem_filter.mpr ⟨k_t1 (List.mem_of_getElem? (i := 39) (by decide +kernel)), rfl⟩
theorem k_32 : Cond.initialized RX1 ∈ g_WS := List.mem_filter.mpr ⟨k_t1 (List.mem_of_getElem? (i := 3) (by decide +kernel)), rfl⟩
theorem k_33 : Cond.instanceMethod yX1_init ∈ g_WS := List.mem_filter.mpr ⟨k_t1 (List.mem_of_getElem? (i := 38) (by decide +kernel)), rfl⟩
theorem k_34 : Cond.code (mY M_X1_beginAnew) (mC M_X1_beginAnew) (mL M_X1_beginAnew) (mR M_X1_beginAnew) ∈ g_WS := List.mem_filter.mpr ⟨k_t1 (List.mem_of_getElem? (i := 44) (by decide +kernel)), rfl⟩
theorem k_35 : Cond.instanceMethod yX1_beginAnew ∈ g_WS := List.mem_filter.mpr ⟨k_t1 (List.mem_of_getElem? (i := 42) (by decide +kernel)), rfl⟩
theorem k_36 : Cond.selects RX1 yX1_beginAnew yX1_beginAnew ∈ g_WS := List.mem_filter.mpr ⟨k_t1 (List.mem_of_getElem? (i := 43) (by decide +kernel)), rfl⟩
theorem k_37 : Cond.code (mY M_X1_copyFrom) (mC M_X1_copyFrom) (mL M_X1_copyFrom) (mR M_X1_copyFrom) ∈ g_WS := List.mem_filter.mpr ⟨k_t1 (List.mem_of_getElem? (i := 200) (by decide +kernel)), rfl⟩
theorem k_38 : Cond.instanceMethod yX1_copyFrom ∈ g_WS := List.mem_filter.mpr ⟨k_t1 (List.mem_of_getElem? (i := 198) (by decide +kernel)), rfl⟩
theorem k_39 : Cond.selects RX1 yX1_copyFrom yX1_copyFrom ∈ g_WS := List.mem_filter.mpr ⟨k_t1 (List.mem_of_getElem? (i := 199) (by decide +kernel)), rfl⟩
theorem k_40 : Cond.code (mY M_X1_hasProcess) (mC M_X1_hasProcess) (mL M_X1_hasProcess) (mR M_X1_hasProcess) ∈ g_WS := List.mem_filter.mpr ⟨k_t2 (List.mem_of_getElem? (i := 65) (by decide +kernel)), rfl⟩
theorem k_41 : Cond.instanceMethod yX1_hasProcess ∈ g_WS := List.mem_filter.mpr ⟨k_t2 (List.mem_of_getElem? (i := 63) (by decide +kernel)), rfl⟩
theorem k_42 : Cond.selects RX1 yX1_hasProcess yX1_hasProcess ∈ g_WS := List.mem_filter.mpr ⟨k_t2 (List.mem_of_getElem? (i := 64) (by decide +kernel)), rfl⟩
theorem k_43 : Cond.code (mY M_X1_hasPage) (mC M_X1_hasPage) (mL M_X1_hasPage) (mR M_X1_hasPage) ∈ g_WS := List.mem_filter.mpr ⟨k_t2 (List.mem_of_getElem? (i := 61) (by decide +kernel)), rfl⟩
theorem k_44 : Cond.instanceMethod yX1_hasPage ∈ g_WS := List.mem_filter.mpr ⟨k_t2 (List.mem_of_getElem? (i := 59) (by decide +kernel)), rfl⟩
theorem k_45 : Cond.selects RX1 yX1_hasPage yX1_hasPage ∈ g_WS := List.mem_filter.mpr ⟨k_t2 (List.mem_of_getElem? (i := 60) (by decide +kernel)), rfl⟩
theorem k_46 : Cond.code (mY M_X1_hasGroup) (mC M_X1_hasGroup) (mL M_X1_hasGroup) (mR M_X1_hasGroup) ∈ g_WS := List.mem_filter.mpr ⟨k_t2 (List.mem_of_getElem? (i := 208) (by decide +kernel)), rfl⟩
theorem k_47 : Cond.instanceMethod yX1_hasGroup ∈ g_WS := List.mem_filter.mpr ⟨k_t2 (List.mem_of_getElem? (i := 206) (by decide +kernel)), rfl⟩
theorem k_48 : Cond.selects RX1 yX1_hasGroup yX1_hasGroup ∈ g_WS := List.mem_filter.mpr ⟨k_t2 (List.mem_of_getElem? (i := 207) (by decide +kernel)), rfl⟩
theorem k_49 : Cond.code (mY M_X1_processes) (mC M_X1_processes) (mL M_X1_processes) (mR M_X1_processes) ∈ g_WS := List.mem_filter.mpr ⟨k_t3 (List.mem_of_getElem? (i := 98) (by decide +kernel)), rfl⟩
theorem k_50 : Cond.instanceMethod yX1_processes ∈ g_WS := List.mem_filter.mpr ⟨k_t3 (List.mem_of_getElem? (i := 96) (by decide +kernel)), rfl⟩
theorem k_51 : Cond.selects RX1 yX1_processes yX1_processes ∈ g_WS := List.mem_filter.mpr ⟨k_t3 (List.mem_of_getElem? (i := 97) (by decide +kernel)), rfl⟩
theorem k_52 : Cond.code (mY M_X1_freeFrames) (mC M_X1_freeFrames) (mL M_X1_freeFrames) (mR M_X1_freeFrames) ∈ g_WS := List.mem_filter.mpr ⟨k_t1 (List.mem_of_getElem? (i := 214) (by decide +kernel)), rfl⟩
theorem k_53 : Cond.instanceMethod yX1_freeFrames ∈ g_WS := List.mem_filter.mpr ⟨k_t1 (List.mem_of_getElem? (i := 212) (by decide +kernel)), rfl⟩
theorem k_54 : Cond.selects RX1 yX1_freeFrames yX1_freeFrames ∈ g_WS := List.mem_filter.mpr ⟨k_t1 (List.mem_of_getElem? (i := 213) (by decide +kernel)), rfl⟩
theorem k_55 : Cond.code (mY M_X1_sharedFrames) (mC M_X1_sharedFrames) (mL M_X1_sharedFrames) (mR M_X1_sharedFrames) ∈ g_WS := List.mem_filter.mpr ⟨k_t3 (List.mem_of_getElem? (i := 112) (by decide +kernel)), rfl⟩
theorem k_56 : Cond.instanceMethod yX1_sharedFrames ∈ g_WS := List.mem_filter.mpr ⟨k_t3 (List.mem_of_getElem? (i := 110) (by decide +kernel)), rfl⟩
theorem k_57 : Cond.selects RX1 yX1_sharedFrames yX1_sharedFrames ∈ g_WS := List.mem_filter.mpr ⟨k_t3 (List.mem_of_getElem? (i := 111) (by decide +kernel)), rfl⟩
theorem k_58 : Cond.code (mY M_X1_freeRuns) (mC M_X1_freeRuns) (mL M_X1_freeRuns) (mR M_X1_freeRuns) ∈ g_WS := List.mem_filter.mpr ⟨k_t2 (List.mem_of_getElem? (i := 30) (by decide +kernel)), rfl⟩
theorem k_59 : Cond.instanceMethod yX1_freeRuns ∈ g_WS := List.mem_filter.mpr ⟨k_t2 (List.mem_of_getElem? (i := 28) (by decide +kernel)), rfl⟩
theorem k_60 : Cond.selects RX1 yX1_freeRuns yX1_freeRuns ∈ g_WS := List.mem_filter.mpr ⟨k_t2 (List.mem_of_getElem? (i := 29) (by decide +kernel)), rfl⟩
theorem k_61 : Cond.code (mY M_X1_bigGroups) (mC M_X1_bigGroups) (mL M_X1_bigGroups) (mR M_X1_bigGroups) ∈ g_WS := List.mem_filter.mpr ⟨k_t3 (List.mem_of_getElem? (i := 103) (by decide +kernel)), rfl⟩
theorem k_62 : Cond.instanceMethod yX1_bigGroups ∈ g_WS := List.mem_filter.mpr ⟨k_t3 (List.mem_of_getElem? (i := 101) (by decide +kernel)), rfl⟩
theorem k_63 : Cond.selects RX1 yX1_bigGroups yX1_bigGroups ∈ g_WS := List.mem_filter.mpr ⟨k_t3 (List.mem_of_getElem? (i := 102) (by decide +kernel)), rfl⟩
theorem k_64 : Cond.code (mY M_X1_widows) (mC M_X1_widows) (mL M_X1_widows) (mR M_X1_widows) ∈ g_WS := List.mem_filter.mpr ⟨k_t3 (List.mem_of_getElem? (i := 107) (by decide +kernel)), rfl⟩
theorem k_65 : Cond.instanceMethod yX1_widows ∈ g_WS := List.mem_filter.mpr ⟨k_t3 (List.mem_of_getElem? (i := 105) (by decide +kernel)), rfl⟩
theorem k_66 : Cond.selects RX1 yX1_widows yX1_widows ∈ g_WS := List.mem_filter.mpr ⟨k_t3 (List.mem_of_getElem? (i := 106) (by decide +kernel)), rfl⟩
theorem k_67 : Cond.code (mY M_X1_frameOf) (mC M_X1_frameOf) (mL M_X1_frameOf) (mR M_X1_frameOf) ∈ g_WS := List.mem_filter.mpr ⟨k_t1 (List.mem_of_getElem? (i := 230) (by decide +kernel)), rfl⟩
theorem k_68 : Cond.instanceMethod yX1_frameOf ∈ g_WS := List.mem_filter.mpr ⟨k_t1 (List.mem_of_getElem? (i := 228) (by decide +kernel)), rfl⟩
theorem k_69 : Cond.selects RX1 yX1_frameOf yX1_frameOf ∈ g_WS := List.mem_filter.mpr ⟨k_t1 (List.mem_of_getElem? (i := 229) (by decide +kernel)), rfl⟩
theorem k_70 : Cond.code (mY M_X1_valueOf) (mC M_X1_valueOf) (mL M_X1_valueOf) (mR M_X1_valueOf) ∈ g_WS := List.mem_filter.mpr ⟨k_t1 (List.mem_of_getElem? (i := 234) (by decide +kernel)), rfl⟩
theorem k_71 : Cond.instanceMethod yX1_valueOf ∈ g_WS := List.mem_filter.mpr ⟨k_t1 (List.mem_of_getElem? (i := 232) (by decide +kernel)), rfl⟩
theorem k_72 : Cond.selects RX1 yX1_valueOf yX1_valueOf ∈ g_WS := List.mem_filter.mpr ⟨k_t1 (List.mem_of_getElem? (i := 233) (by decide +kernel)), rfl⟩
theorem k_73 : Cond.code (mY M_X1_usersOfFrameOf) (mC M_X1_usersOfFrameOf) (mL M_X1_usersOfFrameOf) (mR M_X1_usersOfFrameOf) ∈ g_WS := List.mem_filter.mpr ⟨k_t1 (List.mem_of_getElem? (i := 226) (by decide +kernel)), rfl⟩
theorem k_74 : Cond.instanceMethod yX1_usersOfFrameOf ∈ g_WS := List.mem_filter.mpr ⟨k_t1 (List.mem_of_getElem? (i := 224) (by decide +kernel)), rfl⟩
theorem k_75 : Cond.selects RX1 yX1_usersOfFrameOf yX1_usersOfFrameOf ∈ g_WS := List.mem_filter.mpr ⟨k_t1 (List.mem_of_getElem? (i := 225) (by decide +kernel)), rfl⟩
theorem k_76 : Cond.code (mY M_X1_userAt) (mC M_X1_userAt) (mL M_X1_userAt) (mR M_X1_userAt) ∈ g_WS := List.mem_filter.mpr ⟨k_t3 (List.mem_of_getElem? (i := 58) (by decide +kernel)), rfl⟩
theorem k_77 : Cond.instanceMethod yX1_userAt ∈ g_WS := List.mem_filter.mpr ⟨k_t3 (List.mem_of_getElem? (i := 56) (by decide +kernel)), rfl⟩
theorem k_78 : Cond.selects RX1 yX1_userAt yX1_userAt ∈ g_WS := List.mem_filter.mpr ⟨k_t3 (List.mem_of_getElem? (i := 57) (by decide +kernel)), rfl⟩
theorem k_79 : Cond.code (mY M_X1_isBig) (mC M_X1_isBig) (mL M_X1_isBig) (mR M_X1_isBig) ∈ g_WS := List.mem_filter.mpr ⟨k_t1 (List.mem_of_getElem? (i := 222) (by decide +kernel)), rfl⟩
theorem k_80 : Cond.instanceMethod yX1_isBig ∈ g_WS := List.mem_filter.mpr ⟨k_t1 (List.mem_of_getElem? (i := 220) (by decide +kernel)), rfl⟩
theorem k_81 : Cond.selects RX1 yX1_isBig yX1_isBig ∈ g_WS := List.mem_filter.mpr ⟨k_t1 (List.mem_of_getElem? (i := 221) (by decide +kernel)), rfl⟩
theorem k_82 : Cond.code (mY M_X1_runOf) (mC M_X1_runOf) (mL M_X1_runOf) (mR M_X1_runOf) ∈ g_WS := List.mem_filter.mpr ⟨k_t3 (List.mem_of_getElem? (i := 5) (by decide +kernel)), rfl⟩
theorem k_83 : Cond.instanceMethod yX1_runOf ∈ g_WS := List.mem_filter.mpr ⟨k_t3 (List.mem_of_getElem? (i := 3) (by decide +kernel)), rfl⟩
theorem k_84 : Cond.selects RX1 yX1_runOf yX1_runOf ∈ g_WS := List.mem_filter.mpr ⟨k_t3 (List.mem_of_getElem? (i := 4) (by decide +kernel)), rfl⟩
theorem k_85 : Cond.code (mY M_X1_isWidow) (mC M_X1_isWidow) (mL M_X1_isWidow) (mR M_X1_isWidow) ∈ g_WS := List.mem_filter.mpr ⟨k_t3 (List.mem_of_getElem? (i := 79) (by decide +kernel)), rfl⟩
theorem k_86 : Cond.instanceMethod yX1_isWidow ∈ g_WS := List.mem_filter.mpr ⟨k_t3 (List.mem_of_getElem? (i := 77) (by decide +kernel)), rfl⟩
theorem k_87 : Cond.selects RX1 yX1_isWidow yX1_isWidow ∈ g_WS := List.mem_filter.mpr ⟨k_t3 (List.mem_of_getElem? (i := 78) (by decide +kernel)), rfl⟩
theorem k_88 : Cond.code (mY M_X1_bigGroupsInRun) (mC M_X1_bigGroupsInRun) (mL M_X1_bigGroupsInRun) (mR M_X1_bigGroupsInRun) ∈ g_WS := List.mem_filter.mpr ⟨k_t3 (List.mem_of_getElem? (i := 83) (by decide +kernel)), rfl⟩
theorem k_89 : Cond.instanceMethod yX1_bigGroupsInRun ∈ g_WS := List.mem_filter.mpr ⟨k_t3 (List.mem_of_getElem? (i := 82) (by decide +kernel)), rfl⟩
theorem k_90 : Cond.selects RX1 yX1_bigGroupsInRun yX1_bigGroupsInRun ∈ g_WS := List.mem_filter.mpr ⟨k_sel (q := (yX1_bigGroupsInRun, 10)) (List.mem_of_getElem? (i := 23) (by decide +kernel)), rfl⟩
theorem k_91 : Cond.code (mY M_X1_pagesWithFrame) (mC M_X1_pagesWithFrame) (mL M_X1_pagesWithFrame) (mR M_X1_pagesWithFrame) ∈ g_WS := List.mem_filter.mpr ⟨k_t2 (List.mem_of_getElem? (i := 120) (by decide +kernel)), rfl⟩
theorem k_92 : Cond.instanceMethod yX1_pagesWithFrame ∈ g_WS := List.mem_filter.mpr ⟨k_t2 (List.mem_of_getElem? (i := 118) (by decide +kernel)), rfl⟩
theorem k_93 : Cond.selects RX1 yX1_pagesWithFrame yX1_pagesWithFrame ∈ g_WS := List.mem_filter.mpr ⟨k_t2 (List.mem_of_getElem? (i := 119) (by decide +kernel)), rfl⟩
theorem k_94 : Cond.code (mY M_X1_pagesWithSharedFrame) (mC M_X1_pagesWithSharedFrame) (mL M_X1_pagesWithSharedFrame) (mR M_X1_pagesWithSharedFrame) ∈ g_WS := List.mem_filter.mpr ⟨k_t2 (List.mem_of_getElem? (i := 6) (by decide +kernel)), rfl⟩
theorem k_95 : Cond.instanceMethod yX1_pagesWithSharedFrame ∈ g_WS := List.mem_filter.mpr ⟨k_t2 (List.mem_of_getElem? (i := 4) (by decide +kernel)), rfl⟩
theorem k_96 : Cond.selects RX1 yX1_pagesWithSharedFrame yX1_pagesWithSharedFrame ∈ g_WS := List.mem_filter.mpr ⟨k_t2 (List.mem_of_getElem? (i := 5) (by decide +kernel)), rfl⟩
theorem k_97 : Cond.code (mY M_X1_pagesWithValueZero) (mC M_X1_pagesWithValueZero) (mL M_X1_pagesWithValueZero) (mR M_X1_pagesWithValueZero) ∈ g_WS := List.mem_filter.mpr ⟨k_t2 (List.mem_of_getElem? (i := 14) (by decide +kernel)), rfl⟩
theorem k_98 : Cond.instanceMethod yX1_pagesWithValueZero ∈ g_WS := List.mem_filter.mpr ⟨k_t2 (List.mem_of_getElem? (i := 13) (by decide +kernel)), rfl⟩
theorem k_99 : Cond.selects RX1 yX1_pagesWithValueZero yX1_pagesWithValueZero ∈ g_WS := List.mem_filter.mpr ⟨k_sel (q := (yX1_pagesWithValueZero, 10)) (List.mem_of_getElem? (i := 5) (by decide +kernel)), rfl⟩
theorem k_100 : Cond.code (mY M_X1_isShared) (mC M_X1_isShared) (mL M_X1_isShared) (mR M_X1_isShared) ∈ g_WS := List.mem_filter.mpr ⟨k_t2 (List.mem_of_getElem? (i := 10) (by decide +kernel)), rfl⟩
theorem k_101 : Cond.instanceMethod yX1_isShared ∈ g_WS := List.mem_filter.mpr ⟨k_t2 (List.mem_of_getElem? (i := 9) (by decide +kernel)), rfl⟩
theorem k_102 : Cond.selects RX1 yX1_isShared yX1_isShared ∈ g_WS := List.mem_filter.mpr ⟨k_sel (q := (yX1_isShared, 10)) (List.mem_of_getElem? (i := 4) (by decide +kernel)), rfl⟩
theorem k_103 : Cond.code (mY M_X1_isRunFree) (mC M_X1_isRunFree) (mL M_X1_isRunFree) (mR M_X1_isRunFree) ∈ g_WS := List.mem_filter.mpr ⟨k_t2 (List.mem_of_getElem? (i := 34) (by decide +kernel)), rfl⟩
theorem k_104 : Cond.instanceMethod yX1_isRunFree ∈ g_WS := List.mem_filter.mpr ⟨k_t2 (List.mem_of_getElem? (i := 33) (by decide +kernel)), rfl⟩
theorem k_105 : Cond.selects RX1 yX1_isRunFree yX1_isRunFree ∈ g_WS := List.mem_filter.mpr ⟨k_sel (q := (yX1_isRunFree, 10)) (List.mem_of_getElem? (i := 8) (by decide +kernel)), rfl⟩
theorem k_106 : Cond.code (mY M_X1_lowestFreeRun) (mC M_X1_lowestFreeRun) (mL M_X1_lowestFreeRun) (mR M_X1_lowestFreeRun) ∈ g_WS := List.mem_filter.mpr ⟨k_t2 (List.mem_of_getElem? (i := 116) (by decide +kernel)), rfl⟩
theorem k_107 : Cond.instanceMethod yX1_lowestFreeRun ∈ g_WS := List.mem_filter.mpr ⟨k_t2 (List.mem_of_getElem? (i := 115) (by decide +kernel)), rfl⟩
theorem k_108 : Cond.selects RX1 yX1_lowestFreeRun yX1_lowestFreeRun ∈ g_WS := List.mem_filter.mpr ⟨k_sel (q := (yX1_lowestFreeRun, 10)) (List.mem_of_getElem? (i := 11) (by decide +kernel)), rfl⟩
theorem k_109 : Cond.code (mY M_X1_lowestSingleFrame) (mC M_X1_lowestSingleFrame) (mL M_X1_lowestSingleFrame) (mR M_X1_lowestSingleFrame) ∈ g_WS := List.mem_filter.mpr ⟨k_t2 (List.mem_of_getElem? (i := 140) (by decide +kernel)), rfl⟩
theorem k_110 : Cond.instanceMethod yX1_lowestSingleFrame ∈ g_WS := List.mem_filter.mpr ⟨k_t2 (List.mem_of_getElem? (i := 139) (by decide +kernel)), rfl⟩
theorem k_111 : Cond.selects RX1 yX1_lowestSingleFrame yX1_lowestSingleFrame ∈ g_WS := List.mem_filter.mpr ⟨k_sel (q := (yX1_lowestSingleFrame, 10)) (List.mem_of_getElem? (i := 16) (by decide +kernel)), rfl⟩
theorem k_112 : Cond.code (mY M_X1_takeFrame) (mC M_X1_takeFrame) (mL M_X1_takeFrame) (mR M_X1_takeFrame) ∈ g_WS := List.mem_filter.mpr ⟨k_t2 (List.mem_of_getElem? (i := 128) (by decide +kernel)), rfl⟩
theorem k_113 : Cond.instanceMethod yX1_takeFrame ∈ g_WS := List.mem_filter.mpr ⟨k_t2 (List.mem_of_getElem? (i := 127) (by decide +kernel)), rfl⟩
theorem k_114 : Cond.selects RX1 yX1_takeFrame yX1_takeFrame ∈ g_WS := List.mem_filter.mpr ⟨k_sel (q := (yX1_takeFrame, 10)) (List.mem_of_getElem? (i := 13) (by decide +kernel)), rfl⟩
theorem k_115 : Cond.code (mY M_X1_letGo) (mC M_X1_letGo) (mL M_X1_letGo) (mR M_X1_letGo) ∈ g_WS := List.mem_filter.mpr ⟨k_t1 (List.mem_of_getElem? (i := 238) (by decide +kernel)), rfl⟩
theorem k_116 : Cond.instanceMethod yX1_letGo ∈ g_WS := List.mem_filter.mpr ⟨k_t1 (List.mem_of_getElem? (i := 237) (by decide +kernel)), rfl⟩
theorem k_117 : Cond.selects RX1 yX1_letGo yX1_letGo ∈ g_WS := List.mem_filter.mpr ⟨k_sel (q := (yX1_letGo, 10)) (List.mem_of_getElem? (i := 2) (by decide +kernel)), rfl⟩
theorem k_118 : Cond.code (mY M_X1_becomeBig) (mC M_X1_becomeBig) (mL M_X1_becomeBig) (mR M_X1_becomeBig) ∈ g_WS := List.mem_filter.mpr ⟨k_t2 (List.mem_of_getElem? (i := 132) (by decide +kernel)), rfl⟩
theorem k_119 : Cond.instanceMethod yX1_becomeBig ∈ g_WS := List.mem_filter.mpr ⟨k_t2 (List.mem_of_getElem? (i := 131) (by decide +kernel)), rfl⟩
theorem k_120 : Cond.selects RX1 yX1_becomeBig yX1_becomeBig ∈ g_WS := List.mem_filter.mpr ⟨k_sel (q := (yX1_becomeBig, 10)) (List.mem_of_getElem? (i := 14) (by decide +kernel)), rfl⟩
theorem k_121 : Cond.code (mY M_X1_becomeSmall) (mC M_X1_becomeSmall) (mL M_X1_becomeSmall) (mR M_X1_becomeSmall) ∈ g_WS := List.mem_filter.mpr ⟨k_t2 (List.mem_of_getElem? (i := 22) (by decide +kernel)), rfl⟩
theorem k_122 : Cond.instanceMethod yX1_becomeSmall ∈ g_WS := List.mem_filter.mpr ⟨k_t2 (List.mem_of_getElem? (i := 21) (by decide +kernel)), rfl⟩
theorem k_123 : Cond.selects RX1 yX1_becomeSmall yX1_becomeSmall ∈ g_WS := List.mem_filter.mpr ⟨k_sel (q := (yX1_becomeSmall, 10)) (List.mem_of_getElem? (i := 7) (by decide +kernel)), rfl⟩
theorem k_124 : Cond.code (mY M_X1_becomeTorn) (mC M_X1_becomeTorn) (mL M_X1_becomeTorn) (mR M_X1_becomeTorn) ∈ g_WS := List.mem_filter.mpr ⟨k_t2 (List.mem_of_getElem? (i := 18) (by decide +kernel)), rfl⟩
theorem k_125 : Cond.instanceMethod yX1_becomeTorn ∈ g_WS := List.mem_filter.mpr ⟨k_t2 (List.mem_of_getElem? (i := 17) (by decide +kernel)), rfl⟩
theorem k_126 : Cond.selects RX1 yX1_becomeTorn yX1_becomeTorn ∈ g_WS := List.mem_filter.mpr ⟨k_sel (q := (yX1_becomeTorn, 10)) (List.mem_of_getElem? (i := 6) (by decide +kernel)), rfl⟩
theorem k_127 : Cond.code (mY M_X1_outcomeOfWrite) (mC M_X1_outcomeOfWrite) (mL M_X1_outcomeOfWrite) (mR M_X1_outcomeOfWrite) ∈ g_WS := List.mem_filter.mpr ⟨k_t2 (List.mem_of_getElem? (i := 86) (by decide +kernel)), rfl⟩
theorem k_128 : Cond.instanceMethod yX1_outcomeOfWrite ∈ g_WS := List.mem_filter.mpr ⟨k_t2 (List.mem_of_getElem? (i := 84) (by decide +kernel)), rfl⟩
theorem k_129 : Cond.selects RX1 yX1_outcomeOfWrite yX1_outcomeOfWrite ∈ g_WS := List.mem_filter.mpr ⟨k_t2 (List.mem_of_getElem? (i := 85) (by decide +kernel)), rfl⟩
theorem k_130 : Cond.code (mY M_X1_doWrite) (mC M_X1_doWrite) (mL M_X1_doWrite) (mR M_X1_doWrite) ∈ g_WS := List.mem_filter.mpr ⟨k_t2 (List.mem_of_getElem? (i := 107) (by decide +kernel)), rfl⟩
theorem k_131 : Cond.instanceMethod yX1_doWrite ∈ g_WS := List.mem_filter.mpr ⟨k_t2 (List.mem_of_getElem? (i := 105) (by decide +kernel)), rfl⟩
theorem k_132 : Cond.selects RX1 yX1_doWrite yX1_doWrite ∈ g_WS := List.mem_filter.mpr ⟨k_t2 (List.mem_of_getElem? (i := 106) (by decide +kernel)), rfl⟩
theorem k_133 : Cond.code (mY M_X1_bringIn) (mC M_X1_bringIn) (mL M_X1_bringIn) (mR M_X1_bringIn) ∈ g_WS := List.mem_filter.mpr ⟨k_t2 (List.mem_of_getElem? (i := 112) (by decide +kernel)), rfl⟩
theorem k_134 : Cond.instanceMethod yX1_bringIn ∈ g_WS := List.mem_filter.mpr ⟨k_t2 (List.mem_of_getElem? (i := 111) (by decide +kernel)), rfl⟩
theorem k_135 : Cond.selects RX1 yX1_bringIn yX1_bringIn ∈ g_WS := List.mem_filter.mpr ⟨k_sel (q := (yX1_bringIn, 10)) (List.mem_of_getElem? (i := 10) (by decide +kernel)), rfl⟩
theorem k_136 : Cond.code (mY M_X1_bringInWhole) (mC M_X1_bringInWhole) (mL M_X1_bringInWhole) (mR M_X1_bringInWhole) ∈ g_WS := List.mem_filter.mpr ⟨k_t2 (List.mem_of_getElem? (i := 124) (by decide +kernel)), rfl⟩
theorem k_137 : Cond.instanceMethod yX1_bringInWhole ∈ g_WS := List.mem_filter.mpr ⟨k_t2 (List.mem_of_getElem? (i := 123) (by decide +kernel)), rfl⟩
theorem k_138 : Cond.selects RX1 yX1_bringInWhole yX1_bringInWhole ∈ g_WS := List.mem_filter.mpr ⟨k_sel (q := (yX1_bringInWhole, 10)) (List.mem_of_getElem? (i := 12) (by decide +kernel)), rfl⟩
theorem k_139 : Cond.code (mY M_X1_copyOut) (mC M_X1_copyOut) (mL M_X1_copyOut) (mR M_X1_copyOut) ∈ g_WS := List.mem_filter.mpr ⟨k_t2 (List.mem_of_getElem? (i := 144) (by decide +kernel)), rfl⟩
theorem k_140 : Cond.instanceMethod yX1_copyOut ∈ g_WS := List.mem_filter.mpr ⟨k_t2 (List.mem_of_getElem? (i := 143) (by decide +kernel)), rfl⟩
theorem k_141 : Cond.selects RX1 yX1_copyOut yX1_copyOut ∈ g_WS := List.mem_filter.mpr ⟨k_sel (q := (yX1_copyOut, 10)) (List.mem_of_getElem? (i := 17) (by decide +kernel)), rfl⟩
theorem k_142 : Cond.code (mY M_X1_takeSingleFrame) (mC M_X1_takeSingleFrame) (mL M_X1_takeSingleFrame) (mR M_X1_takeSingleFrame) ∈ g_WS := List.mem_filter.mpr ⟨k_t2 (List.mem_of_getElem? (i := 136) (by decide +kernel)), rfl⟩
theorem k_143 : Cond.instanceMethod yX1_takeSingleFrame ∈ g_WS := List.mem_filter.mpr ⟨k_t2 (List.mem_of_getElem? (i := 135) (by decide +kernel)), rfl⟩
theorem k_144 : Cond.selects RX1 yX1_takeSingleFrame yX1_takeSingleFrame ∈ g_WS := List.mem_filter.mpr ⟨k_sel (q := (yX1_takeSingleFrame, 10)) (List.mem_of_getElem? (i := 15) (by decide +kernel)), rfl⟩
theorem k_145 : Cond.code (mY M_X1_lowestUnusedProcess) (mC M_X1_lowestUnusedProcess) (mL M_X1_lowestUnusedProcess) (mR M_X1_lowestUnusedProcess) ∈ g_WS := List.mem_filter.mpr ⟨k_t2 (List.mem_of_getElem? (i := 165) (by decide +kernel)), rfl⟩
theorem k_146 : Cond.instanceMethod yX1_lowestUnusedProcess ∈ g_WS := List.mem_filter.mpr ⟨k_t2 (List.mem_of_getElem? (i := 164) (by decide +kernel)), rfl⟩
theorem k_147 : Cond.selects RX1 yX1_lowestUnusedProcess yX1_lowestUnusedProcess ∈ g_WS := List.mem_filter.mpr ⟨k_sel (q := (yX1_lowestUnusedProcess, 10)) (List.mem_of_getElem? (i := 19) (by decide +kernel)), rfl⟩
theorem k_148 : Cond.code (mY M_X1_canFork) (mC M_X1_canFork) (mL M_X1_canFork) (mR M_X1_canFork) ∈ g_WS := List.mem_filter.mpr ⟨k_t2 (List.mem_of_getElem? (i := 161) (by decide +kernel)), rfl⟩
theorem k_149 : Cond.instanceMethod yX1_canFork ∈ g_WS := List.mem_filter.mpr ⟨k_t2 (List.mem_of_getElem? (i := 159) (by decide +kernel)), rfl⟩
theorem k_150 : Cond.selects RX1 yX1_canFork yX1_canFork ∈ g_WS := List.mem_filter.mpr ⟨k_t2 (List.mem_of_getElem? (i := 160) (by decide +kernel)), rfl⟩
theorem k_151 : Cond.code (mY M_X1_doFork) (mC M_X1_doFork) (mL M_X1_doFork) (mR M_X1_doFork) ∈ g_WS := List.mem_filter.mpr ⟨k_t2 (List.mem_of_getElem? (i := 170) (by decide +kernel)), rfl⟩
theorem k_152 : Cond.instanceMethod yX1_doFork ∈ g_WS := List.mem_filter.mpr ⟨k_t2 (List.mem_of_getElem? (i := 168) (by decide +kernel)), rfl⟩
theorem k_153 : Cond.selects RX1 yX1_doFork yX1_doFork ∈ g_WS := List.mem_filter.mpr ⟨k_t2 (List.mem_of_getElem? (i := 169) (by decide +kernel)), rfl⟩
theorem k_154 : Cond.code (mY M_X1_canExit) (mC M_X1_canExit) (mL M_X1_canExit) (mR M_X1_canExit) ∈ g_WS := List.mem_filter.mpr ⟨k_t2 (List.mem_of_getElem? (i := 181) (by decide +kernel)), rfl⟩
theorem k_155 : Cond.instanceMethod yX1_canExit ∈ g_WS := List.mem_filter.mpr ⟨k_t2 (List.mem_of_getElem? (i := 179) (by decide +kernel)), rfl⟩
theorem k_156 : Cond.selects RX1 yX1_canExit yX1_canExit ∈ g_WS := List.mem_filter.mpr ⟨k_t2 (List.mem_of_getElem? (i := 180) (by decide +kernel)), rfl⟩
theorem k_157 : Cond.code (mY M_X1_doExit) (mC M_X1_doExit) (mL M_X1_doExit) (mR M_X1_doExit) ∈ g_WS := List.mem_filter.mpr ⟨k_t2 (List.mem_of_getElem? (i := 192) (by decide +kernel)), rfl⟩
theorem k_158 : Cond.instanceMethod yX1_doExit ∈ g_WS := List.mem_filter.mpr ⟨k_t2 (List.mem_of_getElem? (i := 190) (by decide +kernel)), rfl⟩
theorem k_159 : Cond.selects RX1 yX1_doExit yX1_doExit ∈ g_WS := List.mem_filter.mpr ⟨k_t2 (List.mem_of_getElem? (i := 191) (by decide +kernel)), rfl⟩
theorem k_160 : Cond.code (mY M_X1_obstacleToMarriage) (mC M_X1_obstacleToMarriage) (mL M_X1_obstacleToMarriage) (mR M_X1_obstacleToMarriage) ∈ g_WS := List.mem_filter.mpr ⟨k_t2 (List.mem_of_getElem? (i := 213) (by decide +kernel)), rfl⟩
theorem k_161 : Cond.instanceMethod yX1_obstacleToMarriage ∈ g_WS := List.mem_filter.mpr ⟨k_t2 (List.mem_of_getElem? (i := 211) (by decide +kernel)), rfl⟩
theorem k_162 : Cond.selects RX1 yX1_obstacleToMarriage yX1_obstacleToMarriage ∈ g_WS := List.mem_filter.mpr ⟨k_t2 (List.mem_of_getElem? (i := 212) (by decide +kernel)), rfl⟩
theorem k_163 : Cond.code (mY M_X1_isInPlace) (mC M_X1_isInPlace) (mL M_X1_isInPlace) (mR M_X1_isInPlace) ∈ g_WS := List.mem_filter.mpr ⟨k_t2 (List.mem_of_getElem? (i := 217) (by decide +kernel)), rfl⟩
theorem k_164 : Cond.instanceMethod yX1_isInPlace ∈ g_WS := List.mem_filter.mpr ⟨k_t2 (List.mem_of_getElem? (i := 216) (by decide +kernel)), rfl⟩
theorem k_165 : Cond.selects RX1 yX1_isInPlace yX1_isInPlace ∈ g_WS := List.mem_filter.mpr ⟨k_sel (q := (yX1_isInPlace, 10)) (List.mem_of_getElem? (i := 21) (by decide +kernel)), rfl⟩
theorem k_166 : Cond.code (mY M_X1_doMarry) (mC M_X1_doMarry) (mL M_X1_doMarry) (mR M_X1_doMarry) ∈ g_WS := List.mem_filter.mpr ⟨k_t2 (List.mem_of_getElem? (i := 222) (by decide +kernel)), rfl⟩
theorem k_167 : Cond.instanceMethod yX1_doMarry ∈ g_WS := List.mem_filter.mpr ⟨k_t2 (List.mem_of_getElem? (i := 220) (by decide +kernel)), rfl⟩
theorem k_168 : Cond.selects RX1 yX1_doMarry yX1_doMarry ∈ g_WS := List.mem_filter.mpr ⟨k_t2 (List.mem_of_getElem? (i := 221) (by decide +kernel)), rfl⟩
theorem k_169 : Cond.code (mY M_X1_moveTo) (mC M_X1_moveTo) (mL M_X1_moveTo) (mR M_X1_moveTo) ∈ g_WS := List.mem_filter.mpr ⟨k_t2 (List.mem_of_getElem? (i := 228) (by decide +kernel)), rfl⟩
theorem k_170 : Cond.instanceMethod yX1_moveTo ∈ g_WS := List.mem_filter.mpr ⟨k_t2 (List.mem_of_getElem? (i := 227) (by decide +kernel)), rfl⟩
theorem k_171 : Cond.selects RX1 yX1_moveTo yX1_moveTo ∈ g_WS := List.mem_filter.mpr ⟨k_sel (q := (yX1_moveTo, 10)) (List.mem_of_getElem? (i := 22) (by decide +kernel)), rfl⟩
theorem k_172 : Cond.code (mY M_X1_marryNext) (mC M_X1_marryNext) (mL M_X1_marryNext) (mR M_X1_marryNext) ∈ g_WS := List.mem_filter.mpr ⟨k_t3 (List.mem_of_getElem? (i := 128) (by decide +kernel)), rfl⟩
theorem k_173 : Cond.instanceMethod yX1_marryNext ∈ g_WS := List.mem_filter.mpr ⟨k_t3 (List.mem_of_getElem? (i := 126) (by decide +kernel)), rfl⟩
theorem k_174 : Cond.selects RX1 yX1_marryNext yX1_marryNext ∈ g_WS := List.mem_filter.mpr ⟨k_t3 (List.mem_of_getElem? (i := 127) (by decide +kernel)), rfl⟩
theorem k_175 : Cond.code (mY M_X1_doTear) (mC M_X1_doTear) (mL M_X1_doTear) (mR M_X1_doTear) ∈ g_WS := List.mem_filter.mpr ⟨k_t3 (List.mem_of_getElem? (i := 1) (by decide +kernel)), rfl⟩
theorem k_176 : Cond.instanceMethod yX1_doTear ∈ g_WS := List.mem_filter.mpr ⟨k_t2 (List.mem_of_getElem? (i := 239) (by decide +kernel)), rfl⟩
theorem k_177 : Cond.selects RX1 yX1_doTear yX1_doTear ∈ g_WS := List.mem_filter.mpr ⟨k_t3 (List.mem_of_getElem? (i := 0) (by decide +kernel)), rfl⟩
theorem k_178 : Cond.code (mY M_X1_doPress) (mC M_X1_doPress) (mL M_X1_doPress) (mR M_X1_doPress) ∈ g_WS := List.mem_filter.mpr ⟨k_t1 (List.mem_of_getElem? (i := 210) (by decide +kernel)), rfl⟩
theorem k_179 : Cond.instanceMethod yX1_doPress ∈ g_WS := List.mem_filter.mpr ⟨k_t1 (List.mem_of_getElem? (i := 208) (by decide +kernel)), rfl⟩
theorem k_180 : Cond.selects RX1 yX1_doPress yX1_doPress ∈ g_WS := List.mem_filter.mpr ⟨k_t1 (List.mem_of_getElem? (i := 209) (by decide +kernel)), rfl⟩
theorem k_181 : Cond.code (mY M_X1_loseFirstPage) (mC M_X1_loseFirstPage) (mL M_X1_loseFirstPage) (mR M_X1_loseFirstPage) ∈ g_WS := List.mem_filter.mpr ⟨k_t1 (List.mem_of_getElem? (i := 218) (by decide +kernel)), rfl⟩
theorem k_182 : Cond.instanceMethod yX1_loseFirstPage ∈ g_WS := List.mem_filter.mpr ⟨k_t1 (List.mem_of_getElem? (i := 217) (by decide +kernel)), rfl⟩
theorem k_183 : Cond.selects RX1 yX1_loseFirstPage yX1_loseFirstPage ∈ g_WS := List.mem_filter.mpr ⟨k_sel (q := (yX1_loseFirstPage, 10)) (List.mem_of_getElem? (i := 1) (by decide +kernel)), rfl⟩
theorem k_184 : Cond.code (mY M_X1_tearEmptiestGroup) (mC M_X1_tearEmptiestGroup) (mL M_X1_tearEmptiestGroup) (mR M_X1_tearEmptiestGroup) ∈ g_WS := List.mem_filter.mpr ⟨k_t2 (List.mem_of_getElem? (i := 2) (by decide +kernel)), rfl⟩
theorem k_185 : Cond.instanceMethod yX1_tearEmptiestGroup ∈ g_WS := List.mem_filter.mpr ⟨k_t2 (List.mem_of_getElem? (i := 1) (by decide +kernel)), rfl⟩
theorem k_186 : Cond.selects RX1 yX1_tearEmptiestGroup yX1_tearEmptiestGroup ∈ g_WS := List.mem_filter.mpr ⟨k_sel (q := (yX1_tearEmptiestGroup, 10)) (List.mem_of_getElem? (i := 3) (by decide +kernel)), rfl⟩
theorem k_187 : Cond.code (mY M_X2_init) (mC M_X2_init) (mL M_X2_init) (mR M_X2_init) ∈ g_WS := List.mem_filter.mpr ⟨k_t1 (List.mem_of_getElem? (i := 26) (by decide +kernel)), rfl⟩
theorem k_188 : Cond.initialized RX2 ∈ g_WS := List.mem_filter.mpr ⟨k_t1 (List.mem_of_getElem? (i := 2) (by decide +kernel)), rfl⟩
theorem k_189 : Cond.instanceMethod yX2_init ∈ g_WS := List.mem_filter.mpr ⟨k_t1 (List.mem_of_getElem? (i := 25) (by decide +kernel)), rfl⟩
theorem k_190 : Cond.code (mY M_X3_init) (mC M_X3_init) (mL M_X3_init) (mR M_X3_init) ∈ g_WS := List.mem_filter.mpr ⟨k_t1 (List.mem_of_getElem? (i := 18) (by decide +kernel)), rfl⟩
theorem k_191 : Cond.initialized RX3 ∈ g_WS := List.mem_filter.mpr ⟨k_t1 (List.mem_of_getElem? (i := 1) (by decide +kernel)), rfl⟩
theorem k_192 : Cond.instanceMethod yX3_init ∈ g_WS := List.mem_filter.mpr ⟨k_t1 (List.mem_of_getElem? (i := 17) (by decide +kernel)), rfl⟩
theorem k_193 : Cond.code (mY M_X3_about) (mC M_X3_about) (mL M_X3_about) (mR M_X3_about) ∈ g_WS := List.mem_filter.mpr ⟨k_t3 (List.mem_of_getElem? (i := 94) (by decide +kernel)), rfl⟩
theorem k_194 : Cond.instanceMethod yX3_about ∈ g_WS := List.mem_filter.mpr ⟨k_t3 (List.mem_of_getElem? (i := 92) (by decide +kernel)), rfl⟩
theorem k_195 : Cond.selects RX3 yX3_about yX3_about ∈ g_WS := List.mem_filter.mpr ⟨k_t3 (List.mem_of_getElem? (i := 93) (by decide +kernel)), rfl⟩
theorem k_196 : Cond.code (mY M_X3_page) (mC M_X3_page) (mL M_X3_page) (mR M_X3_page) ∈ g_WS := List.mem_filter.mpr ⟨k_t3 (List.mem_of_getElem? (i := 62) (by decide +kernel)), rfl⟩
theorem k_197 : Cond.instanceMethod yX3_page ∈ g_WS := List.mem_filter.mpr ⟨k_t3 (List.mem_of_getElem? (i := 60) (by decide +kernel)), rfl⟩
theorem k_198 : Cond.selects RX3 yX3_page yX3_page ∈ g_WS := List.mem_filter.mpr ⟨k_t3 (List.mem_of_getElem? (i := 61) (by decide +kernel)), rfl⟩
theorem k_199 : Cond.code (mY M_X3_user) (mC M_X3_user) (mL M_X3_user) (mR M_X3_user) ∈ g_WS := List.mem_filter.mpr ⟨k_t3 (List.mem_of_getElem? (i := 52) (by decide +kernel)), rfl⟩
theorem k_200 : Cond.instanceMethod yX3_user ∈ g_WS := List.mem_filter.mpr ⟨k_t3 (List.mem_of_getElem? (i := 50) (by decide +kernel)), rfl⟩
theorem k_201 : Cond.selects RX3 yX3_user yX3_user ∈ g_WS := List.mem_filter.mpr ⟨k_t3 (List.mem_of_getElem? (i := 51) (by decide +kernel)), rfl⟩
theorem k_202 : Cond.code (mY M_X3_group) (mC M_X3_group) (mL M_X3_group) (mR M_X3_group) ∈ g_WS := List.mem_filter.mpr ⟨k_t3 (List.mem_of_getElem? (i := 74) (by decide +kernel)), rfl⟩
theorem k_203 : Cond.instanceMethod yX3_group ∈ g_WS := List.mem_filter.mpr ⟨k_t3 (List.mem_of_getElem? (i := 72) (by decide +kernel)), rfl⟩
theorem k_204 : Cond.selects RX3 yX3_group yX3_group ∈ g_WS := List.mem_filter.mpr ⟨k_t3 (List.mem_of_getElem? (i := 73) (by decide +kernel)), rfl⟩
theorem k_205 : Cond.code (mY M_X3_write) (mC M_X3_write) (mL M_X3_write) (mR M_X3_write) ∈ g_WS := List.mem_filter.mpr ⟨k_t2 (List.mem_of_getElem? (i := 53) (by decide +kernel)), rfl⟩
theorem k_206 : Cond.instanceMethod yX3_write ∈ g_WS := List.mem_filter.mpr ⟨k_t2 (List.mem_of_getElem? (i := 51) (by decide +kernel)), rfl⟩
theorem k_207 : Cond.selects RX3 yX3_write yX3_write ∈ g_WS := List.mem_filter.mpr ⟨k_t2 (List.mem_of_getElem? (i := 52) (by decide +kernel)), rfl⟩
theorem k_208 : Cond.code (mY M_X3_fork) (mC M_X3_fork) (mL M_X3_fork) (mR M_X3_fork) ∈ g_WS := List.mem_filter.mpr ⟨k_t2 (List.mem_of_getElem? (i := 151) (by decide +kernel)), rfl⟩
theorem k_209 : Cond.instanceMethod yX3_fork ∈ g_WS := List.mem_filter.mpr ⟨k_t2 (List.mem_of_getElem? (i := 149) (by decide +kernel)), rfl⟩
theorem k_210 : Cond.selects RX3 yX3_fork yX3_fork ∈ g_WS := List.mem_filter.mpr ⟨k_t2 (List.mem_of_getElem? (i := 150) (by decide +kernel)), rfl⟩
theorem k_211 : Cond.code (mY M_X3_exit) (mC M_X3_exit) (mL M_X3_exit) (mR M_X3_exit) ∈ g_WS := List.mem_filter.mpr ⟨k_t2 (List.mem_of_getElem? (i := 177) (by decide +kernel)), rfl⟩
theorem k_212 : Cond.instanceMethod yX3_exit ∈ g_WS := List.mem_filter.mpr ⟨k_t2 (List.mem_of_getElem? (i := 175) (by decide +kernel)), rfl⟩
theorem k_213 : Cond.selects RX3 yX3_exit yX3_exit ∈ g_WS := List.mem_filter.mpr ⟨k_t2 (List.mem_of_getElem? (i := 176) (by decide +kernel)), rfl⟩
theorem k_214 : Cond.code (mY M_X3_marry) (mC M_X3_marry) (mL M_X3_marry) (mR M_X3_marry) ∈ g_WS := List.mem_filter.mpr ⟨k_t2 (List.mem_of_getElem? (i := 200) (by decide +kernel)), rfl⟩
theorem k_215 : Cond.instanceMethod yX3_marry ∈ g_WS := List.mem_filter.mpr ⟨k_t2 (List.mem_of_getElem? (i := 198) (by decide +kernel)), rfl⟩
theorem k_216 : Cond.selects RX3 yX3_marry yX3_marry ∈ g_WS := List.mem_filter.mpr ⟨k_t2 (List.mem_of_getElem? (i := 199) (by decide +kernel)), rfl⟩
theorem k_217 : Cond.code (mY M_X3_tear) (mC M_X3_tear) (mL M_X3_tear) (mR M_X3_tear) ∈ g_WS := List.mem_filter.mpr ⟨k_t2 (List.mem_of_getElem? (i := 235) (by decide +kernel)), rfl⟩
theorem k_218 : Cond.instanceMethod yX3_tear ∈ g_WS := List.mem_filter.mpr ⟨k_t2 (List.mem_of_getElem? (i := 233) (by decide +kernel)), rfl⟩
theorem k_219 : Cond.selects RX3 yX3_tear yX3_tear ∈ g_WS := List.mem_filter.mpr ⟨k_t2 (List.mem_of_getElem? (i := 234) (by decide +kernel)), rfl⟩
theorem k_220 : Cond.code (mY M_X3_press) (mC M_X3_press) (mL M_X3_press) (mR M_X3_press) ∈ g_WS := List.mem_filter.mpr ⟨k_t1 (List.mem_of_getElem? (i := 124) (by decide +kernel)), rfl⟩
theorem k_221 : Cond.instanceMethod yX3_press ∈ g_WS := List.mem_filter.mpr ⟨k_t1 (List.mem_of_getElem? (i := 122) (by decide +kernel)), rfl⟩
theorem k_222 : Cond.selects RX3 yX3_press yX3_press ∈ g_WS := List.mem_filter.mpr ⟨k_t1 (List.mem_of_getElem? (i := 123) (by decide +kernel)), rfl⟩
theorem k_223 : Cond.code (mY M_X3_setEager) (mC M_X3_setEager) (mL M_X3_setEager) (mR M_X3_setEager) ∈ g_WS := List.mem_filter.mpr ⟨k_t2 (List.mem_of_getElem? (i := 26) (by decide +kernel)), rfl⟩
theorem k_224 : Cond.instanceMethod yX3_setEager ∈ g_WS := List.mem_filter.mpr ⟨k_t2 (List.mem_of_getElem? (i := 24) (by decide +kernel)), rfl⟩
theorem k_225 : Cond.selects RX3 yX3_setEager yX3_setEager ∈ g_WS := List.mem_filter.mpr ⟨k_t2 (List.mem_of_getElem? (i := 25) (by decide +kernel)), rfl⟩
theorem k_226 : Cond.code (mY M_X3_whyNot) (mC M_X3_whyNot) (mL M_X3_whyNot) (mR M_X3_whyNot) ∈ g_WS := List.mem_filter.mpr ⟨k_t3 (List.mem_of_getElem? (i := 90) (by decide +kernel)), rfl⟩
theorem k_227 : Cond.instanceMethod yX3_whyNot ∈ g_WS := List.mem_filter.mpr ⟨k_t3 (List.mem_of_getElem? (i := 88) (by decide +kernel)), rfl⟩
theorem k_228 : Cond.selects RX3 yX3_whyNot yX3_whyNot ∈ g_WS := List.mem_filter.mpr ⟨k_t3 (List.mem_of_getElem? (i := 89) (by decide +kernel)), rfl⟩
theorem k_229 : Cond.code (mY M_X3_wouldDo) (mC M_X3_wouldDo) (mL M_X3_wouldDo) (mR M_X3_wouldDo) ∈ g_WS := List.mem_filter.mpr ⟨k_t3 (List.mem_of_getElem? (i := 70) (by decide +kernel)), rfl⟩
theorem k_230 : Cond.instanceMethod yX3_wouldDo ∈ g_WS := List.mem_filter.mpr ⟨k_t3 (List.mem_of_getElem? (i := 68) (by decide +kernel)), rfl⟩
theorem k_231 : Cond.selects RX3 yX3_wouldDo yX3_wouldDo ∈ g_WS := List.mem_filter.mpr ⟨k_t3 (List.mem_of_getElem? (i := 69) (by decide +kernel)), rfl⟩
theorem k_232 : Cond.code (mY M_X3_marriages) (mC M_X3_marriages) (mL M_X3_marriages) (mR M_X3_marriages) ∈ g_WS := List.mem_filter.mpr ⟨k_t3 (List.mem_of_getElem? (i := 123) (by decide +kernel)), rfl⟩
theorem k_233 : Cond.instanceMethod yX3_marriages ∈ g_WS := List.mem_filter.mpr ⟨k_t3 (List.mem_of_getElem? (i := 121) (by decide +kernel)), rfl⟩
theorem k_234 : Cond.selects RX3 yX3_marriages yX3_marriages ∈ g_WS := List.mem_filter.mpr ⟨k_t3 (List.mem_of_getElem? (i := 122) (by decide +kernel)), rfl⟩
theorem k_235 : Cond.code (mY M_X3_mostFree) (mC M_X3_mostFree) (mL M_X3_mostFree) (mR M_X3_mostFree) ∈ g_WS := List.mem_filter.mpr ⟨k_t3 (List.mem_of_getElem? (i := 133) (by decide +kernel)), rfl⟩
theorem k_236 : Cond.instanceMethod yX3_mostFree ∈ g_WS := List.mem_filter.mpr ⟨k_t3 (List.mem_of_getElem? (i := 131) (by decide +kernel)), rfl⟩
theorem k_237 : Cond.selects RX3 yX3_mostFree yX3_mostFree ∈ g_WS := List.mem_filter.mpr ⟨k_t3 (List.mem_of_getElem? (i := 132) (by decide +kernel)), rfl⟩
theorem k_238 : Cond.code (mY M_X3_writable) (mC M_X3_writable) (mL M_X3_writable) (mR M_X3_writable) ∈ g_WS := List.mem_filter.mpr ⟨k_t3 (List.mem_of_getElem? (i := 137) (by decide +kernel)), rfl⟩
theorem k_239 : Cond.instanceMethod yX3_writable ∈ g_WS := List.mem_filter.mpr ⟨k_t3 (List.mem_of_getElem? (i := 135) (by decide +kernel)), rfl⟩
theorem k_240 : Cond.selects RX3 yX3_writable yX3_writable ∈ g_WS := List.mem_filter.mpr ⟨k_t3 (List.mem_of_getElem? (i := 136) (by decide +kernel)), rfl⟩
theorem k_241 : Cond.code (mY M_X3_requireProcess) (mC M_X3_requireProcess) (mL M_X3_requireProcess) (mR M_X3_requireProcess) ∈ g_WS := List.mem_filter.mpr ⟨k_t2 (List.mem_of_getElem? (i := 155) (by decide +kernel)), rfl⟩
theorem k_242 : Cond.instanceMethod yX3_requireProcess ∈ g_WS := List.mem_filter.mpr ⟨k_t2 (List.mem_of_getElem? (i := 154) (by decide +kernel)), rfl⟩
theorem k_243 : Cond.selects RX3 yX3_requireProcess yX3_requireProcess ∈ g_WS := List.mem_filter.mpr ⟨k_sel (q := (yX3_requireProcess, 6)) (List.mem_of_getElem? (i := 18) (by decide +kernel)), rfl⟩
theorem k_244 : Cond.code (mY M_X3_requirePage) (mC M_X3_requirePage) (mL M_X3_requirePage) (mR M_X3_requirePage) ∈ g_WS := List.mem_filter.mpr ⟨k_t2 (List.mem_of_getElem? (i := 57) (by decide +kernel)), rfl⟩
theorem k_245 : Cond.instanceMethod yX3_requirePage ∈ g_WS := List.mem_filter.mpr ⟨k_t2 (List.mem_of_getElem? (i := 56) (by decide +kernel)), rfl⟩
theorem k_246 : Cond.selects RX3 yX3_requirePage yX3_requirePage ∈ g_WS := List.mem_filter.mpr ⟨k_sel (q := (yX3_requirePage, 6)) (List.mem_of_getElem? (i := 9) (by decide +kernel)), rfl⟩
theorem k_247 : Cond.code (mY M_X3_requireGroup) (mC M_X3_requireGroup) (mL M_X3_requireGroup) (mR M_X3_requireGroup) ∈ g_WS := List.mem_filter.mpr ⟨k_t2 (List.mem_of_getElem? (i := 204) (by decide +kernel)), rfl⟩
theorem k_248 : Cond.instanceMethod yX3_requireGroup ∈ g_WS := List.mem_filter.mpr ⟨k_t2 (List.mem_of_getElem? (i := 203) (by decide +kernel)), rfl⟩
theorem k_249 : Cond.selects RX3 yX3_requireGroup yX3_requireGroup ∈ g_WS := List.mem_filter.mpr ⟨k_sel (q := (yX3_requireGroup, 6)) (List.mem_of_getElem? (i := 20) (by decide +kernel)), rfl⟩
theorem k_250 : Cond.code (mY M_J6_bitCount_0f7a4) (mC M_J6_bitCount_0f7a4) (mL M_J6_bitCount_0f7a4) (mR M_J6_bitCount_0f7a4) ∈ g_WS := List.mem_filter.mpr ⟨k_t2 (List.mem_of_getElem? (i := 184) (by decide +kernel)), rfl⟩
theorem k_251 : Cond.initialized RJ6 ∈ g_WS := List.mem_filter.mpr ⟨k_t1 (List.mem_of_getElem? (i := 13) (by decide +kernel)), rfl⟩
theorem k_252 : Cond.static yJ6_bitCount_0f7a4 ∈ g_WS := List.mem_filter.mpr ⟨k_t2 (List.mem_of_getElem? (i := 183) (by decide +kernel)), rfl⟩
set_option maxRecDepth 100000 in
theorem k_253 : Cond.code (mY M_L_cell) (mC M_L_cell) (mL M_L_cell) (mR M_L_cell) ∈ g_WS := List.mem_filter.mpr ⟨k_t2 (List.mem_of_getElem? (i := 37) rfl), rfl⟩
theorem k_254 : Cond.initialized RL ∈ g_WS := List.mem_filter.mpr ⟨k_t1 (List.mem_of_getElem? (i := 0) (by decide +kernel)), rfl⟩
theorem k_255 : Cond.static yL_cell ∈ g_WS := List.mem_filter.mpr ⟨k_t2 (List.mem_of_getElem? (i := 36) (by decide +kernel)), rfl⟩
set_option maxRecDepth 100000 in
theorem k_256 : Cond.code (mY M_L_low) (mC M_L_low) (mL M_L_low) (mR M_L_low) ∈ g_WS := List.mem_filter.mpr ⟨k_t2 (List.mem_of_getElem? (i := 42) rfl), rfl⟩
theorem k_257 : Cond.static yL_low ∈ g_WS := List.mem_filter.mpr ⟨k_t2 (List.mem_of_getElem? (i := 41) (by decide +kernel)), rfl⟩
set_option maxRecDepth 100000 in
theorem k_258 : Cond.codeWith (mY M_L_write) (mC M_L_write) (mL M_L_write) (mR M_L_write) (mH M_L_write) ∈ g_WS := List.mem_filter.mpr ⟨k_t2 (List.mem_of_getElem? (i := 46) rfl), rfl⟩
theorem k_259 : Cond.static yL_write ∈ g_WS := List.mem_filter.mpr ⟨k_t2 (List.mem_of_getElem? (i := 45) (by decide +kernel)), rfl⟩
set_option maxRecDepth 100000 in
theorem k_260 : Cond.codeWith (mY M_L_fork) (mC M_L_fork) (mL M_L_fork) (mR M_L_fork) (mH M_L_fork) ∈ g_WS := List.mem_filter.mpr ⟨k_t2 (List.mem_of_getElem? (i := 147) rfl), rfl⟩
theorem k_261 : Cond.static yL_fork ∈ g_WS := List.mem_filter.mpr ⟨k_t2 (List.mem_of_getElem? (i := 146) (by decide +kernel)), rfl⟩
set_option maxRecDepth 100000 in
theorem k_262 : Cond.codeWith (mY M_L_exit) (mC M_L_exit) (mL M_L_exit) (mR M_L_exit) (mH M_L_exit) ∈ g_WS := List.mem_filter.mpr ⟨k_t2 (List.mem_of_getElem? (i := 173) rfl), rfl⟩
theorem k_263 : Cond.static yL_exit ∈ g_WS := List.mem_filter.mpr ⟨k_t2 (List.mem_of_getElem? (i := 172) (by decide +kernel)), rfl⟩
set_option maxRecDepth 100000 in
theorem k_264 : Cond.codeWith (mY M_L_marry) (mC M_L_marry) (mL M_L_marry) (mR M_L_marry) (mH M_L_marry) ∈ g_WS := List.mem_filter.mpr ⟨k_t2 (List.mem_of_getElem? (i := 196) rfl), rfl⟩
theorem k_265 : Cond.static yL_marry ∈ g_WS := List.mem_filter.mpr ⟨k_t2 (List.mem_of_getElem? (i := 195) (by decide +kernel)), rfl⟩
set_option maxRecDepth 100000 in
theorem k_266 : Cond.codeWith (mY M_L_tear) (mC M_L_tear) (mL M_L_tear) (mR M_L_tear) (mH M_L_tear) ∈ g_WS := List.mem_filter.mpr ⟨k_t2 (List.mem_of_getElem? (i := 231) rfl), rfl⟩
theorem k_267 : Cond.static yL_tear ∈ g_WS := List.mem_filter.mpr ⟨k_t2 (List.mem_of_getElem? (i := 230) (by decide +kernel)), rfl⟩
set_option maxRecDepth 100000 in
theorem k_268 : Cond.code (mY M_L_frame) (mC M_L_frame) (mL M_L_frame) (mR M_L_frame) ∈ g_WS := List.mem_filter.mpr ⟨k_t3 (List.mem_of_getElem? (i := 8) rfl), rfl⟩
theorem k_269 : Cond.static yL_frame ∈ g_WS := List.mem_filter.mpr ⟨k_t3 (List.mem_of_getElem? (i := 7) (by decide +kernel)), rfl⟩
set_option maxRecDepth 100000 in
theorem k_270 : Cond.code (mY M_L_one) (mC M_L_one) (mL M_L_one) (mR M_L_one) ∈ g_WS := List.mem_filter.mpr ⟨k_t3 (List.mem_of_getElem? (i := 23) rfl), rfl⟩
theorem k_271 : Cond.static yL_one ∈ g_WS := List.mem_filter.mpr ⟨k_t3 (List.mem_of_getElem? (i := 22) (by decide +kernel)), rfl⟩
set_option maxRecDepth 100000 in
theorem k_272 : Cond.code (mY M_L_freeRun) (mC M_L_freeRun) (mL M_L_freeRun) (mR M_L_freeRun) ∈ g_WS := List.mem_filter.mpr ⟨k_t3 (List.mem_of_getElem? (i := 11) rfl), rfl⟩
theorem k_273 : Cond.static yL_freeRun ∈ g_WS := List.mem_filter.mpr ⟨k_t3 (List.mem_of_getElem? (i := 10) (by decide +kernel)), rfl⟩
set_option maxRecDepth 100000 in
theorem k_274 : Cond.code (mY M_L_run) (mC M_L_run) (mL M_L_run) (mR M_L_run) ∈ g_WS := List.mem_filter.mpr ⟨k_t3 (List.mem_of_getElem? (i := 29) rfl), rfl⟩
theorem k_275 : Cond.static yL_run ∈ g_WS := List.mem_filter.mpr ⟨k_t3 (List.mem_of_getElem? (i := 28) (by decide +kernel)), rfl⟩
set_option maxRecDepth 100000 in
theorem k_276 : Cond.code (mY M_L_single) (mC M_L_single) (mL M_L_single) (mR M_L_single) ∈ g_WS := List.mem_filter.mpr ⟨k_t3 (List.mem_of_getElem? (i := 32) rfl), rfl⟩
theorem k_277 : Cond.static yL_single ∈ g_WS := List.mem_filter.mpr ⟨k_t3 (List.mem_of_getElem? (i := 31) (by decide +kernel)), rfl⟩
set_option maxRecDepth 100000 in
theorem k_278 : Cond.code (mY M_L_free) (mC M_L_free) (mL M_L_free) (mR M_L_free) ∈ g_WS := List.mem_filter.mpr ⟨k_t3 (List.mem_of_getElem? (i := 14) rfl), rfl⟩
theorem k_279 : Cond.static yL_free ∈ g_WS := List.mem_filter.mpr ⟨k_t3 (List.mem_of_getElem? (i := 13) (by decide +kernel)), rfl⟩
set_option maxRecDepth 100000 in
theorem k_280 : Cond.code (mY M_L_empty) (mC M_L_empty) (mL M_L_empty) (mR M_L_empty) ∈ g_WS := List.mem_filter.mpr ⟨k_t3 (List.mem_of_getElem? (i := 26) rfl), rfl⟩
theorem k_281 : Cond.static yL_empty ∈ g_WS := List.mem_filter.mpr ⟨k_t3 (List.mem_of_getElem? (i := 25) (by decide +kernel)), rfl⟩
set_option maxRecDepth 100000 in
theorem k_282 : Cond.code (mY M_L_would) (mC M_L_would) (mL M_L_would) (mR M_L_would) ∈ g_WS := List.mem_filter.mpr ⟨k_t3 (List.mem_of_getElem? (i := 20) rfl), rfl⟩
theorem k_283 : Cond.static yL_would ∈ g_WS := List.mem_filter.mpr ⟨k_t3 (List.mem_of_getElem? (i := 19) (by decide +kernel)), rfl⟩
set_option maxRecDepth 100000 in
theorem k_284 : Cond.code (mY M_L_writes) (mC M_L_writes) (mL M_L_writes) (mR M_L_writes) ∈ g_WS := List.mem_filter.mpr ⟨k_t3 (List.mem_of_getElem? (i := 17) rfl), rfl⟩
theorem k_285 : Cond.static yL_writes ∈ g_WS := List.mem_filter.mpr ⟨k_t3 (List.mem_of_getElem? (i := 16) (by decide +kernel)), rfl⟩
set_option maxRecDepth 100000 in
theorem k_286 : Cond.code (mY M_L_place) (mC M_L_place) (mL M_L_place) (mR M_L_place) ∈ g_WS := List.mem_filter.mpr ⟨k_t3 (List.mem_of_getElem? (i := 42) rfl), rfl⟩
theorem k_287 : Cond.static yL_place ∈ g_WS := List.mem_filter.mpr ⟨k_t3 (List.mem_of_getElem? (i := 41) (by decide +kernel)), rfl⟩
set_option maxRecDepth 100000 in
theorem k_288 : Cond.code (mY M_L_why) (mC M_L_why) (mL M_L_why) (mR M_L_why) ∈ g_WS := List.mem_filter.mpr ⟨k_t3 (List.mem_of_getElem? (i := 39) rfl), rfl⟩
theorem k_289 : Cond.static yL_why ∈ g_WS := List.mem_filter.mpr ⟨k_t3 (List.mem_of_getElem? (i := 38) (by decide +kernel)), rfl⟩
set_option maxRecDepth 100000 in
theorem k_290 : Cond.code (mY M_L_weds) (mC M_L_weds) (mL M_L_weds) (mR M_L_weds) ∈ g_WS := List.mem_filter.mpr ⟨k_t3 (List.mem_of_getElem? (i := 36) rfl), rfl⟩
theorem k_291 : Cond.static yL_weds ∈ g_WS := List.mem_filter.mpr ⟨k_t3 (List.mem_of_getElem? (i := 35) (by decide +kernel)), rfl⟩
set_option maxRecDepth 100000 in
theorem k_292 : Cond.code (mY M_L_press) (mC M_L_press) (mL M_L_press) (mR M_L_press) ∈ g_WS := List.mem_filter.mpr ⟨k_t3 (List.mem_of_getElem? (i := 45) rfl), rfl⟩
theorem k_293 : Cond.static yL_press ∈ g_WS := List.mem_filter.mpr ⟨k_t3 (List.mem_of_getElem? (i := 44) (by decide +kernel)), rfl⟩
set_option maxRecDepth 100000 in
theorem k_294 : Cond.code (mY M_L_same) (mC M_L_same) (mL M_L_same) (mR M_L_same) ∈ g_WS := List.mem_filter.mpr ⟨k_t3 (List.mem_of_getElem? (i := 48) rfl), rfl⟩
theorem k_295 : Cond.static yL_same ∈ g_WS := List.mem_filter.mpr ⟨k_t3 (List.mem_of_getElem? (i := 47) (by decide +kernel)), rfl⟩
set_option maxRecDepth 100000 in
theorem k_296 : Cond.code (mY M_L_copy) (mC M_L_copy) (mL M_L_copy) (mR M_L_copy) ∈ g_WS := List.mem_filter.mpr ⟨k_t3 (List.mem_of_getElem? (i := 119) rfl), rfl⟩
theorem k_297 : Cond.static yL_copy ∈ g_WS := List.mem_filter.mpr ⟨k_t3 (List.mem_of_getElem? (i := 118) (by decide +kernel)), rfl⟩
set_option maxRecDepth 100000 in
theorem k_298 : Cond.code (mY M_L_could) (mC M_L_could) (mL M_L_could) (mR M_L_could) ∈ g_WS := List.mem_filter.mpr ⟨k_t3 (List.mem_of_getElem? (i := 116) rfl), rfl⟩
theorem k_299 : Cond.static yL_could ∈ g_WS := List.mem_filter.mpr ⟨k_t3 (List.mem_of_getElem? (i := 115) (by decide +kernel)), rfl⟩
theorem k_300 : Cond.methodLink RL 118 yX3_init ∈ g_WS := List.mem_filter.mpr ⟨k_t1 (List.mem_of_getElem? (i := 16) (by decide +kernel)), rfl⟩
theorem k_301 : Cond.methodLink RX3 1 objectInit ∈ g_WS := List.mem_filter.mpr ⟨k_t1 (List.mem_of_getElem? (i := 19) (by decide +kernel)), rfl⟩
theorem k_302 : Cond.methodLink RX2 3 objectInit ∈ g_WS := List.mem_filter.mpr ⟨k_t1 (List.mem_of_getElem? (i := 27) (by decide +kernel)), rfl⟩
theorem k_303 : Cond.methodLink RX3 18 yX1_init ∈ g_WS := List.mem_filter.mpr ⟨k_t1 (List.mem_of_getElem? (i := 37) (by decide +kernel)), rfl⟩
theorem k_304 : Cond.methodLink RX1 3 objectInit ∈ g_WS := List.mem_filter.mpr ⟨k_t1 (List.mem_of_getElem? (i := 40) (by decide +kernel)), rfl⟩
theorem k_305 : Cond.methodLink RX1 21 yX1_beginAnew ∈ g_WS := List.mem_filter.mpr ⟨k_t1 (List.mem_of_getElem? (i := 41) (by decide +kernel)), rfl⟩
theorem k_306 : Cond.methodLink RX3 28 yX0_init ∈ g_WS := List.mem_filter.mpr ⟨k_t1 (List.mem_of_getElem? (i := 84) (by decide +kernel)), rfl⟩
theorem k_307 : Cond.methodLink RX0 3 objectInit ∈ g_WS := List.mem_filter.mpr ⟨k_t1 (List.mem_of_getElem? (i := 87) (by decide +kernel)), rfl⟩
theorem k_308 : Cond.methodLink RX0 17 yX1_init ∈ g_WS := List.mem_filter.mpr ⟨k_t1 (List.mem_of_getElem? (i := 90) (by decide +kernel)), rfl⟩
theorem k_309 : Cond.methodLink RL 141 yX3_press ∈ g_WS := List.mem_filter.mpr ⟨k_t1 (List.mem_of_getElem? (i := 121) (by decide +kernel)), rfl⟩
theorem k_310 : Cond.methodLink RX3 177 yX0_remember ∈ g_WS := List.mem_filter.mpr ⟨k_t1 (List.mem_of_getElem? (i := 193) (by decide +kernel)), rfl⟩
theorem k_311 : Cond.methodLink RX0 25 yX1_copyFrom ∈ g_WS := List.mem_filter.mpr ⟨k_t1 (List.mem_of_getElem? (i := 197) (by decide +kernel)), rfl⟩
theorem k_312 : Cond.methodLink RX1 47 arraycopyName ∈ g_WS := List.mem_filter.mpr ⟨k_t1 (List.mem_of_getElem? (i := 201) (by decide +kernel)), rfl⟩
theorem k_313 : Cond.methodLink RX0 29 Lib.Math.min.name ∈ g_WS := List.mem_filter.mpr ⟨k_t1 (List.mem_of_getElem? (i := 204) (by decide +kernel)), rfl⟩
theorem k_314 : Cond.methodLink RX3 221 yX1_doPress ∈ g_WS := List.mem_filter.mpr ⟨k_t1 (List.mem_of_getElem? (i := 207) (by decide +kernel)), rfl⟩
theorem k_315 : Cond.methodLink RX1 99 yX1_freeFrames ∈ g_WS := List.mem_filter.mpr ⟨k_t1 (List.mem_of_getElem? (i := 211) (by decide +kernel)), rfl⟩
theorem k_316 : Cond.methodLink RX1 162 yX1_loseFirstPage ∈ g_WS := List.mem_filter.mpr ⟨k_t1 (List.mem_of_getElem? (i := 215) (by decide +kernel)), rfl⟩
theorem k_317 : Cond.methodLink RX1 77 yX1_isBig ∈ g_WS := List.mem_filter.mpr ⟨k_t1 (List.mem_of_getElem? (i := 219) (by decide +kernel)), rfl⟩
theorem k_318 : Cond.methodLink RX1 169 yX1_usersOfFrameOf ∈ g_WS := List.mem_filter.mpr ⟨k_t1 (List.mem_of_getElem? (i := 223) (by decide +kernel)), rfl⟩
theorem k_319 : Cond.methodLink RX1 73 yX1_frameOf ∈ g_WS := List.mem_filter.mpr ⟨k_t1 (List.mem_of_getElem? (i := 227) (by decide +kernel)), rfl⟩
theorem k_320 : Cond.methodLink RX1 89 yX1_valueOf ∈ g_WS := List.mem_filter.mpr ⟨k_t1 (List.mem_of_getElem? (i := 231) (by decide +kernel)), rfl⟩
theorem k_321 : Cond.methodLink RX1 137 yX1_letGo ∈ g_WS := List.mem_filter.mpr ⟨k_t1 (List.mem_of_getElem? (i := 235) (by decide +kernel)), rfl⟩
theorem k_322 : Cond.methodLink RX1 166 yX1_tearEmptiestGroup ∈ g_WS := List.mem_filter.mpr ⟨k_t1 (List.mem_of_getElem? (i := 239) (by decide +kernel)), rfl⟩
theorem k_323 : Cond.methodLink RX1 80 yX1_pagesWithSharedFrame ∈ g_WS := List.mem_filter.mpr ⟨k_t2 (List.mem_of_getElem? (i := 3) (by decide +kernel)), rfl⟩
theorem k_324 : Cond.methodLink RX1 57 yX1_isShared ∈ g_WS := List.mem_filter.mpr ⟨k_t2 (List.mem_of_getElem? (i := 7) (by decide +kernel)), rfl⟩
theorem k_325 : Cond.methodLink RX1 172 yX1_pagesWithValueZero ∈ g_WS := List.mem_filter.mpr ⟨k_t2 (List.mem_of_getElem? (i := 11) (by decide +kernel)), rfl⟩
theorem k_326 : Cond.methodLink RX1 131 yX1_becomeTorn ∈ g_WS := List.mem_filter.mpr ⟨k_t2 (List.mem_of_getElem? (i := 15) (by decide +kernel)), rfl⟩
theorem k_327 : Cond.methodLink RX1 92 yX1_becomeSmall ∈ g_WS := List.mem_filter.mpr ⟨k_t2 (List.mem_of_getElem? (i := 19) (by decide +kernel)), rfl⟩
theorem k_328 : Cond.methodLink RL 143 yX3_setEager ∈ g_WS := List.mem_filter.mpr ⟨k_t2 (List.mem_of_getElem? (i := 23) (by decide +kernel)), rfl⟩
theorem k_329 : Cond.methodLink RX3 92 yX1_freeRuns ∈ g_WS := List.mem_filter.mpr ⟨k_t2 (List.mem_of_getElem? (i := 27) (by decide +kernel)), rfl⟩
theorem k_330 : Cond.methodLink RX1 60 yX1_isRunFree ∈ g_WS := List.mem_filter.mpr ⟨k_t2 (List.mem_of_getElem? (i := 31) (by decide +kernel)), rfl⟩
theorem k_331 : Cond.methodLink RL 119 yL_cell ∈ g_WS := List.mem_filter.mpr ⟨k_t2 (List.mem_of_getElem? (i := 35) (by decide +kernel)), rfl⟩
theorem k_332 : Cond.methodLink RL 123 yL_low ∈ g_WS := List.mem_filter.mpr ⟨k_t2 (List.mem_of_getElem? (i := 40) (by decide +kernel)), rfl⟩
theorem k_333 : Cond.methodLink RL 126 yL_write ∈ g_WS := List.mem_filter.mpr ⟨k_t2 (List.mem_of_getElem? (i := 44) (by decide +kernel)), rfl⟩
theorem k_334 : Cond.methodLink RL 10 yX3_write ∈ g_WS := List.mem_filter.mpr ⟨k_t2 (List.mem_of_getElem? (i := 50) (by decide +kernel)), rfl⟩
theorem k_335 : Cond.methodLink RX3 123 yX3_requirePage ∈ g_WS := List.mem_filter.mpr ⟨k_t2 (List.mem_of_getElem? (i := 54) (by decide +kernel)), rfl⟩
theorem k_336 : Cond.methodLink RX3 276 yX1_hasPage ∈ g_WS := List.mem_filter.mpr ⟨k_t2 (List.mem_of_getElem? (i := 58) (by decide +kernel)), rfl⟩
theorem k_337 : Cond.methodLink RX1 53 yX1_hasProcess ∈ g_WS := List.mem_filter.mpr ⟨k_t2 (List.mem_of_getElem? (i := 62) (by decide +kernel)), rfl⟩
theorem k_338 : Cond.methodLink RX3 172 yX1_outcomeOfWrite ∈ g_WS := List.mem_filter.mpr ⟨k_t2 (List.mem_of_getElem? (i := 83) (by decide +kernel)), rfl⟩
theorem k_339 : Cond.methodLink RX1 96 yX1_hasPage ∈ g_WS := List.mem_filter.mpr ⟨k_t2 (List.mem_of_getElem? (i := 87) (by decide +kernel)), rfl⟩
theorem k_340 : Cond.methodLink RX3 181 yX1_doWrite ∈ g_WS := List.mem_filter.mpr ⟨k_t2 (List.mem_of_getElem? (i := 104) (by decide +kernel)), rfl⟩
theorem k_341 : Cond.methodLink RX1 103 yX1_outcomeOfWrite ∈ g_WS := List.mem_filter.mpr ⟨k_t2 (List.mem_of_getElem? (i := 108) (by decide +kernel)), rfl⟩
theorem k_342 : Cond.methodLink RX1 106 yX1_bringIn ∈ g_WS := List.mem_filter.mpr ⟨k_t2 (List.mem_of_getElem? (i := 109) (by decide +kernel)), rfl⟩
theorem k_343 : Cond.methodLink RX1 112 yX1_lowestFreeRun ∈ g_WS := List.mem_filter.mpr ⟨k_t2 (List.mem_of_getElem? (i := 113) (by decide +kernel)), rfl⟩
theorem k_344 : Cond.methodLink RX1 115 yX1_pagesWithFrame ∈ g_WS := List.mem_filter.mpr ⟨k_t2 (List.mem_of_getElem? (i := 117) (by decide +kernel)), rfl⟩
theorem k_345 : Cond.methodLink RX1 118 yX1_bringInWhole ∈ g_WS := List.mem_filter.mpr ⟨k_t2 (List.mem_of_getElem? (i := 121) (by decide +kernel)), rfl⟩
theorem k_346 : Cond.methodLink RX1 125 yX1_takeFrame ∈ g_WS := List.mem_filter.mpr ⟨k_t2 (List.mem_of_getElem? (i := 125) (by decide +kernel)), rfl⟩
theorem k_347 : Cond.methodLink RX1 128 yX1_becomeBig ∈ g_WS := List.mem_filter.mpr ⟨k_t2 (List.mem_of_getElem? (i := 129) (by decide +kernel)), rfl⟩
theorem k_348 : Cond.methodLink RX1 122 yX1_takeSingleFrame ∈ g_WS := List.mem_filter.mpr ⟨k_t2 (List.mem_of_getElem? (i := 133) (by decide +kernel)), rfl⟩
theorem k_349 : Cond.methodLink RX1 134 yX1_lowestSingleFrame ∈ g_WS := List.mem_filter.mpr ⟨k_t2 (List.mem_of_getElem? (i := 137) (by decide +kernel)), rfl⟩
theorem k_350 : Cond.methodLink RX1 109 yX1_copyOut ∈ g_WS := List.mem_filter.mpr ⟨k_t2 (List.mem_of_getElem? (i := 141) (by decide +kernel)), rfl⟩
theorem k_351 : Cond.methodLink RL 129 yL_fork ∈ g_WS := List.mem_filter.mpr ⟨k_t2 (List.mem_of_getElem? (i := 145) (by decide +kernel)), rfl⟩
theorem k_352 : Cond.methodLink RL 22 yX3_fork ∈ g_WS := List.mem_filter.mpr ⟨k_t2 (List.mem_of_getElem? (i := 148) (by decide +kernel)), rfl⟩
theorem k_353 : Cond.methodLink RX3 185 yX3_requireProcess ∈ g_WS := List.mem_filter.mpr ⟨k_t2 (List.mem_of_getElem? (i := 152) (by decide +kernel)), rfl⟩
theorem k_354 : Cond.methodLink RX3 271 yX1_hasProcess ∈ g_WS := List.mem_filter.mpr ⟨k_t2 (List.mem_of_getElem? (i := 156) (by decide +kernel)), rfl⟩
theorem k_355 : Cond.methodLink RX3 189 yX1_canFork ∈ g_WS := List.mem_filter.mpr ⟨k_t2 (List.mem_of_getElem? (i := 158) (by decide +kernel)), rfl⟩
theorem k_356 : Cond.methodLink RX1 140 yX1_lowestUnusedProcess ∈ g_WS := List.mem_filter.mpr ⟨k_t2 (List.mem_of_getElem? (i := 162) (by decide +kernel)), rfl⟩
theorem k_357 : Cond.methodLink RX3 194 yX1_doFork ∈ g_WS := List.mem_filter.mpr ⟨k_t2 (List.mem_of_getElem? (i := 167) (by decide +kernel)), rfl⟩
theorem k_358 : Cond.methodLink RL 134 yL_exit ∈ g_WS := List.mem_filter.mpr ⟨k_t2 (List.mem_of_getElem? (i := 171) (by decide +kernel)), rfl⟩
theorem k_359 : Cond.methodLink RL 26 yX3_exit ∈ g_WS := List.mem_filter.mpr ⟨k_t2 (List.mem_of_getElem? (i := 174) (by decide +kernel)), rfl⟩
theorem k_360 : Cond.methodLink RX3 198 yX1_canExit ∈ g_WS := List.mem_filter.mpr ⟨k_t2 (List.mem_of_getElem? (i := 178) (by decide +kernel)), rfl⟩
theorem k_361 : Cond.methodLink RX1 63 yJ6_bitCount_0f7a4 ∈ g_WS := List.mem_filter.mpr ⟨k_t2 (List.mem_of_getElem? (i := 182) (by decide +kernel)), rfl⟩
theorem k_362 : Cond.methodLink RX3 203 yX1_doExit ∈ g_WS := List.mem_filter.mpr ⟨k_t2 (List.mem_of_getElem? (i := 189) (by decide +kernel)), rfl⟩
theorem k_363 : Cond.methodLink RX1 143 yX1_canExit ∈ g_WS := List.mem_filter.mpr ⟨k_t2 (List.mem_of_getElem? (i := 193) (by decide +kernel)), rfl⟩
theorem k_364 : Cond.methodLink RL 136 yL_marry ∈ g_WS := List.mem_filter.mpr ⟨k_t2 (List.mem_of_getElem? (i := 194) (by decide +kernel)), rfl⟩
theorem k_365 : Cond.methodLink RL 29 yX3_marry ∈ g_WS := List.mem_filter.mpr ⟨k_t2 (List.mem_of_getElem? (i := 197) (by decide +kernel)), rfl⟩
theorem k_366 : Cond.methodLink RX3 153 yX3_requireGroup ∈ g_WS := List.mem_filter.mpr ⟨k_t2 (List.mem_of_getElem? (i := 201) (by decide +kernel)), rfl⟩
theorem k_367 : Cond.methodLink RX3 281 yX1_hasGroup ∈ g_WS := List.mem_filter.mpr ⟨k_t2 (List.mem_of_getElem? (i := 205) (by decide +kernel)), rfl⟩
theorem k_368 : Cond.methodLink RX3 206 yX1_obstacleToMarriage ∈ g_WS := List.mem_filter.mpr ⟨k_t2 (List.mem_of_getElem? (i := 210) (by decide +kernel)), rfl⟩
theorem k_369 : Cond.methodLink RX1 146 yX1_isInPlace ∈ g_WS := List.mem_filter.mpr ⟨k_t2 (List.mem_of_getElem? (i := 214) (by decide +kernel)), rfl⟩
theorem k_370 : Cond.methodLink RX3 211 yX1_doMarry ∈ g_WS := List.mem_filter.mpr ⟨k_t2 (List.mem_of_getElem? (i := 219) (by decide +kernel)), rfl⟩
theorem k_371 : Cond.methodLink RX1 149 yX1_hasGroup ∈ g_WS := List.mem_filter.mpr ⟨k_t2 (List.mem_of_getElem? (i := 223) (by decide +kernel)), rfl⟩
theorem k_372 : Cond.methodLink RX1 152 yX1_obstacleToMarriage ∈ g_WS := List.mem_filter.mpr ⟨k_t2 (List.mem_of_getElem? (i := 224) (by decide +kernel)), rfl⟩
theorem k_373 : Cond.methodLink RX1 155 yX1_moveTo ∈ g_WS := List.mem_filter.mpr ⟨k_t2 (List.mem_of_getElem? (i := 225) (by decide +kernel)), rfl⟩
theorem k_374 : Cond.methodLink RL 139 yL_tear ∈ g_WS := List.mem_filter.mpr ⟨k_t2 (List.mem_of_getElem? (i := 229) (by decide +kernel)), rfl⟩
theorem k_375 : Cond.methodLink RL 33 yX3_tear ∈ g_WS := List.mem_filter.mpr ⟨k_t2 (List.mem_of_getElem? (i := 232) (by decide +kernel)), rfl⟩
theorem k_376 : Cond.methodLink RX3 137 yX1_isBig ∈ g_WS := List.mem_filter.mpr ⟨k_t2 (List.mem_of_getElem? (i := 236) (by decide +kernel)), rfl⟩
theorem k_377 : Cond.methodLink RX3 216 yX1_doTear ∈ g_WS := List.mem_filter.mpr ⟨k_t2 (List.mem_of_getElem? (i := 238) (by decide +kernel)), rfl⟩
theorem k_378 : Cond.methodLink RX1 83 yX1_runOf ∈ g_WS := List.mem_filter.mpr ⟨k_t3 (List.mem_of_getElem? (i := 2) (by decide +kernel)), rfl⟩
theorem k_379 : Cond.methodLink RL 46 yL_frame ∈ g_WS := List.mem_filter.mpr ⟨k_t3 (List.mem_of_getElem? (i := 6) (by decide +kernel)), rfl⟩
theorem k_380 : Cond.methodLink RL 36 yL_freeRun ∈ g_WS := List.mem_filter.mpr ⟨k_t3 (List.mem_of_getElem? (i := 9) (by decide +kernel)), rfl⟩
theorem k_381 : Cond.methodLink RL 72 yL_free ∈ g_WS := List.mem_filter.mpr ⟨k_t3 (List.mem_of_getElem? (i := 12) (by decide +kernel)), rfl⟩
theorem k_382 : Cond.methodLink RL 111 yL_writes ∈ g_WS := List.mem_filter.mpr ⟨k_t3 (List.mem_of_getElem? (i := 15) (by decide +kernel)), rfl⟩
theorem k_383 : Cond.methodLink RL 60 yL_would ∈ g_WS := List.mem_filter.mpr ⟨k_t3 (List.mem_of_getElem? (i := 18) (by decide +kernel)), rfl⟩
theorem k_384 : Cond.methodLink RL 50 yL_one ∈ g_WS := List.mem_filter.mpr ⟨k_t3 (List.mem_of_getElem? (i := 21) (by decide +kernel)), rfl⟩
theorem k_385 : Cond.methodLink RL 54 yL_empty ∈ g_WS := List.mem_filter.mpr ⟨k_t3 (List.mem_of_getElem? (i := 24) (by decide +kernel)), rfl⟩
theorem k_386 : Cond.methodLink RL 42 yL_run ∈ g_WS := List.mem_filter.mpr ⟨k_t3 (List.mem_of_getElem? (i := 27) (by decide +kernel)), rfl⟩
theorem k_387 : Cond.methodLink RL 57 yL_single ∈ g_WS := List.mem_filter.mpr ⟨k_t3 (List.mem_of_getElem? (i := 30) (by decide +kernel)), rfl⟩
theorem k_388 : Cond.methodLink RL 97 yL_weds ∈ g_WS := List.mem_filter.mpr ⟨k_t3 (List.mem_of_getElem? (i := 34) (by decide +kernel)), rfl⟩
theorem k_389 : Cond.methodLink RL 69 yL_why ∈ g_WS := List.mem_filter.mpr ⟨k_t3 (List.mem_of_getElem? (i := 37) (by decide +kernel)), rfl⟩
theorem k_390 : Cond.methodLink RL 66 yL_place ∈ g_WS := List.mem_filter.mpr ⟨k_t3 (List.mem_of_getElem? (i := 40) (by decide +kernel)), rfl⟩
theorem k_391 : Cond.methodLink RL 108 yL_press ∈ g_WS := List.mem_filter.mpr ⟨k_t3 (List.mem_of_getElem? (i := 43) (by decide +kernel)), rfl⟩
theorem k_392 : Cond.methodLink RL 147 yL_same ∈ g_WS := List.mem_filter.mpr ⟨k_t3 (List.mem_of_getElem? (i := 46) (by decide +kernel)), rfl⟩
theorem k_393 : Cond.methodLink RL 75 yX3_user ∈ g_WS := List.mem_filter.mpr ⟨k_t3 (List.mem_of_getElem? (i := 49) (by decide +kernel)), rfl⟩
theorem k_394 : Cond.methodLink RX3 150 yX1_userAt ∈ g_WS := List.mem_filter.mpr ⟨k_t3 (List.mem_of_getElem? (i := 55) (by decide +kernel)), rfl⟩
theorem k_395 : Cond.methodLink RL 78 yX3_page ∈ g_WS := List.mem_filter.mpr ⟨k_t3 (List.mem_of_getElem? (i := 59) (by decide +kernel)), rfl⟩
theorem k_396 : Cond.methodLink RX3 127 yX1_frameOf ∈ g_WS := List.mem_filter.mpr ⟨k_t3 (List.mem_of_getElem? (i := 63) (by decide +kernel)), rfl⟩
theorem k_397 : Cond.methodLink RX3 131 yX1_valueOf ∈ g_WS := List.mem_filter.mpr ⟨k_t3 (List.mem_of_getElem? (i := 64) (by decide +kernel)), rfl⟩
theorem k_398 : Cond.methodLink RX3 134 yX1_usersOfFrameOf ∈ g_WS := List.mem_filter.mpr ⟨k_t3 (List.mem_of_getElem? (i := 65) (by decide +kernel)), rfl⟩
theorem k_399 : Cond.methodLink RL 81 yX3_wouldDo ∈ g_WS := List.mem_filter.mpr ⟨k_t3 (List.mem_of_getElem? (i := 67) (by decide +kernel)), rfl⟩
theorem k_400 : Cond.methodLink RL 84 yX3_group ∈ g_WS := List.mem_filter.mpr ⟨k_t3 (List.mem_of_getElem? (i := 71) (by decide +kernel)), rfl⟩
theorem k_401 : Cond.methodLink RX3 156 yX1_pagesWithFrame ∈ g_WS := List.mem_filter.mpr ⟨k_t3 (List.mem_of_getElem? (i := 75) (by decide +kernel)), rfl⟩
theorem k_402 : Cond.methodLink RX3 159 yX1_isWidow ∈ g_WS := List.mem_filter.mpr ⟨k_t3 (List.mem_of_getElem? (i := 76) (by decide +kernel)), rfl⟩
theorem k_403 : Cond.methodLink RX1 86 yX1_bigGroupsInRun ∈ g_WS := List.mem_filter.mpr ⟨k_t3 (List.mem_of_getElem? (i := 80) (by decide +kernel)), rfl⟩
theorem k_404 : Cond.methodLink RX3 162 yX1_pagesWithSharedFrame ∈ g_WS := List.mem_filter.mpr ⟨k_t3 (List.mem_of_getElem? (i := 84) (by decide +kernel)), rfl⟩
theorem k_405 : Cond.methodLink RX3 165 yX1_runOf ∈ g_WS := List.mem_filter.mpr ⟨k_t3 (List.mem_of_getElem? (i := 85) (by decide +kernel)), rfl⟩
theorem k_406 : Cond.methodLink RL 87 yX3_whyNot ∈ g_WS := List.mem_filter.mpr ⟨k_t3 (List.mem_of_getElem? (i := 87) (by decide +kernel)), rfl⟩
theorem k_407 : Cond.methodLink RL 90 yX3_about ∈ g_WS := List.mem_filter.mpr ⟨k_t3 (List.mem_of_getElem? (i := 91) (by decide +kernel)), rfl⟩
theorem k_408 : Cond.methodLink RX3 86 yX1_processes ∈ g_WS := List.mem_filter.mpr ⟨k_t3 (List.mem_of_getElem? (i := 95) (by decide +kernel)), rfl⟩
theorem k_409 : Cond.methodLink RX3 89 yX1_freeFrames ∈ g_WS := List.mem_filter.mpr ⟨k_t3 (List.mem_of_getElem? (i := 99) (by decide +kernel)), rfl⟩
theorem k_410 : Cond.methodLink RX3 95 yX1_bigGroups ∈ g_WS := List.mem_filter.mpr ⟨k_t3 (List.mem_of_getElem? (i := 100) (by decide +kernel)), rfl⟩
theorem k_411 : Cond.methodLink RX3 98 yX1_widows ∈ g_WS := List.mem_filter.mpr ⟨k_t3 (List.mem_of_getElem? (i := 104) (by decide +kernel)), rfl⟩
theorem k_412 : Cond.methodLink RX1 69 yX1_isWidow ∈ g_WS := List.mem_filter.mpr ⟨k_t3 (List.mem_of_getElem? (i := 108) (by decide +kernel)), rfl⟩
theorem k_413 : Cond.methodLink RX3 101 yX1_sharedFrames ∈ g_WS := List.mem_filter.mpr ⟨k_t3 (List.mem_of_getElem? (i := 109) (by decide +kernel)), rfl⟩
theorem k_414 : Cond.methodLink RL 151 yL_could ∈ g_WS := List.mem_filter.mpr ⟨k_t3 (List.mem_of_getElem? (i := 114) (by decide +kernel)), rfl⟩
theorem k_415 : Cond.methodLink RL 93 yL_copy ∈ g_WS := List.mem_filter.mpr ⟨k_t3 (List.mem_of_getElem? (i := 117) (by decide +kernel)), rfl⟩
theorem k_416 : Cond.methodLink RL 101 yX3_marriages ∈ g_WS := List.mem_filter.mpr ⟨k_t3 (List.mem_of_getElem? (i := 120) (by decide +kernel)), rfl⟩
theorem k_417 : Cond.methodLink RX3 232 yX1_copyFrom ∈ g_WS := List.mem_filter.mpr ⟨k_t3 (List.mem_of_getElem? (i := 124) (by decide +kernel)), rfl⟩
theorem k_418 : Cond.methodLink RX3 235 yX1_marryNext ∈ g_WS := List.mem_filter.mpr ⟨k_t3 (List.mem_of_getElem? (i := 125) (by decide +kernel)), rfl⟩
theorem k_419 : Cond.methodLink RX1 159 yX1_doMarry ∈ g_WS := List.mem_filter.mpr ⟨k_t3 (List.mem_of_getElem? (i := 129) (by decide +kernel)), rfl⟩
theorem k_420 : Cond.methodLink RL 105 yX3_mostFree ∈ g_WS := List.mem_filter.mpr ⟨k_t3 (List.mem_of_getElem? (i := 130) (by decide +kernel)), rfl⟩
theorem k_421 : Cond.methodLink RL 115 yX3_writable ∈ g_WS := List.mem_filter.mpr ⟨k_t3 (List.mem_of_getElem? (i := 134) (by decide +kernel)), rfl⟩
theorem k_422 : Cond.classLink RL 11 RX3 ∈ g_WS := List.mem_filter.mpr ⟨k_t1 (List.mem_of_getElem? (i := 14) (by decide +kernel)), rfl⟩
theorem k_423 : Cond.classLink RX3 7 RX2 ∈ g_WS := List.mem_filter.mpr ⟨k_t1 (List.mem_of_getElem? (i := 22) (by decide +kernel)), rfl⟩
theorem k_424 : Cond.arrayClass .char ∈ g_WS := List.mem_filter.mpr ⟨k_t1 (List.mem_of_getElem? (i := 34) (by decide +kernel)), rfl⟩
theorem k_425 : Cond.classLink RX3 16 RX1 ∈ g_WS := List.mem_filter.mpr ⟨k_t1 (List.mem_of_getElem? (i := 35) (by decide +kernel)), rfl⟩
theorem k_426 : Cond.arrayClass .int ∈ g_WS := List.mem_filter.mpr ⟨k_t1 (List.mem_of_getElem? (i := 81) (by decide +kernel)), rfl⟩
theorem k_427 : Cond.classLink RX3 26 RX0 ∈ g_WS := List.mem_filter.mpr ⟨k_t1 (List.mem_of_getElem? (i := 82) (by decide +kernel)), rfl⟩
theorem k_428 : Cond.classLink RX0 9 RX1 ∈ g_WS := List.mem_filter.mpr ⟨k_t1 (List.mem_of_getElem? (i := 88) (by decide +kernel)), rfl⟩
theorem k_429 : Cond.arrayClass .boolean ∈ g_WS := List.mem_filter.mpr ⟨k_t1 (List.mem_of_getElem? (i := 120) (by decide +kernel)), rfl⟩
theorem k_430 : Cond.classLink RX3 41 "java/lang/IllegalArgumentException" ∈ g_WS := List.mem_filter.mpr ⟨k_t1 (List.mem_of_getElem? (i := 125) (by decide +kernel)), rfl⟩
theorem k_431 : Cond.arrayClass .byte ∈ g_WS := List.mem_filter.mpr ⟨k_t1 (List.mem_of_getElem? (i := 192) (by decide +kernel)), rfl⟩
theorem k_432 : Cond.constant RL 7 (1541459225 : Int32) ∈ g_WS := List.mem_filter.mpr ⟨k_t2 (List.mem_of_getElem? (i := 38) (by decide +kernel)), rfl⟩
theorem k_433 : Cond.constant RL 8 (792403069 : Int32) ∈ g_WS := List.mem_filter.mpr ⟨k_t2 (List.mem_of_getElem? (i := 39) (by decide +kernel)), rfl⟩
theorem k_434 : Cond.constant RL 9 (2147483647 : Int32) ∈ g_WS := List.mem_filter.mpr ⟨k_t2 (List.mem_of_getElem? (i := 43) (by decide +kernel)), rfl⟩
theorem k_435 : Cond.classLink RL 16 "java/lang/IndexOutOfBoundsException" ∈ g_WS := List.mem_filter.mpr ⟨k_t2 (List.mem_of_getElem? (i := 47) (by decide +kernel)), rfl⟩
theorem k_436 : Cond.classLink RL 18 "java/lang/IllegalArgumentException" ∈ g_WS := List.mem_filter.mpr ⟨k_t2 (List.mem_of_getElem? (i := 48) (by decide +kernel)), rfl⟩
theorem k_437 : Cond.classLink RL 20 "java/lang/IllegalStateException" ∈ g_WS := List.mem_filter.mpr ⟨k_t2 (List.mem_of_getElem? (i := 49) (by decide +kernel)), rfl⟩
theorem k_438 : Cond.classLink RX3 143 "java/lang/IndexOutOfBoundsException" ∈ g_WS := List.mem_filter.mpr ⟨k_t2 (List.mem_of_getElem? (i := 66) (by decide +kernel)), rfl⟩
theorem k_439 : Cond.classLink RX3 52 "java/lang/IllegalStateException" ∈ g_WS := List.mem_filter.mpr ⟨k_t2 (List.mem_of_getElem? (i := 88) (by decide +kernel)), rfl⟩
theorem k_440 : Cond.constant RJ6 265 (1431655765 : Int32) ∈ g_WS := List.mem_filter.mpr ⟨k_t2 (List.mem_of_getElem? (i := 185) (by decide +kernel)), rfl⟩
theorem k_441 : Cond.constant RJ6 266 (858993459 : Int32) ∈ g_WS := List.mem_filter.mpr ⟨k_t2 (List.mem_of_getElem? (i := 186) (by decide +kernel)), rfl⟩
theorem k_442 : Cond.constant RJ6 267 (252645135 : Int32) ∈ g_WS := List.mem_filter.mpr ⟨k_t2 (List.mem_of_getElem? (i := 187) (by decide +kernel)), rfl⟩
theorem k_443 : Cond.constantLong RL 64 (-1 : Int64) ∈ g_WS := List.mem_filter.mpr ⟨k_t3 (List.mem_of_getElem? (i := 33) (by decide +kernel)), rfl⟩
theorem k_444 : Cond.constantLong RL 132 (65535 : Int64) ∈ g_WS := List.mem_filter.mpr ⟨k_t3 (List.mem_of_getElem? (i := 138) (by decide +kernel)), rfl⟩
theorem k_445 : Cond.arrayClass .long ∈ g_WS := List.mem_filter.mpr ⟨k_t3 (List.mem_of_getElem? (i := 139) (by decide +kernel)), rfl⟩
theorem k_446 : Cond.instanceMethod objectInit ∈ g_WS := List.mem_filter.mpr ⟨k_t1 (List.mem_of_getElem? (i := 20) (by decide +kernel)), rfl⟩
theorem k_447 : Cond.code objectInit ⟨#[0xb1]⟩ 1 none ∈ g_WS := List.mem_filter.mpr ⟨k_t1 (List.mem_of_getElem? (i := 21) (by decide +kernel)), rfl⟩
theorem k_448 : Cond.static Lib.Math.min.name ∈ g_WS := List.mem_filter.mpr ⟨k_t1 (List.mem_of_getElem? (i := 205) (by decide +kernel)), rfl⟩
theorem k_449 : Cond.initialized RJ9 ∈ g_WS := List.mem_filter.mpr ⟨k_t1 (List.mem_of_getElem? (i := 12) (by decide +kernel)), rfl⟩
theorem k_450 : Cond.code Lib.Math.min.name Lib.Math.min.code 2 (some .int) ∈ g_WS := List.mem_filter.mpr ⟨k_t1 (List.mem_of_getElem? (i := 206) (by decide +kernel)), rfl⟩
theorem k_451 : Cond.native arraycopyName ∈ g_WS := List.mem_filter.mpr ⟨k_t1 (List.mem_of_getElem? (i := 203) (by decide +kernel)), rfl⟩
theorem k_452 : Cond.static arraycopyName ∈ g_WS := List.mem_filter.mpr ⟨k_t1 (List.mem_of_getElem? (i := 202) (by decide +kernel)), rfl⟩
theorem k_453 : Cond.initialized RJ10 ∈ g_WS := List.mem_filter.mpr ⟨k_t1 (List.mem_of_getElem? (i := 11) (by decide +kernel)), rfl⟩
theorem k_454 : Cond.instantiable RX3 6 ∈ g_WS := List.mem_filter.mpr ⟨k_t1 (List.mem_of_getElem? (i := 15) (by decide +kernel)), rfl⟩
theorem k_455 : Cond.instantiable RX2 2 ∈ g_WS := List.mem_filter.mpr ⟨k_t1 (List.mem_of_getElem? (i := 23) (by decide +kernel)), rfl⟩
theorem k_456 : Cond.instantiable RX1 10 ∈ g_WS := List.mem_filter.mpr ⟨k_t1 (List.mem_of_getElem? (i := 36) (by decide +kernel)), rfl⟩
theorem k_457 : Cond.instantiable RX0 3 ∈ g_WS := List.mem_filter.mpr ⟨k_t1 (List.mem_of_getElem? (i := 83) (by decide +kernel)), rfl⟩
theorem k_458 : Cond.initialized "java/lang/IllegalArgumentException" ∈ g_WS := List.mem_filter.mpr ⟨k_t1 (List.mem_of_getElem? (i := 9) (by decide +kernel)), rfl⟩
theorem k_459 : Cond.initialized "java/lang/IndexOutOfBoundsException" ∈ g_WS := List.mem_filter.mpr ⟨k_t1 (List.mem_of_getElem? (i := 8) (by decide +kernel)), rfl⟩
theorem k_460 : Cond.initialized "java/lang/IllegalStateException" ∈ g_WS := List.mem_filter.mpr ⟨k_t1 (List.mem_of_getElem? (i := 10) (by decide +kernel)), rfl⟩
theorem k_lay_0_0 : u_lay RX0 TX0 0 ∈ g_WS := List.mem_filter.mpr ⟨k_t1 (List.mem_of_getElem? (i := 94) (by decide +kernel)), by decide +kernel⟩
theorem k_lay_0_1 : u_lay RX0 TX0 1 ∈ g_WS := List.mem_filter.mpr ⟨k_t1 (List.mem_of_getElem? (i := 96) (by decide +kernel)), by decide +kernel⟩
theorem k_lay_0_2 : u_lay RX0 TX0 2 ∈ g_WS := List.mem_filter.mpr ⟨k_t1 (List.mem_of_getElem? (i := 98) (by decide +kernel)), by decide +kernel⟩
theorem k_ws_0 : ∀ wd ∈ u_ws RX0 TX0 3, wd ∈ g_WS := by
  intro wd h
  obtain ⟨j, hj, rfl⟩ := List.mem_map.mp h
  have hj := List.mem_range.mp hj
  rcases (show j = 0 ∨ j = 1 ∨ j = 2 by omega) with rfl | rfl | rfl
  · exact k_lay_0_0
  · exact k_lay_0_1
  · exact k_lay_0_2
theorem k_lay_1_0 : u_lay RX1 TX1 0 ∈ g_WS := List.mem_filter.mpr ⟨k_t1 (List.mem_of_getElem? (i := 60) (by decide +kernel)), by decide +kernel⟩
theorem k_lay_1_1 : u_lay RX1 TX1 1 ∈ g_WS := List.mem_filter.mpr ⟨k_t1 (List.mem_of_getElem? (i := 62) (by decide +kernel)), by decide +kernel⟩
theorem k_lay_1_2 : u_lay RX1 TX1 2 ∈ g_WS := List.mem_filter.mpr ⟨k_t1 (List.mem_of_getElem? (i := 64) (by decide +kernel)), by decide +kernel⟩
theorem k_lay_1_3 : u_lay RX1 TX1 3 ∈ g_WS := List.mem_filter.mpr ⟨k_t1 (List.mem_of_getElem? (i := 66) (by decide +kernel)), by decide +kernel⟩
theorem k_lay_1_4 : u_lay RX1 TX1 4 ∈ g_WS := List.mem_filter.mpr ⟨k_t1 (List.mem_of_getElem? (i := 68) (by decide +kernel)), by decide +kernel⟩
theorem k_lay_1_5 : u_lay RX1 TX1 5 ∈ g_WS := List.mem_filter.mpr ⟨k_t1 (List.mem_of_getElem? (i := 70) (by decide +kernel)), by decide +kernel⟩
theorem k_lay_1_6 : u_lay RX1 TX1 6 ∈ g_WS := List.mem_filter.mpr ⟨k_t1 (List.mem_of_getElem? (i := 72) (by decide +kernel)), by decide +kernel⟩
theorem k_lay_1_7 : u_lay RX1 TX1 7 ∈ g_WS := List.mem_filter.mpr ⟨k_t1 (List.mem_of_getElem? (i := 74) (by decide +kernel)), by decide +kernel⟩
theorem k_lay_1_8 : u_lay RX1 TX1 8 ∈ g_WS := List.mem_filter.mpr ⟨k_t1 (List.mem_of_getElem? (i := 76) (by decide +kernel)), by decide +kernel⟩
theorem k_lay_1_9 : u_lay RX1 TX1 9 ∈ g_WS := List.mem_filter.mpr ⟨k_t1 (List.mem_of_getElem? (i := 78) (by decide +kernel)), by decide +kernel⟩
theorem k_ws_1 : ∀ wd ∈ u_ws RX1 TX1 10, wd ∈ g_WS := by
  intro wd h
  obtain ⟨j, hj, rfl⟩ := List.mem_map.mp h
  have hj := List.mem_range.mp hj
  rcases (show j = 0 ∨ j = 1 ∨ j = 2 ∨ j = 3 ∨ j = 4 ∨ j = 5 ∨ j = 6 ∨ j = 7 ∨ j = 8 ∨ j = 9 by omega) with rfl | rfl | rfl | rfl | rfl | rfl | rfl | rfl | rfl | rfl
  · exact k_lay_1_0
  · exact k_lay_1_1
  · exact k_lay_1_2
  · exact k_lay_1_3
  · exact k_lay_1_4
  · exact k_lay_1_5
  · exact k_lay_1_6
  · exact k_lay_1_7
  · exact k_lay_1_8
  · exact k_lay_1_9
theorem k_lay_2_0 : u_lay RX2 TX2 0 ∈ g_WS := List.mem_filter.mpr ⟨k_t1 (List.mem_of_getElem? (i := 29) (by decide +kernel)), by decide +kernel⟩
theorem k_lay_2_1 : u_lay RX2 TX2 1 ∈ g_WS := List.mem_filter.mpr ⟨k_t1 (List.mem_of_getElem? (i := 31) (by decide +kernel)), by decide +kernel⟩
theorem k_ws_2 : ∀ wd ∈ u_ws RX2 TX2 2, wd ∈ g_WS := by
  intro wd h
  obtain ⟨j, hj, rfl⟩ := List.mem_map.mp h
  have hj := List.mem_range.mp hj
  rcases (show j = 0 ∨ j = 1 by omega) with rfl | rfl
  · exact k_lay_2_0
  · exact k_lay_2_1
theorem k_lay_3_0 : u_lay RX3 TX3 0 ∈ g_WS := List.mem_filter.mpr ⟨k_t1 (List.mem_of_getElem? (i := 107) (by decide +kernel)), by decide +kernel⟩
theorem k_lay_3_1 : u_lay RX3 TX3 1 ∈ g_WS := List.mem_filter.mpr ⟨k_t1 (List.mem_of_getElem? (i := 109) (by decide +kernel)), by decide +kernel⟩
theorem k_lay_3_2 : u_lay RX3 TX3 2 ∈ g_WS := List.mem_filter.mpr ⟨k_t1 (List.mem_of_getElem? (i := 111) (by decide +kernel)), by decide +kernel⟩
theorem k_lay_3_3 : u_lay RX3 TX3 3 ∈ g_WS := List.mem_filter.mpr ⟨k_t1 (List.mem_of_getElem? (i := 113) (by decide +kernel)), by decide +kernel⟩
theorem k_lay_3_4 : u_lay RX3 TX3 4 ∈ g_WS := List.mem_filter.mpr ⟨k_t1 (List.mem_of_getElem? (i := 115) (by decide +kernel)), by decide +kernel⟩
theorem k_lay_3_5 : u_lay RX3 TX3 5 ∈ g_WS := List.mem_filter.mpr ⟨k_t1 (List.mem_of_getElem? (i := 117) (by decide +kernel)), by decide +kernel⟩
theorem k_ws_3 : ∀ wd ∈ u_ws RX3 TX3 6, wd ∈ g_WS := by
  intro wd h
  obtain ⟨j, hj, rfl⟩ := List.mem_map.mp h
  have hj := List.mem_range.mp hj
  rcases (show j = 0 ∨ j = 1 ∨ j = 2 ∨ j = 3 ∨ j = 4 ∨ j = 5 by omega) with rfl | rfl | rfl | rfl | rfl | rfl
  · exact k_lay_3_0
  · exact k_lay_3_1
  · exact k_lay_3_2
  · exact k_lay_3_3
  · exact k_lay_3_4
  · exact k_lay_3_5
theorem f_X2_9 : g_F RX2 2 0 9 := ⟨RX2, TX2, 2, rfl, k_ws_2, by decide, k_0⟩
theorem ft_X2_9 : g_Ft RX2 2 0 9 true (.array .char) := ⟨RX2, TX2, 2, tyX2, rfl, k_ws_2, by decide, k_0, tyX2_ok, nmX2, rfl, rfl, fun _ => rfl⟩
theorem f_X1_9 : g_F RX1 1 0 9 := ⟨RX1, TX1, 10, rfl, k_ws_1, by decide, k_1⟩
theorem ft_X1_9 : g_Ft RX1 1 0 9 true (.array .int) := ⟨RX1, TX1, 10, tyX1, rfl, k_ws_1, by decide, k_1, tyX1_ok, nmX1, rfl, rfl, fun _ => rfl⟩
theorem f_X1_15 : g_F RX1 1 1 15 := ⟨RX1, TX1, 10, rfl, k_ws_1, by decide, k_2⟩
theorem ft_X1_15 : g_Ft RX1 1 1 15 true (.array .int) := ⟨RX1, TX1, 10, tyX1, rfl, k_ws_1, by decide, k_2, tyX1_ok, nmX1, rfl, rfl, fun _ => rfl⟩
theorem f_X1_18 : g_F RX1 1 2 18 := ⟨RX1, TX1, 10, rfl, k_ws_1, by decide, k_3⟩
theorem ft_X1_18 : g_Ft RX1 1 2 18 true (.array .int) := ⟨RX1, TX1, 10, tyX1, rfl, k_ws_1, by decide, k_3, tyX1_ok, nmX1, rfl, rfl, fun _ => rfl⟩
theorem f_X1_24 : g_F RX1 1 3 24 := ⟨RX1, TX1, 10, rfl, k_ws_1, by decide, k_4⟩
theorem ft_X1_24 : g_Ft RX1 1 3 24 false .int := ⟨RX1, TX1, 10, tyX1, rfl, k_ws_1, by decide, k_4, tyX1_ok, nmX1, rfl, rfl, fun h => nomatch h⟩
theorem f_X1_28 : g_F RX1 1 4 28 := ⟨RX1, TX1, 10, rfl, k_ws_1, by decide, k_5⟩
theorem ft_X1_28 : g_Ft RX1 1 4 28 false .int := ⟨RX1, TX1, 10, tyX1, rfl, k_ws_1, by decide, k_5, tyX1_ok, nmX1, rfl, rfl, fun h => nomatch h⟩
theorem f_X1_31 : g_F RX1 1 5 31 := ⟨RX1, TX1, 10, rfl, k_ws_1, by decide, k_6⟩
theorem ft_X1_31 : g_Ft RX1 1 5 31 false .boolean := ⟨RX1, TX1, 10, tyX1, rfl, k_ws_1, by decide, k_6, tyX1_ok, nmX1, rfl, rfl, fun h => nomatch h⟩
theorem f_X3_117 : g_F RX3 1 5 117 := ⟨RX1, TX1, 10, rfl, k_ws_1, by decide, k_7⟩
theorem ft_X3_117 : g_Ft RX3 1 5 117 false .boolean := ⟨RX1, TX1, 10, tyX1, rfl, k_ws_1, by decide, k_7, tyX1_ok, nmX1, rfl, rfl, fun h => nomatch h⟩
theorem f_X1_35 : g_F RX1 1 6 35 := ⟨RX1, TX1, 10, rfl, k_ws_1, by decide, k_8⟩
theorem ft_X1_35 : g_Ft RX1 1 6 35 false .int := ⟨RX1, TX1, 10, tyX1, rfl, k_ws_1, by decide, k_8, tyX1_ok, nmX1, rfl, rfl, fun h => nomatch h⟩
theorem f_X3_104 : g_F RX3 1 6 104 := ⟨RX1, TX1, 10, rfl, k_ws_1, by decide, k_9⟩
theorem ft_X3_104 : g_Ft RX3 1 6 104 false .int := ⟨RX1, TX1, 10, tyX1, rfl, k_ws_1, by decide, k_9, tyX1_ok, nmX1, rfl, rfl, fun h => nomatch h⟩
theorem f_X1_38 : g_F RX1 1 7 38 := ⟨RX1, TX1, 10, rfl, k_ws_1, by decide, k_10⟩
theorem ft_X1_38 : g_Ft RX1 1 7 38 false .int := ⟨RX1, TX1, 10, tyX1, rfl, k_ws_1, by decide, k_10, tyX1_ok, nmX1, rfl, rfl, fun h => nomatch h⟩
theorem f_X3_108 : g_F RX3 1 7 108 := ⟨RX1, TX1, 10, rfl, k_ws_1, by decide, k_11⟩
theorem ft_X3_108 : g_Ft RX3 1 7 108 false .int := ⟨RX1, TX1, 10, tyX1, rfl, k_ws_1, by decide, k_11, tyX1_ok, nmX1, rfl, rfl, fun h => nomatch h⟩
theorem f_X1_41 : g_F RX1 1 8 41 := ⟨RX1, TX1, 10, rfl, k_ws_1, by decide, k_12⟩
theorem ft_X1_41 : g_Ft RX1 1 8 41 false .int := ⟨RX1, TX1, 10, tyX1, rfl, k_ws_1, by decide, k_12, tyX1_ok, nmX1, rfl, rfl, fun h => nomatch h⟩
theorem f_X3_111 : g_F RX3 1 8 111 := ⟨RX1, TX1, 10, rfl, k_ws_1, by decide, k_13⟩
theorem ft_X3_111 : g_Ft RX3 1 8 111 false .int := ⟨RX1, TX1, 10, tyX1, rfl, k_ws_1, by decide, k_13, tyX1_ok, nmX1, rfl, rfl, fun h => nomatch h⟩
theorem f_X1_44 : g_F RX1 1 9 44 := ⟨RX1, TX1, 10, rfl, k_ws_1, by decide, k_14⟩
theorem ft_X1_44 : g_Ft RX1 1 9 44 false .int := ⟨RX1, TX1, 10, tyX1, rfl, k_ws_1, by decide, k_14, tyX1_ok, nmX1, rfl, rfl, fun h => nomatch h⟩
theorem f_X3_114 : g_F RX3 1 9 114 := ⟨RX1, TX1, 10, rfl, k_ws_1, by decide, k_15⟩
theorem ft_X3_114 : g_Ft RX3 1 9 114 false .int := ⟨RX1, TX1, 10, tyX1, rfl, k_ws_1, by decide, k_15, tyX1_ok, nmX1, rfl, rfl, fun h => nomatch h⟩
theorem f_X0_11 : g_F RX0 0 0 11 := ⟨RX0, TX0, 3, rfl, k_ws_0, by decide, k_16⟩
theorem ft_X0_11 : g_Ft RX0 0 0 11 true (.array (.object "PageMarriages$Memory")) := ⟨RX0, TX0, 3, tyX0, rfl, k_ws_0, by decide, k_16, tyX0_ok, nmX0, rfl, rfl, fun _ => rfl⟩
theorem f_X0_22 : g_F RX0 0 1 22 := ⟨RX0, TX0, 3, rfl, k_ws_0, by decide, k_17⟩
theorem ft_X0_22 : g_Ft RX0 0 1 22 false .int := ⟨RX0, TX0, 3, tyX0, rfl, k_ws_0, by decide, k_17, tyX0_ok, nmX0, rfl, rfl, fun h => nomatch h⟩
theorem f_X0_18 : g_F RX0 0 2 18 := ⟨RX0, TX0, 3, rfl, k_ws_0, by decide, k_18⟩
theorem ft_X0_18 : g_Ft RX0 0 2 18 false .int := ⟨RX0, TX0, 3, tyX0, rfl, k_ws_0, by decide, k_18, tyX0_ok, nmX0, rfl, rfl, fun h => nomatch h⟩
theorem f_X3_10 : g_F RX3 3 0 10 := ⟨RX3, TX3, 6, rfl, k_ws_3, by decide, k_19⟩
theorem ft_X3_10 : g_Ft RX3 3 0 10 true (.object "PageMarriages$Story") := ⟨RX3, TX3, 6, tyX3, rfl, k_ws_3, by decide, k_19, tyX3_ok, nmX3, rfl, rfl, fun _ => rfl⟩
theorem f_X3_19 : g_F RX3 3 1 19 := ⟨RX3, TX3, 6, rfl, k_ws_3, by decide, k_20⟩
theorem ft_X3_19 : g_Ft RX3 3 1 19 true (.object "PageMarriages$Memory") := ⟨RX3, TX3, 6, tyX3, rfl, k_ws_3, by decide, k_20, tyX3_ok, nmX3, rfl, rfl, fun _ => rfl⟩
theorem f_X3_23 : g_F RX3 3 2 23 := ⟨RX3, TX3, 6, rfl, k_ws_3, by decide, k_21⟩
theorem ft_X3_23 : g_Ft RX3 3 2 23 true (.object "PageMarriages$Memory") := ⟨RX3, TX3, 6, tyX3, rfl, k_ws_3, by decide, k_21, tyX3_ok, nmX3, rfl, rfl, fun _ => rfl⟩
theorem f_X3_29 : g_F RX3 3 3 29 := ⟨RX3, TX3, 6, rfl, k_ws_3, by decide, k_22⟩
theorem ft_X3_29 : g_Ft RX3 3 3 29 true (.object "PageMarriages$History") := ⟨RX3, TX3, 6, tyX3, rfl, k_ws_3, by decide, k_22, tyX3_ok, nmX3, rfl, rfl, fun _ => rfl⟩
theorem f_X3_33 : g_F RX3 3 4 33 := ⟨RX3, TX3, 6, rfl, k_ws_3, by decide, k_23⟩
theorem ft_X3_33 : g_Ft RX3 3 4 33 true (.array (.object "PageMarriages$Memory")) := ⟨RX3, TX3, 6, tyX3, rfl, k_ws_3, by decide, k_23, tyX3_ok, nmX3, rfl, rfl, fun _ => rfl⟩
theorem f_X3_37 : g_F RX3 3 5 37 := ⟨RX3, TX3, 6, rfl, k_ws_3, by decide, k_24⟩
theorem ft_X3_37 : g_Ft RX3 3 5 37 true (.array .boolean) := ⟨RX3, TX3, 6, tyX3, rfl, k_ws_3, by decide, k_24, tyX3_ok, nmX3, rfl, rfl, fun _ => rfl⟩
theorem ok_X0_init : g_ok M_X0_init := ⟨by decide +kernel, (by rw [if_pos (show mH M_X0_init = [] from by decide)]; exact k_25), k_26, by decide +kernel⟩
theorem okI_X0_init : g_okI M_X0_init 0 := ⟨ok_X0_init, k_27, rfl, rfl, by decide +kernel⟩
theorem ok_X0_remember : g_ok M_X0_remember := ⟨by decide +kernel, (by rw [if_pos (show mH M_X0_remember = [] from by decide)]; exact k_28), k_26, by decide +kernel⟩
theorem okV_X0_remember : g_okV M_X0_remember 1 := ⟨ok_X0_remember, k_29, k_30, by decide +kernel⟩
theorem ok_X1_init : g_ok M_X1_init := ⟨by decide +kernel, (by rw [if_pos (show mH M_X1_init = [] from by decide)]; exact k_31), k_32, by decide +kernel⟩
theorem okI_X1_init : g_okI M_X1_init 0 := ⟨ok_X1_init, k_33, rfl, rfl, by decide +kernel⟩
theorem ok_X1_beginAnew : g_ok M_X1_beginAnew := ⟨by decide +kernel, (by rw [if_pos (show mH M_X1_beginAnew = [] from by decide)]; exact k_34), k_32, by decide +kernel⟩
theorem okV_X1_beginAnew : g_okV M_X1_beginAnew 0 := ⟨ok_X1_beginAnew, k_35, k_36, by decide +kernel⟩
theorem ok_X1_copyFrom : g_ok M_X1_copyFrom := ⟨by decide +kernel, (by rw [if_pos (show mH M_X1_copyFrom = [] from by decide)]; exact k_37), k_32, by decide +kernel⟩
theorem okV_X1_copyFrom : g_okV M_X1_copyFrom 1 := ⟨ok_X1_copyFrom, k_38, k_39, by decide +kernel⟩
theorem ok_X1_hasProcess : g_ok M_X1_hasProcess := ⟨by decide +kernel, (by rw [if_pos (show mH M_X1_hasProcess = [] from by decide)]; exact k_40), k_32, by decide +kernel⟩
theorem okV_X1_hasProcess : g_okV M_X1_hasProcess 1 := ⟨ok_X1_hasProcess, k_41, k_42, by decide +kernel⟩
theorem ok_X1_hasPage : g_ok M_X1_hasPage := ⟨by decide +kernel, (by rw [if_pos (show mH M_X1_hasPage = [] from by decide)]; exact k_43), k_32, by decide +kernel⟩
theorem okV_X1_hasPage : g_okV M_X1_hasPage 2 := ⟨ok_X1_hasPage, k_44, k_45, by decide +kernel⟩
theorem ok_X1_hasGroup : g_ok M_X1_hasGroup := ⟨by decide +kernel, (by rw [if_pos (show mH M_X1_hasGroup = [] from by decide)]; exact k_46), k_32, by decide +kernel⟩
theorem okV_X1_hasGroup : g_okV M_X1_hasGroup 2 := ⟨ok_X1_hasGroup, k_47, k_48, by decide +kernel⟩
theorem ok_X1_processes : g_ok M_X1_processes := ⟨by decide +kernel, (by rw [if_pos (show mH M_X1_processes = [] from by decide)]; exact k_49), k_32, by decide +kernel⟩
theorem okV_X1_processes : g_okV M_X1_processes 0 := ⟨ok_X1_processes, k_50, k_51, by decide +kernel⟩
theorem ok_X1_freeFrames : g_ok M_X1_freeFrames := ⟨by decide +kernel, (by rw [if_pos (show mH M_X1_freeFrames = [] from by decide)]; exact k_52), k_32, by decide +kernel⟩
theorem okV_X1_freeFrames : g_okV M_X1_freeFrames 0 := ⟨ok_X1_freeFrames, k_53, k_54, by decide +kernel⟩
theorem ok_X1_sharedFrames : g_ok M_X1_sharedFrames := ⟨by decide +kernel, (by rw [if_pos (show mH M_X1_sharedFrames = [] from by decide)]; exact k_55), k_32, by decide +kernel⟩
theorem okV_X1_sharedFrames : g_okV M_X1_sharedFrames 0 := ⟨ok_X1_sharedFrames, k_56, k_57, by decide +kernel⟩
theorem ok_X1_freeRuns : g_ok M_X1_freeRuns := ⟨by decide +kernel, (by rw [if_pos (show mH M_X1_freeRuns = [] from by decide)]; exact k_58), k_32, by decide +kernel⟩
theorem okV_X1_freeRuns : g_okV M_X1_freeRuns 0 := ⟨ok_X1_freeRuns, k_59, k_60, by decide +kernel⟩
theorem ok_X1_bigGroups : g_ok M_X1_bigGroups := ⟨by decide +kernel, (by rw [if_pos (show mH M_X1_bigGroups = [] from by decide)]; exact k_61), k_32, by decide +kernel⟩
theorem okV_X1_bigGroups : g_okV M_X1_bigGroups 0 := ⟨ok_X1_bigGroups, k_62, k_63, by decide +kernel⟩
theorem ok_X1_widows : g_ok M_X1_widows := ⟨by decide +kernel, (by rw [if_pos (show mH M_X1_widows = [] from by decide)]; exact k_64), k_32, by decide +kernel⟩
theorem okV_X1_widows : g_okV M_X1_widows 0 := ⟨ok_X1_widows, k_65, k_66, by decide +kernel⟩
theorem ok_X1_frameOf : g_ok M_X1_frameOf := ⟨by decide +kernel, (by rw [if_pos (show mH M_X1_frameOf = [] from by decide)]; exact k_67), k_32, by decide +kernel⟩
theorem okV_X1_frameOf : g_okV M_X1_frameOf 2 := ⟨ok_X1_frameOf, k_68, k_69, by decide +kernel⟩
theorem ok_X1_valueOf : g_ok M_X1_valueOf := ⟨by decide +kernel, (by rw [if_pos (show mH M_X1_valueOf = [] from by decide)]; exact k_70), k_32, by decide +kernel⟩
theorem okV_X1_valueOf : g_okV M_X1_valueOf 2 := ⟨ok_X1_valueOf, k_71, k_72, by decide +kernel⟩
theorem ok_X1_usersOfFrameOf : g_ok M_X1_usersOfFrameOf := ⟨by decide +kernel, (by rw [if_pos (show mH M_X1_usersOfFrameOf = [] from by decide)]; exact k_73), k_32, by decide +kernel⟩
theorem okV_X1_usersOfFrameOf : g_okV M_X1_usersOfFrameOf 2 := ⟨ok_X1_usersOfFrameOf, k_74, k_75, by decide +kernel⟩
theorem ok_X1_userAt : g_ok M_X1_userAt := ⟨by decide +kernel, (by rw [if_pos (show mH M_X1_userAt = [] from by decide)]; exact k_76), k_32, by decide +kernel⟩
theorem okV_X1_userAt : g_okV M_X1_userAt 2 := ⟨ok_X1_userAt, k_77, k_78, by decide +kernel⟩
theorem ok_X1_isBig : g_ok M_X1_isBig := ⟨by decide +kernel, (by rw [if_pos (show mH M_X1_isBig = [] from by decide)]; exact k_79), k_32, by decide +kernel⟩
theorem okV_X1_isBig : g_okV M_X1_isBig 2 := ⟨ok_X1_isBig, k_80, k_81, by decide +kernel⟩
theorem ok_X1_runOf : g_ok M_X1_runOf := ⟨by decide +kernel, (by rw [if_pos (show mH M_X1_runOf = [] from by decide)]; exact k_82), k_32, by decide +kernel⟩
theorem okV_X1_runOf : g_okV M_X1_runOf 2 := ⟨ok_X1_runOf, k_83, k_84, by decide +kernel⟩
theorem ok_X1_isWidow : g_ok M_X1_isWidow := ⟨by decide +kernel, (by rw [if_pos (show mH M_X1_isWidow = [] from by decide)]; exact k_85), k_32, by decide +kernel⟩
theorem okV_X1_isWidow : g_okV M_X1_isWidow 2 := ⟨ok_X1_isWidow, k_86, k_87, by decide +kernel⟩
theorem ok_X1_bigGroupsInRun : g_ok M_X1_bigGroupsInRun := ⟨by decide +kernel, (by rw [if_pos (show mH M_X1_bigGroupsInRun = [] from by decide)]; exact k_88), k_32, by decide +kernel⟩
theorem okV_X1_bigGroupsInRun : g_okV M_X1_bigGroupsInRun 1 := ⟨ok_X1_bigGroupsInRun, k_89, k_90, by decide +kernel⟩
theorem ok_X1_pagesWithFrame : g_ok M_X1_pagesWithFrame := ⟨by decide +kernel, (by rw [if_pos (show mH M_X1_pagesWithFrame = [] from by decide)]; exact k_91), k_32, by decide +kernel⟩
theorem okV_X1_pagesWithFrame : g_okV M_X1_pagesWithFrame 2 := ⟨ok_X1_pagesWithFrame, k_92, k_93, by decide +kernel⟩
theorem ok_X1_pagesWithSharedFrame : g_ok M_X1_pagesWithSharedFrame := ⟨by decide +kernel, (by rw [if_pos (show mH M_X1_pagesWithSharedFrame = [] from by decide)]; exact k_94), k_32, by decide +kernel⟩
theorem okV_X1_pagesWithSharedFrame : g_okV M_X1_pagesWithSharedFrame 2 := ⟨ok_X1_pagesWithSharedFrame, k_95, k_96, by decide +kernel⟩
theorem ok_X1_pagesWithValueZero : g_ok M_X1_pagesWithValueZero := ⟨by decide +kernel, (by rw [if_pos (show mH M_X1_pagesWithValueZero = [] from by decide)]; exact k_97), k_32, by decide +kernel⟩
theorem okV_X1_pagesWithValueZero : g_okV M_X1_pagesWithValueZero 2 := ⟨ok_X1_pagesWithValueZero, k_98, k_99, by decide +kernel⟩
theorem ok_X1_isShared : g_ok M_X1_isShared := ⟨by decide +kernel, (by rw [if_pos (show mH M_X1_isShared = [] from by decide)]; exact k_100), k_32, by decide +kernel⟩
theorem okV_X1_isShared : g_okV M_X1_isShared 1 := ⟨ok_X1_isShared, k_101, k_102, by decide +kernel⟩
theorem ok_X1_isRunFree : g_ok M_X1_isRunFree := ⟨by decide +kernel, (by rw [if_pos (show mH M_X1_isRunFree = [] from by decide)]; exact k_103), k_32, by decide +kernel⟩
theorem okV_X1_isRunFree : g_okV M_X1_isRunFree 1 := ⟨ok_X1_isRunFree, k_104, k_105, by decide +kernel⟩
theorem ok_X1_lowestFreeRun : g_ok M_X1_lowestFreeRun := ⟨by decide +kernel, (by rw [if_pos (show mH M_X1_lowestFreeRun = [] from by decide)]; exact k_106), k_32, by decide +kernel⟩
theorem okV_X1_lowestFreeRun : g_okV M_X1_lowestFreeRun 0 := ⟨ok_X1_lowestFreeRun, k_107, k_108, by decide +kernel⟩
theorem ok_X1_lowestSingleFrame : g_ok M_X1_lowestSingleFrame := ⟨by decide +kernel, (by rw [if_pos (show mH M_X1_lowestSingleFrame = [] from by decide)]; exact k_109), k_32, by decide +kernel⟩
theorem okV_X1_lowestSingleFrame : g_okV M_X1_lowestSingleFrame 0 := ⟨ok_X1_lowestSingleFrame, k_110, k_111, by decide +kernel⟩
theorem ok_X1_takeFrame : g_ok M_X1_takeFrame := ⟨by decide +kernel, (by rw [if_pos (show mH M_X1_takeFrame = [] from by decide)]; exact k_112), k_32, by decide +kernel⟩
theorem okV_X1_takeFrame : g_okV M_X1_takeFrame 3 := ⟨ok_X1_takeFrame, k_113, k_114, by decide +kernel⟩
theorem ok_X1_letGo : g_ok M_X1_letGo := ⟨by decide +kernel, (by rw [if_pos (show mH M_X1_letGo = [] from by decide)]; exact k_115), k_32, by decide +kernel⟩
theorem okV_X1_letGo : g_okV M_X1_letGo 2 := ⟨ok_X1_letGo, k_116, k_117, by decide +kernel⟩
theorem ok_X1_becomeBig : g_ok M_X1_becomeBig := ⟨by decide +kernel, (by rw [if_pos (show mH M_X1_becomeBig = [] from by decide)]; exact k_118), k_32, by decide +kernel⟩
theorem okV_X1_becomeBig : g_okV M_X1_becomeBig 2 := ⟨ok_X1_becomeBig, k_119, k_120, by decide +kernel⟩
theorem ok_X1_becomeSmall : g_ok M_X1_becomeSmall := ⟨by decide +kernel, (by rw [if_pos (show mH M_X1_becomeSmall = [] from by decide)]; exact k_121), k_32, by decide +kernel⟩
theorem okV_X1_becomeSmall : g_okV M_X1_becomeSmall 2 := ⟨ok_X1_becomeSmall, k_122, k_123, by decide +kernel⟩
theorem ok_X1_becomeTorn : g_ok M_X1_becomeTorn := ⟨by decide +kernel, (by rw [if_pos (show mH M_X1_becomeTorn = [] from by decide)]; exact k_124), k_32, by decide +kernel⟩
theorem okV_X1_becomeTorn : g_okV M_X1_becomeTorn 2 := ⟨ok_X1_becomeTorn, k_125, k_126, by decide +kernel⟩
theorem ok_X1_outcomeOfWrite : g_ok M_X1_outcomeOfWrite := ⟨by decide +kernel, (by rw [if_pos (show mH M_X1_outcomeOfWrite = [] from by decide)]; exact k_127), k_32, by decide +kernel⟩
theorem okV_X1_outcomeOfWrite : g_okV M_X1_outcomeOfWrite 2 := ⟨ok_X1_outcomeOfWrite, k_128, k_129, by decide +kernel⟩
theorem ok_X1_doWrite : g_ok M_X1_doWrite := ⟨by decide +kernel, (by rw [if_pos (show mH M_X1_doWrite = [] from by decide)]; exact k_130), k_32, by decide +kernel⟩
theorem okV_X1_doWrite : g_okV M_X1_doWrite 3 := ⟨ok_X1_doWrite, k_131, k_132, by decide +kernel⟩
theorem ok_X1_bringIn : g_ok M_X1_bringIn := ⟨by decide +kernel, (by rw [if_pos (show mH M_X1_bringIn = [] from by decide)]; exact k_133), k_32, by decide +kernel⟩
theorem okV_X1_bringIn : g_okV M_X1_bringIn 2 := ⟨ok_X1_bringIn, k_134, k_135, by decide +kernel⟩
theorem ok_X1_bringInWhole : g_ok M_X1_bringInWhole := ⟨by decide +kernel, (by rw [if_pos (show mH M_X1_bringInWhole = [] from by decide)]; exact k_136), k_32, by decide +kernel⟩
theorem okV_X1_bringInWhole : g_okV M_X1_bringInWhole 3 := ⟨ok_X1_bringInWhole, k_137, k_138, by decide +kernel⟩
theorem ok_X1_copyOut : g_ok M_X1_copyOut := ⟨by decide +kernel, (by rw [if_pos (show mH M_X1_copyOut = [] from by decide)]; exact k_139), k_32, by decide +kernel⟩
theorem okV_X1_copyOut : g_okV M_X1_copyOut 2 := ⟨ok_X1_copyOut, k_140, k_141, by decide +kernel⟩
theorem ok_X1_takeSingleFrame : g_ok M_X1_takeSingleFrame := ⟨by decide +kernel, (by rw [if_pos (show mH M_X1_takeSingleFrame = [] from by decide)]; exact k_142), k_32, by decide +kernel⟩
theorem okV_X1_takeSingleFrame : g_okV M_X1_takeSingleFrame 2 := ⟨ok_X1_takeSingleFrame, k_143, k_144, by decide +kernel⟩
theorem ok_X1_lowestUnusedProcess : g_ok M_X1_lowestUnusedProcess := ⟨by decide +kernel, (by rw [if_pos (show mH M_X1_lowestUnusedProcess = [] from by decide)]; exact k_145), k_32, by decide +kernel⟩
theorem okV_X1_lowestUnusedProcess : g_okV M_X1_lowestUnusedProcess 0 := ⟨ok_X1_lowestUnusedProcess, k_146, k_147, by decide +kernel⟩
theorem ok_X1_canFork : g_ok M_X1_canFork := ⟨by decide +kernel, (by rw [if_pos (show mH M_X1_canFork = [] from by decide)]; exact k_148), k_32, by decide +kernel⟩
theorem okV_X1_canFork : g_okV M_X1_canFork 1 := ⟨ok_X1_canFork, k_149, k_150, by decide +kernel⟩
theorem ok_X1_doFork : g_ok M_X1_doFork := ⟨by decide +kernel, (by rw [if_pos (show mH M_X1_doFork = [] from by decide)]; exact k_151), k_32, by decide +kernel⟩
theorem okV_X1_doFork : g_okV M_X1_doFork 1 := ⟨ok_X1_doFork, k_152, k_153, by decide +kernel⟩
theorem ok_X1_canExit : g_ok M_X1_canExit := ⟨by decide +kernel, (by rw [if_pos (show mH M_X1_canExit = [] from by decide)]; exact k_154), k_32, by decide +kernel⟩
theorem okV_X1_canExit : g_okV M_X1_canExit 1 := ⟨ok_X1_canExit, k_155, k_156, by decide +kernel⟩
theorem ok_X1_doExit : g_ok M_X1_doExit := ⟨by decide +kernel, (by rw [if_pos (show mH M_X1_doExit = [] from by decide)]; exact k_157), k_32, by decide +kernel⟩
theorem okV_X1_doExit : g_okV M_X1_doExit 1 := ⟨ok_X1_doExit, k_158, k_159, by decide +kernel⟩
theorem ok_X1_obstacleToMarriage : g_ok M_X1_obstacleToMarriage := ⟨by decide +kernel, (by rw [if_pos (show mH M_X1_obstacleToMarriage = [] from by decide)]; exact k_160), k_32, by decide +kernel⟩
theorem okV_X1_obstacleToMarriage : g_okV M_X1_obstacleToMarriage 2 := ⟨ok_X1_obstacleToMarriage, k_161, k_162, by decide +kernel⟩
theorem ok_X1_isInPlace : g_ok M_X1_isInPlace := ⟨by decide +kernel, (by rw [if_pos (show mH M_X1_isInPlace = [] from by decide)]; exact k_163), k_32, by decide +kernel⟩
theorem okV_X1_isInPlace : g_okV M_X1_isInPlace 2 := ⟨ok_X1_isInPlace, k_164, k_165, by decide +kernel⟩
theorem ok_X1_doMarry : g_ok M_X1_doMarry := ⟨by decide +kernel, (by rw [if_pos (show mH M_X1_doMarry = [] from by decide)]; exact k_166), k_32, by decide +kernel⟩
theorem okV_X1_doMarry : g_okV M_X1_doMarry 2 := ⟨ok_X1_doMarry, k_167, k_168, by decide +kernel⟩
theorem ok_X1_moveTo : g_ok M_X1_moveTo := ⟨by decide +kernel, (by rw [if_pos (show mH M_X1_moveTo = [] from by decide)]; exact k_169), k_32, by decide +kernel⟩
theorem okV_X1_moveTo : g_okV M_X1_moveTo 3 := ⟨ok_X1_moveTo, k_170, k_171, by decide +kernel⟩
theorem ok_X1_marryNext : g_ok M_X1_marryNext := ⟨by decide +kernel, (by rw [if_pos (show mH M_X1_marryNext = [] from by decide)]; exact k_172), k_32, by decide +kernel⟩
theorem okV_X1_marryNext : g_okV M_X1_marryNext 0 := ⟨ok_X1_marryNext, k_173, k_174, by decide +kernel⟩
theorem ok_X1_doTear : g_ok M_X1_doTear := ⟨by decide +kernel, (by rw [if_pos (show mH M_X1_doTear = [] from by decide)]; exact k_175), k_32, by decide +kernel⟩
theorem okV_X1_doTear : g_okV M_X1_doTear 2 := ⟨ok_X1_doTear, k_176, k_177, by decide +kernel⟩
theorem ok_X1_doPress : g_ok M_X1_doPress := ⟨by decide +kernel, (by rw [if_pos (show mH M_X1_doPress = [] from by decide)]; exact k_178), k_32, by decide +kernel⟩
theorem okV_X1_doPress : g_okV M_X1_doPress 1 := ⟨ok_X1_doPress, k_179, k_180, by decide +kernel⟩
theorem ok_X1_loseFirstPage : g_ok M_X1_loseFirstPage := ⟨by decide +kernel, (by rw [if_pos (show mH M_X1_loseFirstPage = [] from by decide)]; exact k_181), k_32, by decide +kernel⟩
theorem okV_X1_loseFirstPage : g_okV M_X1_loseFirstPage 0 := ⟨ok_X1_loseFirstPage, k_182, k_183, by decide +kernel⟩
theorem ok_X1_tearEmptiestGroup : g_ok M_X1_tearEmptiestGroup := ⟨by decide +kernel, (by rw [if_pos (show mH M_X1_tearEmptiestGroup = [] from by decide)]; exact k_184), k_32, by decide +kernel⟩
theorem okV_X1_tearEmptiestGroup : g_okV M_X1_tearEmptiestGroup 0 := ⟨ok_X1_tearEmptiestGroup, k_185, k_186, by decide +kernel⟩
theorem ok_X2_init : g_ok M_X2_init := ⟨by decide +kernel, (by rw [if_pos (show mH M_X2_init = [] from by decide)]; exact k_187), k_188, by decide +kernel⟩
theorem okI_X2_init : g_okI M_X2_init 0 := ⟨ok_X2_init, k_189, rfl, rfl, by decide +kernel⟩
theorem ok_X3_init : g_ok M_X3_init := ⟨by decide +kernel, (by rw [if_pos (show mH M_X3_init = [] from by decide)]; exact k_190), k_191, by decide +kernel⟩
theorem okI_X3_init : g_okI M_X3_init 0 := ⟨ok_X3_init, k_192, rfl, rfl, by decide +kernel⟩
theorem ok_X3_about : g_ok M_X3_about := ⟨by decide +kernel, (by rw [if_pos (show mH M_X3_about = [] from by decide)]; exact k_193), k_191, by decide +kernel⟩
theorem okV_X3_about : g_okV M_X3_about 1 := ⟨ok_X3_about, k_194, k_195, by decide +kernel⟩
theorem ok_X3_page : g_ok M_X3_page := ⟨by decide +kernel, (by rw [if_pos (show mH M_X3_page = [] from by decide)]; exact k_196), k_191, by decide +kernel⟩
theorem okV_X3_page : g_okV M_X3_page 3 := ⟨ok_X3_page, k_197, k_198, by decide +kernel⟩
theorem ok_X3_user : g_ok M_X3_user := ⟨by decide +kernel, (by rw [if_pos (show mH M_X3_user = [] from by decide)]; exact k_199), k_191, by decide +kernel⟩
theorem okV_X3_user : g_okV M_X3_user 2 := ⟨ok_X3_user, k_200, k_201, by decide +kernel⟩
theorem ok_X3_group : g_ok M_X3_group := ⟨by decide +kernel, (by rw [if_pos (show mH M_X3_group = [] from by decide)]; exact k_202), k_191, by decide +kernel⟩
theorem okV_X3_group : g_okV M_X3_group 3 := ⟨ok_X3_group, k_203, k_204, by decide +kernel⟩
theorem ok_X3_write : g_ok M_X3_write := ⟨by decide +kernel, (by rw [if_pos (show mH M_X3_write = [] from by decide)]; exact k_205), k_191, by decide +kernel⟩
theorem okV_X3_write : g_okV M_X3_write 3 := ⟨ok_X3_write, k_206, k_207, by decide +kernel⟩
theorem ok_X3_fork : g_ok M_X3_fork := ⟨by decide +kernel, (by rw [if_pos (show mH M_X3_fork = [] from by decide)]; exact k_208), k_191, by decide +kernel⟩
theorem okV_X3_fork : g_okV M_X3_fork 1 := ⟨ok_X3_fork, k_209, k_210, by decide +kernel⟩
theorem ok_X3_exit : g_ok M_X3_exit := ⟨by decide +kernel, (by rw [if_pos (show mH M_X3_exit = [] from by decide)]; exact k_211), k_191, by decide +kernel⟩
theorem okV_X3_exit : g_okV M_X3_exit 1 := ⟨ok_X3_exit, k_212, k_213, by decide +kernel⟩
theorem ok_X3_marry : g_ok M_X3_marry := ⟨by decide +kernel, (by rw [if_pos (show mH M_X3_marry = [] from by decide)]; exact k_214), k_191, by decide +kernel⟩
theorem okV_X3_marry : g_okV M_X3_marry 2 := ⟨ok_X3_marry, k_215, k_216, by decide +kernel⟩
theorem ok_X3_tear : g_ok M_X3_tear := ⟨by decide +kernel, (by rw [if_pos (show mH M_X3_tear = [] from by decide)]; exact k_217), k_191, by decide +kernel⟩
theorem okV_X3_tear : g_okV M_X3_tear 2 := ⟨ok_X3_tear, k_218, k_219, by decide +kernel⟩
theorem ok_X3_press : g_ok M_X3_press := ⟨by decide +kernel, (by rw [if_pos (show mH M_X3_press = [] from by decide)]; exact k_220), k_191, by decide +kernel⟩
theorem okV_X3_press : g_okV M_X3_press 1 := ⟨ok_X3_press, k_221, k_222, by decide +kernel⟩
theorem ok_X3_setEager : g_ok M_X3_setEager := ⟨by decide +kernel, (by rw [if_pos (show mH M_X3_setEager = [] from by decide)]; exact k_223), k_191, by decide +kernel⟩
theorem okV_X3_setEager : g_okV M_X3_setEager 1 := ⟨ok_X3_setEager, k_224, k_225, by decide +kernel⟩
theorem ok_X3_whyNot : g_ok M_X3_whyNot := ⟨by decide +kernel, (by rw [if_pos (show mH M_X3_whyNot = [] from by decide)]; exact k_226), k_191, by decide +kernel⟩
theorem okV_X3_whyNot : g_okV M_X3_whyNot 2 := ⟨ok_X3_whyNot, k_227, k_228, by decide +kernel⟩
theorem ok_X3_wouldDo : g_ok M_X3_wouldDo := ⟨by decide +kernel, (by rw [if_pos (show mH M_X3_wouldDo = [] from by decide)]; exact k_229), k_191, by decide +kernel⟩
theorem okV_X3_wouldDo : g_okV M_X3_wouldDo 2 := ⟨ok_X3_wouldDo, k_230, k_231, by decide +kernel⟩
theorem ok_X3_marriages : g_ok M_X3_marriages := ⟨by decide +kernel, (by rw [if_pos (show mH M_X3_marriages = [] from by decide)]; exact k_232), k_191, by decide +kernel⟩
theorem okV_X3_marriages : g_okV M_X3_marriages 0 := ⟨ok_X3_marriages, k_233, k_234, by decide +kernel⟩
theorem ok_X3_mostFree : g_ok M_X3_mostFree := ⟨by decide +kernel, (by rw [if_pos (show mH M_X3_mostFree = [] from by decide)]; exact k_235), k_191, by decide +kernel⟩
theorem okV_X3_mostFree : g_okV M_X3_mostFree 0 := ⟨ok_X3_mostFree, k_236, k_237, by decide +kernel⟩
theorem ok_X3_writable : g_ok M_X3_writable := ⟨by decide +kernel, (by rw [if_pos (show mH M_X3_writable = [] from by decide)]; exact k_238), k_191, by decide +kernel⟩
theorem okV_X3_writable : g_okV M_X3_writable 1 := ⟨ok_X3_writable, k_239, k_240, by decide +kernel⟩
theorem ok_X3_requireProcess : g_ok M_X3_requireProcess := ⟨by decide +kernel, (by rw [if_pos (show mH M_X3_requireProcess = [] from by decide)]; exact k_241), k_191, by decide +kernel⟩
theorem okV_X3_requireProcess : g_okV M_X3_requireProcess 1 := ⟨ok_X3_requireProcess, k_242, k_243, by decide +kernel⟩
theorem ok_X3_requirePage : g_ok M_X3_requirePage := ⟨by decide +kernel, (by rw [if_pos (show mH M_X3_requirePage = [] from by decide)]; exact k_244), k_191, by decide +kernel⟩
theorem okV_X3_requirePage : g_okV M_X3_requirePage 2 := ⟨ok_X3_requirePage, k_245, k_246, by decide +kernel⟩
theorem ok_X3_requireGroup : g_ok M_X3_requireGroup := ⟨by decide +kernel, (by rw [if_pos (show mH M_X3_requireGroup = [] from by decide)]; exact k_247), k_191, by decide +kernel⟩
theorem okV_X3_requireGroup : g_okV M_X3_requireGroup 2 := ⟨ok_X3_requireGroup, k_248, k_249, by decide +kernel⟩
theorem ok_J6_bitCount_0f7a4 : g_ok M_J6_bitCount_0f7a4 := ⟨by decide +kernel, (by rw [if_pos (show mH M_J6_bitCount_0f7a4 = [] from by decide)]; exact k_250), k_251, by decide +kernel⟩
theorem okS_J6_bitCount_0f7a4 : g_okS M_J6_bitCount_0f7a4 1 := ⟨ok_J6_bitCount_0f7a4, k_252, by decide +kernel⟩
theorem ok_L_cell : g_ok M_L_cell := ⟨by decide +kernel, (by rw [if_pos (show mH M_L_cell = [] from by decide)]; exact k_253), k_254, by decide +kernel⟩
theorem okS_L_cell : g_okS M_L_cell 2 := ⟨ok_L_cell, k_255, by decide +kernel⟩
theorem ok_L_low : g_ok M_L_low := ⟨by decide +kernel, (by rw [if_pos (show mH M_L_low = [] from by decide)]; exact k_256), k_254, by decide +kernel⟩
theorem okS_L_low : g_okS M_L_low 2 := ⟨ok_L_low, k_257, by decide +kernel⟩
theorem ok_L_write : g_ok M_L_write := ⟨by decide +kernel, (by rw [if_neg (show mH M_L_write ≠ [] from by decide)]; exact k_258), k_254, by decide +kernel⟩
theorem okS_L_write : g_okS M_L_write 4 := ⟨ok_L_write, k_259, by decide +kernel⟩
theorem ok_L_fork : g_ok M_L_fork := ⟨by decide +kernel, (by rw [if_neg (show mH M_L_fork ≠ [] from by decide)]; exact k_260), k_254, by decide +kernel⟩
theorem okS_L_fork : g_okS M_L_fork 2 := ⟨ok_L_fork, k_261, by decide +kernel⟩
theorem ok_L_exit : g_ok M_L_exit := ⟨by decide +kernel, (by rw [if_neg (show mH M_L_exit ≠ [] from by decide)]; exact k_262), k_254, by decide +kernel⟩
theorem okS_L_exit : g_okS M_L_exit 2 := ⟨ok_L_exit, k_263, by decide +kernel⟩
theorem ok_L_marry : g_ok M_L_marry := ⟨by decide +kernel, (by rw [if_neg (show mH M_L_marry ≠ [] from by decide)]; exact k_264), k_254, by decide +kernel⟩
theorem okS_L_marry : g_okS M_L_marry 3 := ⟨ok_L_marry, k_265, by decide +kernel⟩
theorem ok_L_tear : g_ok M_L_tear := ⟨by decide +kernel, (by rw [if_neg (show mH M_L_tear ≠ [] from by decide)]; exact k_266), k_254, by decide +kernel⟩
theorem okS_L_tear : g_okS M_L_tear 3 := ⟨ok_L_tear, k_267, by decide +kernel⟩
theorem ok_L_frame : g_ok M_L_frame := ⟨by decide +kernel, (by rw [if_pos (show mH M_L_frame = [] from by decide)]; exact k_268), k_254, by decide +kernel⟩
theorem okS_L_frame : g_okS M_L_frame 2 := ⟨ok_L_frame, k_269, by decide +kernel⟩
theorem ok_L_one : g_ok M_L_one := ⟨by decide +kernel, (by rw [if_pos (show mH M_L_one = [] from by decide)]; exact k_270), k_254, by decide +kernel⟩
theorem okS_L_one : g_okS M_L_one 1 := ⟨ok_L_one, k_271, by decide +kernel⟩
theorem ok_L_freeRun : g_ok M_L_freeRun := ⟨by decide +kernel, (by rw [if_pos (show mH M_L_freeRun = [] from by decide)]; exact k_272), k_254, by decide +kernel⟩
theorem okS_L_freeRun : g_okS M_L_freeRun 2 := ⟨ok_L_freeRun, k_273, by decide +kernel⟩
theorem ok_L_run : g_ok M_L_run := ⟨by decide +kernel, (by rw [if_pos (show mH M_L_run = [] from by decide)]; exact k_274), k_254, by decide +kernel⟩
theorem okS_L_run : g_okS M_L_run 1 := ⟨ok_L_run, k_275, by decide +kernel⟩
theorem ok_L_single : g_ok M_L_single := ⟨by decide +kernel, (by rw [if_pos (show mH M_L_single = [] from by decide)]; exact k_276), k_254, by decide +kernel⟩
theorem okS_L_single : g_okS M_L_single 1 := ⟨ok_L_single, k_277, by decide +kernel⟩
theorem ok_L_free : g_ok M_L_free := ⟨by decide +kernel, (by rw [if_pos (show mH M_L_free = [] from by decide)]; exact k_278), k_254, by decide +kernel⟩
theorem okS_L_free : g_okS M_L_free 1 := ⟨ok_L_free, k_279, by decide +kernel⟩
theorem ok_L_empty : g_ok M_L_empty := ⟨by decide +kernel, (by rw [if_pos (show mH M_L_empty = [] from by decide)]; exact k_280), k_254, by decide +kernel⟩
theorem okS_L_empty : g_okS M_L_empty 2 := ⟨ok_L_empty, k_281, by decide +kernel⟩
theorem ok_L_would : g_ok M_L_would := ⟨by decide +kernel, (by rw [if_pos (show mH M_L_would = [] from by decide)]; exact k_282), k_254, by decide +kernel⟩
theorem okS_L_would : g_okS M_L_would 3 := ⟨ok_L_would, k_283, by decide +kernel⟩
theorem ok_L_writes : g_ok M_L_writes := ⟨by decide +kernel, (by rw [if_pos (show mH M_L_writes = [] from by decide)]; exact k_284), k_254, by decide +kernel⟩
theorem okS_L_writes : g_okS M_L_writes 5 := ⟨ok_L_writes, k_285, by decide +kernel⟩
theorem ok_L_place : g_ok M_L_place := ⟨by decide +kernel, (by rw [if_pos (show mH M_L_place = [] from by decide)]; exact k_286), k_254, by decide +kernel⟩
theorem okS_L_place : g_okS M_L_place 2 := ⟨ok_L_place, k_287, by decide +kernel⟩
theorem ok_L_why : g_ok M_L_why := ⟨by decide +kernel, (by rw [if_pos (show mH M_L_why = [] from by decide)]; exact k_288), k_254, by decide +kernel⟩
theorem okS_L_why : g_okS M_L_why 3 := ⟨ok_L_why, k_289, by decide +kernel⟩
theorem ok_L_weds : g_ok M_L_weds := ⟨by decide +kernel, (by rw [if_pos (show mH M_L_weds = [] from by decide)]; exact k_290), k_254, by decide +kernel⟩
theorem okS_L_weds : g_okS M_L_weds 4 := ⟨ok_L_weds, k_291, by decide +kernel⟩
theorem ok_L_press : g_ok M_L_press := ⟨by decide +kernel, (by rw [if_pos (show mH M_L_press = [] from by decide)]; exact k_292), k_254, by decide +kernel⟩
theorem okS_L_press : g_okS M_L_press 4 := ⟨ok_L_press, k_293, by decide +kernel⟩
theorem ok_L_same : g_ok M_L_same := ⟨by decide +kernel, (by rw [if_pos (show mH M_L_same = [] from by decide)]; exact k_294), k_254, by decide +kernel⟩
theorem okS_L_same : g_okS M_L_same 4 := ⟨ok_L_same, k_295, by decide +kernel⟩
theorem ok_L_copy : g_ok M_L_copy := ⟨by decide +kernel, (by rw [if_pos (show mH M_L_copy = [] from by decide)]; exact k_296), k_254, by decide +kernel⟩
theorem okS_L_copy : g_okS M_L_copy 6 := ⟨ok_L_copy, k_297, by decide +kernel⟩
theorem ok_L_could : g_ok M_L_could := ⟨by decide +kernel, (by rw [if_pos (show mH M_L_could = [] from by decide)]; exact k_298), k_254, by decide +kernel⟩
theorem okS_L_could : g_okS M_L_could 8 := ⟨ok_L_could, k_299, by decide +kernel⟩
theorem l_L_118 : Cond.methodLink RL 118 yX3_init ∈ g_WS := k_300
theorem l_X3_1 : Cond.methodLink RX3 1 objectInit ∈ g_WS := k_301
theorem l_X2_3 : Cond.methodLink RX2 3 objectInit ∈ g_WS := k_302
theorem l_X3_18 : Cond.methodLink RX3 18 yX1_init ∈ g_WS := k_303
theorem l_X1_3 : Cond.methodLink RX1 3 objectInit ∈ g_WS := k_304
theorem l_X1_21 : Cond.methodLink RX1 21 yX1_beginAnew ∈ g_WS := k_305
theorem l_X3_28 : Cond.methodLink RX3 28 yX0_init ∈ g_WS := k_306
theorem l_X0_3 : Cond.methodLink RX0 3 objectInit ∈ g_WS := k_307
theorem l_X0_17 : Cond.methodLink RX0 17 yX1_init ∈ g_WS := k_308
theorem l_L_141 : Cond.methodLink RL 141 yX3_press ∈ g_WS := k_309
theorem l_X3_177 : Cond.methodLink RX3 177 yX0_remember ∈ g_WS := k_310
theorem l_X0_25 : Cond.methodLink RX0 25 yX1_copyFrom ∈ g_WS := k_311
theorem l_X1_47 : Cond.methodLink RX1 47 arraycopyName ∈ g_WS := k_312
theorem l_X0_29 : Cond.methodLink RX0 29 Lib.Math.min.name ∈ g_WS := k_313
theorem l_X3_221 : Cond.methodLink RX3 221 yX1_doPress ∈ g_WS := k_314
theorem l_X1_99 : Cond.methodLink RX1 99 yX1_freeFrames ∈ g_WS := k_315
theorem l_X1_162 : Cond.methodLink RX1 162 yX1_loseFirstPage ∈ g_WS := k_316
theorem l_X1_77 : Cond.methodLink RX1 77 yX1_isBig ∈ g_WS := k_317
theorem l_X1_169 : Cond.methodLink RX1 169 yX1_usersOfFrameOf ∈ g_WS := k_318
theorem l_X1_73 : Cond.methodLink RX1 73 yX1_frameOf ∈ g_WS := k_319
theorem l_X1_89 : Cond.methodLink RX1 89 yX1_valueOf ∈ g_WS := k_320
theorem l_X1_137 : Cond.methodLink RX1 137 yX1_letGo ∈ g_WS := k_321
theorem l_X1_166 : Cond.methodLink RX1 166 yX1_tearEmptiestGroup ∈ g_WS := k_322
theorem l_X1_80 : Cond.methodLink RX1 80 yX1_pagesWithSharedFrame ∈ g_WS := k_323
theorem l_X1_57 : Cond.methodLink RX1 57 yX1_isShared ∈ g_WS := k_324
theorem l_X1_172 : Cond.methodLink RX1 172 yX1_pagesWithValueZero ∈ g_WS := k_325
theorem l_X1_131 : Cond.methodLink RX1 131 yX1_becomeTorn ∈ g_WS := k_326
theorem l_X1_92 : Cond.methodLink RX1 92 yX1_becomeSmall ∈ g_WS := k_327
theorem l_L_143 : Cond.methodLink RL 143 yX3_setEager ∈ g_WS := k_328
theorem l_X3_92 : Cond.methodLink RX3 92 yX1_freeRuns ∈ g_WS := k_329
theorem l_X1_60 : Cond.methodLink RX1 60 yX1_isRunFree ∈ g_WS := k_330
theorem l_L_119 : Cond.methodLink RL 119 yL_cell ∈ g_WS := k_331
theorem l_L_123 : Cond.methodLink RL 123 yL_low ∈ g_WS := k_332
theorem l_L_126 : Cond.methodLink RL 126 yL_write ∈ g_WS := k_333
theorem l_L_10 : Cond.methodLink RL 10 yX3_write ∈ g_WS := k_334
theorem l_X3_123 : Cond.methodLink RX3 123 yX3_requirePage ∈ g_WS := k_335
theorem l_X3_276 : Cond.methodLink RX3 276 yX1_hasPage ∈ g_WS := k_336
theorem l_X1_53 : Cond.methodLink RX1 53 yX1_hasProcess ∈ g_WS := k_337
theorem l_X3_172 : Cond.methodLink RX3 172 yX1_outcomeOfWrite ∈ g_WS := k_338
theorem l_X1_96 : Cond.methodLink RX1 96 yX1_hasPage ∈ g_WS := k_339
theorem l_X3_181 : Cond.methodLink RX3 181 yX1_doWrite ∈ g_WS := k_340
theorem l_X1_103 : Cond.methodLink RX1 103 yX1_outcomeOfWrite ∈ g_WS := k_341
theorem l_X1_106 : Cond.methodLink RX1 106 yX1_bringIn ∈ g_WS := k_342
theorem l_X1_112 : Cond.methodLink RX1 112 yX1_lowestFreeRun ∈ g_WS := k_343
theorem l_X1_115 : Cond.methodLink RX1 115 yX1_pagesWithFrame ∈ g_WS := k_344
theorem l_X1_118 : Cond.methodLink RX1 118 yX1_bringInWhole ∈ g_WS := k_345
theorem l_X1_125 : Cond.methodLink RX1 125 yX1_takeFrame ∈ g_WS := k_346
theorem l_X1_128 : Cond.methodLink RX1 128 yX1_becomeBig ∈ g_WS := k_347
theorem l_X1_122 : Cond.methodLink RX1 122 yX1_takeSingleFrame ∈ g_WS := k_348
theorem l_X1_134 : Cond.methodLink RX1 134 yX1_lowestSingleFrame ∈ g_WS := k_349
theorem l_X1_109 : Cond.methodLink RX1 109 yX1_copyOut ∈ g_WS := k_350
theorem l_L_129 : Cond.methodLink RL 129 yL_fork ∈ g_WS := k_351
theorem l_L_22 : Cond.methodLink RL 22 yX3_fork ∈ g_WS := k_352
theorem l_X3_185 : Cond.methodLink RX3 185 yX3_requireProcess ∈ g_WS := k_353
theorem l_X3_271 : Cond.methodLink RX3 271 yX1_hasProcess ∈ g_WS := k_354
theorem l_X3_189 : Cond.methodLink RX3 189 yX1_canFork ∈ g_WS := k_355
theorem l_X1_140 : Cond.methodLink RX1 140 yX1_lowestUnusedProcess ∈ g_WS := k_356
theorem l_X3_194 : Cond.methodLink RX3 194 yX1_doFork ∈ g_WS := k_357
theorem l_L_134 : Cond.methodLink RL 134 yL_exit ∈ g_WS := k_358
theorem l_L_26 : Cond.methodLink RL 26 yX3_exit ∈ g_WS := k_359
theorem l_X3_198 : Cond.methodLink RX3 198 yX1_canExit ∈ g_WS := k_360
theorem l_X1_63 : Cond.methodLink RX1 63 yJ6_bitCount_0f7a4 ∈ g_WS := k_361
theorem l_X3_203 : Cond.methodLink RX3 203 yX1_doExit ∈ g_WS := k_362
theorem l_X1_143 : Cond.methodLink RX1 143 yX1_canExit ∈ g_WS := k_363
theorem l_L_136 : Cond.methodLink RL 136 yL_marry ∈ g_WS := k_364
theorem l_L_29 : Cond.methodLink RL 29 yX3_marry ∈ g_WS := k_365
theorem l_X3_153 : Cond.methodLink RX3 153 yX3_requireGroup ∈ g_WS := k_366
theorem l_X3_281 : Cond.methodLink RX3 281 yX1_hasGroup ∈ g_WS := k_367
theorem l_X3_206 : Cond.methodLink RX3 206 yX1_obstacleToMarriage ∈ g_WS := k_368
theorem l_X1_146 : Cond.methodLink RX1 146 yX1_isInPlace ∈ g_WS := k_369
theorem l_X3_211 : Cond.methodLink RX3 211 yX1_doMarry ∈ g_WS := k_370
theorem l_X1_149 : Cond.methodLink RX1 149 yX1_hasGroup ∈ g_WS := k_371
theorem l_X1_152 : Cond.methodLink RX1 152 yX1_obstacleToMarriage ∈ g_WS := k_372
theorem l_X1_155 : Cond.methodLink RX1 155 yX1_moveTo ∈ g_WS := k_373
theorem l_L_139 : Cond.methodLink RL 139 yL_tear ∈ g_WS := k_374
theorem l_L_33 : Cond.methodLink RL 33 yX3_tear ∈ g_WS := k_375
theorem l_X3_137 : Cond.methodLink RX3 137 yX1_isBig ∈ g_WS := k_376
theorem l_X3_216 : Cond.methodLink RX3 216 yX1_doTear ∈ g_WS := k_377
theorem l_X1_83 : Cond.methodLink RX1 83 yX1_runOf ∈ g_WS := k_378
theorem l_L_46 : Cond.methodLink RL 46 yL_frame ∈ g_WS := k_379
theorem l_L_36 : Cond.methodLink RL 36 yL_freeRun ∈ g_WS := k_380
theorem l_L_72 : Cond.methodLink RL 72 yL_free ∈ g_WS := k_381
theorem l_L_111 : Cond.methodLink RL 111 yL_writes ∈ g_WS := k_382
theorem l_L_60 : Cond.methodLink RL 60 yL_would ∈ g_WS := k_383
theorem l_L_50 : Cond.methodLink RL 50 yL_one ∈ g_WS := k_384
theorem l_L_54 : Cond.methodLink RL 54 yL_empty ∈ g_WS := k_385
theorem l_L_42 : Cond.methodLink RL 42 yL_run ∈ g_WS := k_386
theorem l_L_57 : Cond.methodLink RL 57 yL_single ∈ g_WS := k_387
theorem l_L_97 : Cond.methodLink RL 97 yL_weds ∈ g_WS := k_388
theorem l_L_69 : Cond.methodLink RL 69 yL_why ∈ g_WS := k_389
theorem l_L_66 : Cond.methodLink RL 66 yL_place ∈ g_WS := k_390
theorem l_L_108 : Cond.methodLink RL 108 yL_press ∈ g_WS := k_391
theorem l_L_147 : Cond.methodLink RL 147 yL_same ∈ g_WS := k_392
theorem l_L_75 : Cond.methodLink RL 75 yX3_user ∈ g_WS := k_393
theorem l_X3_150 : Cond.methodLink RX3 150 yX1_userAt ∈ g_WS := k_394
theorem l_L_78 : Cond.methodLink RL 78 yX3_page ∈ g_WS := k_395
theorem l_X3_127 : Cond.methodLink RX3 127 yX1_frameOf ∈ g_WS := k_396
theorem l_X3_131 : Cond.methodLink RX3 131 yX1_valueOf ∈ g_WS := k_397
theorem l_X3_134 : Cond.methodLink RX3 134 yX1_usersOfFrameOf ∈ g_WS := k_398
theorem l_L_81 : Cond.methodLink RL 81 yX3_wouldDo ∈ g_WS := k_399
theorem l_L_84 : Cond.methodLink RL 84 yX3_group ∈ g_WS := k_400
theorem l_X3_156 : Cond.methodLink RX3 156 yX1_pagesWithFrame ∈ g_WS := k_401
theorem l_X3_159 : Cond.methodLink RX3 159 yX1_isWidow ∈ g_WS := k_402
theorem l_X1_86 : Cond.methodLink RX1 86 yX1_bigGroupsInRun ∈ g_WS := k_403
theorem l_X3_162 : Cond.methodLink RX3 162 yX1_pagesWithSharedFrame ∈ g_WS := k_404
theorem l_X3_165 : Cond.methodLink RX3 165 yX1_runOf ∈ g_WS := k_405
theorem l_L_87 : Cond.methodLink RL 87 yX3_whyNot ∈ g_WS := k_406
theorem l_L_90 : Cond.methodLink RL 90 yX3_about ∈ g_WS := k_407
theorem l_X3_86 : Cond.methodLink RX3 86 yX1_processes ∈ g_WS := k_408
theorem l_X3_89 : Cond.methodLink RX3 89 yX1_freeFrames ∈ g_WS := k_409
theorem l_X3_95 : Cond.methodLink RX3 95 yX1_bigGroups ∈ g_WS := k_410
theorem l_X3_98 : Cond.methodLink RX3 98 yX1_widows ∈ g_WS := k_411
theorem l_X1_69 : Cond.methodLink RX1 69 yX1_isWidow ∈ g_WS := k_412
theorem l_X3_101 : Cond.methodLink RX3 101 yX1_sharedFrames ∈ g_WS := k_413
theorem l_L_151 : Cond.methodLink RL 151 yL_could ∈ g_WS := k_414
theorem l_L_93 : Cond.methodLink RL 93 yL_copy ∈ g_WS := k_415
theorem l_L_101 : Cond.methodLink RL 101 yX3_marriages ∈ g_WS := k_416
theorem l_X3_232 : Cond.methodLink RX3 232 yX1_copyFrom ∈ g_WS := k_417
theorem l_X3_235 : Cond.methodLink RX3 235 yX1_marryNext ∈ g_WS := k_418
theorem l_X1_159 : Cond.methodLink RX1 159 yX1_doMarry ∈ g_WS := k_419
theorem l_L_105 : Cond.methodLink RL 105 yX3_mostFree ∈ g_WS := k_420
theorem l_L_115 : Cond.methodLink RL 115 yX3_writable ∈ g_WS := k_421
theorem cl_L_11 : Cond.classLink RL 11 RX3 ∈ g_WS := k_422
theorem cl_X3_7 : Cond.classLink RX3 7 RX2 ∈ g_WS := k_423
theorem ac_char : Cond.arrayClass .char ∈ g_WS := k_424
theorem cl_X3_16 : Cond.classLink RX3 16 RX1 ∈ g_WS := k_425
theorem ac_int : Cond.arrayClass .int ∈ g_WS := k_426
theorem cl_X3_26 : Cond.classLink RX3 26 RX0 ∈ g_WS := k_427
theorem cl_X0_9 : Cond.classLink RX0 9 RX1 ∈ g_WS := k_428
theorem ac_boolean : Cond.arrayClass .boolean ∈ g_WS := k_429
theorem cl_X3_41 : Cond.classLink RX3 41 "java/lang/IllegalArgumentException" ∈ g_WS := k_430
theorem ac_byte : Cond.arrayClass .byte ∈ g_WS := k_431
theorem co_L_7 : Cond.constant RL 7 (1541459225 : Int32) ∈ g_WS := k_432
theorem co_L_8 : Cond.constant RL 8 (792403069 : Int32) ∈ g_WS := k_433
theorem co_L_9 : Cond.constant RL 9 (2147483647 : Int32) ∈ g_WS := k_434
theorem cl_L_16 : Cond.classLink RL 16 "java/lang/IndexOutOfBoundsException" ∈ g_WS := k_435
theorem cl_L_18 : Cond.classLink RL 18 "java/lang/IllegalArgumentException" ∈ g_WS := k_436
theorem cl_L_20 : Cond.classLink RL 20 "java/lang/IllegalStateException" ∈ g_WS := k_437
theorem cl_X3_143 : Cond.classLink RX3 143 "java/lang/IndexOutOfBoundsException" ∈ g_WS := k_438
theorem cl_X3_52 : Cond.classLink RX3 52 "java/lang/IllegalStateException" ∈ g_WS := k_439
theorem co_J6_265 : Cond.constant RJ6 265 (1431655765 : Int32) ∈ g_WS := k_440
theorem co_J6_266 : Cond.constant RJ6 266 (858993459 : Int32) ∈ g_WS := k_441
theorem co_J6_267 : Cond.constant RJ6 267 (252645135 : Int32) ∈ g_WS := k_442
theorem co_L_64 : Cond.constantLong RL 64 (-1 : Int64) ∈ g_WS := k_443
theorem co_L_132 : Cond.constantLong RL 132 (65535 : Int64) ∈ g_WS := k_444
theorem ac_long : Cond.arrayClass .long ∈ g_WS := k_445
theorem w_oi1 : Cond.instanceMethod objectInit ∈ g_WS := k_446
theorem w_oi2 : Cond.code objectInit ⟨#[0xb1]⟩ 1 none ∈ g_WS := k_447
theorem w_mm1 : Cond.static Lib.Math.min.name ∈ g_WS := k_448
theorem w_mm2 : Cond.initialized RJ9 ∈ g_WS := k_449
theorem w_mm3 : Cond.code Lib.Math.min.name Lib.Math.min.code 2 (some .int) ∈ g_WS := k_450
theorem w_ac1 : Cond.native arraycopyName ∈ g_WS := k_451
theorem w_ac2 : Cond.static arraycopyName ∈ g_WS := k_452
theorem w_ac3 : Cond.initialized RJ10 ∈ g_WS := k_453
theorem n_L_11 : g_N RL 3 11 6 [vN, vN, vN, vN, vN, vN] := ⟨RX3, TX3, 6, tyX3, rfl, k_ws_3, tyX3_ok, k_422, k_454, k_191, rfl, fun ad j hj => by rcases (show j = 0 ∨ j = 1 ∨ j = 2 ∨ j = 3 ∨ j = 4 ∨ j = 5 by omega) with rfl | rfl | rfl | rfl | rfl | rfl <;> rfl⟩
theorem n_X3_7 : g_N RX3 2 7 2 [vN, vI 0] := ⟨RX2, TX2, 2, tyX2, rfl, k_ws_2, tyX2_ok, k_423, k_455, k_188, rfl, fun ad j hj => by rcases (show j = 0 ∨ j = 1 by omega) with rfl | rfl <;> rfl⟩
theorem n_X3_16 : g_N RX3 1 16 10 [vN, vN, vN, vI 0, vI 0, vI 0, vI 0, vI 0, vI 0, vI 0] := ⟨RX1, TX1, 10, tyX1, rfl, k_ws_1, tyX1_ok, k_425, k_456, k_32, rfl, fun ad j hj => by rcases (show j = 0 ∨ j = 1 ∨ j = 2 ∨ j = 3 ∨ j = 4 ∨ j = 5 ∨ j = 6 ∨ j = 7 ∨ j = 8 ∨ j = 9 by omega) with rfl | rfl | rfl | rfl | rfl | rfl | rfl | rfl | rfl | rfl <;> rfl⟩
theorem n_X3_26 : g_N RX3 0 26 3 [vN, vI 0, vI 0] := ⟨RX0, TX0, 3, tyX0, rfl, k_ws_0, tyX0_ok, k_427, k_457, k_26, rfl, fun ad j hj => by rcases (show j = 0 ∨ j = 1 ∨ j = 2 by omega) with rfl | rfl | rfl <;> rfl⟩
theorem n_X0_9 : g_N RX0 1 9 10 [vN, vN, vN, vI 0, vI 0, vI 0, vI 0, vI 0, vI 0, vI 0] := ⟨RX1, TX1, 10, tyX1, rfl, k_ws_1, tyX1_ok, k_428, k_456, k_32, rfl, fun ad j hj => by rcases (show j = 0 ∨ j = 1 ∨ j = 2 ∨ j = 3 ∨ j = 4 ∨ j = 5 ∨ j = 6 ∨ j = 7 ∨ j = 8 ∨ j = 9 by omega) with rfl | rfl | rfl | rfl | rfl | rfl | rfl | rfl | rfl | rfl <;> rfl⟩
set_option maxRecDepth 100000 in
theorem e_41_45 : g_E RX3 41 45 "java/lang/IllegalArgumentException" := ⟨by decide +kernel, k_430, k_458, by
  have h : ((vx_atS RX3 45 "java/lang/IllegalArgumentException" g_xn).all fun wd => (decide (wd ∈ lw_tbl) && goodWord wd) || (g_csts.any fun q => decide (wd = .castable q.1 q.2)) || g_decl.any fun q => decide (wd = .declares q)) = true := by decide +kernel
  intro wd hw
  have h1 := List.all_eq_true.mp h wd hw
  rw [Bool.or_eq_true, Bool.or_eq_true] at h1
  rcases h1 with (h1 | h1) | h1
  · rw [Bool.and_eq_true] at h1
    exact Or.inl (List.mem_filter.mpr ⟨of_decide_eq_true h1.1, h1.2⟩)
  · obtain ⟨q, hq, h2⟩ := List.any_eq_true.mp h1
    exact Or.inr (Or.inl ⟨q, hq, of_decide_eq_true h2⟩)
  · obtain ⟨q, hq, h2⟩ := List.any_eq_true.mp h1
    exact Or.inr (Or.inr ⟨q, hq, of_decide_eq_true h2⟩), by
  have h : (Cond.classLink RX3 41 "java/lang/IllegalArgumentException" :: Cond.initialized "java/lang/IllegalArgumentException" :: vx_atS RX3 45 "java/lang/IllegalArgumentException" g_xn).all vx_ot = true := by decide +kernel
  exact fun wd hw => List.all_eq_true.mp h wd hw⟩
set_option maxRecDepth 100000 in
theorem e_143_147 : g_E RX3 143 147 "java/lang/IndexOutOfBoundsException" := ⟨by decide +kernel, k_438, k_459, by
  have h : ((vx_atS RX3 147 "java/lang/IndexOutOfBoundsException" g_xn).all fun wd => (decide (wd ∈ lw_tbl) && goodWord wd) || (g_csts.any fun q => decide (wd = .castable q.1 q.2)) || g_decl.any fun q => decide (wd = .declares q)) = true := by decide +kernel
  intro wd hw
  have h1 := List.all_eq_true.mp h wd hw
  rw [Bool.or_eq_true, Bool.or_eq_true] at h1
  rcases h1 with (h1 | h1) | h1
  · rw [Bool.and_eq_true] at h1
    exact Or.inl (List.mem_filter.mpr ⟨of_decide_eq_true h1.1, h1.2⟩)
  · obtain ⟨q, hq, h2⟩ := List.any_eq_true.mp h1
    exact Or.inr (Or.inl ⟨q, hq, of_decide_eq_true h2⟩)
  · obtain ⟨q, hq, h2⟩ := List.any_eq_true.mp h1
    exact Or.inr (Or.inr ⟨q, hq, of_decide_eq_true h2⟩), by
  have h : (Cond.classLink RX3 143 "java/lang/IndexOutOfBoundsException" :: Cond.initialized "java/lang/IndexOutOfBoundsException" :: vx_atS RX3 147 "java/lang/IndexOutOfBoundsException" g_xn).all vx_ot = true := by decide +kernel
  exact fun wd hw => List.all_eq_true.mp h wd hw⟩
set_option maxRecDepth 100000 in
theorem e_52_56 : g_E RX3 52 56 "java/lang/IllegalStateException" := ⟨by decide +kernel, k_439, k_460, by
  have h : ((vx_atS RX3 56 "java/lang/IllegalStateException" g_xn).all fun wd => (decide (wd ∈ lw_tbl) && goodWord wd) || (g_csts.any fun q => decide (wd = .castable q.1 q.2)) || g_decl.any fun q => decide (wd = .declares q)) = true := by decide +kernel
  intro wd hw
  have h1 := List.all_eq_true.mp h wd hw
  rw [Bool.or_eq_true, Bool.or_eq_true] at h1
  rcases h1 with (h1 | h1) | h1
  · rw [Bool.and_eq_true] at h1
    exact Or.inl (List.mem_filter.mpr ⟨of_decide_eq_true h1.1, h1.2⟩)
  · obtain ⟨q, hq, h2⟩ := List.any_eq_true.mp h1
    exact Or.inr (Or.inl ⟨q, hq, of_decide_eq_true h2⟩)
  · obtain ⟨q, hq, h2⟩ := List.any_eq_true.mp h1
    exact Or.inr (Or.inr ⟨q, hq, of_decide_eq_true h2⟩), by
  have h : (Cond.classLink RX3 52 "java/lang/IllegalStateException" :: Cond.initialized "java/lang/IllegalStateException" :: vx_atS RX3 56 "java/lang/IllegalStateException" g_xn).all vx_ot = true := by decide +kernel
  exact fun wd hw => List.all_eq_true.mp h wd hw⟩

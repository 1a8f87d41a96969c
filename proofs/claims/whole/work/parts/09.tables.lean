/-! the methods with their rooms; words, fields, calls by their places (printed by wip/whole/gen.py) -/
def M_X0_init : MT := (yX0_init, cX0_init, 2, none, [], 2, 41)
def M_X0_size : MT := (yX0_size, cX0_size, 1, (some .int), [], 0, 0)
def M_X0_forget : MT := (yX0_forget, cX0_forget, 1, none, [], 0, 0)
def M_X0_remember : MT := (yX0_remember, cX0_remember, 2, none, [], 2, 47)
def M_X0_takeBack : MT := (yX0_takeBack, cX0_takeBack, 2, none, [], 2, 47)
def M_X1_init : MT := (yX1_init, cX1_init, 1, none, [], 1, 21)
def M_X1_beginAnew : MT := (yX1_beginAnew, cX1_beginAnew, 2, none, [], 0, 0)
def M_X1_copyFrom : MT := (yX1_copyFrom, cX1_copyFrom, 2, none, [], 1, 26)
def M_X1_hasProcess : MT := (yX1_hasProcess, cX1_hasProcess, 2, (some .boolean), [], 0, 0)
def M_X1_hasPage : MT := (yX1_hasPage, cX1_hasPage, 3, (some .boolean), [], 1, 21)
def M_X1_hasGroup : MT := (yX1_hasGroup, cX1_hasGroup, 3, (some .boolean), [], 1, 21)
def M_X1_processes : MT := (yX1_processes, cX1_processes, 1, (some .int), [], 0, 0)
def M_X1_freeFrames : MT := (yX1_freeFrames, cX1_freeFrames, 3, (some .int), [], 0, 0)
def M_X1_sharedFrames : MT := (yX1_sharedFrames, cX1_sharedFrames, 3, (some .int), [], 1, 21)
def M_X1_freeRuns : MT := (yX1_freeRuns, cX1_freeRuns, 3, (some .int), [], 1, 22)
def M_X1_bigGroups : MT := (yX1_bigGroups, cX1_bigGroups, 1, (some .int), [], 1, 20)
def M_X1_widows : MT := (yX1_widows, cX1_widows, 4, (some .int), [], 4, 91)
def M_X1_frameOf : MT := (yX1_frameOf, cX1_frameOf, 4, (some .int), [], 0, 0)
def M_X1_valueOf : MT := (yX1_valueOf, cX1_valueOf, 4, (some .int), [], 1, 23)
def M_X1_usersOfFrameOf : MT := (yX1_usersOfFrameOf, cX1_usersOfFrameOf, 4, (some .int), [], 1, 23)
def M_X1_userAt : MT := (yX1_userAt, cX1_userAt, 6, (some .int), [], 1, 23)
def M_X1_isBig : MT := (yX1_isBig, cX1_isBig, 4, (some .boolean), [], 0, 0)
def M_X1_runOf : MT := (yX1_runOf, cX1_runOf, 3, (some .int), [], 1, 23)
def M_X1_isWidow : MT := (yX1_isWidow, cX1_isWidow, 3, (some .boolean), [], 3, 69)
def M_X1_bigGroupsInRun : MT := (yX1_bigGroupsInRun, cX1_bigGroupsInRun, 5, (some .int), [], 2, 45)
def M_X1_pagesWithFrame : MT := (yX1_pagesWithFrame, cX1_pagesWithFrame, 5, (some .int), [], 1, 23)
def M_X1_pagesWithSharedFrame : MT := (yX1_pagesWithSharedFrame, cX1_pagesWithSharedFrame, 5, (some .int), [], 1, 23)
def M_X1_pagesWithValueZero : MT := (yX1_pagesWithValueZero, cX1_pagesWithValueZero, 5, (some .int), [], 2, 46)
def M_X1_isShared : MT := (yX1_isShared, cX1_isShared, 2, (some .boolean), [], 0, 0)
def M_X1_isRunFree : MT := (yX1_isRunFree, cX1_isRunFree, 3, (some .boolean), [], 0, 0)
def M_X1_lowestFreeRun : MT := (yX1_lowestFreeRun, cX1_lowestFreeRun, 2, (some .int), [], 1, 22)
def M_X1_lowestSingleFrame : MT := (yX1_lowestSingleFrame, cX1_lowestSingleFrame, 3, (some .int), [], 1, 22)
def M_X1_takeFrame : MT := (yX1_takeFrame, cX1_takeFrame, 4, none, [], 0, 0)
def M_X1_letGo : MT := (yX1_letGo, cX1_letGo, 4, (some .int), [], 1, 23)
def M_X1_becomeBig : MT := (yX1_becomeBig, cX1_becomeBig, 3, none, [], 0, 0)
def M_X1_becomeSmall : MT := (yX1_becomeSmall, cX1_becomeSmall, 3, none, [], 0, 0)
def M_X1_becomeTorn : MT := (yX1_becomeTorn, cX1_becomeTorn, 3, none, [], 1, 22)
def M_X1_outcomeOfWrite : MT := (yX1_outcomeOfWrite, cX1_outcomeOfWrite, 4, (some .int), [], 2, 43)
def M_X1_doWrite : MT := (yX1_doWrite, cX1_doWrite, 6, (some .int), [], 4, 93)
def M_X1_bringIn : MT := (yX1_bringIn, cX1_bringIn, 5, none, [], 3, 69)
def M_X1_bringInWhole : MT := (yX1_bringInWhole, cX1_bringInWhole, 6, none, [], 1, 23)
def M_X1_copyOut : MT := (yX1_copyOut, cX1_copyOut, 4, none, [], 3, 69)
def M_X1_takeSingleFrame : MT := (yX1_takeSingleFrame, cX1_takeSingleFrame, 4, none, [], 2, 46)
def M_X1_lowestUnusedProcess : MT := (yX1_lowestUnusedProcess, cX1_lowestUnusedProcess, 2, (some .int), [], 1, 21)
def M_X1_canFork : MT := (yX1_canFork, cX1_canFork, 2, (some .boolean), [], 2, 42)
def M_X1_doFork : MT := (yX1_doFork, cX1_doFork, 5, (some .int), [], 2, 42)
def M_X1_canExit : MT := (yX1_canExit, cX1_canExit, 2, (some .boolean), [], 1, 21)
def M_X1_doExit : MT := (yX1_doExit, cX1_doExit, 4, (some .int), [], 2, 46)
def M_X1_obstacleToMarriage : MT := (yX1_obstacleToMarriage, cX1_obstacleToMarriage, 3, (some .int), [], 2, 47)
def M_X1_isInPlace : MT := (yX1_isInPlace, cX1_isInPlace, 5, (some .boolean), [], 1, 23)
def M_X1_doMarry : MT := (yX1_doMarry, cX1_doMarry, 4, (some .int), [], 3, 72)
def M_X1_moveTo : MT := (yX1_moveTo, cX1_moveTo, 7, (some .int), [], 2, 46)
def M_X1_marryNext : MT := (yX1_marryNext, cX1_marryNext, 5, (some .boolean), [], 4, 95)
def M_X1_doTear : MT := (yX1_doTear, cX1_doTear, 4, (some .int), [], 2, 45)
def M_X1_doPress : MT := (yX1_doPress, cX1_doPress, 4, (some .int), [], 4, 95)
def M_X1_loseFirstPage : MT := (yX1_loseFirstPage, cX1_loseFirstPage, 4, (some .boolean), [], 2, 46)
def M_X1_tearEmptiestGroup : MT := (yX1_tearEmptiestGroup, cX1_tearEmptiestGroup, 6, (some .boolean), [], 3, 70)
def M_X2_init : MT := (yX2_init, cX2_init, 1, none, [], 1, 20)
def M_X2_length : MT := (yX2_length, cX2_length, 1, (some .int), [], 0, 0)
def M_X2_add : MT := (yX2_add, cX2_add, 2, (some .int), [], 0, 0)
def M_X2_empty : MT := (yX2_empty, cX2_empty, 2, (some .int), [], 0, 0)
def M_X2_sign : MT := (yX2_sign, cX2_sign, 2, (some .char), [], 0, 0)
def M_X2_digit : MT := (yX2_digit, cX2_digit, 3, (some .int), [], 1, 21)
def M_X2_number : MT := (yX2_number, cX2_number, 4, (some .int), [], 2, 43)
def M_X2_digitsBehind : MT := (yX2_digitsBehind, cX2_digitsBehind, 1, (some .int), [], 0, 0)
def M_X2_firstError : MT := (yX2_firstError, cX2_firstError, 4, (some .int), [], 3, 67)
def M_X2_isAllowedDigit : MT := (yX2_isAllowedDigit, cX2_isAllowedDigit, 4, (some .boolean), [], 2, 44)
def M_X2_highestDigit : MT := (yX2_highestDigit, cX2_highestDigit, 4, (some .int), [], 1, 21)
def M_X3_init : MT := (yX3_init, cX3_init, 2, none, [], 3, 62)
def M_X3_append : MT := (yX3_append, cX3_append, 2, (some .int), [], 6, 90)
def M_X3_clearText : MT := (yX3_clearText, cX3_clearText, 1, (some .int), [], 1, 21)
def M_X3_errorPosition : MT := (yX3_errorPosition, cX3_errorPosition, 1, (some .int), [], 4, 90)
def M_X3_load : MT := (yX3_load, cX3_load, 3, (some .int), [], 6, 140)
def M_X3_about : MT := (yX3_about, cX3_about, 2, (some .int), [], 6, 114)
def M_X3_page : MT := (yX3_page, cX3_page, 4, (some .int), [], 7, 112)
def M_X3_user : MT := (yX3_user, cX3_user, 3, (some .int), [], 6, 90)
def M_X3_group : MT := (yX3_group, cX3_group, 4, (some .int), [], 7, 112)
def M_X3_write : MT := (yX3_write, cX3_write, 4, (some .int), [], 7, 118)
def M_X3_fork : MT := (yX3_fork, cX3_fork, 2, (some .int), [], 7, 111)
def M_X3_exit : MT := (yX3_exit, cX3_exit, 2, (some .int), [], 7, 111)
def M_X3_marry : MT := (yX3_marry, cX3_marry, 3, (some .int), [], 7, 112)
def M_X3_tear : MT := (yX3_tear, cX3_tear, 3, (some .int), [], 7, 112)
def M_X3_press : MT := (yX3_press, cX3_press, 2, (some .int), [], 6, 118)
def M_X3_setEager : MT := (yX3_setEager, cX3_setEager, 2, (some .int), [], 3, 68)
def M_X3_undo : MT := (yX3_undo, cX3_undo, 1, (some .int), [], 6, 90)
def M_X3_whyNot : MT := (yX3_whyNot, cX3_whyNot, 3, (some .int), [], 7, 112)
def M_X3_wouldDo : MT := (yX3_wouldDo, cX3_wouldDo, 3, (some .int), [], 7, 112)
def M_X3_marriages : MT := (yX3_marriages, cX3_marriages, 2, (some .int), [], 5, 119)
def M_X3_mostFree : MT := (yX3_mostFree, cX3_mostFree, 1, (some .int), [], 5, 118)
def M_X3_writable : MT := (yX3_writable, cX3_writable, 3, (some .int), [], 7, 118)
def M_X3_runScript : MT := (yX3_runScript, cX3_runScript, 7, (some .int), [], 6, 147)
def M_X3_simulate : MT := (yX3_simulate, cX3_simulate, 8, (some .int), [], 6, 140)
def M_X3_save : MT := (yX3_save, cX3_save, 2, (some .int), [], 7, 111)
def M_X3_restore : MT := (yX3_restore, cX3_restore, 2, (some .int), [], 7, 111)
def M_X3_requireProcess : MT := (yX3_requireProcess, cX3_requireProcess, 2, none, [], 6, 90)
def M_X3_requirePage : MT := (yX3_requirePage, cX3_requirePage, 3, none, [], 6, 90)
def M_X3_requireGroup : MT := (yX3_requireGroup, cX3_requireGroup, 3, none, [], 6, 90)
def M_X3_requireSlot : MT := (yX3_requireSlot, cX3_requireSlot, 2, none, [], 6, 90)
def M_X3_doCommandOfText : MT := (yX3_doCommandOfText, cX3_doCommandOfText, 3, (some .boolean), [], 5, 118)
def M_X3_withoutLastCommands : MT := (yX3_withoutLastCommands, cX3_withoutLastCommands, 6, (some .long), [], 0, 0)
def M_X3_doCommandOfScript : MT := (yX3_doCommandOfScript, cX3_doCommandOfScript, 10, (some .boolean), [], 5, 118)
def M_X3_doStep : MT := (yX3_doStep, cX3_doStep, 3, none, [], 5, 118)
def M_X4_init : MT := (yX4_init, cX4_init, 1, none, [], 1, 21)
def M_X4_thrown : MT := (yX4_thrown, cX4_thrown, 1, (some .int), [], 0, 0)
def M_X4_copy : MT := (yX4_copy, cX4_copy, 5, none, [], 0, 0)
def M_X4_within : MT := (yX4_within, cX4_within, 3, (some .boolean), [], 0, 0)
def M_X4_renew : MT := (yX4_renew, cX4_renew, 2, none, [], 0, 0)
def M_X4_isProcess : MT := (yX4_isProcess, cX4_isProcess, 2, (some .boolean), [], 1, 22)
def M_X4_isPage : MT := (yX4_isPage, cX4_isPage, 3, (some .boolean), [], 2, 43)
def M_X4_isGroup : MT := (yX4_isGroup, cX4_isGroup, 3, (some .boolean), [], 2, 43)
def M_X4_frameOf : MT := (yX4_frameOf, cX4_frameOf, 3, (some .int), [], 0, 0)
def M_X4_setFrame : MT := (yX4_setFrame, cX4_setFrame, 4, none, [], 0, 0)
def M_X4_isBig : MT := (yX4_isBig, cX4_isBig, 3, (some .boolean), [], 0, 0)
def M_X4_setBig : MT := (yX4_setBig, cX4_setBig, 4, none, [], 0, 0)
def M_X4_valueOf : MT := (yX4_valueOf, cX4_valueOf, 2, (some .int), [], 0, 0)
def M_X4_uses : MT := (yX4_uses, cX4_uses, 4, (some .int), [], 0, 0)
def M_X4_isShared : MT := (yX4_isShared, cX4_isShared, 2, (some .boolean), [], 1, 23)
def M_X4_isFreeRun : MT := (yX4_isFreeRun, cX4_isFreeRun, 4, (some .boolean), [], 1, 23)
def M_X4_freeRun : MT := (yX4_freeRun, cX4_freeRun, 3, (some .int), [], 2, 46)
def M_X4_freeRuns : MT := (yX4_freeRuns, cX4_freeRuns, 3, (some .int), [], 2, 46)
def M_X4_freeFrames : MT := (yX4_freeFrames, cX4_freeFrames, 3, (some .int), [], 1, 23)
def M_X4_singleFrame : MT := (yX4_singleFrame, cX4_singleFrame, 5, (some .int), [], 2, 46)
def M_X4_placedIn : MT := (yX4_placedIn, cX4_placedIn, 5, (some .int), [], 1, 22)
def M_X4_sharedIn : MT := (yX4_sharedIn, cX4_sharedIn, 5, (some .int), [], 2, 44)
def M_X4_runOf : MT := (yX4_runOf, cX4_runOf, 3, (some .int), [], 1, 22)
def M_X4_isWidow : MT := (yX4_isWidow, cX4_isWidow, 6, (some .boolean), [], 3, 68)
def M_X4_isEagerFault : MT := (yX4_isEagerFault, cX4_isEagerFault, 3, (some .boolean), [], 3, 68)
def M_X4_outcome : MT := (yX4_outcome, cX4_outcome, 4, (some .int), [], 4, 90)
def M_X4_makeBig : MT := (yX4_makeBig, cX4_makeBig, 5, none, [], 3, 68)
def M_X4_written : MT := (yX4_written, cX4_written, 5, (some .int), [], 5, 113)
def M_X4_freeProcess : MT := (yX4_freeProcess, cX4_freeProcess, 3, (some .int), [], 0, 0)
def M_X4_whyNotForked : MT := (yX4_whyNotForked, cX4_whyNotForked, 2, (some .int), [], 2, 43)
def M_X4_forked : MT := (yX4_forked, cX4_forked, 4, (some .int), [], 1, 23)
def M_X4_processMany : MT := (yX4_processMany, cX4_processMany, 1, (some .int), [], 0, 0)
def M_X4_whyNotEnded : MT := (yX4_whyNotEnded, cX4_whyNotEnded, 2, (some .int), [], 2, 43)
def M_X4_ended : MT := (yX4_ended, cX4_ended, 4, (some .int), [], 2, 45)
def M_X4_isInPlace : MT := (yX4_isInPlace, cX4_isInPlace, 6, (some .boolean), [], 1, 22)
def M_X4_whyNoMarriage : MT := (yX4_whyNoMarriage, cX4_whyNoMarriage, 3, (some .int), [], 3, 68)
def M_X4_married : MT := (yX4_married, cX4_married, 6, (some .int), [], 3, 68)
def M_X4_torn : MT := (yX4_torn, cX4_torn, 4, (some .int), [], 2, 44)
def M_X4_isEmpty : MT := (yX4_isEmpty, cX4_isEmpty, 2, (some .boolean), [], 1, 23)
def M_X4_firstLoser : MT := (yX4_firstLoser, cX4_firstLoser, 4, (some .int), [], 2, 44)
def M_X4_firstTorn : MT := (yX4_firstTorn, cX4_firstTorn, 7, (some .int), [], 3, 68)
def M_X4_pressed : MT := (yX4_pressed, cX4_pressed, 5, (some .int), [], 4, 94)
def M_X4_append : MT := (yX4_append, cX4_append, 2, (some .int), [], 1, 22)
def M_X4_clearText : MT := (yX4_clearText, cX4_clearText, 2, (some .int), [], 0, 0)
def M_X4_digit : MT := (yX4_digit, cX4_digit, 2, (some .int), [], 1, 22)
def M_X4_mostAt : MT := (yX4_mostAt, cX4_mostAt, 4, (some .int), [], 2, 43)
def M_X4_isLetter : MT := (yX4_isLetter, cX4_isLetter, 3, (some .boolean), [], 0, 0)
def M_X4_lengthAt : MT := (yX4_lengthAt, cX4_lengthAt, 3, (some .int), [], 3, 66)
def M_X4_findError : MT := (yX4_findError, cX4_findError, 3, (some .int), [], 4, 88)
def M_X4_errorPosition : MT := (yX4_errorPosition, cX4_errorPosition, 1, (some .int), [], 5, 110)
def M_X4_commandAt : MT := (yX4_commandAt, cX4_commandAt, 3, (some .boolean), [], 7, 161)
def M_X4_load : MT := (yX4_load, cX4_load, 3, (some .int), [], 8, 183)
def M_X4_about : MT := (yX4_about, cX4_about, 6, (some .int), [], 4, 93)
def M_X4_page : MT := (yX4_page, cX4_page, 5, (some .int), [], 3, 65)
def M_X4_user : MT := (yX4_user, cX4_user, 6, (some .int), [], 1, 22)
def M_X4_group : MT := (yX4_group, cX4_group, 4, (some .int), [], 4, 93)
def M_X4_remember : MT := (yX4_remember, cX4_remember, 2, none, [], 1, 24)
def M_X4_write : MT := (yX4_write, cX4_write, 4, (some .int), [], 6, 137)
def M_X4_fork : MT := (yX4_fork, cX4_fork, 2, (some .int), [], 3, 64)
def M_X4_exit : MT := (yX4_exit, cX4_exit, 2, (some .int), [], 3, 68)
def M_X4_marry : MT := (yX4_marry, cX4_marry, 3, (some .int), [], 4, 93)
def M_X4_tear : MT := (yX4_tear, cX4_tear, 3, (some .int), [], 3, 67)
def M_X4_press : MT := (yX4_press, cX4_press, 2, (some .int), [], 5, 118)
def M_X4_setEager : MT := (yX4_setEager, cX4_setEager, 2, (some .int), [], 3, 68)
def M_X4_undo : MT := (yX4_undo, cX4_undo, 1, (some .int), [], 1, 24)
def M_X4_whyNot : MT := (yX4_whyNot, cX4_whyNot, 3, (some .int), [], 4, 90)
def M_X4_wouldDo : MT := (yX4_wouldDo, cX4_wouldDo, 3, (some .int), [], 5, 113)
def M_X4_firstToMarry : MT := (yX4_firstToMarry, cX4_firstToMarry, 6, (some .int), [], 4, 90)
def M_X4_marriages : MT := (yX4_marriages, cX4_marriages, 3, (some .int), [], 5, 115)
def M_X4_mostFree : MT := (yX4_mostFree, cX4_mostFree, 2, (some .int), [], 5, 118)
def M_X4_writable : MT := (yX4_writable, cX4_writable, 3, (some .int), [], 6, 137)
def M_X4_tryWrite : MT := (yX4_tryWrite, cX4_tryWrite, 5, (some .boolean), [], 6, 137)
def M_X4_tryFork : MT := (yX4_tryFork, cX4_tryFork, 3, (some .boolean), [], 3, 64)
def M_X4_tryExit : MT := (yX4_tryExit, cX4_tryExit, 3, (some .boolean), [], 3, 68)
def M_X4_tryMarry : MT := (yX4_tryMarry, cX4_tryMarry, 4, (some .boolean), [], 4, 93)
def M_X4_tryTear : MT := (yX4_tryTear, cX4_tryTear, 4, (some .boolean), [], 3, 67)
def M_X4_tryPress : MT := (yX4_tryPress, cX4_tryPress, 3, (some .boolean), [], 5, 118)
def M_X4_hasValue : MT := (yX4_hasValue, cX4_hasValue, 4, (some .boolean), [], 3, 65)
def M_X4_commands : MT := (yX4_commands, cX4_commands, 7, (some .boolean), [], 7, 161)
def M_X4_runScript : MT := (yX4_runScript, cX4_runScript, 10, (some .int), [], 8, 187)
def M_X4_step : MT := (yX4_step, cX4_step, 3, none, [], 7, 161)
def M_X4_simulate : MT := (yX4_simulate, cX4_simulate, 8, (some .int), [], 8, 183)
def M_X4_isSlot : MT := (yX4_isSlot, cX4_isSlot, 1, (some .boolean), [], 0, 0)
def M_X4_save : MT := (yX4_save, cX4_save, 2, (some .int), [], 2, 45)
def M_X4_restore : MT := (yX4_restore, cX4_restore, 2, (some .int), [], 2, 45)
def M_J6_bitCount_0f7a4 : MT := (yJ6_bitCount_0f7a4, cJ6_bitCount_0f7a4, 1, (some .int), [], 0, 0)
def M_L_append : MT := (yL_append, cL_append, 4, (some .int), [(0, 9, 12, 13), (0, 9, 15, 15)], 7, 111)
def M_L_load : MT := (yL_load, cL_load, 3, (some .int), [(0, 8, 11, 15)], 7, 162)
def M_L_about : MT := (yL_about, cL_about, 4, (some .int), [(0, 9, 12, 13)], 7, 135)
def M_L_page : MT := (yL_page, cL_page, 6, (some .int), [(0, 12, 15, 28), (0, 12, 19, 13)], 8, 135)
def M_L_user : MT := (yL_user, cL_user, 5, (some .int), [(0, 10, 13, 28), (0, 10, 17, 13)], 7, 112)
def M_L_group : MT := (yL_group, cL_group, 6, (some .int), [(0, 12, 15, 28), (0, 12, 19, 13)], 8, 135)
def M_L_write : MT := (yL_write, cL_write, 6, (some .int), [(0, 12, 15, 28), (0, 12, 19, 13), (0, 12, 23, 15)], 8, 141)
def M_L_fork : MT := (yL_fork, cL_fork, 4, (some .int), [(0, 9, 12, 28), (0, 9, 15, 15)], 8, 132)
def M_L_exit : MT := (yL_exit, cL_exit, 4, (some .int), [(0, 9, 12, 28), (0, 9, 15, 15)], 8, 132)
def M_L_marry : MT := (yL_marry, cL_marry, 5, (some .int), [(0, 10, 13, 28), (0, 10, 17, 15)], 8, 134)
def M_L_tear : MT := (yL_tear, cL_tear, 5, (some .int), [(0, 10, 13, 28), (0, 10, 17, 15)], 8, 134)
def M_L_press : MT := (yL_press, cL_press, 4, (some .int), [(0, 9, 12, 13)], 7, 139)
def M_L_undo : MT := (yL_undo, cL_undo, 3, (some .int), [(0, 8, 11, 15)], 7, 110)
def M_L_whyNot : MT := (yL_whyNot, cL_whyNot, 5, (some .int), [(0, 10, 13, 28)], 8, 134)
def M_L_wouldDo : MT := (yL_wouldDo, cL_wouldDo, 5, (some .int), [(0, 10, 13, 28)], 8, 134)
def M_L_writable : MT := (yL_writable, cL_writable, 4, (some .int), [(0, 9, 12, 28)], 8, 140)
def M_L_runScript : MT := (yL_runScript, cL_runScript, 6, (some .int), [(0, 11, 14, 13)], 7, 173)
def M_L_simulate : MT := (yL_simulate, cL_simulate, 6, (some .int), [(0, 11, 14, 13)], 7, 167)
def M_L_save : MT := (yL_save, cL_save, 4, (some .int), [(0, 9, 12, 28)], 8, 132)
def M_L_restore : MT := (yL_restore, cL_restore, 4, (some .int), [(0, 9, 12, 28), (0, 9, 15, 15)], 8, 132)
def M_L_law : MT := (x, code, maxLocals, ret, [], 11, 432)
theorem k_t1 {w : Cond} (h : w ∈ tables_1_1) : w ∈ lw_tbl := List.mem_append_right _ (List.mem_append_left _ h)
theorem k_t2 {w : Cond} (h : w ∈ tables_1_2) : w ∈ lw_tbl := List.mem_append_right _ (List.mem_append_right _ (List.mem_append_left _ h))
theorem k_t3 {w : Cond} (h : w ∈ tables_1_3) : w ∈ lw_tbl := List.mem_append_right _ (List.mem_append_right _ (List.mem_append_right _ (List.mem_append_left _ h)))
theorem k_t4 {w : Cond} (h : w ∈ tables_1_4) : w ∈ lw_tbl := List.mem_append_right _ (List.mem_append_right _ (List.mem_append_right _ (List.mem_append_right _ (List.mem_append_left _ h))))
theorem k_t5 {w : Cond} (h : w ∈ tables_1_5) : w ∈ lw_tbl := List.mem_append_right _ (List.mem_append_right _ (List.mem_append_right _ (List.mem_append_right _ (List.mem_append_right _ h))))
theorem k_sel {q : MethodName × Nat} (h : q ∈ lw_privs) : Cond.selects q.1.cls q.1 q.1 ∈ lw_tbl := List.mem_append_left _ (List.mem_map.mpr ⟨q, h, rfl⟩)
theorem k_0 : Cond.fieldLink RX2 9 RX2 "signs" "[C" ∈ g_WS := List.mem_filter.mpr ⟨k_t1 (List.mem_of_getElem? (i := 29) (by decide +kernel)), rfl⟩
theorem k_1 : Cond.fieldLink RX2 15 RX2 "length" "I" ∈ g_WS := List.mem_filter.mpr ⟨k_t1 (List.mem_of_getElem? (i := 30) (by decide +kernel)), rfl⟩
theorem k_2 : Cond.fieldLink RX1 9 RX1 "frames" "[I" ∈ g_WS := List.mem_filter.mpr ⟨k_t1 (List.mem_of_getElem? (i := 47) (by decide +kernel)), rfl⟩
theorem k_3 : Cond.fieldLink RX1 15 RX1 "users" "[I" ∈ g_WS := List.mem_filter.mpr ⟨k_t1 (List.mem_of_getElem? (i := 48) (by decide +kernel)), rfl⟩
theorem k_4 : Cond.fieldLink RX1 18 RX1 "values" "[I" ∈ g_WS := List.mem_filter.mpr ⟨k_t1 (List.mem_of_getElem? (i := 49) (by decide +kernel)), rfl⟩
theorem k_5 : Cond.fieldLink RX1 24 RX1 "processes" "I" ∈ g_WS := List.mem_filter.mpr ⟨k_t1 (List.mem_of_getElem? (i := 50) (by decide +kernel)), rfl⟩
theorem k_6 : Cond.fieldLink RX1 28 RX1 "bigs" "I" ∈ g_WS := List.mem_filter.mpr ⟨k_t1 (List.mem_of_getElem? (i := 51) (by decide +kernel)), rfl⟩
theorem k_7 : Cond.fieldLink RX1 31 RX1 "eager" "Z" ∈ g_WS := List.mem_filter.mpr ⟨k_t1 (List.mem_of_getElem? (i := 52) (by decide +kernel)), rfl⟩
theorem k_8 : Cond.fieldLink RX3 117 RX1 "eager" "Z" ∈ g_WS := List.mem_filter.mpr ⟨k_t1 (List.mem_of_getElem? (i := 53) (by decide +kernel)), rfl⟩
theorem k_9 : Cond.fieldLink RX1 35 RX1 "copies" "I" ∈ g_WS := List.mem_filter.mpr ⟨k_t1 (List.mem_of_getElem? (i := 54) (by decide +kernel)), rfl⟩
theorem k_10 : Cond.fieldLink RX3 104 RX1 "copies" "I" ∈ g_WS := List.mem_filter.mpr ⟨k_t1 (List.mem_of_getElem? (i := 55) (by decide +kernel)), rfl⟩
theorem k_11 : Cond.fieldLink RX1 38 RX1 "faults" "I" ∈ g_WS := List.mem_filter.mpr ⟨k_t1 (List.mem_of_getElem? (i := 56) (by decide +kernel)), rfl⟩
theorem k_12 : Cond.fieldLink RX3 108 RX1 "faults" "I" ∈ g_WS := List.mem_filter.mpr ⟨k_t1 (List.mem_of_getElem? (i := 57) (by decide +kernel)), rfl⟩
theorem k_13 : Cond.fieldLink RX1 41 RX1 "tears" "I" ∈ g_WS := List.mem_filter.mpr ⟨k_t1 (List.mem_of_getElem? (i := 58) (by decide +kernel)), rfl⟩
theorem k_14 : Cond.fieldLink RX3 111 RX1 "tears" "I" ∈ g_WS := List.mem_filter.mpr ⟨k_t1 (List.mem_of_getElem? (i := 59) (by decide +kernel)), rfl⟩
theorem k_15 : Cond.fieldLink RX1 44 RX1 "losses" "I" ∈ g_WS := List.mem_filter.mpr ⟨k_t1 (List.mem_of_getElem? (i := 60) (by decide +kernel)), rfl⟩
theorem k_16 : Cond.fieldLink RX3 114 RX1 "losses" "I" ∈ g_WS := List.mem_filter.mpr ⟨k_t1 (List.mem_of_getElem? (i := 61) (by decide +kernel)), rfl⟩
theorem k_17 : Cond.fieldLink RX0 11 RX0 "ring" "[LPageMarriages$Memory;" ∈ g_WS := List.mem_filter.mpr ⟨k_t1 (List.mem_of_getElem? (i := 93) (by decide +kernel)), rfl⟩
theorem k_18 : Cond.fieldLink RX0 22 RX0 "next" "I" ∈ g_WS := List.mem_filter.mpr ⟨k_t1 (List.mem_of_getElem? (i := 94) (by decide +kernel)), rfl⟩
theorem k_19 : Cond.fieldLink RX0 18 RX0 "size" "I" ∈ g_WS := List.mem_filter.mpr ⟨k_t1 (List.mem_of_getElem? (i := 95) (by decide +kernel)), rfl⟩
theorem k_20 : Cond.fieldLink RX3 10 RX3 "story" "LPageMarriages$Story;" ∈ g_WS := List.mem_filter.mpr ⟨k_t1 (List.mem_of_getElem? (i := 103) (by decide +kernel)), rfl⟩
theorem k_21 : Cond.fieldLink RX3 19 RX3 "present" "LPageMarriages$Memory;" ∈ g_WS := List.mem_filter.mpr ⟨k_t1 (List.mem_of_getElem? (i := 104) (by decide +kernel)), rfl⟩
theorem k_22 : Cond.fieldLink RX3 23 RX3 "trial" "LPageMarriages$Memory;" ∈ g_WS := List.mem_filter.mpr ⟨k_t1 (List.mem_of_getElem? (i := 105) (by decide +kernel)), rfl⟩
theorem k_23 : Cond.fieldLink RX3 29 RX3 "history" "LPageMarriages$History;" ∈ g_WS := List.mem_filter.mpr ⟨k_t1 (List.mem_of_getElem? (i := 106) (by decide +kernel)), rfl⟩
theorem k_24 : Cond.fieldLink RX3 33 RX3 "slots" "[LPageMarriages$Memory;" ∈ g_WS := List.mem_filter.mpr ⟨k_t1 (List.mem_of_getElem? (i := 107) (by decide +kernel)), rfl⟩
theorem k_25 : Cond.fieldLink RX3 37 RX3 "filled" "[Z" ∈ g_WS := List.mem_filter.mpr ⟨k_t1 (List.mem_of_getElem? (i := 108) (by decide +kernel)), rfl⟩
theorem k_26 : Cond.fieldLink RX4 34 RX4 "thrown" "I" ∈ g_WS := List.mem_filter.mpr ⟨k_t4 (List.mem_of_getElem? (i := 20) (by decide +kernel)), rfl⟩
theorem k_27 : Cond.fieldLink RX4 7 RX4 "state" "[I" ∈ g_WS := List.mem_filter.mpr ⟨k_t4 (List.mem_of_getElem? (i := 21) (by decide +kernel)), rfl⟩
theorem k_28 : Cond.fieldLink RX4 13 RX4 "kept" "[I" ∈ g_WS := List.mem_filter.mpr ⟨k_t4 (List.mem_of_getElem? (i := 22) (by decide +kernel)), rfl⟩
theorem k_29 : Cond.fieldLink RX4 16 RX4 "scriptKept" "[I" ∈ g_WS := List.mem_filter.mpr ⟨k_t4 (List.mem_of_getElem? (i := 23) (by decide +kernel)), rfl⟩
theorem k_30 : Cond.fieldLink RX4 19 RX4 "history" "[I" ∈ g_WS := List.mem_filter.mpr ⟨k_t4 (List.mem_of_getElem? (i := 24) (by decide +kernel)), rfl⟩
theorem k_31 : Cond.fieldLink RX4 154 RX4 "remembered" "I" ∈ g_WS := List.mem_filter.mpr ⟨k_t4 (List.mem_of_getElem? (i := 25) (by decide +kernel)), rfl⟩
theorem k_32 : Cond.fieldLink RX4 22 RX4 "slots" "[I" ∈ g_WS := List.mem_filter.mpr ⟨k_t4 (List.mem_of_getElem? (i := 26) (by decide +kernel)), rfl⟩
theorem k_33 : Cond.fieldLink RX4 25 RX4 "isSaved" "[I" ∈ g_WS := List.mem_filter.mpr ⟨k_t4 (List.mem_of_getElem? (i := 27) (by decide +kernel)), rfl⟩
theorem k_34 : Cond.fieldLink RX4 28 RX4 "text" "[I" ∈ g_WS := List.mem_filter.mpr ⟨k_t4 (List.mem_of_getElem? (i := 28) (by decide +kernel)), rfl⟩
theorem k_35 : Cond.fieldLink RX4 124 RX4 "textLength" "I" ∈ g_WS := List.mem_filter.mpr ⟨k_t4 (List.mem_of_getElem? (i := 29) (by decide +kernel)), rfl⟩
theorem k_36 : Cond.code (mY M_X0_init) (mC M_X0_init) (mL M_X0_init) (mR M_X0_init) ∈ g_WS := List.mem_filter.mpr ⟨k_t1 (List.mem_of_getElem? (i := 88) (by decide +kernel)), rfl⟩
theorem k_37 : Cond.initialized RX0 ∈ g_WS := List.mem_filter.mpr ⟨k_t1 (List.mem_of_getElem? (i := 4) (by decide +kernel)), rfl⟩
theorem k_38 : Cond.instanceMethod yX0_init ∈ g_WS := List.mem_filter.mpr ⟨k_t1 (List.mem_of_getElem? (i := 87) (by decide +kernel)), rfl⟩
theorem k_39 : Cond.code (mY M_X0_size) (mC M_X0_size) (mL M_X0_size) (mR M_X0_size) ∈ g_WS := List.mem_filter.mpr ⟨k_t3 (List.mem_of_getElem? (i := 171) (by decide +kernel)), rfl⟩
theorem k_40 : Cond.instanceMethod yX0_size ∈ g_WS := List.mem_filter.mpr ⟨k_t3 (List.mem_of_getElem? (i := 169) (by decide +kernel)), rfl⟩
theorem k_41 : Cond.selects RX0 yX0_size yX0_size ∈ g_WS := List.mem_filter.mpr ⟨k_t3 (List.mem_of_getElem? (i := 170) (by decide +kernel)), rfl⟩
theorem k_42 : Cond.code (mY M_X0_forget) (mC M_X0_forget) (mL M_X0_forget) (mR M_X0_forget) ∈ g_WS := List.mem_filter.mpr ⟨k_t2 (List.mem_of_getElem? (i := 166) (by decide +kernel)), rfl⟩
theorem k_43 : Cond.instanceMethod yX0_forget ∈ g_WS := List.mem_filter.mpr ⟨k_t2 (List.mem_of_getElem? (i := 164) (by decide +kernel)), rfl⟩
theorem k_44 : Cond.selects RX0 yX0_forget yX0_forget ∈ g_WS := List.mem_filter.mpr ⟨k_t2 (List.mem_of_getElem? (i := 165) (by decide +kernel)), rfl⟩
theorem k_45 : Cond.code (mY M_X0_remember) (mC M_X0_remember) (mL M_X0_remember) (mR M_X0_remember) ∈ g_WS := List.mem_filter.mpr ⟨k_t1 (List.mem_of_getElem? (i := 165) (by decide +kernel)), rfl⟩
theorem k_46 : Cond.instanceMethod yX0_remember ∈ g_WS := List.mem_filter.mpr ⟨k_t1 (List.mem_of_getElem? (i := 163) (by decide +kernel)), rfl⟩
theorem k_47 : Cond.selects RX0 yX0_remember yX0_remember ∈ g_WS := List.mem_filter.mpr ⟨k_t1 (List.mem_of_getElem? (i := 164) (by decide +kernel)), rfl⟩
theorem k_48 : Cond.code (mY M_X0_takeBack) (mC M_X0_takeBack) (mL M_X0_takeBack) (mR M_X0_takeBack) ∈ g_WS := List.mem_filter.mpr ⟨k_t3 (List.mem_of_getElem? (i := 176) (by decide +kernel)), rfl⟩
theorem k_49 : Cond.instanceMethod yX0_takeBack ∈ g_WS := List.mem_filter.mpr ⟨k_t3 (List.mem_of_getElem? (i := 174) (by decide +kernel)), rfl⟩
theorem k_50 : Cond.selects RX0 yX0_takeBack yX0_takeBack ∈ g_WS := List.mem_filter.mpr ⟨k_t3 (List.mem_of_getElem? (i := 175) (by decide +kernel)), rfl⟩
theorem k_51 : Cond.code (mY M_X1_init) (mC M_X1_init) (mL M_X1_init) (mR M_X1_init) ∈ g_WS := List.mem_filter.mpr ⟨k_t1 (List.mem_of_getElem? (i := 41) (by decide +kernel)), rfl⟩
theorem k_52 : Cond.initialized RX1 ∈ g_WS := List.mem_filter.mpr ⟨k_t1 (List.mem_of_getElem? (i := 3) (by decide +kernel)), rfl⟩
theorem k_53 : Cond.instanceMethod yX1_init ∈ g_WS := List.mem_filter.mpr ⟨k_t1 (List.mem_of_getElem? (i := 40) (by decide +kernel)), rfl⟩
theorem k_54 : Cond.code (mY M_X1_beginAnew) (mC M_X1_beginAnew) (mL M_X1_beginAnew) (mR M_X1_beginAnew) ∈ g_WS := List.mem_filter.mpr ⟨k_t1 (List.mem_of_getElem? (i := 46) (by decide +kernel)), rfl⟩
theorem k_55 : Cond.instanceMethod yX1_beginAnew ∈ g_WS := List.mem_filter.mpr ⟨k_t1 (List.mem_of_getElem? (i := 44) (by decide +kernel)), rfl⟩
theorem k_56 : Cond.selects RX1 yX1_beginAnew yX1_beginAnew ∈ g_WS := List.mem_filter.mpr ⟨k_t1 (List.mem_of_getElem? (i := 45) (by decide +kernel)), rfl⟩
theorem k_57 : Cond.code (mY M_X1_copyFrom) (mC M_X1_copyFrom) (mL M_X1_copyFrom) (mR M_X1_copyFrom) ∈ g_WS := List.mem_filter.mpr ⟨k_t1 (List.mem_of_getElem? (i := 169) (by decide +kernel)), rfl⟩
theorem k_58 : Cond.instanceMethod yX1_copyFrom ∈ g_WS := List.mem_filter.mpr ⟨k_t1 (List.mem_of_getElem? (i := 167) (by decide +kernel)), rfl⟩
theorem k_59 : Cond.selects RX1 yX1_copyFrom yX1_copyFrom ∈ g_WS := List.mem_filter.mpr ⟨k_t1 (List.mem_of_getElem? (i := 168) (by decide +kernel)), rfl⟩
theorem k_60 : Cond.code (mY M_X1_hasProcess) (mC M_X1_hasProcess) (mL M_X1_hasProcess) (mR M_X1_hasProcess) ∈ g_WS := List.mem_filter.mpr ⟨k_t1 (List.mem_of_getElem? (i := 196) (by decide +kernel)), rfl⟩
theorem k_61 : Cond.instanceMethod yX1_hasProcess ∈ g_WS := List.mem_filter.mpr ⟨k_t1 (List.mem_of_getElem? (i := 194) (by decide +kernel)), rfl⟩
theorem k_62 : Cond.selects RX1 yX1_hasProcess yX1_hasProcess ∈ g_WS := List.mem_filter.mpr ⟨k_t1 (List.mem_of_getElem? (i := 195) (by decide +kernel)), rfl⟩
theorem k_63 : Cond.code (mY M_X1_hasPage) (mC M_X1_hasPage) (mL M_X1_hasPage) (mR M_X1_hasPage) ∈ g_WS := List.mem_filter.mpr ⟨k_t2 (List.mem_of_getElem? (i := 189) (by decide +kernel)), rfl⟩
theorem k_64 : Cond.instanceMethod yX1_hasPage ∈ g_WS := List.mem_filter.mpr ⟨k_t2 (List.mem_of_getElem? (i := 187) (by decide +kernel)), rfl⟩
theorem k_65 : Cond.selects RX1 yX1_hasPage yX1_hasPage ∈ g_WS := List.mem_filter.mpr ⟨k_t2 (List.mem_of_getElem? (i := 188) (by decide +kernel)), rfl⟩
theorem k_66 : Cond.code (mY M_X1_hasGroup) (mC M_X1_hasGroup) (mL M_X1_hasGroup) (mR M_X1_hasGroup) ∈ g_WS := List.mem_filter.mpr ⟨k_t1 (List.mem_of_getElem? (i := 236) (by decide +kernel)), rfl⟩
theorem k_67 : Cond.instanceMethod yX1_hasGroup ∈ g_WS := List.mem_filter.mpr ⟨k_t1 (List.mem_of_getElem? (i := 234) (by decide +kernel)), rfl⟩
theorem k_68 : Cond.selects RX1 yX1_hasGroup yX1_hasGroup ∈ g_WS := List.mem_filter.mpr ⟨k_t1 (List.mem_of_getElem? (i := 235) (by decide +kernel)), rfl⟩
theorem k_69 : Cond.code (mY M_X1_processes) (mC M_X1_processes) (mL M_X1_processes) (mR M_X1_processes) ∈ g_WS := List.mem_filter.mpr ⟨k_t3 (List.mem_of_getElem? (i := 3) (by decide +kernel)), rfl⟩
theorem k_70 : Cond.instanceMethod yX1_processes ∈ g_WS := List.mem_filter.mpr ⟨k_t3 (List.mem_of_getElem? (i := 1) (by decide +kernel)), rfl⟩
theorem k_71 : Cond.selects RX1 yX1_processes yX1_processes ∈ g_WS := List.mem_filter.mpr ⟨k_t3 (List.mem_of_getElem? (i := 2) (by decide +kernel)), rfl⟩
theorem k_72 : Cond.code (mY M_X1_freeFrames) (mC M_X1_freeFrames) (mL M_X1_freeFrames) (mR M_X1_freeFrames) ∈ g_WS := List.mem_filter.mpr ⟨k_t2 (List.mem_of_getElem? (i := 28) (by decide +kernel)), rfl⟩
theorem k_73 : Cond.instanceMethod yX1_freeFrames ∈ g_WS := List.mem_filter.mpr ⟨k_t2 (List.mem_of_getElem? (i := 26) (by decide +kernel)), rfl⟩
theorem k_74 : Cond.selects RX1 yX1_freeFrames yX1_freeFrames ∈ g_WS := List.mem_filter.mpr ⟨k_t2 (List.mem_of_getElem? (i := 27) (by decide +kernel)), rfl⟩
theorem k_75 : Cond.code (mY M_X1_sharedFrames) (mC M_X1_sharedFrames) (mL M_X1_sharedFrames) (mR M_X1_sharedFrames) ∈ g_WS := List.mem_filter.mpr ⟨k_t3 (List.mem_of_getElem? (i := 28) (by decide +kernel)), rfl⟩
theorem k_76 : Cond.instanceMethod yX1_sharedFrames ∈ g_WS := List.mem_filter.mpr ⟨k_t3 (List.mem_of_getElem? (i := 26) (by decide +kernel)), rfl⟩
theorem k_77 : Cond.selects RX1 yX1_sharedFrames yX1_sharedFrames ∈ g_WS := List.mem_filter.mpr ⟨k_t3 (List.mem_of_getElem? (i := 27) (by decide +kernel)), rfl⟩
theorem k_78 : Cond.code (mY M_X1_freeRuns) (mC M_X1_freeRuns) (mL M_X1_freeRuns) (mR M_X1_freeRuns) ∈ g_WS := List.mem_filter.mpr ⟨k_t1 (List.mem_of_getElem? (i := 179) (by decide +kernel)), rfl⟩
theorem k_79 : Cond.instanceMethod yX1_freeRuns ∈ g_WS := List.mem_filter.mpr ⟨k_t1 (List.mem_of_getElem? (i := 177) (by decide +kernel)), rfl⟩
theorem k_80 : Cond.selects RX1 yX1_freeRuns yX1_freeRuns ∈ g_WS := List.mem_filter.mpr ⟨k_t1 (List.mem_of_getElem? (i := 178) (by decide +kernel)), rfl⟩
theorem k_81 : Cond.code (mY M_X1_bigGroups) (mC M_X1_bigGroups) (mL M_X1_bigGroups) (mR M_X1_bigGroups) ∈ g_WS := List.mem_filter.mpr ⟨k_t3 (List.mem_of_getElem? (i := 8) (by decide +kernel)), rfl⟩
theorem k_82 : Cond.instanceMethod yX1_bigGroups ∈ g_WS := List.mem_filter.mpr ⟨k_t3 (List.mem_of_getElem? (i := 6) (by decide +kernel)), rfl⟩
theorem k_83 : Cond.selects RX1 yX1_bigGroups yX1_bigGroups ∈ g_WS := List.mem_filter.mpr ⟨k_t3 (List.mem_of_getElem? (i := 7) (by decide +kernel)), rfl⟩
theorem k_84 : Cond.code (mY M_X1_widows) (mC M_X1_widows) (mL M_X1_widows) (mR M_X1_widows) ∈ g_WS := List.mem_filter.mpr ⟨k_t3 (List.mem_of_getElem? (i := 12) (by decide +kernel)), rfl⟩
theorem k_85 : Cond.instanceMethod yX1_widows ∈ g_WS := List.mem_filter.mpr ⟨k_t3 (List.mem_of_getElem? (i := 10) (by decide +kernel)), rfl⟩
theorem k_86 : Cond.selects RX1 yX1_widows yX1_widows ∈ g_WS := List.mem_filter.mpr ⟨k_t3 (List.mem_of_getElem? (i := 11) (by decide +kernel)), rfl⟩
theorem k_87 : Cond.code (mY M_X1_frameOf) (mC M_X1_frameOf) (mL M_X1_frameOf) (mR M_X1_frameOf) ∈ g_WS := List.mem_filter.mpr ⟨k_t1 (List.mem_of_getElem? (i := 212) (by decide +kernel)), rfl⟩
theorem k_88 : Cond.instanceMethod yX1_frameOf ∈ g_WS := List.mem_filter.mpr ⟨k_t1 (List.mem_of_getElem? (i := 210) (by decide +kernel)), rfl⟩
theorem k_89 : Cond.selects RX1 yX1_frameOf yX1_frameOf ∈ g_WS := List.mem_filter.mpr ⟨k_t1 (List.mem_of_getElem? (i := 211) (by decide +kernel)), rfl⟩
theorem k_90 : Cond.code (mY M_X1_valueOf) (mC M_X1_valueOf) (mL M_X1_valueOf) (mR M_X1_valueOf) ∈ g_WS := List.mem_filter.mpr ⟨k_t2 (List.mem_of_getElem? (i := 4) (by decide +kernel)), rfl⟩
theorem k_91 : Cond.instanceMethod yX1_valueOf ∈ g_WS := List.mem_filter.mpr ⟨k_t2 (List.mem_of_getElem? (i := 2) (by decide +kernel)), rfl⟩
theorem k_92 : Cond.selects RX1 yX1_valueOf yX1_valueOf ∈ g_WS := List.mem_filter.mpr ⟨k_t2 (List.mem_of_getElem? (i := 3) (by decide +kernel)), rfl⟩
theorem k_93 : Cond.code (mY M_X1_usersOfFrameOf) (mC M_X1_usersOfFrameOf) (mL M_X1_usersOfFrameOf) (mR M_X1_usersOfFrameOf) ∈ g_WS := List.mem_filter.mpr ⟨k_t2 (List.mem_of_getElem? (i := 36) (by decide +kernel)), rfl⟩
theorem k_94 : Cond.instanceMethod yX1_usersOfFrameOf ∈ g_WS := List.mem_filter.mpr ⟨k_t2 (List.mem_of_getElem? (i := 34) (by decide +kernel)), rfl⟩
theorem k_95 : Cond.selects RX1 yX1_usersOfFrameOf yX1_usersOfFrameOf ∈ g_WS := List.mem_filter.mpr ⟨k_t2 (List.mem_of_getElem? (i := 35) (by decide +kernel)), rfl⟩
theorem k_96 : Cond.code (mY M_X1_userAt) (mC M_X1_userAt) (mL M_X1_userAt) (mR M_X1_userAt) ∈ g_WS := List.mem_filter.mpr ⟨k_t3 (List.mem_of_getElem? (i := 76) (by decide +kernel)), rfl⟩
theorem k_97 : Cond.instanceMethod yX1_userAt ∈ g_WS := List.mem_filter.mpr ⟨k_t3 (List.mem_of_getElem? (i := 74) (by decide +kernel)), rfl⟩
theorem k_98 : Cond.selects RX1 yX1_userAt yX1_userAt ∈ g_WS := List.mem_filter.mpr ⟨k_t3 (List.mem_of_getElem? (i := 75) (by decide +kernel)), rfl⟩
theorem k_99 : Cond.code (mY M_X1_isBig) (mC M_X1_isBig) (mL M_X1_isBig) (mR M_X1_isBig) ∈ g_WS := List.mem_filter.mpr ⟨k_t1 (List.mem_of_getElem? (i := 204) (by decide +kernel)), rfl⟩
theorem k_100 : Cond.instanceMethod yX1_isBig ∈ g_WS := List.mem_filter.mpr ⟨k_t1 (List.mem_of_getElem? (i := 202) (by decide +kernel)), rfl⟩
theorem k_101 : Cond.selects RX1 yX1_isBig yX1_isBig ∈ g_WS := List.mem_filter.mpr ⟨k_t1 (List.mem_of_getElem? (i := 203) (by decide +kernel)), rfl⟩
theorem k_102 : Cond.code (mY M_X1_runOf) (mC M_X1_runOf) (mL M_X1_runOf) (mR M_X1_runOf) ∈ g_WS := List.mem_filter.mpr ⟨k_t3 (List.mem_of_getElem? (i := 20) (by decide +kernel)), rfl⟩
theorem k_103 : Cond.instanceMethod yX1_runOf ∈ g_WS := List.mem_filter.mpr ⟨k_t3 (List.mem_of_getElem? (i := 18) (by decide +kernel)), rfl⟩
theorem k_104 : Cond.selects RX1 yX1_runOf yX1_runOf ∈ g_WS := List.mem_filter.mpr ⟨k_t3 (List.mem_of_getElem? (i := 19) (by decide +kernel)), rfl⟩
theorem k_105 : Cond.code (mY M_X1_isWidow) (mC M_X1_isWidow) (mL M_X1_isWidow) (mR M_X1_isWidow) ∈ g_WS := List.mem_filter.mpr ⟨k_t3 (List.mem_of_getElem? (i := 16) (by decide +kernel)), rfl⟩
theorem k_106 : Cond.instanceMethod yX1_isWidow ∈ g_WS := List.mem_filter.mpr ⟨k_t3 (List.mem_of_getElem? (i := 14) (by decide +kernel)), rfl⟩
theorem k_107 : Cond.selects RX1 yX1_isWidow yX1_isWidow ∈ g_WS := List.mem_filter.mpr ⟨k_t3 (List.mem_of_getElem? (i := 15) (by decide +kernel)), rfl⟩
theorem k_108 : Cond.code (mY M_X1_bigGroupsInRun) (mC M_X1_bigGroupsInRun) (mL M_X1_bigGroupsInRun) (mR M_X1_bigGroupsInRun) ∈ g_WS := List.mem_filter.mpr ⟨k_t3 (List.mem_of_getElem? (i := 24) (by decide +kernel)), rfl⟩
theorem k_109 : Cond.instanceMethod yX1_bigGroupsInRun ∈ g_WS := List.mem_filter.mpr ⟨k_t3 (List.mem_of_getElem? (i := 23) (by decide +kernel)), rfl⟩
theorem k_110 : Cond.selects RX1 yX1_bigGroupsInRun yX1_bigGroupsInRun ∈ g_WS := List.mem_filter.mpr ⟨k_sel (q := (yX1_bigGroupsInRun, 10)) (List.mem_of_getElem? (i := 23) (by decide +kernel)), rfl⟩
theorem k_111 : Cond.code (mY M_X1_pagesWithFrame) (mC M_X1_pagesWithFrame) (mL M_X1_pagesWithFrame) (mR M_X1_pagesWithFrame) ∈ g_WS := List.mem_filter.mpr ⟨k_t1 (List.mem_of_getElem? (i := 208) (by decide +kernel)), rfl⟩
theorem k_112 : Cond.instanceMethod yX1_pagesWithFrame ∈ g_WS := List.mem_filter.mpr ⟨k_t1 (List.mem_of_getElem? (i := 206) (by decide +kernel)), rfl⟩
theorem k_113 : Cond.selects RX1 yX1_pagesWithFrame yX1_pagesWithFrame ∈ g_WS := List.mem_filter.mpr ⟨k_t1 (List.mem_of_getElem? (i := 207) (by decide +kernel)), rfl⟩
theorem k_114 : Cond.code (mY M_X1_pagesWithSharedFrame) (mC M_X1_pagesWithSharedFrame) (mL M_X1_pagesWithSharedFrame) (mR M_X1_pagesWithSharedFrame) ∈ g_WS := List.mem_filter.mpr ⟨k_t1 (List.mem_of_getElem? (i := 216) (by decide +kernel)), rfl⟩
theorem k_115 : Cond.instanceMethod yX1_pagesWithSharedFrame ∈ g_WS := List.mem_filter.mpr ⟨k_t1 (List.mem_of_getElem? (i := 214) (by decide +kernel)), rfl⟩
theorem k_116 : Cond.selects RX1 yX1_pagesWithSharedFrame yX1_pagesWithSharedFrame ∈ g_WS := List.mem_filter.mpr ⟨k_t1 (List.mem_of_getElem? (i := 215) (by decide +kernel)), rfl⟩
theorem k_117 : Cond.code (mY M_X1_pagesWithValueZero) (mC M_X1_pagesWithValueZero) (mL M_X1_pagesWithValueZero) (mR M_X1_pagesWithValueZero) ∈ g_WS := List.mem_filter.mpr ⟨k_t2 (List.mem_of_getElem? (i := 44) (by decide +kernel)), rfl⟩
theorem k_118 : Cond.instanceMethod yX1_pagesWithValueZero ∈ g_WS := List.mem_filter.mpr ⟨k_t2 (List.mem_of_getElem? (i := 43) (by decide +kernel)), rfl⟩
theorem k_119 : Cond.selects RX1 yX1_pagesWithValueZero yX1_pagesWithValueZero ∈ g_WS := List.mem_filter.mpr ⟨k_sel (q := (yX1_pagesWithValueZero, 10)) (List.mem_of_getElem? (i := 12) (by decide +kernel)), rfl⟩
theorem k_120 : Cond.code (mY M_X1_isShared) (mC M_X1_isShared) (mL M_X1_isShared) (mR M_X1_isShared) ∈ g_WS := List.mem_filter.mpr ⟨k_t1 (List.mem_of_getElem? (i := 220) (by decide +kernel)), rfl⟩
theorem k_121 : Cond.instanceMethod yX1_isShared ∈ g_WS := List.mem_filter.mpr ⟨k_t1 (List.mem_of_getElem? (i := 219) (by decide +kernel)), rfl⟩
theorem k_122 : Cond.selects RX1 yX1_isShared yX1_isShared ∈ g_WS := List.mem_filter.mpr ⟨k_sel (q := (yX1_isShared, 10)) (List.mem_of_getElem? (i := 3) (by decide +kernel)), rfl⟩
theorem k_123 : Cond.code (mY M_X1_isRunFree) (mC M_X1_isRunFree) (mL M_X1_isRunFree) (mR M_X1_isRunFree) ∈ g_WS := List.mem_filter.mpr ⟨k_t1 (List.mem_of_getElem? (i := 183) (by decide +kernel)), rfl⟩
theorem k_124 : Cond.instanceMethod yX1_isRunFree ∈ g_WS := List.mem_filter.mpr ⟨k_t1 (List.mem_of_getElem? (i := 182) (by decide +kernel)), rfl⟩
theorem k_125 : Cond.selects RX1 yX1_isRunFree yX1_isRunFree ∈ g_WS := List.mem_filter.mpr ⟨k_sel (q := (yX1_isRunFree, 10)) (List.mem_of_getElem? (i := 2) (by decide +kernel)), rfl⟩
theorem k_126 : Cond.code (mY M_X1_lowestFreeRun) (mC M_X1_lowestFreeRun) (mL M_X1_lowestFreeRun) (mR M_X1_lowestFreeRun) ∈ g_WS := List.mem_filter.mpr ⟨k_t1 (List.mem_of_getElem? (i := 228) (by decide +kernel)), rfl⟩
theorem k_127 : Cond.instanceMethod yX1_lowestFreeRun ∈ g_WS := List.mem_filter.mpr ⟨k_t1 (List.mem_of_getElem? (i := 227) (by decide +kernel)), rfl⟩
theorem k_128 : Cond.selects RX1 yX1_lowestFreeRun yX1_lowestFreeRun ∈ g_WS := List.mem_filter.mpr ⟨k_sel (q := (yX1_lowestFreeRun, 10)) (List.mem_of_getElem? (i := 5) (by decide +kernel)), rfl⟩
theorem k_129 : Cond.code (mY M_X1_lowestSingleFrame) (mC M_X1_lowestSingleFrame) (mL M_X1_lowestSingleFrame) (mR M_X1_lowestSingleFrame) ∈ g_WS := List.mem_filter.mpr ⟨k_t2 (List.mem_of_getElem? (i := 205) (by decide +kernel)), rfl⟩
theorem k_130 : Cond.instanceMethod yX1_lowestSingleFrame ∈ g_WS := List.mem_filter.mpr ⟨k_t2 (List.mem_of_getElem? (i := 204) (by decide +kernel)), rfl⟩
theorem k_131 : Cond.selects RX1 yX1_lowestSingleFrame yX1_lowestSingleFrame ∈ g_WS := List.mem_filter.mpr ⟨k_sel (q := (yX1_lowestSingleFrame, 10)) (List.mem_of_getElem? (i := 20) (by decide +kernel)), rfl⟩
theorem k_132 : Cond.code (mY M_X1_takeFrame) (mC M_X1_takeFrame) (mL M_X1_takeFrame) (mR M_X1_takeFrame) ∈ g_WS := List.mem_filter.mpr ⟨k_t2 (List.mem_of_getElem? (i := 12) (by decide +kernel)), rfl⟩
theorem k_133 : Cond.instanceMethod yX1_takeFrame ∈ g_WS := List.mem_filter.mpr ⟨k_t2 (List.mem_of_getElem? (i := 11) (by decide +kernel)), rfl⟩
theorem k_134 : Cond.selects RX1 yX1_takeFrame yX1_takeFrame ∈ g_WS := List.mem_filter.mpr ⟨k_sel (q := (yX1_takeFrame, 10)) (List.mem_of_getElem? (i := 8) (by decide +kernel)), rfl⟩
theorem k_135 : Cond.code (mY M_X1_letGo) (mC M_X1_letGo) (mL M_X1_letGo) (mR M_X1_letGo) ∈ g_WS := List.mem_filter.mpr ⟨k_t2 (List.mem_of_getElem? (i := 8) (by decide +kernel)), rfl⟩
theorem k_136 : Cond.instanceMethod yX1_letGo ∈ g_WS := List.mem_filter.mpr ⟨k_t2 (List.mem_of_getElem? (i := 7) (by decide +kernel)), rfl⟩
theorem k_137 : Cond.selects RX1 yX1_letGo yX1_letGo ∈ g_WS := List.mem_filter.mpr ⟨k_sel (q := (yX1_letGo, 10)) (List.mem_of_getElem? (i := 7) (by decide +kernel)), rfl⟩
theorem k_138 : Cond.code (mY M_X1_becomeBig) (mC M_X1_becomeBig) (mL M_X1_becomeBig) (mR M_X1_becomeBig) ∈ g_WS := List.mem_filter.mpr ⟨k_t2 (List.mem_of_getElem? (i := 16) (by decide +kernel)), rfl⟩
theorem k_139 : Cond.instanceMethod yX1_becomeBig ∈ g_WS := List.mem_filter.mpr ⟨k_t2 (List.mem_of_getElem? (i := 15) (by decide +kernel)), rfl⟩
theorem k_140 : Cond.selects RX1 yX1_becomeBig yX1_becomeBig ∈ g_WS := List.mem_filter.mpr ⟨k_sel (q := (yX1_becomeBig, 10)) (List.mem_of_getElem? (i := 9) (by decide +kernel)), rfl⟩
theorem k_141 : Cond.code (mY M_X1_becomeSmall) (mC M_X1_becomeSmall) (mL M_X1_becomeSmall) (mR M_X1_becomeSmall) ∈ g_WS := List.mem_filter.mpr ⟨k_t2 (List.mem_of_getElem? (i := 52) (by decide +kernel)), rfl⟩
theorem k_142 : Cond.instanceMethod yX1_becomeSmall ∈ g_WS := List.mem_filter.mpr ⟨k_t2 (List.mem_of_getElem? (i := 51) (by decide +kernel)), rfl⟩
theorem k_143 : Cond.selects RX1 yX1_becomeSmall yX1_becomeSmall ∈ g_WS := List.mem_filter.mpr ⟨k_sel (q := (yX1_becomeSmall, 10)) (List.mem_of_getElem? (i := 14) (by decide +kernel)), rfl⟩
theorem k_144 : Cond.code (mY M_X1_becomeTorn) (mC M_X1_becomeTorn) (mL M_X1_becomeTorn) (mR M_X1_becomeTorn) ∈ g_WS := List.mem_filter.mpr ⟨k_t2 (List.mem_of_getElem? (i := 48) (by decide +kernel)), rfl⟩
theorem k_145 : Cond.instanceMethod yX1_becomeTorn ∈ g_WS := List.mem_filter.mpr ⟨k_t2 (List.mem_of_getElem? (i := 47) (by decide +kernel)), rfl⟩
theorem k_146 : Cond.selects RX1 yX1_becomeTorn yX1_becomeTorn ∈ g_WS := List.mem_filter.mpr ⟨k_sel (q := (yX1_becomeTorn, 10)) (List.mem_of_getElem? (i := 13) (by decide +kernel)), rfl⟩
theorem k_147 : Cond.code (mY M_X1_outcomeOfWrite) (mC M_X1_outcomeOfWrite) (mL M_X1_outcomeOfWrite) (mR M_X1_outcomeOfWrite) ∈ g_WS := List.mem_filter.mpr ⟨k_t2 (List.mem_of_getElem? (i := 185) (by decide +kernel)), rfl⟩
theorem k_148 : Cond.instanceMethod yX1_outcomeOfWrite ∈ g_WS := List.mem_filter.mpr ⟨k_t2 (List.mem_of_getElem? (i := 183) (by decide +kernel)), rfl⟩
theorem k_149 : Cond.selects RX1 yX1_outcomeOfWrite yX1_outcomeOfWrite ∈ g_WS := List.mem_filter.mpr ⟨k_t2 (List.mem_of_getElem? (i := 184) (by decide +kernel)), rfl⟩
theorem k_150 : Cond.code (mY M_X1_doWrite) (mC M_X1_doWrite) (mL M_X1_doWrite) (mR M_X1_doWrite) ∈ g_WS := List.mem_filter.mpr ⟨k_t2 (List.mem_of_getElem? (i := 181) (by decide +kernel)), rfl⟩
theorem k_151 : Cond.instanceMethod yX1_doWrite ∈ g_WS := List.mem_filter.mpr ⟨k_t2 (List.mem_of_getElem? (i := 179) (by decide +kernel)), rfl⟩
theorem k_152 : Cond.selects RX1 yX1_doWrite yX1_doWrite ∈ g_WS := List.mem_filter.mpr ⟨k_t2 (List.mem_of_getElem? (i := 180) (by decide +kernel)), rfl⟩
theorem k_153 : Cond.code (mY M_X1_bringIn) (mC M_X1_bringIn) (mL M_X1_bringIn) (mR M_X1_bringIn) ∈ g_WS := List.mem_filter.mpr ⟨k_t2 (List.mem_of_getElem? (i := 193) (by decide +kernel)), rfl⟩
theorem k_154 : Cond.instanceMethod yX1_bringIn ∈ g_WS := List.mem_filter.mpr ⟨k_t2 (List.mem_of_getElem? (i := 192) (by decide +kernel)), rfl⟩
theorem k_155 : Cond.selects RX1 yX1_bringIn yX1_bringIn ∈ g_WS := List.mem_filter.mpr ⟨k_sel (q := (yX1_bringIn, 10)) (List.mem_of_getElem? (i := 17) (by decide +kernel)), rfl⟩
theorem k_156 : Cond.code (mY M_X1_bringInWhole) (mC M_X1_bringInWhole) (mL M_X1_bringInWhole) (mR M_X1_bringInWhole) ∈ g_WS := List.mem_filter.mpr ⟨k_t2 (List.mem_of_getElem? (i := 197) (by decide +kernel)), rfl⟩
theorem k_157 : Cond.instanceMethod yX1_bringInWhole ∈ g_WS := List.mem_filter.mpr ⟨k_t2 (List.mem_of_getElem? (i := 196) (by decide +kernel)), rfl⟩
theorem k_158 : Cond.selects RX1 yX1_bringInWhole yX1_bringInWhole ∈ g_WS := List.mem_filter.mpr ⟨k_sel (q := (yX1_bringInWhole, 10)) (List.mem_of_getElem? (i := 18) (by decide +kernel)), rfl⟩
theorem k_159 : Cond.code (mY M_X1_copyOut) (mC M_X1_copyOut) (mL M_X1_copyOut) (mR M_X1_copyOut) ∈ g_WS := List.mem_filter.mpr ⟨k_t2 (List.mem_of_getElem? (i := 209) (by decide +kernel)), rfl⟩
theorem k_160 : Cond.instanceMethod yX1_copyOut ∈ g_WS := List.mem_filter.mpr ⟨k_t2 (List.mem_of_getElem? (i := 208) (by decide +kernel)), rfl⟩
theorem k_161 : Cond.selects RX1 yX1_copyOut yX1_copyOut ∈ g_WS := List.mem_filter.mpr ⟨k_sel (q := (yX1_copyOut, 10)) (List.mem_of_getElem? (i := 21) (by decide +kernel)), rfl⟩
theorem k_162 : Cond.code (mY M_X1_takeSingleFrame) (mC M_X1_takeSingleFrame) (mL M_X1_takeSingleFrame) (mR M_X1_takeSingleFrame) ∈ g_WS := List.mem_filter.mpr ⟨k_t2 (List.mem_of_getElem? (i := 201) (by decide +kernel)), rfl⟩
theorem k_163 : Cond.instanceMethod yX1_takeSingleFrame ∈ g_WS := List.mem_filter.mpr ⟨k_t2 (List.mem_of_getElem? (i := 200) (by decide +kernel)), rfl⟩
theorem k_164 : Cond.selects RX1 yX1_takeSingleFrame yX1_takeSingleFrame ∈ g_WS := List.mem_filter.mpr ⟨k_sel (q := (yX1_takeSingleFrame, 10)) (List.mem_of_getElem? (i := 19) (by decide +kernel)), rfl⟩
theorem k_165 : Cond.code (mY M_X1_lowestUnusedProcess) (mC M_X1_lowestUnusedProcess) (mL M_X1_lowestUnusedProcess) (mR M_X1_lowestUnusedProcess) ∈ g_WS := List.mem_filter.mpr ⟨k_t2 (List.mem_of_getElem? (i := 217) (by decide +kernel)), rfl⟩
theorem k_166 : Cond.instanceMethod yX1_lowestUnusedProcess ∈ g_WS := List.mem_filter.mpr ⟨k_t2 (List.mem_of_getElem? (i := 216) (by decide +kernel)), rfl⟩
theorem k_167 : Cond.selects RX1 yX1_lowestUnusedProcess yX1_lowestUnusedProcess ∈ g_WS := List.mem_filter.mpr ⟨k_sel (q := (yX1_lowestUnusedProcess, 10)) (List.mem_of_getElem? (i := 22) (by decide +kernel)), rfl⟩
theorem k_168 : Cond.code (mY M_X1_canFork) (mC M_X1_canFork) (mL M_X1_canFork) (mR M_X1_canFork) ∈ g_WS := List.mem_filter.mpr ⟨k_t3 (List.mem_of_getElem? (i := 121) (by decide +kernel)), rfl⟩
theorem k_169 : Cond.instanceMethod yX1_canFork ∈ g_WS := List.mem_filter.mpr ⟨k_t3 (List.mem_of_getElem? (i := 119) (by decide +kernel)), rfl⟩
theorem k_170 : Cond.selects RX1 yX1_canFork yX1_canFork ∈ g_WS := List.mem_filter.mpr ⟨k_t3 (List.mem_of_getElem? (i := 120) (by decide +kernel)), rfl⟩
theorem k_171 : Cond.code (mY M_X1_doFork) (mC M_X1_doFork) (mL M_X1_doFork) (mR M_X1_doFork) ∈ g_WS := List.mem_filter.mpr ⟨k_t2 (List.mem_of_getElem? (i := 213) (by decide +kernel)), rfl⟩
theorem k_172 : Cond.instanceMethod yX1_doFork ∈ g_WS := List.mem_filter.mpr ⟨k_t2 (List.mem_of_getElem? (i := 211) (by decide +kernel)), rfl⟩
theorem k_173 : Cond.selects RX1 yX1_doFork yX1_doFork ∈ g_WS := List.mem_filter.mpr ⟨k_t2 (List.mem_of_getElem? (i := 212) (by decide +kernel)), rfl⟩
theorem k_174 : Cond.code (mY M_X1_canExit) (mC M_X1_canExit) (mL M_X1_canExit) (mR M_X1_canExit) ∈ g_WS := List.mem_filter.mpr ⟨k_t2 (List.mem_of_getElem? (i := 225) (by decide +kernel)), rfl⟩
theorem k_175 : Cond.instanceMethod yX1_canExit ∈ g_WS := List.mem_filter.mpr ⟨k_t2 (List.mem_of_getElem? (i := 223) (by decide +kernel)), rfl⟩
theorem k_176 : Cond.selects RX1 yX1_canExit yX1_canExit ∈ g_WS := List.mem_filter.mpr ⟨k_t2 (List.mem_of_getElem? (i := 224) (by decide +kernel)), rfl⟩
theorem k_177 : Cond.code (mY M_X1_doExit) (mC M_X1_doExit) (mL M_X1_doExit) (mR M_X1_doExit) ∈ g_WS := List.mem_filter.mpr ⟨k_t2 (List.mem_of_getElem? (i := 221) (by decide +kernel)), rfl⟩
theorem k_178 : Cond.instanceMethod yX1_doExit ∈ g_WS := List.mem_filter.mpr ⟨k_t2 (List.mem_of_getElem? (i := 219) (by decide +kernel)), rfl⟩
theorem k_179 : Cond.selects RX1 yX1_doExit yX1_doExit ∈ g_WS := List.mem_filter.mpr ⟨k_t2 (List.mem_of_getElem? (i := 220) (by decide +kernel)), rfl⟩
theorem k_180 : Cond.code (mY M_X1_obstacleToMarriage) (mC M_X1_obstacleToMarriage) (mL M_X1_obstacleToMarriage) (mR M_X1_obstacleToMarriage) ∈ g_WS := List.mem_filter.mpr ⟨k_t1 (List.mem_of_getElem? (i := 200) (by decide +kernel)), rfl⟩
theorem k_181 : Cond.instanceMethod yX1_obstacleToMarriage ∈ g_WS := List.mem_filter.mpr ⟨k_t1 (List.mem_of_getElem? (i := 198) (by decide +kernel)), rfl⟩
theorem k_182 : Cond.selects RX1 yX1_obstacleToMarriage yX1_obstacleToMarriage ∈ g_WS := List.mem_filter.mpr ⟨k_t1 (List.mem_of_getElem? (i := 199) (by decide +kernel)), rfl⟩
theorem k_183 : Cond.code (mY M_X1_isInPlace) (mC M_X1_isInPlace) (mL M_X1_isInPlace) (mR M_X1_isInPlace) ∈ g_WS := List.mem_filter.mpr ⟨k_t1 (List.mem_of_getElem? (i := 224) (by decide +kernel)), rfl⟩
theorem k_184 : Cond.instanceMethod yX1_isInPlace ∈ g_WS := List.mem_filter.mpr ⟨k_t1 (List.mem_of_getElem? (i := 223) (by decide +kernel)), rfl⟩
theorem k_185 : Cond.selects RX1 yX1_isInPlace yX1_isInPlace ∈ g_WS := List.mem_filter.mpr ⟨k_sel (q := (yX1_isInPlace, 10)) (List.mem_of_getElem? (i := 4) (by decide +kernel)), rfl⟩
theorem k_186 : Cond.code (mY M_X1_doMarry) (mC M_X1_doMarry) (mL M_X1_doMarry) (mR M_X1_doMarry) ∈ g_WS := List.mem_filter.mpr ⟨k_t1 (List.mem_of_getElem? (i := 232) (by decide +kernel)), rfl⟩
theorem k_187 : Cond.instanceMethod yX1_doMarry ∈ g_WS := List.mem_filter.mpr ⟨k_t1 (List.mem_of_getElem? (i := 230) (by decide +kernel)), rfl⟩
theorem k_188 : Cond.selects RX1 yX1_doMarry yX1_doMarry ∈ g_WS := List.mem_filter.mpr ⟨k_t1 (List.mem_of_getElem? (i := 231) (by decide +kernel)), rfl⟩
theorem k_189 : Cond.code (mY M_X1_moveTo) (mC M_X1_moveTo) (mL M_X1_moveTo) (mR M_X1_moveTo) ∈ g_WS := List.mem_filter.mpr ⟨k_t2 (List.mem_of_getElem? (i := 0) (by decide +kernel)), rfl⟩
theorem k_190 : Cond.instanceMethod yX1_moveTo ∈ g_WS := List.mem_filter.mpr ⟨k_t1 (List.mem_of_getElem? (i := 239) (by decide +kernel)), rfl⟩
theorem k_191 : Cond.selects RX1 yX1_moveTo yX1_moveTo ∈ g_WS := List.mem_filter.mpr ⟨k_sel (q := (yX1_moveTo, 10)) (List.mem_of_getElem? (i := 6) (by decide +kernel)), rfl⟩
theorem k_192 : Cond.code (mY M_X1_marryNext) (mC M_X1_marryNext) (mL M_X1_marryNext) (mR M_X1_marryNext) ∈ g_WS := List.mem_filter.mpr ⟨k_t1 (List.mem_of_getElem? (i := 192) (by decide +kernel)), rfl⟩
theorem k_193 : Cond.instanceMethod yX1_marryNext ∈ g_WS := List.mem_filter.mpr ⟨k_t1 (List.mem_of_getElem? (i := 190) (by decide +kernel)), rfl⟩
theorem k_194 : Cond.selects RX1 yX1_marryNext yX1_marryNext ∈ g_WS := List.mem_filter.mpr ⟨k_t1 (List.mem_of_getElem? (i := 191) (by decide +kernel)), rfl⟩
theorem k_195 : Cond.code (mY M_X1_doTear) (mC M_X1_doTear) (mL M_X1_doTear) (mR M_X1_doTear) ∈ g_WS := List.mem_filter.mpr ⟨k_t3 (List.mem_of_getElem? (i := 152) (by decide +kernel)), rfl⟩
theorem k_196 : Cond.instanceMethod yX1_doTear ∈ g_WS := List.mem_filter.mpr ⟨k_t3 (List.mem_of_getElem? (i := 150) (by decide +kernel)), rfl⟩
theorem k_197 : Cond.selects RX1 yX1_doTear yX1_doTear ∈ g_WS := List.mem_filter.mpr ⟨k_t3 (List.mem_of_getElem? (i := 151) (by decide +kernel)), rfl⟩
theorem k_198 : Cond.code (mY M_X1_doPress) (mC M_X1_doPress) (mL M_X1_doPress) (mR M_X1_doPress) ∈ g_WS := List.mem_filter.mpr ⟨k_t2 (List.mem_of_getElem? (i := 24) (by decide +kernel)), rfl⟩
theorem k_199 : Cond.instanceMethod yX1_doPress ∈ g_WS := List.mem_filter.mpr ⟨k_t2 (List.mem_of_getElem? (i := 22) (by decide +kernel)), rfl⟩
theorem k_200 : Cond.selects RX1 yX1_doPress yX1_doPress ∈ g_WS := List.mem_filter.mpr ⟨k_t2 (List.mem_of_getElem? (i := 23) (by decide +kernel)), rfl⟩
theorem k_201 : Cond.code (mY M_X1_loseFirstPage) (mC M_X1_loseFirstPage) (mL M_X1_loseFirstPage) (mR M_X1_loseFirstPage) ∈ g_WS := List.mem_filter.mpr ⟨k_t2 (List.mem_of_getElem? (i := 32) (by decide +kernel)), rfl⟩
theorem k_202 : Cond.instanceMethod yX1_loseFirstPage ∈ g_WS := List.mem_filter.mpr ⟨k_t2 (List.mem_of_getElem? (i := 31) (by decide +kernel)), rfl⟩
theorem k_203 : Cond.selects RX1 yX1_loseFirstPage yX1_loseFirstPage ∈ g_WS := List.mem_filter.mpr ⟨k_sel (q := (yX1_loseFirstPage, 10)) (List.mem_of_getElem? (i := 10) (by decide +kernel)), rfl⟩
theorem k_204 : Cond.code (mY M_X1_tearEmptiestGroup) (mC M_X1_tearEmptiestGroup) (mL M_X1_tearEmptiestGroup) (mR M_X1_tearEmptiestGroup) ∈ g_WS := List.mem_filter.mpr ⟨k_t2 (List.mem_of_getElem? (i := 40) (by decide +kernel)), rfl⟩
theorem k_205 : Cond.instanceMethod yX1_tearEmptiestGroup ∈ g_WS := List.mem_filter.mpr ⟨k_t2 (List.mem_of_getElem? (i := 39) (by decide +kernel)), rfl⟩
theorem k_206 : Cond.selects RX1 yX1_tearEmptiestGroup yX1_tearEmptiestGroup ∈ g_WS := List.mem_filter.mpr ⟨k_sel (q := (yX1_tearEmptiestGroup, 10)) (List.mem_of_getElem? (i := 11) (by decide +kernel)), rfl⟩
theorem k_207 : Cond.code (mY M_X2_init) (mC M_X2_init) (mL M_X2_init) (mR M_X2_init) ∈ g_WS := List.mem_filter.mpr ⟨k_t1 (List.mem_of_getElem? (i := 27) (by decide +kernel)), rfl⟩
theorem k_208 : Cond.initialized RX2 ∈ g_WS := List.mem_filter.mpr ⟨k_t1 (List.mem_of_getElem? (i := 2) (by decide +kernel)), rfl⟩
theorem k_209 : Cond.instanceMethod yX2_init ∈ g_WS := List.mem_filter.mpr ⟨k_t1 (List.mem_of_getElem? (i := 26) (by decide +kernel)), rfl⟩
theorem k_210 : Cond.code (mY M_X2_length) (mC M_X2_length) (mL M_X2_length) (mR M_X2_length) ∈ g_WS := List.mem_filter.mpr ⟨k_t2 (List.mem_of_getElem? (i := 133) (by decide +kernel)), rfl⟩
theorem k_211 : Cond.instanceMethod yX2_length ∈ g_WS := List.mem_filter.mpr ⟨k_t2 (List.mem_of_getElem? (i := 131) (by decide +kernel)), rfl⟩
theorem k_212 : Cond.selects RX2 yX2_length yX2_length ∈ g_WS := List.mem_filter.mpr ⟨k_t2 (List.mem_of_getElem? (i := 132) (by decide +kernel)), rfl⟩
theorem k_213 : Cond.code (mY M_X2_add) (mC M_X2_add) (mL M_X2_add) (mR M_X2_add) ∈ g_WS := List.mem_filter.mpr ⟨k_t2 (List.mem_of_getElem? (i := 153) (by decide +kernel)), rfl⟩
theorem k_214 : Cond.instanceMethod yX2_add ∈ g_WS := List.mem_filter.mpr ⟨k_t2 (List.mem_of_getElem? (i := 151) (by decide +kernel)), rfl⟩
theorem k_215 : Cond.selects RX2 yX2_add yX2_add ∈ g_WS := List.mem_filter.mpr ⟨k_t2 (List.mem_of_getElem? (i := 152) (by decide +kernel)), rfl⟩
theorem k_216 : Cond.code (mY M_X2_empty) (mC M_X2_empty) (mL M_X2_empty) (mR M_X2_empty) ∈ g_WS := List.mem_filter.mpr ⟨k_t1 (List.mem_of_getElem? (i := 130) (by decide +kernel)), rfl⟩
theorem k_217 : Cond.instanceMethod yX2_empty ∈ g_WS := List.mem_filter.mpr ⟨k_t1 (List.mem_of_getElem? (i := 128) (by decide +kernel)), rfl⟩
theorem k_218 : Cond.selects RX2 yX2_empty yX2_empty ∈ g_WS := List.mem_filter.mpr ⟨k_t1 (List.mem_of_getElem? (i := 129) (by decide +kernel)), rfl⟩
theorem k_219 : Cond.code (mY M_X2_sign) (mC M_X2_sign) (mL M_X2_sign) (mR M_X2_sign) ∈ g_WS := List.mem_filter.mpr ⟨k_t1 (List.mem_of_getElem? (i := 142) (by decide +kernel)), rfl⟩
theorem k_220 : Cond.instanceMethod yX2_sign ∈ g_WS := List.mem_filter.mpr ⟨k_t1 (List.mem_of_getElem? (i := 140) (by decide +kernel)), rfl⟩
theorem k_221 : Cond.selects RX2 yX2_sign yX2_sign ∈ g_WS := List.mem_filter.mpr ⟨k_t1 (List.mem_of_getElem? (i := 141) (by decide +kernel)), rfl⟩
theorem k_222 : Cond.code (mY M_X2_digit) (mC M_X2_digit) (mL M_X2_digit) (mR M_X2_digit) ∈ g_WS := List.mem_filter.mpr ⟨k_t1 (List.mem_of_getElem? (i := 150) (by decide +kernel)), rfl⟩
theorem k_223 : Cond.instanceMethod yX2_digit ∈ g_WS := List.mem_filter.mpr ⟨k_t1 (List.mem_of_getElem? (i := 148) (by decide +kernel)), rfl⟩
theorem k_224 : Cond.selects RX2 yX2_digit yX2_digit ∈ g_WS := List.mem_filter.mpr ⟨k_t1 (List.mem_of_getElem? (i := 149) (by decide +kernel)), rfl⟩
theorem k_225 : Cond.code (mY M_X2_number) (mC M_X2_number) (mL M_X2_number) (mR M_X2_number) ∈ g_WS := List.mem_filter.mpr ⟨k_t2 (List.mem_of_getElem? (i := 177) (by decide +kernel)), rfl⟩
theorem k_226 : Cond.instanceMethod yX2_number ∈ g_WS := List.mem_filter.mpr ⟨k_t2 (List.mem_of_getElem? (i := 175) (by decide +kernel)), rfl⟩
theorem k_227 : Cond.selects RX2 yX2_number yX2_number ∈ g_WS := List.mem_filter.mpr ⟨k_t2 (List.mem_of_getElem? (i := 176) (by decide +kernel)), rfl⟩
theorem k_228 : Cond.code (mY M_X2_digitsBehind) (mC M_X2_digitsBehind) (mL M_X2_digitsBehind) (mR M_X2_digitsBehind) ∈ g_WS := List.mem_filter.mpr ⟨k_t1 (List.mem_of_getElem? (i := 157) (by decide +kernel)), rfl⟩
theorem k_229 : Cond.static yX2_digitsBehind ∈ g_WS := List.mem_filter.mpr ⟨k_t1 (List.mem_of_getElem? (i := 156) (by decide +kernel)), rfl⟩
theorem k_230 : Cond.code (mY M_X2_firstError) (mC M_X2_firstError) (mL M_X2_firstError) (mR M_X2_firstError) ∈ g_WS := List.mem_filter.mpr ⟨k_t1 (List.mem_of_getElem? (i := 138) (by decide +kernel)), rfl⟩
theorem k_231 : Cond.instanceMethod yX2_firstError ∈ g_WS := List.mem_filter.mpr ⟨k_t1 (List.mem_of_getElem? (i := 136) (by decide +kernel)), rfl⟩
theorem k_232 : Cond.selects RX2 yX2_firstError yX2_firstError ∈ g_WS := List.mem_filter.mpr ⟨k_t1 (List.mem_of_getElem? (i := 137) (by decide +kernel)), rfl⟩
theorem k_233 : Cond.code (mY M_X2_isAllowedDigit) (mC M_X2_isAllowedDigit) (mL M_X2_isAllowedDigit) (mR M_X2_isAllowedDigit) ∈ g_WS := List.mem_filter.mpr ⟨k_t1 (List.mem_of_getElem? (i := 146) (by decide +kernel)), rfl⟩
theorem k_234 : Cond.instanceMethod yX2_isAllowedDigit ∈ g_WS := List.mem_filter.mpr ⟨k_t1 (List.mem_of_getElem? (i := 145) (by decide +kernel)), rfl⟩
theorem k_235 : Cond.selects RX2 yX2_isAllowedDigit yX2_isAllowedDigit ∈ g_WS := List.mem_filter.mpr ⟨k_sel (q := (yX2_isAllowedDigit, 2)) (List.mem_of_getElem? (i := 0) (by decide +kernel)), rfl⟩
theorem k_236 : Cond.code (mY M_X2_highestDigit) (mC M_X2_highestDigit) (mL M_X2_highestDigit) (mR M_X2_highestDigit) ∈ g_WS := List.mem_filter.mpr ⟨k_t1 (List.mem_of_getElem? (i := 154) (by decide +kernel)), rfl⟩
theorem k_237 : Cond.instanceMethod yX2_highestDigit ∈ g_WS := List.mem_filter.mpr ⟨k_t1 (List.mem_of_getElem? (i := 153) (by decide +kernel)), rfl⟩
theorem k_238 : Cond.selects RX2 yX2_highestDigit yX2_highestDigit ∈ g_WS := List.mem_filter.mpr ⟨k_sel (q := (yX2_highestDigit, 2)) (List.mem_of_getElem? (i := 1) (by decide +kernel)), rfl⟩
theorem k_239 : Cond.code (mY M_X3_init) (mC M_X3_init) (mL M_X3_init) (mR M_X3_init) ∈ g_WS := List.mem_filter.mpr ⟨k_t1 (List.mem_of_getElem? (i := 19) (by decide +kernel)), rfl⟩
theorem k_240 : Cond.initialized RX3 ∈ g_WS := List.mem_filter.mpr ⟨k_t1 (List.mem_of_getElem? (i := 1) (by decide +kernel)), rfl⟩
theorem k_241 : Cond.instanceMethod yX3_init ∈ g_WS := List.mem_filter.mpr ⟨k_t1 (List.mem_of_getElem? (i := 18) (by decide +kernel)), rfl⟩
theorem k_242 : Cond.code (mY M_X3_append) (mC M_X3_append) (mL M_X3_append) (mR M_X3_append) ∈ g_WS := List.mem_filter.mpr ⟨k_t2 (List.mem_of_getElem? (i := 61) (by decide +kernel)), rfl⟩
theorem k_243 : Cond.instanceMethod yX3_append ∈ g_WS := List.mem_filter.mpr ⟨k_t2 (List.mem_of_getElem? (i := 59) (by decide +kernel)), rfl⟩
theorem k_244 : Cond.selects RX3 yX3_append yX3_append ∈ g_WS := List.mem_filter.mpr ⟨k_t2 (List.mem_of_getElem? (i := 60) (by decide +kernel)), rfl⟩
theorem k_245 : Cond.code (mY M_X3_clearText) (mC M_X3_clearText) (mL M_X3_clearText) (mR M_X3_clearText) ∈ g_WS := List.mem_filter.mpr ⟨k_t1 (List.mem_of_getElem? (i := 126) (by decide +kernel)), rfl⟩
theorem k_246 : Cond.instanceMethod yX3_clearText ∈ g_WS := List.mem_filter.mpr ⟨k_t1 (List.mem_of_getElem? (i := 124) (by decide +kernel)), rfl⟩
theorem k_247 : Cond.selects RX3 yX3_clearText yX3_clearText ∈ g_WS := List.mem_filter.mpr ⟨k_t1 (List.mem_of_getElem? (i := 125) (by decide +kernel)), rfl⟩
theorem k_248 : Cond.code (mY M_X3_errorPosition) (mC M_X3_errorPosition) (mL M_X3_errorPosition) (mR M_X3_errorPosition) ∈ g_WS := List.mem_filter.mpr ⟨k_t1 (List.mem_of_getElem? (i := 134) (by decide +kernel)), rfl⟩
theorem k_249 : Cond.instanceMethod yX3_errorPosition ∈ g_WS := List.mem_filter.mpr ⟨k_t1 (List.mem_of_getElem? (i := 132) (by decide +kernel)), rfl⟩
theorem k_250 : Cond.selects RX3 yX3_errorPosition yX3_errorPosition ∈ g_WS := List.mem_filter.mpr ⟨k_t1 (List.mem_of_getElem? (i := 133) (by decide +kernel)), rfl⟩
theorem k_251 : Cond.code (mY M_X3_load) (mC M_X3_load) (mL M_X3_load) (mR M_X3_load) ∈ g_WS := List.mem_filter.mpr ⟨k_t2 (List.mem_of_getElem? (i := 160) (by decide +kernel)), rfl⟩
theorem k_252 : Cond.instanceMethod yX3_load ∈ g_WS := List.mem_filter.mpr ⟨k_t2 (List.mem_of_getElem? (i := 158) (by decide +kernel)), rfl⟩
theorem k_253 : Cond.selects RX3 yX3_load yX3_load ∈ g_WS := List.mem_filter.mpr ⟨k_t2 (List.mem_of_getElem? (i := 159) (by decide +kernel)), rfl⟩
theorem k_254 : Cond.code (mY M_X3_about) (mC M_X3_about) (mL M_X3_about) (mR M_X3_about) ∈ g_WS := List.mem_filter.mpr ⟨k_t2 (List.mem_of_getElem? (i := 239) (by decide +kernel)), rfl⟩
theorem k_255 : Cond.instanceMethod yX3_about ∈ g_WS := List.mem_filter.mpr ⟨k_t2 (List.mem_of_getElem? (i := 237) (by decide +kernel)), rfl⟩
theorem k_256 : Cond.selects RX3 yX3_about yX3_about ∈ g_WS := List.mem_filter.mpr ⟨k_t2 (List.mem_of_getElem? (i := 238) (by decide +kernel)), rfl⟩
theorem k_257 : Cond.code (mY M_X3_page) (mC M_X3_page) (mL M_X3_page) (mR M_X3_page) ∈ g_WS := List.mem_filter.mpr ⟨k_t3 (List.mem_of_getElem? (i := 37) (by decide +kernel)), rfl⟩
theorem k_258 : Cond.instanceMethod yX3_page ∈ g_WS := List.mem_filter.mpr ⟨k_t3 (List.mem_of_getElem? (i := 35) (by decide +kernel)), rfl⟩
theorem k_259 : Cond.selects RX3 yX3_page yX3_page ∈ g_WS := List.mem_filter.mpr ⟨k_t3 (List.mem_of_getElem? (i := 36) (by decide +kernel)), rfl⟩
theorem k_260 : Cond.code (mY M_X3_user) (mC M_X3_user) (mL M_X3_user) (mR M_X3_user) ∈ g_WS := List.mem_filter.mpr ⟨k_t3 (List.mem_of_getElem? (i := 70) (by decide +kernel)), rfl⟩
theorem k_261 : Cond.instanceMethod yX3_user ∈ g_WS := List.mem_filter.mpr ⟨k_t3 (List.mem_of_getElem? (i := 68) (by decide +kernel)), rfl⟩
theorem k_262 : Cond.selects RX3 yX3_user yX3_user ∈ g_WS := List.mem_filter.mpr ⟨k_t3 (List.mem_of_getElem? (i := 69) (by decide +kernel)), rfl⟩
theorem k_263 : Cond.code (mY M_X3_group) (mC M_X3_group) (mL M_X3_group) (mR M_X3_group) ∈ g_WS := List.mem_filter.mpr ⟨k_t3 (List.mem_of_getElem? (i := 83) (by decide +kernel)), rfl⟩
theorem k_264 : Cond.instanceMethod yX3_group ∈ g_WS := List.mem_filter.mpr ⟨k_t3 (List.mem_of_getElem? (i := 81) (by decide +kernel)), rfl⟩
theorem k_265 : Cond.selects RX3 yX3_group yX3_group ∈ g_WS := List.mem_filter.mpr ⟨k_t3 (List.mem_of_getElem? (i := 82) (by decide +kernel)), rfl⟩
theorem k_266 : Cond.code (mY M_X3_write) (mC M_X3_write) (mL M_X3_write) (mR M_X3_write) ∈ g_WS := List.mem_filter.mpr ⟨k_t3 (List.mem_of_getElem? (i := 101) (by decide +kernel)), rfl⟩
theorem k_267 : Cond.instanceMethod yX3_write ∈ g_WS := List.mem_filter.mpr ⟨k_t3 (List.mem_of_getElem? (i := 99) (by decide +kernel)), rfl⟩
theorem k_268 : Cond.selects RX3 yX3_write yX3_write ∈ g_WS := List.mem_filter.mpr ⟨k_t3 (List.mem_of_getElem? (i := 100) (by decide +kernel)), rfl⟩
theorem k_269 : Cond.code (mY M_X3_fork) (mC M_X3_fork) (mL M_X3_fork) (mR M_X3_fork) ∈ g_WS := List.mem_filter.mpr ⟨k_t3 (List.mem_of_getElem? (i := 111) (by decide +kernel)), rfl⟩
theorem k_270 : Cond.instanceMethod yX3_fork ∈ g_WS := List.mem_filter.mpr ⟨k_t3 (List.mem_of_getElem? (i := 109) (by decide +kernel)), rfl⟩
theorem k_271 : Cond.selects RX3 yX3_fork yX3_fork ∈ g_WS := List.mem_filter.mpr ⟨k_t3 (List.mem_of_getElem? (i := 110) (by decide +kernel)), rfl⟩
theorem k_272 : Cond.code (mY M_X3_exit) (mC M_X3_exit) (mL M_X3_exit) (mR M_X3_exit) ∈ g_WS := List.mem_filter.mpr ⟨k_t3 (List.mem_of_getElem? (i := 129) (by decide +kernel)), rfl⟩
theorem k_273 : Cond.instanceMethod yX3_exit ∈ g_WS := List.mem_filter.mpr ⟨k_t3 (List.mem_of_getElem? (i := 127) (by decide +kernel)), rfl⟩
theorem k_274 : Cond.selects RX3 yX3_exit yX3_exit ∈ g_WS := List.mem_filter.mpr ⟨k_t3 (List.mem_of_getElem? (i := 128) (by decide +kernel)), rfl⟩
theorem k_275 : Cond.code (mY M_X3_marry) (mC M_X3_marry) (mL M_X3_marry) (mR M_X3_marry) ∈ g_WS := List.mem_filter.mpr ⟨k_t3 (List.mem_of_getElem? (i := 138) (by decide +kernel)), rfl⟩
theorem k_276 : Cond.instanceMethod yX3_marry ∈ g_WS := List.mem_filter.mpr ⟨k_t3 (List.mem_of_getElem? (i := 136) (by decide +kernel)), rfl⟩
theorem k_277 : Cond.selects RX3 yX3_marry yX3_marry ∈ g_WS := List.mem_filter.mpr ⟨k_t3 (List.mem_of_getElem? (i := 137) (by decide +kernel)), rfl⟩
theorem k_278 : Cond.code (mY M_X3_tear) (mC M_X3_tear) (mL M_X3_tear) (mR M_X3_tear) ∈ g_WS := List.mem_filter.mpr ⟨k_t3 (List.mem_of_getElem? (i := 147) (by decide +kernel)), rfl⟩
theorem k_279 : Cond.instanceMethod yX3_tear ∈ g_WS := List.mem_filter.mpr ⟨k_t3 (List.mem_of_getElem? (i := 145) (by decide +kernel)), rfl⟩
theorem k_280 : Cond.selects RX3 yX3_tear yX3_tear ∈ g_WS := List.mem_filter.mpr ⟨k_t3 (List.mem_of_getElem? (i := 146) (by decide +kernel)), rfl⟩
theorem k_281 : Cond.code (mY M_X3_press) (mC M_X3_press) (mL M_X3_press) (mR M_X3_press) ∈ g_WS := List.mem_filter.mpr ⟨k_t3 (List.mem_of_getElem? (i := 159) (by decide +kernel)), rfl⟩
theorem k_282 : Cond.instanceMethod yX3_press ∈ g_WS := List.mem_filter.mpr ⟨k_t3 (List.mem_of_getElem? (i := 157) (by decide +kernel)), rfl⟩
theorem k_283 : Cond.selects RX3 yX3_press yX3_press ∈ g_WS := List.mem_filter.mpr ⟨k_t3 (List.mem_of_getElem? (i := 158) (by decide +kernel)), rfl⟩
theorem k_284 : Cond.code (mY M_X3_setEager) (mC M_X3_setEager) (mL M_X3_setEager) (mR M_X3_setEager) ∈ g_WS := List.mem_filter.mpr ⟨k_t1 (List.mem_of_getElem? (i := 161) (by decide +kernel)), rfl⟩
theorem k_285 : Cond.instanceMethod yX3_setEager ∈ g_WS := List.mem_filter.mpr ⟨k_t1 (List.mem_of_getElem? (i := 159) (by decide +kernel)), rfl⟩
theorem k_286 : Cond.selects RX3 yX3_setEager yX3_setEager ∈ g_WS := List.mem_filter.mpr ⟨k_t1 (List.mem_of_getElem? (i := 160) (by decide +kernel)), rfl⟩
theorem k_287 : Cond.code (mY M_X3_undo) (mC M_X3_undo) (mL M_X3_undo) (mR M_X3_undo) ∈ g_WS := List.mem_filter.mpr ⟨k_t3 (List.mem_of_getElem? (i := 167) (by decide +kernel)), rfl⟩
theorem k_288 : Cond.instanceMethod yX3_undo ∈ g_WS := List.mem_filter.mpr ⟨k_t3 (List.mem_of_getElem? (i := 165) (by decide +kernel)), rfl⟩
theorem k_289 : Cond.selects RX3 yX3_undo yX3_undo ∈ g_WS := List.mem_filter.mpr ⟨k_t3 (List.mem_of_getElem? (i := 166) (by decide +kernel)), rfl⟩
theorem k_290 : Cond.code (mY M_X3_whyNot) (mC M_X3_whyNot) (mL M_X3_whyNot) (mR M_X3_whyNot) ∈ g_WS := List.mem_filter.mpr ⟨k_t3 (List.mem_of_getElem? (i := 183) (by decide +kernel)), rfl⟩
theorem k_291 : Cond.instanceMethod yX3_whyNot ∈ g_WS := List.mem_filter.mpr ⟨k_t3 (List.mem_of_getElem? (i := 181) (by decide +kernel)), rfl⟩
theorem k_292 : Cond.selects RX3 yX3_whyNot yX3_whyNot ∈ g_WS := List.mem_filter.mpr ⟨k_t3 (List.mem_of_getElem? (i := 182) (by decide +kernel)), rfl⟩
theorem k_293 : Cond.code (mY M_X3_wouldDo) (mC M_X3_wouldDo) (mL M_X3_wouldDo) (mR M_X3_wouldDo) ∈ g_WS := List.mem_filter.mpr ⟨k_t3 (List.mem_of_getElem? (i := 190) (by decide +kernel)), rfl⟩
theorem k_294 : Cond.instanceMethod yX3_wouldDo ∈ g_WS := List.mem_filter.mpr ⟨k_t3 (List.mem_of_getElem? (i := 188) (by decide +kernel)), rfl⟩
theorem k_295 : Cond.selects RX3 yX3_wouldDo yX3_wouldDo ∈ g_WS := List.mem_filter.mpr ⟨k_t3 (List.mem_of_getElem? (i := 189) (by decide +kernel)), rfl⟩
theorem k_296 : Cond.code (mY M_X3_marriages) (mC M_X3_marriages) (mL M_X3_marriages) (mR M_X3_marriages) ∈ g_WS := List.mem_filter.mpr ⟨k_t1 (List.mem_of_getElem? (i := 187) (by decide +kernel)), rfl⟩
theorem k_297 : Cond.instanceMethod yX3_marriages ∈ g_WS := List.mem_filter.mpr ⟨k_t1 (List.mem_of_getElem? (i := 185) (by decide +kernel)), rfl⟩
theorem k_298 : Cond.selects RX3 yX3_marriages yX3_marriages ∈ g_WS := List.mem_filter.mpr ⟨k_t1 (List.mem_of_getElem? (i := 186) (by decide +kernel)), rfl⟩
theorem k_299 : Cond.code (mY M_X3_mostFree) (mC M_X3_mostFree) (mL M_X3_mostFree) (mR M_X3_mostFree) ∈ g_WS := List.mem_filter.mpr ⟨k_t2 (List.mem_of_getElem? (i := 20) (by decide +kernel)), rfl⟩
theorem k_300 : Cond.instanceMethod yX3_mostFree ∈ g_WS := List.mem_filter.mpr ⟨k_t2 (List.mem_of_getElem? (i := 18) (by decide +kernel)), rfl⟩
theorem k_301 : Cond.selects RX3 yX3_mostFree yX3_mostFree ∈ g_WS := List.mem_filter.mpr ⟨k_t2 (List.mem_of_getElem? (i := 19) (by decide +kernel)), rfl⟩
theorem k_302 : Cond.code (mY M_X3_writable) (mC M_X3_writable) (mL M_X3_writable) (mR M_X3_writable) ∈ g_WS := List.mem_filter.mpr ⟨k_t3 (List.mem_of_getElem? (i := 197) (by decide +kernel)), rfl⟩
theorem k_303 : Cond.instanceMethod yX3_writable ∈ g_WS := List.mem_filter.mpr ⟨k_t3 (List.mem_of_getElem? (i := 195) (by decide +kernel)), rfl⟩
theorem k_304 : Cond.selects RX3 yX3_writable yX3_writable ∈ g_WS := List.mem_filter.mpr ⟨k_t3 (List.mem_of_getElem? (i := 196) (by decide +kernel)), rfl⟩
theorem k_305 : Cond.code (mY M_X3_runScript) (mC M_X3_runScript) (mL M_X3_runScript) (mR M_X3_runScript) ∈ g_WS := List.mem_filter.mpr ⟨k_t3 (List.mem_of_getElem? (i := 204) (by decide +kernel)), rfl⟩
theorem k_306 : Cond.instanceMethod yX3_runScript ∈ g_WS := List.mem_filter.mpr ⟨k_t3 (List.mem_of_getElem? (i := 202) (by decide +kernel)), rfl⟩
theorem k_307 : Cond.selects RX3 yX3_runScript yX3_runScript ∈ g_WS := List.mem_filter.mpr ⟨k_t3 (List.mem_of_getElem? (i := 203) (by decide +kernel)), rfl⟩
theorem k_308 : Cond.code (mY M_X3_simulate) (mC M_X3_simulate) (mL M_X3_simulate) (mR M_X3_simulate) ∈ g_WS := List.mem_filter.mpr ⟨k_t3 (List.mem_of_getElem? (i := 221) (by decide +kernel)), rfl⟩
theorem k_309 : Cond.instanceMethod yX3_simulate ∈ g_WS := List.mem_filter.mpr ⟨k_t3 (List.mem_of_getElem? (i := 219) (by decide +kernel)), rfl⟩
theorem k_310 : Cond.selects RX3 yX3_simulate yX3_simulate ∈ g_WS := List.mem_filter.mpr ⟨k_t3 (List.mem_of_getElem? (i := 220) (by decide +kernel)), rfl⟩
theorem k_311 : Cond.code (mY M_X3_save) (mC M_X3_save) (mL M_X3_save) (mR M_X3_save) ∈ g_WS := List.mem_filter.mpr ⟨k_t3 (List.mem_of_getElem? (i := 236) (by decide +kernel)), rfl⟩
theorem k_312 : Cond.instanceMethod yX3_save ∈ g_WS := List.mem_filter.mpr ⟨k_t3 (List.mem_of_getElem? (i := 234) (by decide +kernel)), rfl⟩
theorem k_313 : Cond.selects RX3 yX3_save yX3_save ∈ g_WS := List.mem_filter.mpr ⟨k_t3 (List.mem_of_getElem? (i := 235) (by decide +kernel)), rfl⟩
theorem k_314 : Cond.code (mY M_X3_restore) (mC M_X3_restore) (mL M_X3_restore) (mR M_X3_restore) ∈ g_WS := List.mem_filter.mpr ⟨k_t4 (List.mem_of_getElem? (i := 8) (by decide +kernel)), rfl⟩
theorem k_315 : Cond.instanceMethod yX3_restore ∈ g_WS := List.mem_filter.mpr ⟨k_t4 (List.mem_of_getElem? (i := 6) (by decide +kernel)), rfl⟩
theorem k_316 : Cond.selects RX3 yX3_restore yX3_restore ∈ g_WS := List.mem_filter.mpr ⟨k_t4 (List.mem_of_getElem? (i := 7) (by decide +kernel)), rfl⟩
theorem k_317 : Cond.code (mY M_X3_requireProcess) (mC M_X3_requireProcess) (mL M_X3_requireProcess) (mR M_X3_requireProcess) ∈ g_WS := List.mem_filter.mpr ⟨k_t3 (List.mem_of_getElem? (i := 115) (by decide +kernel)), rfl⟩
theorem k_318 : Cond.instanceMethod yX3_requireProcess ∈ g_WS := List.mem_filter.mpr ⟨k_t3 (List.mem_of_getElem? (i := 114) (by decide +kernel)), rfl⟩
theorem k_319 : Cond.selects RX3 yX3_requireProcess yX3_requireProcess ∈ g_WS := List.mem_filter.mpr ⟨k_sel (q := (yX3_requireProcess, 6)) (List.mem_of_getElem? (i := 26) (by decide +kernel)), rfl⟩
theorem k_320 : Cond.code (mY M_X3_requirePage) (mC M_X3_requirePage) (mL M_X3_requirePage) (mR M_X3_requirePage) ∈ g_WS := List.mem_filter.mpr ⟨k_t3 (List.mem_of_getElem? (i := 41) (by decide +kernel)), rfl⟩
theorem k_321 : Cond.instanceMethod yX3_requirePage ∈ g_WS := List.mem_filter.mpr ⟨k_t3 (List.mem_of_getElem? (i := 40) (by decide +kernel)), rfl⟩
theorem k_322 : Cond.selects RX3 yX3_requirePage yX3_requirePage ∈ g_WS := List.mem_filter.mpr ⟨k_sel (q := (yX3_requirePage, 6)) (List.mem_of_getElem? (i := 24) (by decide +kernel)), rfl⟩
theorem k_323 : Cond.code (mY M_X3_requireGroup) (mC M_X3_requireGroup) (mL M_X3_requireGroup) (mR M_X3_requireGroup) ∈ g_WS := List.mem_filter.mpr ⟨k_t3 (List.mem_of_getElem? (i := 87) (by decide +kernel)), rfl⟩
theorem k_324 : Cond.instanceMethod yX3_requireGroup ∈ g_WS := List.mem_filter.mpr ⟨k_t3 (List.mem_of_getElem? (i := 86) (by decide +kernel)), rfl⟩
theorem k_325 : Cond.selects RX3 yX3_requireGroup yX3_requireGroup ∈ g_WS := List.mem_filter.mpr ⟨k_sel (q := (yX3_requireGroup, 6)) (List.mem_of_getElem? (i := 25) (by decide +kernel)), rfl⟩
theorem k_326 : Cond.code (mY M_X3_requireSlot) (mC M_X3_requireSlot) (mL M_X3_requireSlot) (mR M_X3_requireSlot) ∈ g_WS := List.mem_filter.mpr ⟨k_t4 (List.mem_of_getElem? (i := 0) (by decide +kernel)), rfl⟩
theorem k_327 : Cond.instanceMethod yX3_requireSlot ∈ g_WS := List.mem_filter.mpr ⟨k_t3 (List.mem_of_getElem? (i := 239) (by decide +kernel)), rfl⟩
theorem k_328 : Cond.selects RX3 yX3_requireSlot yX3_requireSlot ∈ g_WS := List.mem_filter.mpr ⟨k_sel (q := (yX3_requireSlot, 6)) (List.mem_of_getElem? (i := 29) (by decide +kernel)), rfl⟩
theorem k_329 : Cond.code (mY M_X3_doCommandOfText) (mC M_X3_doCommandOfText) (mL M_X3_doCommandOfText) (mR M_X3_doCommandOfText) ∈ g_WS := List.mem_filter.mpr ⟨k_t2 (List.mem_of_getElem? (i := 172) (by decide +kernel)), rfl⟩
theorem k_330 : Cond.instanceMethod yX3_doCommandOfText ∈ g_WS := List.mem_filter.mpr ⟨k_t2 (List.mem_of_getElem? (i := 171) (by decide +kernel)), rfl⟩
theorem k_331 : Cond.selects RX3 yX3_doCommandOfText yX3_doCommandOfText ∈ g_WS := List.mem_filter.mpr ⟨k_sel (q := (yX3_doCommandOfText, 6)) (List.mem_of_getElem? (i := 16) (by decide +kernel)), rfl⟩
theorem k_332 : Cond.code (mY M_X3_withoutLastCommands) (mC M_X3_withoutLastCommands) (mL M_X3_withoutLastCommands) (mR M_X3_withoutLastCommands) ∈ g_WS := List.mem_filter.mpr ⟨k_t3 (List.mem_of_getElem? (i := 208) (by decide +kernel)), rfl⟩
theorem k_333 : Cond.static yX3_withoutLastCommands ∈ g_WS := List.mem_filter.mpr ⟨k_t3 (List.mem_of_getElem? (i := 207) (by decide +kernel)), rfl⟩
theorem k_334 : Cond.code (mY M_X3_doCommandOfScript) (mC M_X3_doCommandOfScript) (mL M_X3_doCommandOfScript) (mR M_X3_doCommandOfScript) ∈ g_WS := List.mem_filter.mpr ⟨k_t3 (List.mem_of_getElem? (i := 214) (by decide +kernel)), rfl⟩
theorem k_335 : Cond.instanceMethod yX3_doCommandOfScript ∈ g_WS := List.mem_filter.mpr ⟨k_t3 (List.mem_of_getElem? (i := 213) (by decide +kernel)), rfl⟩
theorem k_336 : Cond.selects RX3 yX3_doCommandOfScript yX3_doCommandOfScript ∈ g_WS := List.mem_filter.mpr ⟨k_sel (q := (yX3_doCommandOfScript, 6)) (List.mem_of_getElem? (i := 27) (by decide +kernel)), rfl⟩
theorem k_337 : Cond.code (mY M_X3_doStep) (mC M_X3_doStep) (mL M_X3_doStep) (mR M_X3_doStep) ∈ g_WS := List.mem_filter.mpr ⟨k_t3 (List.mem_of_getElem? (i := 228) (by decide +kernel)), rfl⟩
theorem k_338 : Cond.instanceMethod yX3_doStep ∈ g_WS := List.mem_filter.mpr ⟨k_t3 (List.mem_of_getElem? (i := 227) (by decide +kernel)), rfl⟩
theorem k_339 : Cond.selects RX3 yX3_doStep yX3_doStep ∈ g_WS := List.mem_filter.mpr ⟨k_sel (q := (yX3_doStep, 6)) (List.mem_of_getElem? (i := 28) (by decide +kernel)), rfl⟩
theorem k_340 : Cond.code (mY M_X4_init) (mC M_X4_init) (mL M_X4_init) (mR M_X4_init) ∈ g_WS := List.mem_filter.mpr ⟨k_t4 (List.mem_of_getElem? (i := 14) (by decide +kernel)), rfl⟩
theorem k_341 : Cond.initialized RX4 ∈ g_WS := List.mem_filter.mpr ⟨k_t1 (List.mem_of_getElem? (i := 5) (by decide +kernel)), rfl⟩
theorem k_342 : Cond.instanceMethod yX4_init ∈ g_WS := List.mem_filter.mpr ⟨k_t4 (List.mem_of_getElem? (i := 13) (by decide +kernel)), rfl⟩
theorem k_343 : Cond.code (mY M_X4_thrown) (mC M_X4_thrown) (mL M_X4_thrown) (mR M_X4_thrown) ∈ g_WS := List.mem_filter.mpr ⟨k_t4 (List.mem_of_getElem? (i := 54) (by decide +kernel)), rfl⟩
theorem k_344 : Cond.instanceMethod yX4_thrown ∈ g_WS := List.mem_filter.mpr ⟨k_t4 (List.mem_of_getElem? (i := 52) (by decide +kernel)), rfl⟩
theorem k_345 : Cond.selects RX4 yX4_thrown yX4_thrown ∈ g_WS := List.mem_filter.mpr ⟨k_t4 (List.mem_of_getElem? (i := 53) (by decide +kernel)), rfl⟩
theorem k_346 : Cond.code (mY M_X4_copy) (mC M_X4_copy) (mL M_X4_copy) (mR M_X4_copy) ∈ g_WS := List.mem_filter.mpr ⟨k_t5 (List.mem_of_getElem? (i := 28) (by decide +kernel)), rfl⟩
theorem k_347 : Cond.static yX4_copy ∈ g_WS := List.mem_filter.mpr ⟨k_t5 (List.mem_of_getElem? (i := 27) (by decide +kernel)), rfl⟩
theorem k_348 : Cond.code (mY M_X4_within) (mC M_X4_within) (mL M_X4_within) (mR M_X4_within) ∈ g_WS := List.mem_filter.mpr ⟨k_t4 (List.mem_of_getElem? (i := 61) (by decide +kernel)), rfl⟩
theorem k_349 : Cond.static yX4_within ∈ g_WS := List.mem_filter.mpr ⟨k_t4 (List.mem_of_getElem? (i := 60) (by decide +kernel)), rfl⟩
theorem k_350 : Cond.code (mY M_X4_renew) (mC M_X4_renew) (mL M_X4_renew) (mR M_X4_renew) ∈ g_WS := List.mem_filter.mpr ⟨k_t4 (List.mem_of_getElem? (i := 19) (by decide +kernel)), rfl⟩
theorem k_351 : Cond.instanceMethod yX4_renew ∈ g_WS := List.mem_filter.mpr ⟨k_t4 (List.mem_of_getElem? (i := 18) (by decide +kernel)), rfl⟩
theorem k_352 : Cond.selects RX4 yX4_renew yX4_renew ∈ g_WS := List.mem_filter.mpr ⟨k_sel (q := (yX4_renew, 10)) (List.mem_of_getElem? (i := 30) (by decide +kernel)), rfl⟩
theorem k_353 : Cond.code (mY M_X4_isProcess) (mC M_X4_isProcess) (mL M_X4_isProcess) (mR M_X4_isProcess) ∈ g_WS := List.mem_filter.mpr ⟨k_t4 (List.mem_of_getElem? (i := 109) (by decide +kernel)), rfl⟩
theorem k_354 : Cond.instanceMethod yX4_isProcess ∈ g_WS := List.mem_filter.mpr ⟨k_t4 (List.mem_of_getElem? (i := 108) (by decide +kernel)), rfl⟩
theorem k_355 : Cond.selects RX4 yX4_isProcess yX4_isProcess ∈ g_WS := List.mem_filter.mpr ⟨k_sel (q := (yX4_isProcess, 10)) (List.mem_of_getElem? (i := 39) (by decide +kernel)), rfl⟩
theorem k_356 : Cond.code (mY M_X4_isPage) (mC M_X4_isPage) (mL M_X4_isPage) (mR M_X4_isPage) ∈ g_WS := List.mem_filter.mpr ⟨k_t4 (List.mem_of_getElem? (i := 105) (by decide +kernel)), rfl⟩
theorem k_357 : Cond.instanceMethod yX4_isPage ∈ g_WS := List.mem_filter.mpr ⟨k_t4 (List.mem_of_getElem? (i := 104) (by decide +kernel)), rfl⟩
theorem k_358 : Cond.selects RX4 yX4_isPage yX4_isPage ∈ g_WS := List.mem_filter.mpr ⟨k_sel (q := (yX4_isPage, 10)) (List.mem_of_getElem? (i := 38) (by decide +kernel)), rfl⟩
theorem k_359 : Cond.code (mY M_X4_isGroup) (mC M_X4_isGroup) (mL M_X4_isGroup) (mR M_X4_isGroup) ∈ g_WS := List.mem_filter.mpr ⟨k_t4 (List.mem_of_getElem? (i := 209) (by decide +kernel)), rfl⟩
theorem k_360 : Cond.instanceMethod yX4_isGroup ∈ g_WS := List.mem_filter.mpr ⟨k_t4 (List.mem_of_getElem? (i := 208) (by decide +kernel)), rfl⟩
theorem k_361 : Cond.selects RX4 yX4_isGroup yX4_isGroup ∈ g_WS := List.mem_filter.mpr ⟨k_sel (q := (yX4_isGroup, 10)) (List.mem_of_getElem? (i := 64) (by decide +kernel)), rfl⟩
theorem k_362 : Cond.code (mY M_X4_frameOf) (mC M_X4_frameOf) (mL M_X4_frameOf) (mR M_X4_frameOf) ∈ g_WS := List.mem_filter.mpr ⟨k_t4 (List.mem_of_getElem? (i := 117) (by decide +kernel)), rfl⟩
theorem k_363 : Cond.instanceMethod yX4_frameOf ∈ g_WS := List.mem_filter.mpr ⟨k_t4 (List.mem_of_getElem? (i := 116) (by decide +kernel)), rfl⟩
theorem k_364 : Cond.selects RX4 yX4_frameOf yX4_frameOf ∈ g_WS := List.mem_filter.mpr ⟨k_sel (q := (yX4_frameOf, 10)) (List.mem_of_getElem? (i := 41) (by decide +kernel)), rfl⟩
theorem k_365 : Cond.code (mY M_X4_setFrame) (mC M_X4_setFrame) (mL M_X4_setFrame) (mR M_X4_setFrame) ∈ g_WS := List.mem_filter.mpr ⟨k_t4 (List.mem_of_getElem? (i := 161) (by decide +kernel)), rfl⟩
theorem k_366 : Cond.instanceMethod yX4_setFrame ∈ g_WS := List.mem_filter.mpr ⟨k_t4 (List.mem_of_getElem? (i := 160) (by decide +kernel)), rfl⟩
theorem k_367 : Cond.selects RX4 yX4_setFrame yX4_setFrame ∈ g_WS := List.mem_filter.mpr ⟨k_sel (q := (yX4_setFrame, 10)) (List.mem_of_getElem? (i := 52) (by decide +kernel)), rfl⟩
theorem k_368 : Cond.code (mY M_X4_isBig) (mC M_X4_isBig) (mL M_X4_isBig) (mR M_X4_isBig) ∈ g_WS := List.mem_filter.mpr ⟨k_t4 (List.mem_of_getElem? (i := 149) (by decide +kernel)), rfl⟩
theorem k_369 : Cond.instanceMethod yX4_isBig ∈ g_WS := List.mem_filter.mpr ⟨k_t4 (List.mem_of_getElem? (i := 148) (by decide +kernel)), rfl⟩
theorem k_370 : Cond.selects RX4 yX4_isBig yX4_isBig ∈ g_WS := List.mem_filter.mpr ⟨k_sel (q := (yX4_isBig, 10)) (List.mem_of_getElem? (i := 49) (by decide +kernel)), rfl⟩
theorem k_371 : Cond.code (mY M_X4_setBig) (mC M_X4_setBig) (mL M_X4_setBig) (mR M_X4_setBig) ∈ g_WS := List.mem_filter.mpr ⟨k_t4 (List.mem_of_getElem? (i := 165) (by decide +kernel)), rfl⟩
theorem k_372 : Cond.instanceMethod yX4_setBig ∈ g_WS := List.mem_filter.mpr ⟨k_t4 (List.mem_of_getElem? (i := 164) (by decide +kernel)), rfl⟩
theorem k_373 : Cond.selects RX4 yX4_setBig yX4_setBig ∈ g_WS := List.mem_filter.mpr ⟨k_sel (q := (yX4_setBig, 10)) (List.mem_of_getElem? (i := 53) (by decide +kernel)), rfl⟩
theorem k_374 : Cond.code (mY M_X4_valueOf) (mC M_X4_valueOf) (mL M_X4_valueOf) (mR M_X4_valueOf) ∈ g_WS := List.mem_filter.mpr ⟨k_t4 (List.mem_of_getElem? (i := 229) (by decide +kernel)), rfl⟩
theorem k_375 : Cond.instanceMethod yX4_valueOf ∈ g_WS := List.mem_filter.mpr ⟨k_t4 (List.mem_of_getElem? (i := 228) (by decide +kernel)), rfl⟩
theorem k_376 : Cond.selects RX4 yX4_valueOf yX4_valueOf ∈ g_WS := List.mem_filter.mpr ⟨k_sel (q := (yX4_valueOf, 10)) (List.mem_of_getElem? (i := 69) (by decide +kernel)), rfl⟩
theorem k_377 : Cond.code (mY M_X4_uses) (mC M_X4_uses) (mL M_X4_uses) (mR M_X4_uses) ∈ g_WS := List.mem_filter.mpr ⟨k_t4 (List.mem_of_getElem? (i := 137) (by decide +kernel)), rfl⟩
theorem k_378 : Cond.instanceMethod yX4_uses ∈ g_WS := List.mem_filter.mpr ⟨k_t4 (List.mem_of_getElem? (i := 136) (by decide +kernel)), rfl⟩
theorem k_379 : Cond.selects RX4 yX4_uses yX4_uses ∈ g_WS := List.mem_filter.mpr ⟨k_sel (q := (yX4_uses, 10)) (List.mem_of_getElem? (i := 46) (by decide +kernel)), rfl⟩
theorem k_380 : Cond.code (mY M_X4_isShared) (mC M_X4_isShared) (mL M_X4_isShared) (mR M_X4_isShared) ∈ g_WS := List.mem_filter.mpr ⟨k_t4 (List.mem_of_getElem? (i := 145) (by decide +kernel)), rfl⟩
theorem k_381 : Cond.instanceMethod yX4_isShared ∈ g_WS := List.mem_filter.mpr ⟨k_t4 (List.mem_of_getElem? (i := 144) (by decide +kernel)), rfl⟩
theorem k_382 : Cond.selects RX4 yX4_isShared yX4_isShared ∈ g_WS := List.mem_filter.mpr ⟨k_sel (q := (yX4_isShared, 10)) (List.mem_of_getElem? (i := 48) (by decide +kernel)), rfl⟩
theorem k_383 : Cond.code (mY M_X4_isFreeRun) (mC M_X4_isFreeRun) (mL M_X4_isFreeRun) (mR M_X4_isFreeRun) ∈ g_WS := List.mem_filter.mpr ⟨k_t4 (List.mem_of_getElem? (i := 133) (by decide +kernel)), rfl⟩
theorem k_384 : Cond.instanceMethod yX4_isFreeRun ∈ g_WS := List.mem_filter.mpr ⟨k_t4 (List.mem_of_getElem? (i := 132) (by decide +kernel)), rfl⟩
theorem k_385 : Cond.selects RX4 yX4_isFreeRun yX4_isFreeRun ∈ g_WS := List.mem_filter.mpr ⟨k_sel (q := (yX4_isFreeRun, 10)) (List.mem_of_getElem? (i := 45) (by decide +kernel)), rfl⟩
theorem k_386 : Cond.code (mY M_X4_freeRun) (mC M_X4_freeRun) (mL M_X4_freeRun) (mR M_X4_freeRun) ∈ g_WS := List.mem_filter.mpr ⟨k_t4 (List.mem_of_getElem? (i := 129) (by decide +kernel)), rfl⟩
theorem k_387 : Cond.instanceMethod yX4_freeRun ∈ g_WS := List.mem_filter.mpr ⟨k_t4 (List.mem_of_getElem? (i := 128) (by decide +kernel)), rfl⟩
theorem k_388 : Cond.selects RX4 yX4_freeRun yX4_freeRun ∈ g_WS := List.mem_filter.mpr ⟨k_sel (q := (yX4_freeRun, 10)) (List.mem_of_getElem? (i := 44) (by decide +kernel)), rfl⟩
theorem k_389 : Cond.code (mY M_X4_freeRuns) (mC M_X4_freeRuns) (mL M_X4_freeRuns) (mR M_X4_freeRuns) ∈ g_WS := List.mem_filter.mpr ⟨k_t5 (List.mem_of_getElem? (i := 5) (by decide +kernel)), rfl⟩
theorem k_390 : Cond.instanceMethod yX4_freeRuns ∈ g_WS := List.mem_filter.mpr ⟨k_t5 (List.mem_of_getElem? (i := 4) (by decide +kernel)), rfl⟩
theorem k_391 : Cond.selects RX4 yX4_freeRuns yX4_freeRuns ∈ g_WS := List.mem_filter.mpr ⟨k_sel (q := (yX4_freeRuns, 10)) (List.mem_of_getElem? (i := 72) (by decide +kernel)), rfl⟩
theorem k_392 : Cond.code (mY M_X4_freeFrames) (mC M_X4_freeFrames) (mL M_X4_freeFrames) (mR M_X4_freeFrames) ∈ g_WS := List.mem_filter.mpr ⟨k_t4 (List.mem_of_getElem? (i := 201) (by decide +kernel)), rfl⟩
theorem k_393 : Cond.instanceMethod yX4_freeFrames ∈ g_WS := List.mem_filter.mpr ⟨k_t4 (List.mem_of_getElem? (i := 200) (by decide +kernel)), rfl⟩
theorem k_394 : Cond.selects RX4 yX4_freeFrames yX4_freeFrames ∈ g_WS := List.mem_filter.mpr ⟨k_sel (q := (yX4_freeFrames, 10)) (List.mem_of_getElem? (i := 62) (by decide +kernel)), rfl⟩
theorem k_395 : Cond.code (mY M_X4_singleFrame) (mC M_X4_singleFrame) (mL M_X4_singleFrame) (mR M_X4_singleFrame) ∈ g_WS := List.mem_filter.mpr ⟨k_t4 (List.mem_of_getElem? (i := 141) (by decide +kernel)), rfl⟩
theorem k_396 : Cond.instanceMethod yX4_singleFrame ∈ g_WS := List.mem_filter.mpr ⟨k_t4 (List.mem_of_getElem? (i := 140) (by decide +kernel)), rfl⟩
theorem k_397 : Cond.selects RX4 yX4_singleFrame yX4_singleFrame ∈ g_WS := List.mem_filter.mpr ⟨k_sel (q := (yX4_singleFrame, 10)) (List.mem_of_getElem? (i := 47) (by decide +kernel)), rfl⟩
theorem k_398 : Cond.code (mY M_X4_placedIn) (mC M_X4_placedIn) (mL M_X4_placedIn) (mR M_X4_placedIn) ∈ g_WS := List.mem_filter.mpr ⟨k_t4 (List.mem_of_getElem? (i := 125) (by decide +kernel)), rfl⟩
theorem k_399 : Cond.instanceMethod yX4_placedIn ∈ g_WS := List.mem_filter.mpr ⟨k_t4 (List.mem_of_getElem? (i := 124) (by decide +kernel)), rfl⟩
theorem k_400 : Cond.selects RX4 yX4_placedIn yX4_placedIn ∈ g_WS := List.mem_filter.mpr ⟨k_sel (q := (yX4_placedIn, 10)) (List.mem_of_getElem? (i := 43) (by decide +kernel)), rfl⟩
theorem k_401 : Cond.code (mY M_X4_sharedIn) (mC M_X4_sharedIn) (mL M_X4_sharedIn) (mR M_X4_sharedIn) ∈ g_WS := List.mem_filter.mpr ⟨k_t4 (List.mem_of_getElem? (i := 217) (by decide +kernel)), rfl⟩
theorem k_402 : Cond.instanceMethod yX4_sharedIn ∈ g_WS := List.mem_filter.mpr ⟨k_t4 (List.mem_of_getElem? (i := 216) (by decide +kernel)), rfl⟩
theorem k_403 : Cond.selects RX4 yX4_sharedIn yX4_sharedIn ∈ g_WS := List.mem_filter.mpr ⟨k_sel (q := (yX4_sharedIn, 10)) (List.mem_of_getElem? (i := 66) (by decide +kernel)), rfl⟩
theorem k_404 : Cond.code (mY M_X4_runOf) (mC M_X4_runOf) (mL M_X4_runOf) (mR M_X4_runOf) ∈ g_WS := List.mem_filter.mpr ⟨k_t5 (List.mem_of_getElem? (i := 1) (by decide +kernel)), rfl⟩
theorem k_405 : Cond.instanceMethod yX4_runOf ∈ g_WS := List.mem_filter.mpr ⟨k_t5 (List.mem_of_getElem? (i := 0) (by decide +kernel)), rfl⟩
theorem k_406 : Cond.selects RX4 yX4_runOf yX4_runOf ∈ g_WS := List.mem_filter.mpr ⟨k_sel (q := (yX4_runOf, 10)) (List.mem_of_getElem? (i := 71) (by decide +kernel)), rfl⟩
theorem k_407 : Cond.code (mY M_X4_isWidow) (mC M_X4_isWidow) (mL M_X4_isWidow) (mR M_X4_isWidow) ∈ g_WS := List.mem_filter.mpr ⟨k_t4 (List.mem_of_getElem? (i := 237) (by decide +kernel)), rfl⟩
theorem k_408 : Cond.instanceMethod yX4_isWidow ∈ g_WS := List.mem_filter.mpr ⟨k_t4 (List.mem_of_getElem? (i := 236) (by decide +kernel)), rfl⟩
theorem k_409 : Cond.selects RX4 yX4_isWidow yX4_isWidow ∈ g_WS := List.mem_filter.mpr ⟨k_sel (q := (yX4_isWidow, 10)) (List.mem_of_getElem? (i := 70) (by decide +kernel)), rfl⟩
theorem k_410 : Cond.code (mY M_X4_isEagerFault) (mC M_X4_isEagerFault) (mL M_X4_isEagerFault) (mR M_X4_isEagerFault) ∈ g_WS := List.mem_filter.mpr ⟨k_t4 (List.mem_of_getElem? (i := 121) (by decide +kernel)), rfl⟩
theorem k_411 : Cond.instanceMethod yX4_isEagerFault ∈ g_WS := List.mem_filter.mpr ⟨k_t4 (List.mem_of_getElem? (i := 120) (by decide +kernel)), rfl⟩
theorem k_412 : Cond.selects RX4 yX4_isEagerFault yX4_isEagerFault ∈ g_WS := List.mem_filter.mpr ⟨k_sel (q := (yX4_isEagerFault, 10)) (List.mem_of_getElem? (i := 42) (by decide +kernel)), rfl⟩
theorem k_413 : Cond.code (mY M_X4_outcome) (mC M_X4_outcome) (mL M_X4_outcome) (mR M_X4_outcome) ∈ g_WS := List.mem_filter.mpr ⟨k_t4 (List.mem_of_getElem? (i := 113) (by decide +kernel)), rfl⟩
theorem k_414 : Cond.instanceMethod yX4_outcome ∈ g_WS := List.mem_filter.mpr ⟨k_t4 (List.mem_of_getElem? (i := 112) (by decide +kernel)), rfl⟩
theorem k_415 : Cond.selects RX4 yX4_outcome yX4_outcome ∈ g_WS := List.mem_filter.mpr ⟨k_sel (q := (yX4_outcome, 10)) (List.mem_of_getElem? (i := 40) (by decide +kernel)), rfl⟩
theorem k_416 : Cond.code (mY M_X4_makeBig) (mC M_X4_makeBig) (mL M_X4_makeBig) (mR M_X4_makeBig) ∈ g_WS := List.mem_filter.mpr ⟨k_t4 (List.mem_of_getElem? (i := 157) (by decide +kernel)), rfl⟩
theorem k_417 : Cond.instanceMethod yX4_makeBig ∈ g_WS := List.mem_filter.mpr ⟨k_t4 (List.mem_of_getElem? (i := 156) (by decide +kernel)), rfl⟩
theorem k_418 : Cond.selects RX4 yX4_makeBig yX4_makeBig ∈ g_WS := List.mem_filter.mpr ⟨k_sel (q := (yX4_makeBig, 10)) (List.mem_of_getElem? (i := 51) (by decide +kernel)), rfl⟩
theorem k_419 : Cond.code (mY M_X4_written) (mC M_X4_written) (mL M_X4_written) (mR M_X4_written) ∈ g_WS := List.mem_filter.mpr ⟨k_t4 (List.mem_of_getElem? (i := 153) (by decide +kernel)), rfl⟩
theorem k_420 : Cond.instanceMethod yX4_written ∈ g_WS := List.mem_filter.mpr ⟨k_t4 (List.mem_of_getElem? (i := 152) (by decide +kernel)), rfl⟩
theorem k_421 : Cond.selects RX4 yX4_written yX4_written ∈ g_WS := List.mem_filter.mpr ⟨k_sel (q := (yX4_written, 10)) (List.mem_of_getElem? (i := 50) (by decide +kernel)), rfl⟩
theorem k_422 : Cond.code (mY M_X4_freeProcess) (mC M_X4_freeProcess) (mL M_X4_freeProcess) (mR M_X4_freeProcess) ∈ g_WS := List.mem_filter.mpr ⟨k_t4 (List.mem_of_getElem? (i := 177) (by decide +kernel)), rfl⟩
theorem k_423 : Cond.instanceMethod yX4_freeProcess ∈ g_WS := List.mem_filter.mpr ⟨k_t4 (List.mem_of_getElem? (i := 176) (by decide +kernel)), rfl⟩
theorem k_424 : Cond.selects RX4 yX4_freeProcess yX4_freeProcess ∈ g_WS := List.mem_filter.mpr ⟨k_sel (q := (yX4_freeProcess, 10)) (List.mem_of_getElem? (i := 56) (by decide +kernel)), rfl⟩
theorem k_425 : Cond.code (mY M_X4_whyNotForked) (mC M_X4_whyNotForked) (mL M_X4_whyNotForked) (mR M_X4_whyNotForked) ∈ g_WS := List.mem_filter.mpr ⟨k_t4 (List.mem_of_getElem? (i := 173) (by decide +kernel)), rfl⟩
theorem k_426 : Cond.instanceMethod yX4_whyNotForked ∈ g_WS := List.mem_filter.mpr ⟨k_t4 (List.mem_of_getElem? (i := 172) (by decide +kernel)), rfl⟩
theorem k_427 : Cond.selects RX4 yX4_whyNotForked yX4_whyNotForked ∈ g_WS := List.mem_filter.mpr ⟨k_sel (q := (yX4_whyNotForked, 10)) (List.mem_of_getElem? (i := 55) (by decide +kernel)), rfl⟩
theorem k_428 : Cond.code (mY M_X4_forked) (mC M_X4_forked) (mL M_X4_forked) (mR M_X4_forked) ∈ g_WS := List.mem_filter.mpr ⟨k_t4 (List.mem_of_getElem? (i := 181) (by decide +kernel)), rfl⟩
theorem k_429 : Cond.instanceMethod yX4_forked ∈ g_WS := List.mem_filter.mpr ⟨k_t4 (List.mem_of_getElem? (i := 180) (by decide +kernel)), rfl⟩
theorem k_430 : Cond.selects RX4 yX4_forked yX4_forked ∈ g_WS := List.mem_filter.mpr ⟨k_sel (q := (yX4_forked, 10)) (List.mem_of_getElem? (i := 57) (by decide +kernel)), rfl⟩
theorem k_431 : Cond.code (mY M_X4_processMany) (mC M_X4_processMany) (mL M_X4_processMany) (mR M_X4_processMany) ∈ g_WS := List.mem_filter.mpr ⟨k_t4 (List.mem_of_getElem? (i := 193) (by decide +kernel)), rfl⟩
theorem k_432 : Cond.instanceMethod yX4_processMany ∈ g_WS := List.mem_filter.mpr ⟨k_t4 (List.mem_of_getElem? (i := 192) (by decide +kernel)), rfl⟩
theorem k_433 : Cond.selects RX4 yX4_processMany yX4_processMany ∈ g_WS := List.mem_filter.mpr ⟨k_sel (q := (yX4_processMany, 10)) (List.mem_of_getElem? (i := 60) (by decide +kernel)), rfl⟩
theorem k_434 : Cond.code (mY M_X4_whyNotEnded) (mC M_X4_whyNotEnded) (mL M_X4_whyNotEnded) (mR M_X4_whyNotEnded) ∈ g_WS := List.mem_filter.mpr ⟨k_t4 (List.mem_of_getElem? (i := 189) (by decide +kernel)), rfl⟩
theorem k_435 : Cond.instanceMethod yX4_whyNotEnded ∈ g_WS := List.mem_filter.mpr ⟨k_t4 (List.mem_of_getElem? (i := 188) (by decide +kernel)), rfl⟩
theorem k_436 : Cond.selects RX4 yX4_whyNotEnded yX4_whyNotEnded ∈ g_WS := List.mem_filter.mpr ⟨k_sel (q := (yX4_whyNotEnded, 10)) (List.mem_of_getElem? (i := 59) (by decide +kernel)), rfl⟩
theorem k_437 : Cond.code (mY M_X4_ended) (mC M_X4_ended) (mL M_X4_ended) (mR M_X4_ended) ∈ g_WS := List.mem_filter.mpr ⟨k_t4 (List.mem_of_getElem? (i := 197) (by decide +kernel)), rfl⟩
theorem k_438 : Cond.instanceMethod yX4_ended ∈ g_WS := List.mem_filter.mpr ⟨k_t4 (List.mem_of_getElem? (i := 196) (by decide +kernel)), rfl⟩
theorem k_439 : Cond.selects RX4 yX4_ended yX4_ended ∈ g_WS := List.mem_filter.mpr ⟨k_sel (q := (yX4_ended, 10)) (List.mem_of_getElem? (i := 61) (by decide +kernel)), rfl⟩
theorem k_440 : Cond.code (mY M_X4_isInPlace) (mC M_X4_isInPlace) (mL M_X4_isInPlace) (mR M_X4_isInPlace) ∈ g_WS := List.mem_filter.mpr ⟨k_t4 (List.mem_of_getElem? (i := 221) (by decide +kernel)), rfl⟩
theorem k_441 : Cond.instanceMethod yX4_isInPlace ∈ g_WS := List.mem_filter.mpr ⟨k_t4 (List.mem_of_getElem? (i := 220) (by decide +kernel)), rfl⟩
theorem k_442 : Cond.selects RX4 yX4_isInPlace yX4_isInPlace ∈ g_WS := List.mem_filter.mpr ⟨k_sel (q := (yX4_isInPlace, 10)) (List.mem_of_getElem? (i := 67) (by decide +kernel)), rfl⟩
theorem k_443 : Cond.code (mY M_X4_whyNoMarriage) (mC M_X4_whyNoMarriage) (mL M_X4_whyNoMarriage) (mR M_X4_whyNoMarriage) ∈ g_WS := List.mem_filter.mpr ⟨k_t4 (List.mem_of_getElem? (i := 213) (by decide +kernel)), rfl⟩
theorem k_444 : Cond.instanceMethod yX4_whyNoMarriage ∈ g_WS := List.mem_filter.mpr ⟨k_t4 (List.mem_of_getElem? (i := 212) (by decide +kernel)), rfl⟩
theorem k_445 : Cond.selects RX4 yX4_whyNoMarriage yX4_whyNoMarriage ∈ g_WS := List.mem_filter.mpr ⟨k_sel (q := (yX4_whyNoMarriage, 10)) (List.mem_of_getElem? (i := 65) (by decide +kernel)), rfl⟩
theorem k_446 : Cond.code (mY M_X4_married) (mC M_X4_married) (mL M_X4_married) (mR M_X4_married) ∈ g_WS := List.mem_filter.mpr ⟨k_t4 (List.mem_of_getElem? (i := 225) (by decide +kernel)), rfl⟩
theorem k_447 : Cond.instanceMethod yX4_married ∈ g_WS := List.mem_filter.mpr ⟨k_t4 (List.mem_of_getElem? (i := 224) (by decide +kernel)), rfl⟩
theorem k_448 : Cond.selects RX4 yX4_married yX4_married ∈ g_WS := List.mem_filter.mpr ⟨k_sel (q := (yX4_married, 10)) (List.mem_of_getElem? (i := 68) (by decide +kernel)), rfl⟩
theorem k_449 : Cond.code (mY M_X4_torn) (mC M_X4_torn) (mL M_X4_torn) (mR M_X4_torn) ∈ g_WS := List.mem_filter.mpr ⟨k_t5 (List.mem_of_getElem? (i := 48) (by decide +kernel)), rfl⟩
theorem k_450 : Cond.instanceMethod yX4_torn ∈ g_WS := List.mem_filter.mpr ⟨k_t5 (List.mem_of_getElem? (i := 47) (by decide +kernel)), rfl⟩
theorem k_451 : Cond.selects RX4 yX4_torn yX4_torn ∈ g_WS := List.mem_filter.mpr ⟨k_sel (q := (yX4_torn, 10)) (List.mem_of_getElem? (i := 74) (by decide +kernel)), rfl⟩
theorem k_452 : Cond.code (mY M_X4_isEmpty) (mC M_X4_isEmpty) (mL M_X4_isEmpty) (mR M_X4_isEmpty) ∈ g_WS := List.mem_filter.mpr ⟨k_t5 (List.mem_of_getElem? (i := 64) (by decide +kernel)), rfl⟩
theorem k_453 : Cond.instanceMethod yX4_isEmpty ∈ g_WS := List.mem_filter.mpr ⟨k_t5 (List.mem_of_getElem? (i := 63) (by decide +kernel)), rfl⟩
theorem k_454 : Cond.selects RX4 yX4_isEmpty yX4_isEmpty ∈ g_WS := List.mem_filter.mpr ⟨k_sel (q := (yX4_isEmpty, 10)) (List.mem_of_getElem? (i := 77) (by decide +kernel)), rfl⟩
theorem k_455 : Cond.code (mY M_X4_firstLoser) (mC M_X4_firstLoser) (mL M_X4_firstLoser) (mR M_X4_firstLoser) ∈ g_WS := List.mem_filter.mpr ⟨k_t5 (List.mem_of_getElem? (i := 60) (by decide +kernel)), rfl⟩
theorem k_456 : Cond.instanceMethod yX4_firstLoser ∈ g_WS := List.mem_filter.mpr ⟨k_t5 (List.mem_of_getElem? (i := 59) (by decide +kernel)), rfl⟩
theorem k_457 : Cond.selects RX4 yX4_firstLoser yX4_firstLoser ∈ g_WS := List.mem_filter.mpr ⟨k_sel (q := (yX4_firstLoser, 10)) (List.mem_of_getElem? (i := 76) (by decide +kernel)), rfl⟩
theorem k_458 : Cond.code (mY M_X4_firstTorn) (mC M_X4_firstTorn) (mL M_X4_firstTorn) (mR M_X4_firstTorn) ∈ g_WS := List.mem_filter.mpr ⟨k_t5 (List.mem_of_getElem? (i := 68) (by decide +kernel)), rfl⟩
theorem k_459 : Cond.instanceMethod yX4_firstTorn ∈ g_WS := List.mem_filter.mpr ⟨k_t5 (List.mem_of_getElem? (i := 67) (by decide +kernel)), rfl⟩
theorem k_460 : Cond.selects RX4 yX4_firstTorn yX4_firstTorn ∈ g_WS := List.mem_filter.mpr ⟨k_sel (q := (yX4_firstTorn, 10)) (List.mem_of_getElem? (i := 78) (by decide +kernel)), rfl⟩
theorem k_461 : Cond.code (mY M_X4_pressed) (mC M_X4_pressed) (mL M_X4_pressed) (mR M_X4_pressed) ∈ g_WS := List.mem_filter.mpr ⟨k_t5 (List.mem_of_getElem? (i := 56) (by decide +kernel)), rfl⟩
theorem k_462 : Cond.instanceMethod yX4_pressed ∈ g_WS := List.mem_filter.mpr ⟨k_t5 (List.mem_of_getElem? (i := 55) (by decide +kernel)), rfl⟩
theorem k_463 : Cond.selects RX4 yX4_pressed yX4_pressed ∈ g_WS := List.mem_filter.mpr ⟨k_sel (q := (yX4_pressed, 10)) (List.mem_of_getElem? (i := 75) (by decide +kernel)), rfl⟩
theorem k_464 : Cond.code (mY M_X4_append) (mC M_X4_append) (mL M_X4_append) (mR M_X4_append) ∈ g_WS := List.mem_filter.mpr ⟨k_t4 (List.mem_of_getElem? (i := 58) (by decide +kernel)), rfl⟩
theorem k_465 : Cond.instanceMethod yX4_append ∈ g_WS := List.mem_filter.mpr ⟨k_t4 (List.mem_of_getElem? (i := 56) (by decide +kernel)), rfl⟩
theorem k_466 : Cond.selects RX4 yX4_append yX4_append ∈ g_WS := List.mem_filter.mpr ⟨k_t4 (List.mem_of_getElem? (i := 57) (by decide +kernel)), rfl⟩
theorem k_467 : Cond.code (mY M_X4_clearText) (mC M_X4_clearText) (mL M_X4_clearText) (mR M_X4_clearText) ∈ g_WS := List.mem_filter.mpr ⟨k_t4 (List.mem_of_getElem? (i := 65) (by decide +kernel)), rfl⟩
theorem k_468 : Cond.instanceMethod yX4_clearText ∈ g_WS := List.mem_filter.mpr ⟨k_t4 (List.mem_of_getElem? (i := 63) (by decide +kernel)), rfl⟩
theorem k_469 : Cond.selects RX4 yX4_clearText yX4_clearText ∈ g_WS := List.mem_filter.mpr ⟨k_t4 (List.mem_of_getElem? (i := 64) (by decide +kernel)), rfl⟩
theorem k_470 : Cond.code (mY M_X4_digit) (mC M_X4_digit) (mL M_X4_digit) (mR M_X4_digit) ∈ g_WS := List.mem_filter.mpr ⟨k_t4 (List.mem_of_getElem? (i := 85) (by decide +kernel)), rfl⟩
theorem k_471 : Cond.instanceMethod yX4_digit ∈ g_WS := List.mem_filter.mpr ⟨k_t4 (List.mem_of_getElem? (i := 84) (by decide +kernel)), rfl⟩
theorem k_472 : Cond.selects RX4 yX4_digit yX4_digit ∈ g_WS := List.mem_filter.mpr ⟨k_sel (q := (yX4_digit, 10)) (List.mem_of_getElem? (i := 34) (by decide +kernel)), rfl⟩
theorem k_473 : Cond.code (mY M_X4_mostAt) (mC M_X4_mostAt) (mL M_X4_mostAt) (mR M_X4_mostAt) ∈ g_WS := List.mem_filter.mpr ⟨k_t4 (List.mem_of_getElem? (i := 81) (by decide +kernel)), rfl⟩
theorem k_474 : Cond.instanceMethod yX4_mostAt ∈ g_WS := List.mem_filter.mpr ⟨k_t4 (List.mem_of_getElem? (i := 80) (by decide +kernel)), rfl⟩
theorem k_475 : Cond.selects RX4 yX4_mostAt yX4_mostAt ∈ g_WS := List.mem_filter.mpr ⟨k_sel (q := (yX4_mostAt, 10)) (List.mem_of_getElem? (i := 33) (by decide +kernel)), rfl⟩
theorem k_476 : Cond.code (mY M_X4_isLetter) (mC M_X4_isLetter) (mL M_X4_isLetter) (mR M_X4_isLetter) ∈ g_WS := List.mem_filter.mpr ⟨k_t4 (List.mem_of_getElem? (i := 77) (by decide +kernel)), rfl⟩
theorem k_477 : Cond.instanceMethod yX4_isLetter ∈ g_WS := List.mem_filter.mpr ⟨k_t4 (List.mem_of_getElem? (i := 76) (by decide +kernel)), rfl⟩
theorem k_478 : Cond.selects RX4 yX4_isLetter yX4_isLetter ∈ g_WS := List.mem_filter.mpr ⟨k_sel (q := (yX4_isLetter, 10)) (List.mem_of_getElem? (i := 32) (by decide +kernel)), rfl⟩
theorem k_479 : Cond.code (mY M_X4_lengthAt) (mC M_X4_lengthAt) (mL M_X4_lengthAt) (mR M_X4_lengthAt) ∈ g_WS := List.mem_filter.mpr ⟨k_t4 (List.mem_of_getElem? (i := 89) (by decide +kernel)), rfl⟩
theorem k_480 : Cond.instanceMethod yX4_lengthAt ∈ g_WS := List.mem_filter.mpr ⟨k_t4 (List.mem_of_getElem? (i := 88) (by decide +kernel)), rfl⟩
theorem k_481 : Cond.selects RX4 yX4_lengthAt yX4_lengthAt ∈ g_WS := List.mem_filter.mpr ⟨k_sel (q := (yX4_lengthAt, 10)) (List.mem_of_getElem? (i := 35) (by decide +kernel)), rfl⟩
theorem k_482 : Cond.code (mY M_X4_findError) (mC M_X4_findError) (mL M_X4_findError) (mR M_X4_findError) ∈ g_WS := List.mem_filter.mpr ⟨k_t4 (List.mem_of_getElem? (i := 73) (by decide +kernel)), rfl⟩
theorem k_483 : Cond.instanceMethod yX4_findError ∈ g_WS := List.mem_filter.mpr ⟨k_t4 (List.mem_of_getElem? (i := 72) (by decide +kernel)), rfl⟩
theorem k_484 : Cond.selects RX4 yX4_findError yX4_findError ∈ g_WS := List.mem_filter.mpr ⟨k_sel (q := (yX4_findError, 10)) (List.mem_of_getElem? (i := 31) (by decide +kernel)), rfl⟩
theorem k_485 : Cond.code (mY M_X4_errorPosition) (mC M_X4_errorPosition) (mL M_X4_errorPosition) (mR M_X4_errorPosition) ∈ g_WS := List.mem_filter.mpr ⟨k_t4 (List.mem_of_getElem? (i := 69) (by decide +kernel)), rfl⟩
theorem k_486 : Cond.instanceMethod yX4_errorPosition ∈ g_WS := List.mem_filter.mpr ⟨k_t4 (List.mem_of_getElem? (i := 67) (by decide +kernel)), rfl⟩
theorem k_487 : Cond.selects RX4 yX4_errorPosition yX4_errorPosition ∈ g_WS := List.mem_filter.mpr ⟨k_t4 (List.mem_of_getElem? (i := 68) (by decide +kernel)), rfl⟩
theorem k_488 : Cond.code (mY M_X4_commandAt) (mC M_X4_commandAt) (mL M_X4_commandAt) (mR M_X4_commandAt) ∈ g_WS := List.mem_filter.mpr ⟨k_t4 (List.mem_of_getElem? (i := 97) (by decide +kernel)), rfl⟩
theorem k_489 : Cond.instanceMethod yX4_commandAt ∈ g_WS := List.mem_filter.mpr ⟨k_t4 (List.mem_of_getElem? (i := 96) (by decide +kernel)), rfl⟩
theorem k_490 : Cond.selects RX4 yX4_commandAt yX4_commandAt ∈ g_WS := List.mem_filter.mpr ⟨k_sel (q := (yX4_commandAt, 10)) (List.mem_of_getElem? (i := 36) (by decide +kernel)), rfl⟩
theorem k_491 : Cond.code (mY M_X4_load) (mC M_X4_load) (mL M_X4_load) (mR M_X4_load) ∈ g_WS := List.mem_filter.mpr ⟨k_t4 (List.mem_of_getElem? (i := 93) (by decide +kernel)), rfl⟩
theorem k_492 : Cond.instanceMethod yX4_load ∈ g_WS := List.mem_filter.mpr ⟨k_t4 (List.mem_of_getElem? (i := 91) (by decide +kernel)), rfl⟩
theorem k_493 : Cond.selects RX4 yX4_load yX4_load ∈ g_WS := List.mem_filter.mpr ⟨k_t4 (List.mem_of_getElem? (i := 92) (by decide +kernel)), rfl⟩
theorem k_494 : Cond.code (mY M_X4_about) (mC M_X4_about) (mL M_X4_about) (mR M_X4_about) ∈ g_WS := List.mem_filter.mpr ⟨k_t4 (List.mem_of_getElem? (i := 233) (by decide +kernel)), rfl⟩
theorem k_495 : Cond.instanceMethod yX4_about ∈ g_WS := List.mem_filter.mpr ⟨k_t4 (List.mem_of_getElem? (i := 231) (by decide +kernel)), rfl⟩
theorem k_496 : Cond.selects RX4 yX4_about yX4_about ∈ g_WS := List.mem_filter.mpr ⟨k_t4 (List.mem_of_getElem? (i := 232) (by decide +kernel)), rfl⟩
theorem k_497 : Cond.code (mY M_X4_page) (mC M_X4_page) (mL M_X4_page) (mR M_X4_page) ∈ g_WS := List.mem_filter.mpr ⟨k_t5 (List.mem_of_getElem? (i := 9) (by decide +kernel)), rfl⟩
theorem k_498 : Cond.instanceMethod yX4_page ∈ g_WS := List.mem_filter.mpr ⟨k_t5 (List.mem_of_getElem? (i := 7) (by decide +kernel)), rfl⟩
theorem k_499 : Cond.selects RX4 yX4_page yX4_page ∈ g_WS := List.mem_filter.mpr ⟨k_t5 (List.mem_of_getElem? (i := 8) (by decide +kernel)), rfl⟩
theorem k_500 : Cond.code (mY M_X4_user) (mC M_X4_user) (mL M_X4_user) (mR M_X4_user) ∈ g_WS := List.mem_filter.mpr ⟨k_t5 (List.mem_of_getElem? (i := 13) (by decide +kernel)), rfl⟩
theorem k_501 : Cond.instanceMethod yX4_user ∈ g_WS := List.mem_filter.mpr ⟨k_t5 (List.mem_of_getElem? (i := 11) (by decide +kernel)), rfl⟩
theorem k_502 : Cond.selects RX4 yX4_user yX4_user ∈ g_WS := List.mem_filter.mpr ⟨k_t5 (List.mem_of_getElem? (i := 12) (by decide +kernel)), rfl⟩
theorem k_503 : Cond.code (mY M_X4_group) (mC M_X4_group) (mL M_X4_group) (mR M_X4_group) ∈ g_WS := List.mem_filter.mpr ⟨k_t5 (List.mem_of_getElem? (i := 17) (by decide +kernel)), rfl⟩
theorem k_504 : Cond.instanceMethod yX4_group ∈ g_WS := List.mem_filter.mpr ⟨k_t5 (List.mem_of_getElem? (i := 15) (by decide +kernel)), rfl⟩
theorem k_505 : Cond.selects RX4 yX4_group yX4_group ∈ g_WS := List.mem_filter.mpr ⟨k_t5 (List.mem_of_getElem? (i := 16) (by decide +kernel)), rfl⟩
theorem k_506 : Cond.code (mY M_X4_remember) (mC M_X4_remember) (mL M_X4_remember) (mR M_X4_remember) ∈ g_WS := List.mem_filter.mpr ⟨k_t5 (List.mem_of_getElem? (i := 25) (by decide +kernel)), rfl⟩
theorem k_507 : Cond.instanceMethod yX4_remember ∈ g_WS := List.mem_filter.mpr ⟨k_t5 (List.mem_of_getElem? (i := 24) (by decide +kernel)), rfl⟩
theorem k_508 : Cond.selects RX4 yX4_remember yX4_remember ∈ g_WS := List.mem_filter.mpr ⟨k_sel (q := (yX4_remember, 10)) (List.mem_of_getElem? (i := 73) (by decide +kernel)), rfl⟩
theorem k_509 : Cond.code (mY M_X4_write) (mC M_X4_write) (mL M_X4_write) (mR M_X4_write) ∈ g_WS := List.mem_filter.mpr ⟨k_t5 (List.mem_of_getElem? (i := 21) (by decide +kernel)), rfl⟩
theorem k_510 : Cond.instanceMethod yX4_write ∈ g_WS := List.mem_filter.mpr ⟨k_t5 (List.mem_of_getElem? (i := 19) (by decide +kernel)), rfl⟩
theorem k_511 : Cond.selects RX4 yX4_write yX4_write ∈ g_WS := List.mem_filter.mpr ⟨k_t5 (List.mem_of_getElem? (i := 20) (by decide +kernel)), rfl⟩
theorem k_512 : Cond.code (mY M_X4_fork) (mC M_X4_fork) (mL M_X4_fork) (mR M_X4_fork) ∈ g_WS := List.mem_filter.mpr ⟨k_t5 (List.mem_of_getElem? (i := 32) (by decide +kernel)), rfl⟩
theorem k_513 : Cond.instanceMethod yX4_fork ∈ g_WS := List.mem_filter.mpr ⟨k_t5 (List.mem_of_getElem? (i := 30) (by decide +kernel)), rfl⟩
theorem k_514 : Cond.selects RX4 yX4_fork yX4_fork ∈ g_WS := List.mem_filter.mpr ⟨k_t5 (List.mem_of_getElem? (i := 31) (by decide +kernel)), rfl⟩
theorem k_515 : Cond.code (mY M_X4_exit) (mC M_X4_exit) (mL M_X4_exit) (mR M_X4_exit) ∈ g_WS := List.mem_filter.mpr ⟨k_t5 (List.mem_of_getElem? (i := 36) (by decide +kernel)), rfl⟩
theorem k_516 : Cond.instanceMethod yX4_exit ∈ g_WS := List.mem_filter.mpr ⟨k_t5 (List.mem_of_getElem? (i := 34) (by decide +kernel)), rfl⟩
theorem k_517 : Cond.selects RX4 yX4_exit yX4_exit ∈ g_WS := List.mem_filter.mpr ⟨k_t5 (List.mem_of_getElem? (i := 35) (by decide +kernel)), rfl⟩
theorem k_518 : Cond.code (mY M_X4_marry) (mC M_X4_marry) (mL M_X4_marry) (mR M_X4_marry) ∈ g_WS := List.mem_filter.mpr ⟨k_t5 (List.mem_of_getElem? (i := 40) (by decide +kernel)), rfl⟩
theorem k_519 : Cond.instanceMethod yX4_marry ∈ g_WS := List.mem_filter.mpr ⟨k_t5 (List.mem_of_getElem? (i := 38) (by decide +kernel)), rfl⟩
theorem k_520 : Cond.selects RX4 yX4_marry yX4_marry ∈ g_WS := List.mem_filter.mpr ⟨k_t5 (List.mem_of_getElem? (i := 39) (by decide +kernel)), rfl⟩
theorem k_521 : Cond.code (mY M_X4_tear) (mC M_X4_tear) (mL M_X4_tear) (mR M_X4_tear) ∈ g_WS := List.mem_filter.mpr ⟨k_t5 (List.mem_of_getElem? (i := 44) (by decide +kernel)), rfl⟩
theorem k_522 : Cond.instanceMethod yX4_tear ∈ g_WS := List.mem_filter.mpr ⟨k_t5 (List.mem_of_getElem? (i := 42) (by decide +kernel)), rfl⟩
theorem k_523 : Cond.selects RX4 yX4_tear yX4_tear ∈ g_WS := List.mem_filter.mpr ⟨k_t5 (List.mem_of_getElem? (i := 43) (by decide +kernel)), rfl⟩
theorem k_524 : Cond.code (mY M_X4_press) (mC M_X4_press) (mL M_X4_press) (mR M_X4_press) ∈ g_WS := List.mem_filter.mpr ⟨k_t5 (List.mem_of_getElem? (i := 52) (by decide +kernel)), rfl⟩
theorem k_525 : Cond.instanceMethod yX4_press ∈ g_WS := List.mem_filter.mpr ⟨k_t5 (List.mem_of_getElem? (i := 50) (by decide +kernel)), rfl⟩
theorem k_526 : Cond.selects RX4 yX4_press yX4_press ∈ g_WS := List.mem_filter.mpr ⟨k_t5 (List.mem_of_getElem? (i := 51) (by decide +kernel)), rfl⟩
theorem k_527 : Cond.code (mY M_X4_setEager) (mC M_X4_setEager) (mL M_X4_setEager) (mR M_X4_setEager) ∈ g_WS := List.mem_filter.mpr ⟨k_t5 (List.mem_of_getElem? (i := 72) (by decide +kernel)), rfl⟩
theorem k_528 : Cond.instanceMethod yX4_setEager ∈ g_WS := List.mem_filter.mpr ⟨k_t5 (List.mem_of_getElem? (i := 70) (by decide +kernel)), rfl⟩
theorem k_529 : Cond.selects RX4 yX4_setEager yX4_setEager ∈ g_WS := List.mem_filter.mpr ⟨k_t5 (List.mem_of_getElem? (i := 71) (by decide +kernel)), rfl⟩
theorem k_530 : Cond.code (mY M_X4_undo) (mC M_X4_undo) (mL M_X4_undo) (mR M_X4_undo) ∈ g_WS := List.mem_filter.mpr ⟨k_t5 (List.mem_of_getElem? (i := 76) (by decide +kernel)), rfl⟩
theorem k_531 : Cond.instanceMethod yX4_undo ∈ g_WS := List.mem_filter.mpr ⟨k_t5 (List.mem_of_getElem? (i := 74) (by decide +kernel)), rfl⟩
theorem k_532 : Cond.selects RX4 yX4_undo yX4_undo ∈ g_WS := List.mem_filter.mpr ⟨k_t5 (List.mem_of_getElem? (i := 75) (by decide +kernel)), rfl⟩
theorem k_533 : Cond.code (mY M_X4_whyNot) (mC M_X4_whyNot) (mL M_X4_whyNot) (mR M_X4_whyNot) ∈ g_WS := List.mem_filter.mpr ⟨k_t5 (List.mem_of_getElem? (i := 80) (by decide +kernel)), rfl⟩
theorem k_534 : Cond.instanceMethod yX4_whyNot ∈ g_WS := List.mem_filter.mpr ⟨k_t5 (List.mem_of_getElem? (i := 78) (by decide +kernel)), rfl⟩
theorem k_535 : Cond.selects RX4 yX4_whyNot yX4_whyNot ∈ g_WS := List.mem_filter.mpr ⟨k_t5 (List.mem_of_getElem? (i := 79) (by decide +kernel)), rfl⟩
theorem k_536 : Cond.code (mY M_X4_wouldDo) (mC M_X4_wouldDo) (mL M_X4_wouldDo) (mR M_X4_wouldDo) ∈ g_WS := List.mem_filter.mpr ⟨k_t5 (List.mem_of_getElem? (i := 84) (by decide +kernel)), rfl⟩
theorem k_537 : Cond.instanceMethod yX4_wouldDo ∈ g_WS := List.mem_filter.mpr ⟨k_t5 (List.mem_of_getElem? (i := 82) (by decide +kernel)), rfl⟩
theorem k_538 : Cond.selects RX4 yX4_wouldDo yX4_wouldDo ∈ g_WS := List.mem_filter.mpr ⟨k_t5 (List.mem_of_getElem? (i := 83) (by decide +kernel)), rfl⟩
theorem k_539 : Cond.code (mY M_X4_firstToMarry) (mC M_X4_firstToMarry) (mL M_X4_firstToMarry) (mR M_X4_firstToMarry) ∈ g_WS := List.mem_filter.mpr ⟨k_t5 (List.mem_of_getElem? (i := 92) (by decide +kernel)), rfl⟩
theorem k_540 : Cond.instanceMethod yX4_firstToMarry ∈ g_WS := List.mem_filter.mpr ⟨k_t5 (List.mem_of_getElem? (i := 91) (by decide +kernel)), rfl⟩
theorem k_541 : Cond.selects RX4 yX4_firstToMarry yX4_firstToMarry ∈ g_WS := List.mem_filter.mpr ⟨k_sel (q := (yX4_firstToMarry, 10)) (List.mem_of_getElem? (i := 79) (by decide +kernel)), rfl⟩
theorem k_542 : Cond.code (mY M_X4_marriages) (mC M_X4_marriages) (mL M_X4_marriages) (mR M_X4_marriages) ∈ g_WS := List.mem_filter.mpr ⟨k_t5 (List.mem_of_getElem? (i := 88) (by decide +kernel)), rfl⟩
theorem k_543 : Cond.instanceMethod yX4_marriages ∈ g_WS := List.mem_filter.mpr ⟨k_t5 (List.mem_of_getElem? (i := 86) (by decide +kernel)), rfl⟩
theorem k_544 : Cond.selects RX4 yX4_marriages yX4_marriages ∈ g_WS := List.mem_filter.mpr ⟨k_t5 (List.mem_of_getElem? (i := 87) (by decide +kernel)), rfl⟩
theorem k_545 : Cond.code (mY M_X4_mostFree) (mC M_X4_mostFree) (mL M_X4_mostFree) (mR M_X4_mostFree) ∈ g_WS := List.mem_filter.mpr ⟨k_t5 (List.mem_of_getElem? (i := 96) (by decide +kernel)), rfl⟩
theorem k_546 : Cond.instanceMethod yX4_mostFree ∈ g_WS := List.mem_filter.mpr ⟨k_t5 (List.mem_of_getElem? (i := 94) (by decide +kernel)), rfl⟩
theorem k_547 : Cond.selects RX4 yX4_mostFree yX4_mostFree ∈ g_WS := List.mem_filter.mpr ⟨k_t5 (List.mem_of_getElem? (i := 95) (by decide +kernel)), rfl⟩
theorem k_548 : Cond.code (mY M_X4_writable) (mC M_X4_writable) (mL M_X4_writable) (mR M_X4_writable) ∈ g_WS := List.mem_filter.mpr ⟨k_t5 (List.mem_of_getElem? (i := 100) (by decide +kernel)), rfl⟩
theorem k_549 : Cond.instanceMethod yX4_writable ∈ g_WS := List.mem_filter.mpr ⟨k_t5 (List.mem_of_getElem? (i := 98) (by decide +kernel)), rfl⟩
theorem k_550 : Cond.selects RX4 yX4_writable yX4_writable ∈ g_WS := List.mem_filter.mpr ⟨k_t5 (List.mem_of_getElem? (i := 99) (by decide +kernel)), rfl⟩
theorem k_551 : Cond.code (mY M_X4_tryWrite) (mC M_X4_tryWrite) (mL M_X4_tryWrite) (mR M_X4_tryWrite) ∈ g_WS := List.mem_filter.mpr ⟨k_t4 (List.mem_of_getElem? (i := 101) (by decide +kernel)), rfl⟩
theorem k_552 : Cond.instanceMethod yX4_tryWrite ∈ g_WS := List.mem_filter.mpr ⟨k_t4 (List.mem_of_getElem? (i := 100) (by decide +kernel)), rfl⟩
theorem k_553 : Cond.selects RX4 yX4_tryWrite yX4_tryWrite ∈ g_WS := List.mem_filter.mpr ⟨k_sel (q := (yX4_tryWrite, 10)) (List.mem_of_getElem? (i := 37) (by decide +kernel)), rfl⟩
theorem k_554 : Cond.code (mY M_X4_tryFork) (mC M_X4_tryFork) (mL M_X4_tryFork) (mR M_X4_tryFork) ∈ g_WS := List.mem_filter.mpr ⟨k_t4 (List.mem_of_getElem? (i := 169) (by decide +kernel)), rfl⟩
theorem k_555 : Cond.instanceMethod yX4_tryFork ∈ g_WS := List.mem_filter.mpr ⟨k_t4 (List.mem_of_getElem? (i := 168) (by decide +kernel)), rfl⟩
theorem k_556 : Cond.selects RX4 yX4_tryFork yX4_tryFork ∈ g_WS := List.mem_filter.mpr ⟨k_sel (q := (yX4_tryFork, 10)) (List.mem_of_getElem? (i := 54) (by decide +kernel)), rfl⟩
theorem k_557 : Cond.code (mY M_X4_tryExit) (mC M_X4_tryExit) (mL M_X4_tryExit) (mR M_X4_tryExit) ∈ g_WS := List.mem_filter.mpr ⟨k_t4 (List.mem_of_getElem? (i := 185) (by decide +kernel)), rfl⟩
theorem k_558 : Cond.instanceMethod yX4_tryExit ∈ g_WS := List.mem_filter.mpr ⟨k_t4 (List.mem_of_getElem? (i := 184) (by decide +kernel)), rfl⟩
theorem k_559 : Cond.selects RX4 yX4_tryExit yX4_tryExit ∈ g_WS := List.mem_filter.mpr ⟨k_sel (q := (yX4_tryExit, 10)) (List.mem_of_getElem? (i := 58) (by decide +kernel)), rfl⟩
theorem k_560 : Cond.code (mY M_X4_tryMarry) (mC M_X4_tryMarry) (mL M_X4_tryMarry) (mR M_X4_tryMarry) ∈ g_WS := List.mem_filter.mpr ⟨k_t4 (List.mem_of_getElem? (i := 205) (by decide +kernel)), rfl⟩
theorem k_561 : Cond.instanceMethod yX4_tryMarry ∈ g_WS := List.mem_filter.mpr ⟨k_t4 (List.mem_of_getElem? (i := 204) (by decide +kernel)), rfl⟩
theorem k_562 : Cond.selects RX4 yX4_tryMarry yX4_tryMarry ∈ g_WS := List.mem_filter.mpr ⟨k_sel (q := (yX4_tryMarry, 10)) (List.mem_of_getElem? (i := 63) (by decide +kernel)), rfl⟩
theorem k_563 : Cond.code (mY M_X4_tryTear) (mC M_X4_tryTear) (mL M_X4_tryTear) (mR M_X4_tryTear) ∈ g_WS := List.mem_filter.mpr ⟨k_t5 (List.mem_of_getElem? (i := 115) (by decide +kernel)), rfl⟩
theorem k_564 : Cond.instanceMethod yX4_tryTear ∈ g_WS := List.mem_filter.mpr ⟨k_t5 (List.mem_of_getElem? (i := 114) (by decide +kernel)), rfl⟩
theorem k_565 : Cond.selects RX4 yX4_tryTear yX4_tryTear ∈ g_WS := List.mem_filter.mpr ⟨k_sel (q := (yX4_tryTear, 10)) (List.mem_of_getElem? (i := 81) (by decide +kernel)), rfl⟩
theorem k_566 : Cond.code (mY M_X4_tryPress) (mC M_X4_tryPress) (mL M_X4_tryPress) (mR M_X4_tryPress) ∈ g_WS := List.mem_filter.mpr ⟨k_t5 (List.mem_of_getElem? (i := 119) (by decide +kernel)), rfl⟩
theorem k_567 : Cond.instanceMethod yX4_tryPress ∈ g_WS := List.mem_filter.mpr ⟨k_t5 (List.mem_of_getElem? (i := 118) (by decide +kernel)), rfl⟩
theorem k_568 : Cond.selects RX4 yX4_tryPress yX4_tryPress ∈ g_WS := List.mem_filter.mpr ⟨k_sel (q := (yX4_tryPress, 10)) (List.mem_of_getElem? (i := 82) (by decide +kernel)), rfl⟩
theorem k_569 : Cond.code (mY M_X4_hasValue) (mC M_X4_hasValue) (mL M_X4_hasValue) (mR M_X4_hasValue) ∈ g_WS := List.mem_filter.mpr ⟨k_t5 (List.mem_of_getElem? (i := 123) (by decide +kernel)), rfl⟩
theorem k_570 : Cond.instanceMethod yX4_hasValue ∈ g_WS := List.mem_filter.mpr ⟨k_t5 (List.mem_of_getElem? (i := 122) (by decide +kernel)), rfl⟩
theorem k_571 : Cond.selects RX4 yX4_hasValue yX4_hasValue ∈ g_WS := List.mem_filter.mpr ⟨k_sel (q := (yX4_hasValue, 10)) (List.mem_of_getElem? (i := 83) (by decide +kernel)), rfl⟩
theorem k_572 : Cond.code (mY M_X4_commands) (mC M_X4_commands) (mL M_X4_commands) (mR M_X4_commands) ∈ g_WS := List.mem_filter.mpr ⟨k_t5 (List.mem_of_getElem? (i := 111) (by decide +kernel)), rfl⟩
theorem k_573 : Cond.instanceMethod yX4_commands ∈ g_WS := List.mem_filter.mpr ⟨k_t5 (List.mem_of_getElem? (i := 110) (by decide +kernel)), rfl⟩
theorem k_574 : Cond.selects RX4 yX4_commands yX4_commands ∈ g_WS := List.mem_filter.mpr ⟨k_sel (q := (yX4_commands, 10)) (List.mem_of_getElem? (i := 80) (by decide +kernel)), rfl⟩
theorem k_575 : Cond.code (mY M_X4_runScript) (mC M_X4_runScript) (mL M_X4_runScript) (mR M_X4_runScript) ∈ g_WS := List.mem_filter.mpr ⟨k_t5 (List.mem_of_getElem? (i := 104) (by decide +kernel)), rfl⟩
theorem k_576 : Cond.instanceMethod yX4_runScript ∈ g_WS := List.mem_filter.mpr ⟨k_t5 (List.mem_of_getElem? (i := 102) (by decide +kernel)), rfl⟩
theorem k_577 : Cond.selects RX4 yX4_runScript yX4_runScript ∈ g_WS := List.mem_filter.mpr ⟨k_t5 (List.mem_of_getElem? (i := 103) (by decide +kernel)), rfl⟩
theorem k_578 : Cond.code (mY M_X4_step) (mC M_X4_step) (mL M_X4_step) (mR M_X4_step) ∈ g_WS := List.mem_filter.mpr ⟨k_t5 (List.mem_of_getElem? (i := 133) (by decide +kernel)), rfl⟩
theorem k_579 : Cond.instanceMethod yX4_step ∈ g_WS := List.mem_filter.mpr ⟨k_t5 (List.mem_of_getElem? (i := 132) (by decide +kernel)), rfl⟩
theorem k_580 : Cond.selects RX4 yX4_step yX4_step ∈ g_WS := List.mem_filter.mpr ⟨k_sel (q := (yX4_step, 10)) (List.mem_of_getElem? (i := 84) (by decide +kernel)), rfl⟩
theorem k_581 : Cond.code (mY M_X4_simulate) (mC M_X4_simulate) (mL M_X4_simulate) (mR M_X4_simulate) ∈ g_WS := List.mem_filter.mpr ⟨k_t5 (List.mem_of_getElem? (i := 127) (by decide +kernel)), rfl⟩
theorem k_582 : Cond.instanceMethod yX4_simulate ∈ g_WS := List.mem_filter.mpr ⟨k_t5 (List.mem_of_getElem? (i := 125) (by decide +kernel)), rfl⟩
theorem k_583 : Cond.selects RX4 yX4_simulate yX4_simulate ∈ g_WS := List.mem_filter.mpr ⟨k_t5 (List.mem_of_getElem? (i := 126) (by decide +kernel)), rfl⟩
theorem k_584 : Cond.code (mY M_X4_isSlot) (mC M_X4_isSlot) (mL M_X4_isSlot) (mR M_X4_isSlot) ∈ g_WS := List.mem_filter.mpr ⟨k_t5 (List.mem_of_getElem? (i := 140) (by decide +kernel)), rfl⟩
theorem k_585 : Cond.static yX4_isSlot ∈ g_WS := List.mem_filter.mpr ⟨k_t5 (List.mem_of_getElem? (i := 139) (by decide +kernel)), rfl⟩
theorem k_586 : Cond.code (mY M_X4_save) (mC M_X4_save) (mL M_X4_save) (mR M_X4_save) ∈ g_WS := List.mem_filter.mpr ⟨k_t5 (List.mem_of_getElem? (i := 137) (by decide +kernel)), rfl⟩
theorem k_587 : Cond.instanceMethod yX4_save ∈ g_WS := List.mem_filter.mpr ⟨k_t5 (List.mem_of_getElem? (i := 135) (by decide +kernel)), rfl⟩
theorem k_588 : Cond.selects RX4 yX4_save yX4_save ∈ g_WS := List.mem_filter.mpr ⟨k_t5 (List.mem_of_getElem? (i := 136) (by decide +kernel)), rfl⟩
theorem k_589 : Cond.code (mY M_X4_restore) (mC M_X4_restore) (mL M_X4_restore) (mR M_X4_restore) ∈ g_WS := List.mem_filter.mpr ⟨k_t5 (List.mem_of_getElem? (i := 144) (by decide +kernel)), rfl⟩
theorem k_590 : Cond.instanceMethod yX4_restore ∈ g_WS := List.mem_filter.mpr ⟨k_t5 (List.mem_of_getElem? (i := 142) (by decide +kernel)), rfl⟩
theorem k_591 : Cond.selects RX4 yX4_restore yX4_restore ∈ g_WS := List.mem_filter.mpr ⟨k_t5 (List.mem_of_getElem? (i := 143) (by decide +kernel)), rfl⟩
theorem k_592 : Cond.code (mY M_J6_bitCount_0f7a4) (mC M_J6_bitCount_0f7a4) (mL M_J6_bitCount_0f7a4) (mR M_J6_bitCount_0f7a4) ∈ g_WS := List.mem_filter.mpr ⟨k_t2 (List.mem_of_getElem? (i := 228) (by decide +kernel)), rfl⟩
theorem k_593 : Cond.initialized RJ6 ∈ g_WS := List.mem_filter.mpr ⟨k_t1 (List.mem_of_getElem? (i := 11) (by decide +kernel)), rfl⟩
theorem k_594 : Cond.static yJ6_bitCount_0f7a4 ∈ g_WS := List.mem_filter.mpr ⟨k_t2 (List.mem_of_getElem? (i := 227) (by decide +kernel)), rfl⟩
theorem k_595 : Cond.codeWith (mY M_L_append) (mC M_L_append) (mL M_L_append) (mR M_L_append) (mH M_L_append) ∈ g_WS := List.mem_filter.mpr ⟨k_t2 (List.mem_of_getElem? (i := 55) (by decide +kernel)), rfl⟩
theorem k_596 : Cond.initialized RL ∈ g_WS := List.mem_filter.mpr ⟨k_t1 (List.mem_of_getElem? (i := 0) (by decide +kernel)), rfl⟩
theorem k_597 : Cond.static yL_append ∈ g_WS := List.mem_filter.mpr ⟨k_t2 (List.mem_of_getElem? (i := 54) (by decide +kernel)), rfl⟩
theorem k_598 : Cond.codeWith (mY M_L_load) (mC M_L_load) (mL M_L_load) (mR M_L_load) (mH M_L_load) ∈ g_WS := List.mem_filter.mpr ⟨k_t2 (List.mem_of_getElem? (i := 156) (by decide +kernel)), rfl⟩
theorem k_599 : Cond.static yL_load ∈ g_WS := List.mem_filter.mpr ⟨k_t2 (List.mem_of_getElem? (i := 155) (by decide +kernel)), rfl⟩
theorem k_600 : Cond.codeWith (mY M_L_about) (mC M_L_about) (mL M_L_about) (mR M_L_about) (mH M_L_about) ∈ g_WS := List.mem_filter.mpr ⟨k_t2 (List.mem_of_getElem? (i := 235) (by decide +kernel)), rfl⟩
theorem k_601 : Cond.static yL_about ∈ g_WS := List.mem_filter.mpr ⟨k_t2 (List.mem_of_getElem? (i := 234) (by decide +kernel)), rfl⟩
theorem k_602 : Cond.codeWith (mY M_L_page) (mC M_L_page) (mL M_L_page) (mR M_L_page) (mH M_L_page) ∈ g_WS := List.mem_filter.mpr ⟨k_t3 (List.mem_of_getElem? (i := 32) (by decide +kernel)), rfl⟩
theorem k_603 : Cond.static yL_page ∈ g_WS := List.mem_filter.mpr ⟨k_t3 (List.mem_of_getElem? (i := 31) (by decide +kernel)), rfl⟩
theorem k_604 : Cond.codeWith (mY M_L_user) (mC M_L_user) (mL M_L_user) (mR M_L_user) (mH M_L_user) ∈ g_WS := List.mem_filter.mpr ⟨k_t3 (List.mem_of_getElem? (i := 66) (by decide +kernel)), rfl⟩
theorem k_605 : Cond.static yL_user ∈ g_WS := List.mem_filter.mpr ⟨k_t3 (List.mem_of_getElem? (i := 65) (by decide +kernel)), rfl⟩
theorem k_606 : Cond.codeWith (mY M_L_group) (mC M_L_group) (mL M_L_group) (mR M_L_group) (mH M_L_group) ∈ g_WS := List.mem_filter.mpr ⟨k_t3 (List.mem_of_getElem? (i := 79) (by decide +kernel)), rfl⟩
theorem k_607 : Cond.static yL_group ∈ g_WS := List.mem_filter.mpr ⟨k_t3 (List.mem_of_getElem? (i := 78) (by decide +kernel)), rfl⟩
theorem k_608 : Cond.codeWith (mY M_L_write) (mC M_L_write) (mL M_L_write) (mR M_L_write) (mH M_L_write) ∈ g_WS := List.mem_filter.mpr ⟨k_t3 (List.mem_of_getElem? (i := 97) (by decide +kernel)), rfl⟩
theorem k_609 : Cond.static yL_write ∈ g_WS := List.mem_filter.mpr ⟨k_t3 (List.mem_of_getElem? (i := 96) (by decide +kernel)), rfl⟩
theorem k_610 : Cond.codeWith (mY M_L_fork) (mC M_L_fork) (mL M_L_fork) (mR M_L_fork) (mH M_L_fork) ∈ g_WS := List.mem_filter.mpr ⟨k_t3 (List.mem_of_getElem? (i := 107) (by decide +kernel)), rfl⟩
theorem k_611 : Cond.static yL_fork ∈ g_WS := List.mem_filter.mpr ⟨k_t3 (List.mem_of_getElem? (i := 106) (by decide +kernel)), rfl⟩
theorem k_612 : Cond.codeWith (mY M_L_exit) (mC M_L_exit) (mL M_L_exit) (mR M_L_exit) (mH M_L_exit) ∈ g_WS := List.mem_filter.mpr ⟨k_t3 (List.mem_of_getElem? (i := 125) (by decide +kernel)), rfl⟩
theorem k_613 : Cond.static yL_exit ∈ g_WS := List.mem_filter.mpr ⟨k_t3 (List.mem_of_getElem? (i := 124) (by decide +kernel)), rfl⟩
theorem k_614 : Cond.codeWith (mY M_L_marry) (mC M_L_marry) (mL M_L_marry) (mR M_L_marry) (mH M_L_marry) ∈ g_WS := List.mem_filter.mpr ⟨k_t3 (List.mem_of_getElem? (i := 134) (by decide +kernel)), rfl⟩
theorem k_615 : Cond.static yL_marry ∈ g_WS := List.mem_filter.mpr ⟨k_t3 (List.mem_of_getElem? (i := 133) (by decide +kernel)), rfl⟩
theorem k_616 : Cond.codeWith (mY M_L_tear) (mC M_L_tear) (mL M_L_tear) (mR M_L_tear) (mH M_L_tear) ∈ g_WS := List.mem_filter.mpr ⟨k_t3 (List.mem_of_getElem? (i := 143) (by decide +kernel)), rfl⟩
theorem k_617 : Cond.static yL_tear ∈ g_WS := List.mem_filter.mpr ⟨k_t3 (List.mem_of_getElem? (i := 142) (by decide +kernel)), rfl⟩
theorem k_618 : Cond.codeWith (mY M_L_press) (mC M_L_press) (mL M_L_press) (mR M_L_press) (mH M_L_press) ∈ g_WS := List.mem_filter.mpr ⟨k_t3 (List.mem_of_getElem? (i := 155) (by decide +kernel)), rfl⟩
theorem k_619 : Cond.static yL_press ∈ g_WS := List.mem_filter.mpr ⟨k_t3 (List.mem_of_getElem? (i := 154) (by decide +kernel)), rfl⟩
theorem k_620 : Cond.codeWith (mY M_L_undo) (mC M_L_undo) (mL M_L_undo) (mR M_L_undo) (mH M_L_undo) ∈ g_WS := List.mem_filter.mpr ⟨k_t3 (List.mem_of_getElem? (i := 163) (by decide +kernel)), rfl⟩
theorem k_621 : Cond.static yL_undo ∈ g_WS := List.mem_filter.mpr ⟨k_t3 (List.mem_of_getElem? (i := 162) (by decide +kernel)), rfl⟩
theorem k_622 : Cond.codeWith (mY M_L_whyNot) (mC M_L_whyNot) (mL M_L_whyNot) (mR M_L_whyNot) (mH M_L_whyNot) ∈ g_WS := List.mem_filter.mpr ⟨k_t3 (List.mem_of_getElem? (i := 179) (by decide +kernel)), rfl⟩
theorem k_623 : Cond.static yL_whyNot ∈ g_WS := List.mem_filter.mpr ⟨k_t3 (List.mem_of_getElem? (i := 178) (by decide +kernel)), rfl⟩
theorem k_624 : Cond.codeWith (mY M_L_wouldDo) (mC M_L_wouldDo) (mL M_L_wouldDo) (mR M_L_wouldDo) (mH M_L_wouldDo) ∈ g_WS := List.mem_filter.mpr ⟨k_t3 (List.mem_of_getElem? (i := 186) (by decide +kernel)), rfl⟩
theorem k_625 : Cond.static yL_wouldDo ∈ g_WS := List.mem_filter.mpr ⟨k_t3 (List.mem_of_getElem? (i := 185) (by decide +kernel)), rfl⟩
theorem k_626 : Cond.codeWith (mY M_L_writable) (mC M_L_writable) (mL M_L_writable) (mR M_L_writable) (mH M_L_writable) ∈ g_WS := List.mem_filter.mpr ⟨k_t3 (List.mem_of_getElem? (i := 193) (by decide +kernel)), rfl⟩
theorem k_627 : Cond.static yL_writable ∈ g_WS := List.mem_filter.mpr ⟨k_t3 (List.mem_of_getElem? (i := 192) (by decide +kernel)), rfl⟩
theorem k_628 : Cond.codeWith (mY M_L_runScript) (mC M_L_runScript) (mL M_L_runScript) (mR M_L_runScript) (mH M_L_runScript) ∈ g_WS := List.mem_filter.mpr ⟨k_t3 (List.mem_of_getElem? (i := 200) (by decide +kernel)), rfl⟩
theorem k_629 : Cond.static yL_runScript ∈ g_WS := List.mem_filter.mpr ⟨k_t3 (List.mem_of_getElem? (i := 199) (by decide +kernel)), rfl⟩
theorem k_630 : Cond.codeWith (mY M_L_simulate) (mC M_L_simulate) (mL M_L_simulate) (mR M_L_simulate) (mH M_L_simulate) ∈ g_WS := List.mem_filter.mpr ⟨k_t3 (List.mem_of_getElem? (i := 217) (by decide +kernel)), rfl⟩
theorem k_631 : Cond.static yL_simulate ∈ g_WS := List.mem_filter.mpr ⟨k_t3 (List.mem_of_getElem? (i := 216) (by decide +kernel)), rfl⟩
theorem k_632 : Cond.codeWith (mY M_L_save) (mC M_L_save) (mL M_L_save) (mR M_L_save) (mH M_L_save) ∈ g_WS := List.mem_filter.mpr ⟨k_t3 (List.mem_of_getElem? (i := 232) (by decide +kernel)), rfl⟩
theorem k_633 : Cond.static yL_save ∈ g_WS := List.mem_filter.mpr ⟨k_t3 (List.mem_of_getElem? (i := 231) (by decide +kernel)), rfl⟩
theorem k_634 : Cond.codeWith (mY M_L_restore) (mC M_L_restore) (mL M_L_restore) (mR M_L_restore) (mH M_L_restore) ∈ g_WS := List.mem_filter.mpr ⟨k_t4 (List.mem_of_getElem? (i := 4) (by decide +kernel)), rfl⟩
theorem k_635 : Cond.static yL_restore ∈ g_WS := List.mem_filter.mpr ⟨k_t4 (List.mem_of_getElem? (i := 3) (by decide +kernel)), rfl⟩
theorem k_636 : Cond.methodLink RL 81 yX3_init ∈ g_WS := List.mem_filter.mpr ⟨k_t1 (List.mem_of_getElem? (i := 17) (by decide +kernel)), rfl⟩
theorem k_637 : Cond.methodLink RX3 1 objectInit ∈ g_WS := List.mem_filter.mpr ⟨k_t1 (List.mem_of_getElem? (i := 20) (by decide +kernel)), rfl⟩
theorem k_638 : Cond.methodLink RX2 3 objectInit ∈ g_WS := List.mem_filter.mpr ⟨k_t1 (List.mem_of_getElem? (i := 28) (by decide +kernel)), rfl⟩
theorem k_639 : Cond.methodLink RX3 18 yX1_init ∈ g_WS := List.mem_filter.mpr ⟨k_t1 (List.mem_of_getElem? (i := 39) (by decide +kernel)), rfl⟩
theorem k_640 : Cond.methodLink RX1 3 objectInit ∈ g_WS := List.mem_filter.mpr ⟨k_t1 (List.mem_of_getElem? (i := 42) (by decide +kernel)), rfl⟩
theorem k_641 : Cond.methodLink RX1 21 yX1_beginAnew ∈ g_WS := List.mem_filter.mpr ⟨k_t1 (List.mem_of_getElem? (i := 43) (by decide +kernel)), rfl⟩
theorem k_642 : Cond.methodLink RX3 28 yX0_init ∈ g_WS := List.mem_filter.mpr ⟨k_t1 (List.mem_of_getElem? (i := 86) (by decide +kernel)), rfl⟩
theorem k_643 : Cond.methodLink RX0 3 objectInit ∈ g_WS := List.mem_filter.mpr ⟨k_t1 (List.mem_of_getElem? (i := 89) (by decide +kernel)), rfl⟩
theorem k_644 : Cond.methodLink RX0 17 yX1_init ∈ g_WS := List.mem_filter.mpr ⟨k_t1 (List.mem_of_getElem? (i := 92) (by decide +kernel)), rfl⟩
theorem k_645 : Cond.methodLink RL 94 yX3_clearText ∈ g_WS := List.mem_filter.mpr ⟨k_t1 (List.mem_of_getElem? (i := 123) (by decide +kernel)), rfl⟩
theorem k_646 : Cond.methodLink RX3 61 yX2_empty ∈ g_WS := List.mem_filter.mpr ⟨k_t1 (List.mem_of_getElem? (i := 127) (by decide +kernel)), rfl⟩
theorem k_647 : Cond.methodLink RL 98 yX3_errorPosition ∈ g_WS := List.mem_filter.mpr ⟨k_t1 (List.mem_of_getElem? (i := 131) (by decide +kernel)), rfl⟩
theorem k_648 : Cond.methodLink RX3 64 yX2_firstError ∈ g_WS := List.mem_filter.mpr ⟨k_t1 (List.mem_of_getElem? (i := 135) (by decide +kernel)), rfl⟩
theorem k_649 : Cond.methodLink RX2 19 yX2_sign ∈ g_WS := List.mem_filter.mpr ⟨k_t1 (List.mem_of_getElem? (i := 139) (by decide +kernel)), rfl⟩
theorem k_650 : Cond.methodLink RX2 27 yX2_isAllowedDigit ∈ g_WS := List.mem_filter.mpr ⟨k_t1 (List.mem_of_getElem? (i := 143) (by decide +kernel)), rfl⟩
theorem k_651 : Cond.methodLink RX2 23 yX2_digit ∈ g_WS := List.mem_filter.mpr ⟨k_t1 (List.mem_of_getElem? (i := 147) (by decide +kernel)), rfl⟩
theorem k_652 : Cond.methodLink RX2 35 yX2_highestDigit ∈ g_WS := List.mem_filter.mpr ⟨k_t1 (List.mem_of_getElem? (i := 151) (by decide +kernel)), rfl⟩
theorem k_653 : Cond.methodLink RX2 31 yX2_digitsBehind ∈ g_WS := List.mem_filter.mpr ⟨k_t1 (List.mem_of_getElem? (i := 155) (by decide +kernel)), rfl⟩
theorem k_654 : Cond.methodLink RL 138 yX3_setEager ∈ g_WS := List.mem_filter.mpr ⟨k_t1 (List.mem_of_getElem? (i := 158) (by decide +kernel)), rfl⟩
theorem k_655 : Cond.methodLink RX3 177 yX0_remember ∈ g_WS := List.mem_filter.mpr ⟨k_t1 (List.mem_of_getElem? (i := 162) (by decide +kernel)), rfl⟩
theorem k_656 : Cond.methodLink RX0 25 yX1_copyFrom ∈ g_WS := List.mem_filter.mpr ⟨k_t1 (List.mem_of_getElem? (i := 166) (by decide +kernel)), rfl⟩
theorem k_657 : Cond.methodLink RX1 47 arraycopyName ∈ g_WS := List.mem_filter.mpr ⟨k_t1 (List.mem_of_getElem? (i := 170) (by decide +kernel)), rfl⟩
theorem k_658 : Cond.methodLink RX0 29 Lib.Math.min.name ∈ g_WS := List.mem_filter.mpr ⟨k_t1 (List.mem_of_getElem? (i := 173) (by decide +kernel)), rfl⟩
theorem k_659 : Cond.methodLink RX3 92 yX1_freeRuns ∈ g_WS := List.mem_filter.mpr ⟨k_t1 (List.mem_of_getElem? (i := 176) (by decide +kernel)), rfl⟩
theorem k_660 : Cond.methodLink RX1 60 yX1_isRunFree ∈ g_WS := List.mem_filter.mpr ⟨k_t1 (List.mem_of_getElem? (i := 180) (by decide +kernel)), rfl⟩
theorem k_661 : Cond.methodLink RL 152 yX3_marriages ∈ g_WS := List.mem_filter.mpr ⟨k_t1 (List.mem_of_getElem? (i := 184) (by decide +kernel)), rfl⟩
theorem k_662 : Cond.methodLink RX3 232 yX1_copyFrom ∈ g_WS := List.mem_filter.mpr ⟨k_t1 (List.mem_of_getElem? (i := 188) (by decide +kernel)), rfl⟩
theorem k_663 : Cond.methodLink RX3 235 yX1_marryNext ∈ g_WS := List.mem_filter.mpr ⟨k_t1 (List.mem_of_getElem? (i := 189) (by decide +kernel)), rfl⟩
theorem k_664 : Cond.methodLink RX1 53 yX1_hasProcess ∈ g_WS := List.mem_filter.mpr ⟨k_t1 (List.mem_of_getElem? (i := 193) (by decide +kernel)), rfl⟩
theorem k_665 : Cond.methodLink RX1 152 yX1_obstacleToMarriage ∈ g_WS := List.mem_filter.mpr ⟨k_t1 (List.mem_of_getElem? (i := 197) (by decide +kernel)), rfl⟩
theorem k_666 : Cond.methodLink RX1 77 yX1_isBig ∈ g_WS := List.mem_filter.mpr ⟨k_t1 (List.mem_of_getElem? (i := 201) (by decide +kernel)), rfl⟩
theorem k_667 : Cond.methodLink RX1 115 yX1_pagesWithFrame ∈ g_WS := List.mem_filter.mpr ⟨k_t1 (List.mem_of_getElem? (i := 205) (by decide +kernel)), rfl⟩
theorem k_668 : Cond.methodLink RX1 73 yX1_frameOf ∈ g_WS := List.mem_filter.mpr ⟨k_t1 (List.mem_of_getElem? (i := 209) (by decide +kernel)), rfl⟩
theorem k_669 : Cond.methodLink RX1 80 yX1_pagesWithSharedFrame ∈ g_WS := List.mem_filter.mpr ⟨k_t1 (List.mem_of_getElem? (i := 213) (by decide +kernel)), rfl⟩
theorem k_670 : Cond.methodLink RX1 57 yX1_isShared ∈ g_WS := List.mem_filter.mpr ⟨k_t1 (List.mem_of_getElem? (i := 217) (by decide +kernel)), rfl⟩
theorem k_671 : Cond.methodLink RX1 146 yX1_isInPlace ∈ g_WS := List.mem_filter.mpr ⟨k_t1 (List.mem_of_getElem? (i := 221) (by decide +kernel)), rfl⟩
theorem k_672 : Cond.methodLink RX1 112 yX1_lowestFreeRun ∈ g_WS := List.mem_filter.mpr ⟨k_t1 (List.mem_of_getElem? (i := 225) (by decide +kernel)), rfl⟩
theorem k_673 : Cond.methodLink RX1 159 yX1_doMarry ∈ g_WS := List.mem_filter.mpr ⟨k_t1 (List.mem_of_getElem? (i := 229) (by decide +kernel)), rfl⟩
theorem k_674 : Cond.methodLink RX1 149 yX1_hasGroup ∈ g_WS := List.mem_filter.mpr ⟨k_t1 (List.mem_of_getElem? (i := 233) (by decide +kernel)), rfl⟩
theorem k_675 : Cond.methodLink RX1 155 yX1_moveTo ∈ g_WS := List.mem_filter.mpr ⟨k_t1 (List.mem_of_getElem? (i := 237) (by decide +kernel)), rfl⟩
theorem k_676 : Cond.methodLink RX1 89 yX1_valueOf ∈ g_WS := List.mem_filter.mpr ⟨k_t2 (List.mem_of_getElem? (i := 1) (by decide +kernel)), rfl⟩
theorem k_677 : Cond.methodLink RX1 137 yX1_letGo ∈ g_WS := List.mem_filter.mpr ⟨k_t2 (List.mem_of_getElem? (i := 5) (by decide +kernel)), rfl⟩
theorem k_678 : Cond.methodLink RX1 125 yX1_takeFrame ∈ g_WS := List.mem_filter.mpr ⟨k_t2 (List.mem_of_getElem? (i := 9) (by decide +kernel)), rfl⟩
theorem k_679 : Cond.methodLink RX1 128 yX1_becomeBig ∈ g_WS := List.mem_filter.mpr ⟨k_t2 (List.mem_of_getElem? (i := 13) (by decide +kernel)), rfl⟩
theorem k_680 : Cond.methodLink RL 156 yX3_mostFree ∈ g_WS := List.mem_filter.mpr ⟨k_t2 (List.mem_of_getElem? (i := 17) (by decide +kernel)), rfl⟩
theorem k_681 : Cond.methodLink RX3 221 yX1_doPress ∈ g_WS := List.mem_filter.mpr ⟨k_t2 (List.mem_of_getElem? (i := 21) (by decide +kernel)), rfl⟩
theorem k_682 : Cond.methodLink RX1 99 yX1_freeFrames ∈ g_WS := List.mem_filter.mpr ⟨k_t2 (List.mem_of_getElem? (i := 25) (by decide +kernel)), rfl⟩
theorem k_683 : Cond.methodLink RX1 162 yX1_loseFirstPage ∈ g_WS := List.mem_filter.mpr ⟨k_t2 (List.mem_of_getElem? (i := 29) (by decide +kernel)), rfl⟩
theorem k_684 : Cond.methodLink RX1 169 yX1_usersOfFrameOf ∈ g_WS := List.mem_filter.mpr ⟨k_t2 (List.mem_of_getElem? (i := 33) (by decide +kernel)), rfl⟩
theorem k_685 : Cond.methodLink RX1 166 yX1_tearEmptiestGroup ∈ g_WS := List.mem_filter.mpr ⟨k_t2 (List.mem_of_getElem? (i := 37) (by decide +kernel)), rfl⟩
theorem k_686 : Cond.methodLink RX1 172 yX1_pagesWithValueZero ∈ g_WS := List.mem_filter.mpr ⟨k_t2 (List.mem_of_getElem? (i := 41) (by decide +kernel)), rfl⟩
theorem k_687 : Cond.methodLink RX1 131 yX1_becomeTorn ∈ g_WS := List.mem_filter.mpr ⟨k_t2 (List.mem_of_getElem? (i := 45) (by decide +kernel)), rfl⟩
theorem k_688 : Cond.methodLink RX1 92 yX1_becomeSmall ∈ g_WS := List.mem_filter.mpr ⟨k_t2 (List.mem_of_getElem? (i := 49) (by decide +kernel)), rfl⟩
theorem k_689 : Cond.methodLink RL 85 yL_append ∈ g_WS := List.mem_filter.mpr ⟨k_t2 (List.mem_of_getElem? (i := 53) (by decide +kernel)), rfl⟩
theorem k_690 : Cond.methodLink RL 7 yX3_append ∈ g_WS := List.mem_filter.mpr ⟨k_t2 (List.mem_of_getElem? (i := 58) (by decide +kernel)), rfl⟩
theorem k_691 : Cond.methodLink RX3 48 yX2_length ∈ g_WS := List.mem_filter.mpr ⟨k_t2 (List.mem_of_getElem? (i := 130) (by decide +kernel)), rfl⟩
theorem k_692 : Cond.methodLink RX3 57 yX2_add ∈ g_WS := List.mem_filter.mpr ⟨k_t2 (List.mem_of_getElem? (i := 150) (by decide +kernel)), rfl⟩
theorem k_693 : Cond.methodLink RL 102 yL_load ∈ g_WS := List.mem_filter.mpr ⟨k_t2 (List.mem_of_getElem? (i := 154) (by decide +kernel)), rfl⟩
theorem k_694 : Cond.methodLink RL 17 yX3_load ∈ g_WS := List.mem_filter.mpr ⟨k_t2 (List.mem_of_getElem? (i := 157) (by decide +kernel)), rfl⟩
theorem k_695 : Cond.methodLink RX3 69 yX1_beginAnew ∈ g_WS := List.mem_filter.mpr ⟨k_t2 (List.mem_of_getElem? (i := 162) (by decide +kernel)), rfl⟩
theorem k_696 : Cond.methodLink RX3 72 yX0_forget ∈ g_WS := List.mem_filter.mpr ⟨k_t2 (List.mem_of_getElem? (i := 163) (by decide +kernel)), rfl⟩
theorem k_697 : Cond.methodLink RX3 75 yX2_sign ∈ g_WS := List.mem_filter.mpr ⟨k_t2 (List.mem_of_getElem? (i := 167) (by decide +kernel)), rfl⟩
theorem k_698 : Cond.methodLink RX3 79 yX2_digitsBehind ∈ g_WS := List.mem_filter.mpr ⟨k_t2 (List.mem_of_getElem? (i := 168) (by decide +kernel)), rfl⟩
theorem k_699 : Cond.methodLink RX3 82 yX3_doCommandOfText ∈ g_WS := List.mem_filter.mpr ⟨k_t2 (List.mem_of_getElem? (i := 169) (by decide +kernel)), rfl⟩
theorem k_700 : Cond.methodLink RX3 288 yX2_digit ∈ g_WS := List.mem_filter.mpr ⟨k_t2 (List.mem_of_getElem? (i := 173) (by decide +kernel)), rfl⟩
theorem k_701 : Cond.methodLink RX3 291 yX2_number ∈ g_WS := List.mem_filter.mpr ⟨k_t2 (List.mem_of_getElem? (i := 174) (by decide +kernel)), rfl⟩
theorem k_702 : Cond.methodLink RX3 181 yX1_doWrite ∈ g_WS := List.mem_filter.mpr ⟨k_t2 (List.mem_of_getElem? (i := 178) (by decide +kernel)), rfl⟩
theorem k_703 : Cond.methodLink RX1 103 yX1_outcomeOfWrite ∈ g_WS := List.mem_filter.mpr ⟨k_t2 (List.mem_of_getElem? (i := 182) (by decide +kernel)), rfl⟩
theorem k_704 : Cond.methodLink RX1 96 yX1_hasPage ∈ g_WS := List.mem_filter.mpr ⟨k_t2 (List.mem_of_getElem? (i := 186) (by decide +kernel)), rfl⟩
theorem k_705 : Cond.methodLink RX1 106 yX1_bringIn ∈ g_WS := List.mem_filter.mpr ⟨k_t2 (List.mem_of_getElem? (i := 190) (by decide +kernel)), rfl⟩
theorem k_706 : Cond.methodLink RX1 118 yX1_bringInWhole ∈ g_WS := List.mem_filter.mpr ⟨k_t2 (List.mem_of_getElem? (i := 194) (by decide +kernel)), rfl⟩
theorem k_707 : Cond.methodLink RX1 122 yX1_takeSingleFrame ∈ g_WS := List.mem_filter.mpr ⟨k_t2 (List.mem_of_getElem? (i := 198) (by decide +kernel)), rfl⟩
theorem k_708 : Cond.methodLink RX1 134 yX1_lowestSingleFrame ∈ g_WS := List.mem_filter.mpr ⟨k_t2 (List.mem_of_getElem? (i := 202) (by decide +kernel)), rfl⟩
theorem k_709 : Cond.methodLink RX1 109 yX1_copyOut ∈ g_WS := List.mem_filter.mpr ⟨k_t2 (List.mem_of_getElem? (i := 206) (by decide +kernel)), rfl⟩
theorem k_710 : Cond.methodLink RX3 194 yX1_doFork ∈ g_WS := List.mem_filter.mpr ⟨k_t2 (List.mem_of_getElem? (i := 210) (by decide +kernel)), rfl⟩
theorem k_711 : Cond.methodLink RX1 140 yX1_lowestUnusedProcess ∈ g_WS := List.mem_filter.mpr ⟨k_t2 (List.mem_of_getElem? (i := 214) (by decide +kernel)), rfl⟩
theorem k_712 : Cond.methodLink RX3 203 yX1_doExit ∈ g_WS := List.mem_filter.mpr ⟨k_t2 (List.mem_of_getElem? (i := 218) (by decide +kernel)), rfl⟩
theorem k_713 : Cond.methodLink RX1 143 yX1_canExit ∈ g_WS := List.mem_filter.mpr ⟨k_t2 (List.mem_of_getElem? (i := 222) (by decide +kernel)), rfl⟩
theorem k_714 : Cond.methodLink RX1 63 yJ6_bitCount_0f7a4 ∈ g_WS := List.mem_filter.mpr ⟨k_t2 (List.mem_of_getElem? (i := 226) (by decide +kernel)), rfl⟩
theorem k_715 : Cond.methodLink RX3 211 yX1_doMarry ∈ g_WS := List.mem_filter.mpr ⟨k_t2 (List.mem_of_getElem? (i := 232) (by decide +kernel)), rfl⟩
theorem k_716 : Cond.methodLink RL 106 yL_about ∈ g_WS := List.mem_filter.mpr ⟨k_t2 (List.mem_of_getElem? (i := 233) (by decide +kernel)), rfl⟩
theorem k_717 : Cond.methodLink RL 21 yX3_about ∈ g_WS := List.mem_filter.mpr ⟨k_t2 (List.mem_of_getElem? (i := 236) (by decide +kernel)), rfl⟩
theorem k_718 : Cond.methodLink RX3 86 yX1_processes ∈ g_WS := List.mem_filter.mpr ⟨k_t3 (List.mem_of_getElem? (i := 0) (by decide +kernel)), rfl⟩
theorem k_719 : Cond.methodLink RX3 89 yX1_freeFrames ∈ g_WS := List.mem_filter.mpr ⟨k_t3 (List.mem_of_getElem? (i := 4) (by decide +kernel)), rfl⟩
theorem k_720 : Cond.methodLink RX3 95 yX1_bigGroups ∈ g_WS := List.mem_filter.mpr ⟨k_t3 (List.mem_of_getElem? (i := 5) (by decide +kernel)), rfl⟩
theorem k_721 : Cond.methodLink RX3 98 yX1_widows ∈ g_WS := List.mem_filter.mpr ⟨k_t3 (List.mem_of_getElem? (i := 9) (by decide +kernel)), rfl⟩
theorem k_722 : Cond.methodLink RX1 69 yX1_isWidow ∈ g_WS := List.mem_filter.mpr ⟨k_t3 (List.mem_of_getElem? (i := 13) (by decide +kernel)), rfl⟩
theorem k_723 : Cond.methodLink RX1 83 yX1_runOf ∈ g_WS := List.mem_filter.mpr ⟨k_t3 (List.mem_of_getElem? (i := 17) (by decide +kernel)), rfl⟩
theorem k_724 : Cond.methodLink RX1 86 yX1_bigGroupsInRun ∈ g_WS := List.mem_filter.mpr ⟨k_t3 (List.mem_of_getElem? (i := 21) (by decide +kernel)), rfl⟩
theorem k_725 : Cond.methodLink RX3 101 yX1_sharedFrames ∈ g_WS := List.mem_filter.mpr ⟨k_t3 (List.mem_of_getElem? (i := 25) (by decide +kernel)), rfl⟩
theorem k_726 : Cond.methodLink RL 109 yL_page ∈ g_WS := List.mem_filter.mpr ⟨k_t3 (List.mem_of_getElem? (i := 30) (by decide +kernel)), rfl⟩
theorem k_727 : Cond.methodLink RL 24 yX3_page ∈ g_WS := List.mem_filter.mpr ⟨k_t3 (List.mem_of_getElem? (i := 34) (by decide +kernel)), rfl⟩
theorem k_728 : Cond.methodLink RX3 123 yX3_requirePage ∈ g_WS := List.mem_filter.mpr ⟨k_t3 (List.mem_of_getElem? (i := 38) (by decide +kernel)), rfl⟩
theorem k_729 : Cond.methodLink RX3 276 yX1_hasPage ∈ g_WS := List.mem_filter.mpr ⟨k_t3 (List.mem_of_getElem? (i := 42) (by decide +kernel)), rfl⟩
theorem k_730 : Cond.methodLink RX3 127 yX1_frameOf ∈ g_WS := List.mem_filter.mpr ⟨k_t3 (List.mem_of_getElem? (i := 59) (by decide +kernel)), rfl⟩
theorem k_731 : Cond.methodLink RX3 131 yX1_valueOf ∈ g_WS := List.mem_filter.mpr ⟨k_t3 (List.mem_of_getElem? (i := 60) (by decide +kernel)), rfl⟩
theorem k_732 : Cond.methodLink RX3 134 yX1_usersOfFrameOf ∈ g_WS := List.mem_filter.mpr ⟨k_t3 (List.mem_of_getElem? (i := 61) (by decide +kernel)), rfl⟩
theorem k_733 : Cond.methodLink RX3 137 yX1_isBig ∈ g_WS := List.mem_filter.mpr ⟨k_t3 (List.mem_of_getElem? (i := 62) (by decide +kernel)), rfl⟩
theorem k_734 : Cond.methodLink RL 113 yL_user ∈ g_WS := List.mem_filter.mpr ⟨k_t3 (List.mem_of_getElem? (i := 64) (by decide +kernel)), rfl⟩
theorem k_735 : Cond.methodLink RL 30 yX3_user ∈ g_WS := List.mem_filter.mpr ⟨k_t3 (List.mem_of_getElem? (i := 67) (by decide +kernel)), rfl⟩
theorem k_736 : Cond.methodLink RX3 150 yX1_userAt ∈ g_WS := List.mem_filter.mpr ⟨k_t3 (List.mem_of_getElem? (i := 73) (by decide +kernel)), rfl⟩
theorem k_737 : Cond.methodLink RL 117 yL_group ∈ g_WS := List.mem_filter.mpr ⟨k_t3 (List.mem_of_getElem? (i := 77) (by decide +kernel)), rfl⟩
theorem k_738 : Cond.methodLink RL 34 yX3_group ∈ g_WS := List.mem_filter.mpr ⟨k_t3 (List.mem_of_getElem? (i := 80) (by decide +kernel)), rfl⟩
theorem k_739 : Cond.methodLink RX3 153 yX3_requireGroup ∈ g_WS := List.mem_filter.mpr ⟨k_t3 (List.mem_of_getElem? (i := 84) (by decide +kernel)), rfl⟩
theorem k_740 : Cond.methodLink RX3 281 yX1_hasGroup ∈ g_WS := List.mem_filter.mpr ⟨k_t3 (List.mem_of_getElem? (i := 88) (by decide +kernel)), rfl⟩
theorem k_741 : Cond.methodLink RX3 156 yX1_pagesWithFrame ∈ g_WS := List.mem_filter.mpr ⟨k_t3 (List.mem_of_getElem? (i := 90) (by decide +kernel)), rfl⟩
theorem k_742 : Cond.methodLink RX3 159 yX1_isWidow ∈ g_WS := List.mem_filter.mpr ⟨k_t3 (List.mem_of_getElem? (i := 91) (by decide +kernel)), rfl⟩
theorem k_743 : Cond.methodLink RX3 162 yX1_pagesWithSharedFrame ∈ g_WS := List.mem_filter.mpr ⟨k_t3 (List.mem_of_getElem? (i := 92) (by decide +kernel)), rfl⟩
theorem k_744 : Cond.methodLink RX3 165 yX1_runOf ∈ g_WS := List.mem_filter.mpr ⟨k_t3 (List.mem_of_getElem? (i := 93) (by decide +kernel)), rfl⟩
theorem k_745 : Cond.methodLink RL 120 yL_write ∈ g_WS := List.mem_filter.mpr ⟨k_t3 (List.mem_of_getElem? (i := 95) (by decide +kernel)), rfl⟩
theorem k_746 : Cond.methodLink RL 37 yX3_write ∈ g_WS := List.mem_filter.mpr ⟨k_t3 (List.mem_of_getElem? (i := 98) (by decide +kernel)), rfl⟩
theorem k_747 : Cond.methodLink RX3 172 yX1_outcomeOfWrite ∈ g_WS := List.mem_filter.mpr ⟨k_t3 (List.mem_of_getElem? (i := 103) (by decide +kernel)), rfl⟩
theorem k_748 : Cond.methodLink RL 123 yL_fork ∈ g_WS := List.mem_filter.mpr ⟨k_t3 (List.mem_of_getElem? (i := 105) (by decide +kernel)), rfl⟩
theorem k_749 : Cond.methodLink RL 40 yX3_fork ∈ g_WS := List.mem_filter.mpr ⟨k_t3 (List.mem_of_getElem? (i := 108) (by decide +kernel)), rfl⟩
theorem k_750 : Cond.methodLink RX3 185 yX3_requireProcess ∈ g_WS := List.mem_filter.mpr ⟨k_t3 (List.mem_of_getElem? (i := 112) (by decide +kernel)), rfl⟩
theorem k_751 : Cond.methodLink RX3 271 yX1_hasProcess ∈ g_WS := List.mem_filter.mpr ⟨k_t3 (List.mem_of_getElem? (i := 116) (by decide +kernel)), rfl⟩
theorem k_752 : Cond.methodLink RX3 189 yX1_canFork ∈ g_WS := List.mem_filter.mpr ⟨k_t3 (List.mem_of_getElem? (i := 118) (by decide +kernel)), rfl⟩
theorem k_753 : Cond.methodLink RL 126 yL_exit ∈ g_WS := List.mem_filter.mpr ⟨k_t3 (List.mem_of_getElem? (i := 123) (by decide +kernel)), rfl⟩
theorem k_754 : Cond.methodLink RL 43 yX3_exit ∈ g_WS := List.mem_filter.mpr ⟨k_t3 (List.mem_of_getElem? (i := 126) (by decide +kernel)), rfl⟩
theorem k_755 : Cond.methodLink RX3 198 yX1_canExit ∈ g_WS := List.mem_filter.mpr ⟨k_t3 (List.mem_of_getElem? (i := 130) (by decide +kernel)), rfl⟩
theorem k_756 : Cond.methodLink RL 129 yL_marry ∈ g_WS := List.mem_filter.mpr ⟨k_t3 (List.mem_of_getElem? (i := 132) (by decide +kernel)), rfl⟩
theorem k_757 : Cond.methodLink RL 46 yX3_marry ∈ g_WS := List.mem_filter.mpr ⟨k_t3 (List.mem_of_getElem? (i := 135) (by decide +kernel)), rfl⟩
theorem k_758 : Cond.methodLink RX3 206 yX1_obstacleToMarriage ∈ g_WS := List.mem_filter.mpr ⟨k_t3 (List.mem_of_getElem? (i := 139) (by decide +kernel)), rfl⟩
theorem k_759 : Cond.methodLink RL 132 yL_tear ∈ g_WS := List.mem_filter.mpr ⟨k_t3 (List.mem_of_getElem? (i := 141) (by decide +kernel)), rfl⟩
theorem k_760 : Cond.methodLink RL 49 yX3_tear ∈ g_WS := List.mem_filter.mpr ⟨k_t3 (List.mem_of_getElem? (i := 144) (by decide +kernel)), rfl⟩
theorem k_761 : Cond.methodLink RX3 216 yX1_doTear ∈ g_WS := List.mem_filter.mpr ⟨k_t3 (List.mem_of_getElem? (i := 149) (by decide +kernel)), rfl⟩
theorem k_762 : Cond.methodLink RL 135 yL_press ∈ g_WS := List.mem_filter.mpr ⟨k_t3 (List.mem_of_getElem? (i := 153) (by decide +kernel)), rfl⟩
theorem k_763 : Cond.methodLink RL 52 yX3_press ∈ g_WS := List.mem_filter.mpr ⟨k_t3 (List.mem_of_getElem? (i := 156) (by decide +kernel)), rfl⟩
theorem k_764 : Cond.methodLink RL 143 yL_undo ∈ g_WS := List.mem_filter.mpr ⟨k_t3 (List.mem_of_getElem? (i := 161) (by decide +kernel)), rfl⟩
theorem k_765 : Cond.methodLink RL 55 yX3_undo ∈ g_WS := List.mem_filter.mpr ⟨k_t3 (List.mem_of_getElem? (i := 164) (by decide +kernel)), rfl⟩
theorem k_766 : Cond.methodLink RX3 224 yX0_size ∈ g_WS := List.mem_filter.mpr ⟨k_t3 (List.mem_of_getElem? (i := 168) (by decide +kernel)), rfl⟩
theorem k_767 : Cond.methodLink RX3 229 yX0_takeBack ∈ g_WS := List.mem_filter.mpr ⟨k_t3 (List.mem_of_getElem? (i := 173) (by decide +kernel)), rfl⟩
theorem k_768 : Cond.methodLink RL 146 yL_whyNot ∈ g_WS := List.mem_filter.mpr ⟨k_t3 (List.mem_of_getElem? (i := 177) (by decide +kernel)), rfl⟩
theorem k_769 : Cond.methodLink RL 58 yX3_whyNot ∈ g_WS := List.mem_filter.mpr ⟨k_t3 (List.mem_of_getElem? (i := 180) (by decide +kernel)), rfl⟩
theorem k_770 : Cond.methodLink RL 149 yL_wouldDo ∈ g_WS := List.mem_filter.mpr ⟨k_t3 (List.mem_of_getElem? (i := 184) (by decide +kernel)), rfl⟩
theorem k_771 : Cond.methodLink RL 61 yX3_wouldDo ∈ g_WS := List.mem_filter.mpr ⟨k_t3 (List.mem_of_getElem? (i := 187) (by decide +kernel)), rfl⟩
theorem k_772 : Cond.methodLink RL 160 yL_writable ∈ g_WS := List.mem_filter.mpr ⟨k_t3 (List.mem_of_getElem? (i := 191) (by decide +kernel)), rfl⟩
theorem k_773 : Cond.methodLink RL 64 yX3_writable ∈ g_WS := List.mem_filter.mpr ⟨k_t3 (List.mem_of_getElem? (i := 194) (by decide +kernel)), rfl⟩
theorem k_774 : Cond.methodLink RL 165 yL_runScript ∈ g_WS := List.mem_filter.mpr ⟨k_t3 (List.mem_of_getElem? (i := 198) (by decide +kernel)), rfl⟩
theorem k_775 : Cond.methodLink RL 67 yX3_runScript ∈ g_WS := List.mem_filter.mpr ⟨k_t3 (List.mem_of_getElem? (i := 201) (by decide +kernel)), rfl⟩
theorem k_776 : Cond.methodLink RX3 241 yX3_withoutLastCommands ∈ g_WS := List.mem_filter.mpr ⟨k_t3 (List.mem_of_getElem? (i := 206) (by decide +kernel)), rfl⟩
theorem k_777 : Cond.methodLink RX3 249 yX3_doCommandOfScript ∈ g_WS := List.mem_filter.mpr ⟨k_t3 (List.mem_of_getElem? (i := 211) (by decide +kernel)), rfl⟩
theorem k_778 : Cond.methodLink RL 169 yL_simulate ∈ g_WS := List.mem_filter.mpr ⟨k_t3 (List.mem_of_getElem? (i := 215) (by decide +kernel)), rfl⟩
theorem k_779 : Cond.methodLink RL 71 yX3_simulate ∈ g_WS := List.mem_filter.mpr ⟨k_t3 (List.mem_of_getElem? (i := 218) (by decide +kernel)), rfl⟩
theorem k_780 : Cond.methodLink RX3 258 yX3_doStep ∈ g_WS := List.mem_filter.mpr ⟨k_t3 (List.mem_of_getElem? (i := 225) (by decide +kernel)), rfl⟩
theorem k_781 : Cond.methodLink RX3 261 Lib.Math.min.name ∈ g_WS := List.mem_filter.mpr ⟨k_t3 (List.mem_of_getElem? (i := 229) (by decide +kernel)), rfl⟩
theorem k_782 : Cond.methodLink RL 173 yL_save ∈ g_WS := List.mem_filter.mpr ⟨k_t3 (List.mem_of_getElem? (i := 230) (by decide +kernel)), rfl⟩
theorem k_783 : Cond.methodLink RL 75 yX3_save ∈ g_WS := List.mem_filter.mpr ⟨k_t3 (List.mem_of_getElem? (i := 233) (by decide +kernel)), rfl⟩
theorem k_784 : Cond.methodLink RX3 266 yX3_requireSlot ∈ g_WS := List.mem_filter.mpr ⟨k_t3 (List.mem_of_getElem? (i := 237) (by decide +kernel)), rfl⟩
theorem k_785 : Cond.methodLink RL 176 yL_restore ∈ g_WS := List.mem_filter.mpr ⟨k_t4 (List.mem_of_getElem? (i := 2) (by decide +kernel)), rfl⟩
theorem k_786 : Cond.methodLink RL 78 yX3_restore ∈ g_WS := List.mem_filter.mpr ⟨k_t4 (List.mem_of_getElem? (i := 5) (by decide +kernel)), rfl⟩
theorem k_787 : Cond.methodLink RL 84 yX4_init ∈ g_WS := List.mem_filter.mpr ⟨k_t4 (List.mem_of_getElem? (i := 12) (by decide +kernel)), rfl⟩
theorem k_788 : Cond.methodLink RX4 1 objectInit ∈ g_WS := List.mem_filter.mpr ⟨k_t4 (List.mem_of_getElem? (i := 15) (by decide +kernel)), rfl⟩
theorem k_789 : Cond.methodLink RX4 31 yX4_renew ∈ g_WS := List.mem_filter.mpr ⟨k_t4 (List.mem_of_getElem? (i := 16) (by decide +kernel)), rfl⟩
theorem k_790 : Cond.methodLink RL 91 yX4_thrown ∈ g_WS := List.mem_filter.mpr ⟨k_t4 (List.mem_of_getElem? (i := 51) (by decide +kernel)), rfl⟩
theorem k_791 : Cond.methodLink RL 90 yX4_append ∈ g_WS := List.mem_filter.mpr ⟨k_t4 (List.mem_of_getElem? (i := 55) (by decide +kernel)), rfl⟩
theorem k_792 : Cond.methodLink RX4 38 yX4_within ∈ g_WS := List.mem_filter.mpr ⟨k_t4 (List.mem_of_getElem? (i := 59) (by decide +kernel)), rfl⟩
theorem k_793 : Cond.methodLink RL 97 yX4_clearText ∈ g_WS := List.mem_filter.mpr ⟨k_t4 (List.mem_of_getElem? (i := 62) (by decide +kernel)), rfl⟩
theorem k_794 : Cond.methodLink RL 101 yX4_errorPosition ∈ g_WS := List.mem_filter.mpr ⟨k_t4 (List.mem_of_getElem? (i := 66) (by decide +kernel)), rfl⟩
theorem k_795 : Cond.methodLink RX4 139 yX4_findError ∈ g_WS := List.mem_filter.mpr ⟨k_t4 (List.mem_of_getElem? (i := 70) (by decide +kernel)), rfl⟩
theorem k_796 : Cond.methodLink RX4 133 yX4_isLetter ∈ g_WS := List.mem_filter.mpr ⟨k_t4 (List.mem_of_getElem? (i := 74) (by decide +kernel)), rfl⟩
theorem k_797 : Cond.methodLink RX4 130 yX4_mostAt ∈ g_WS := List.mem_filter.mpr ⟨k_t4 (List.mem_of_getElem? (i := 78) (by decide +kernel)), rfl⟩
theorem k_798 : Cond.methodLink RX4 127 yX4_digit ∈ g_WS := List.mem_filter.mpr ⟨k_t4 (List.mem_of_getElem? (i := 82) (by decide +kernel)), rfl⟩
theorem k_799 : Cond.methodLink RX4 136 yX4_lengthAt ∈ g_WS := List.mem_filter.mpr ⟨k_t4 (List.mem_of_getElem? (i := 86) (by decide +kernel)), rfl⟩
theorem k_800 : Cond.methodLink RL 105 yX4_load ∈ g_WS := List.mem_filter.mpr ⟨k_t4 (List.mem_of_getElem? (i := 90) (by decide +kernel)), rfl⟩
theorem k_801 : Cond.methodLink RX4 157 yX4_commandAt ∈ g_WS := List.mem_filter.mpr ⟨k_t4 (List.mem_of_getElem? (i := 94) (by decide +kernel)), rfl⟩
theorem k_802 : Cond.methodLink RX4 142 yX4_tryWrite ∈ g_WS := List.mem_filter.mpr ⟨k_t4 (List.mem_of_getElem? (i := 98) (by decide +kernel)), rfl⟩
theorem k_803 : Cond.methodLink RX4 166 yX4_isPage ∈ g_WS := List.mem_filter.mpr ⟨k_t4 (List.mem_of_getElem? (i := 102) (by decide +kernel)), rfl⟩
theorem k_804 : Cond.methodLink RX4 42 yX4_isProcess ∈ g_WS := List.mem_filter.mpr ⟨k_t4 (List.mem_of_getElem? (i := 106) (by decide +kernel)), rfl⟩
theorem k_805 : Cond.methodLink RX4 90 yX4_outcome ∈ g_WS := List.mem_filter.mpr ⟨k_t4 (List.mem_of_getElem? (i := 110) (by decide +kernel)), rfl⟩
theorem k_806 : Cond.methodLink RX4 53 yX4_frameOf ∈ g_WS := List.mem_filter.mpr ⟨k_t4 (List.mem_of_getElem? (i := 114) (by decide +kernel)), rfl⟩
theorem k_807 : Cond.methodLink RX4 77 yX4_isEagerFault ∈ g_WS := List.mem_filter.mpr ⟨k_t4 (List.mem_of_getElem? (i := 118) (by decide +kernel)), rfl⟩
theorem k_808 : Cond.methodLink RX4 70 yX4_placedIn ∈ g_WS := List.mem_filter.mpr ⟨k_t4 (List.mem_of_getElem? (i := 122) (by decide +kernel)), rfl⟩
theorem k_809 : Cond.methodLink RX4 73 yX4_freeRun ∈ g_WS := List.mem_filter.mpr ⟨k_t4 (List.mem_of_getElem? (i := 126) (by decide +kernel)), rfl⟩
theorem k_810 : Cond.methodLink RX4 50 yX4_isFreeRun ∈ g_WS := List.mem_filter.mpr ⟨k_t4 (List.mem_of_getElem? (i := 130) (by decide +kernel)), rfl⟩
theorem k_811 : Cond.methodLink RX4 46 yX4_uses ∈ g_WS := List.mem_filter.mpr ⟨k_t4 (List.mem_of_getElem? (i := 134) (by decide +kernel)), rfl⟩
theorem k_812 : Cond.methodLink RX4 80 yX4_singleFrame ∈ g_WS := List.mem_filter.mpr ⟨k_t4 (List.mem_of_getElem? (i := 138) (by decide +kernel)), rfl⟩
theorem k_813 : Cond.methodLink RX4 57 yX4_isShared ∈ g_WS := List.mem_filter.mpr ⟨k_t4 (List.mem_of_getElem? (i := 142) (by decide +kernel)), rfl⟩
theorem k_814 : Cond.methodLink RX4 60 yX4_isBig ∈ g_WS := List.mem_filter.mpr ⟨k_t4 (List.mem_of_getElem? (i := 146) (by decide +kernel)), rfl⟩
theorem k_815 : Cond.methodLink RX4 179 yX4_written ∈ g_WS := List.mem_filter.mpr ⟨k_t4 (List.mem_of_getElem? (i := 150) (by decide +kernel)), rfl⟩
theorem k_816 : Cond.methodLink RX4 93 yX4_makeBig ∈ g_WS := List.mem_filter.mpr ⟨k_t4 (List.mem_of_getElem? (i := 154) (by decide +kernel)), rfl⟩
theorem k_817 : Cond.methodLink RX4 83 yX4_setFrame ∈ g_WS := List.mem_filter.mpr ⟨k_t4 (List.mem_of_getElem? (i := 158) (by decide +kernel)), rfl⟩
theorem k_818 : Cond.methodLink RX4 87 yX4_setBig ∈ g_WS := List.mem_filter.mpr ⟨k_t4 (List.mem_of_getElem? (i := 162) (by decide +kernel)), rfl⟩
theorem k_819 : Cond.methodLink RX4 145 yX4_tryFork ∈ g_WS := List.mem_filter.mpr ⟨k_t4 (List.mem_of_getElem? (i := 166) (by decide +kernel)), rfl⟩
theorem k_820 : Cond.methodLink RX4 183 yX4_whyNotForked ∈ g_WS := List.mem_filter.mpr ⟨k_t4 (List.mem_of_getElem? (i := 170) (by decide +kernel)), rfl⟩
theorem k_821 : Cond.methodLink RX4 97 yX4_freeProcess ∈ g_WS := List.mem_filter.mpr ⟨k_t4 (List.mem_of_getElem? (i := 174) (by decide +kernel)), rfl⟩
theorem k_822 : Cond.methodLink RX4 186 yX4_forked ∈ g_WS := List.mem_filter.mpr ⟨k_t4 (List.mem_of_getElem? (i := 178) (by decide +kernel)), rfl⟩
theorem k_823 : Cond.methodLink RX4 148 yX4_tryExit ∈ g_WS := List.mem_filter.mpr ⟨k_t4 (List.mem_of_getElem? (i := 182) (by decide +kernel)), rfl⟩
theorem k_824 : Cond.methodLink RX4 189 yX4_whyNotEnded ∈ g_WS := List.mem_filter.mpr ⟨k_t4 (List.mem_of_getElem? (i := 186) (by decide +kernel)), rfl⟩
theorem k_825 : Cond.methodLink RX4 100 yX4_processMany ∈ g_WS := List.mem_filter.mpr ⟨k_t4 (List.mem_of_getElem? (i := 190) (by decide +kernel)), rfl⟩
theorem k_826 : Cond.methodLink RX4 192 yX4_ended ∈ g_WS := List.mem_filter.mpr ⟨k_t4 (List.mem_of_getElem? (i := 194) (by decide +kernel)), rfl⟩
theorem k_827 : Cond.methodLink RX4 103 yX4_freeFrames ∈ g_WS := List.mem_filter.mpr ⟨k_t4 (List.mem_of_getElem? (i := 198) (by decide +kernel)), rfl⟩
theorem k_828 : Cond.methodLink RX4 151 yX4_tryMarry ∈ g_WS := List.mem_filter.mpr ⟨k_t4 (List.mem_of_getElem? (i := 202) (by decide +kernel)), rfl⟩
theorem k_829 : Cond.methodLink RX4 169 yX4_isGroup ∈ g_WS := List.mem_filter.mpr ⟨k_t4 (List.mem_of_getElem? (i := 206) (by decide +kernel)), rfl⟩
theorem k_830 : Cond.methodLink RX4 195 yX4_whyNoMarriage ∈ g_WS := List.mem_filter.mpr ⟨k_t4 (List.mem_of_getElem? (i := 210) (by decide +kernel)), rfl⟩
theorem k_831 : Cond.methodLink RX4 64 yX4_sharedIn ∈ g_WS := List.mem_filter.mpr ⟨k_t4 (List.mem_of_getElem? (i := 214) (by decide +kernel)), rfl⟩
theorem k_832 : Cond.methodLink RX4 106 yX4_isInPlace ∈ g_WS := List.mem_filter.mpr ⟨k_t4 (List.mem_of_getElem? (i := 218) (by decide +kernel)), rfl⟩
theorem k_833 : Cond.methodLink RX4 198 yX4_married ∈ g_WS := List.mem_filter.mpr ⟨k_t4 (List.mem_of_getElem? (i := 222) (by decide +kernel)), rfl⟩
theorem k_834 : Cond.methodLink RX4 109 yX4_valueOf ∈ g_WS := List.mem_filter.mpr ⟨k_t4 (List.mem_of_getElem? (i := 226) (by decide +kernel)), rfl⟩
theorem k_835 : Cond.methodLink RL 108 yX4_about ∈ g_WS := List.mem_filter.mpr ⟨k_t4 (List.mem_of_getElem? (i := 230) (by decide +kernel)), rfl⟩
theorem k_836 : Cond.methodLink RX4 160 yX4_isWidow ∈ g_WS := List.mem_filter.mpr ⟨k_t4 (List.mem_of_getElem? (i := 234) (by decide +kernel)), rfl⟩
theorem k_837 : Cond.methodLink RX4 67 yX4_runOf ∈ g_WS := List.mem_filter.mpr ⟨k_t4 (List.mem_of_getElem? (i := 238) (by decide +kernel)), rfl⟩
theorem k_838 : Cond.methodLink RX4 163 yX4_freeRuns ∈ g_WS := List.mem_filter.mpr ⟨k_t5 (List.mem_of_getElem? (i := 2) (by decide +kernel)), rfl⟩
theorem k_839 : Cond.methodLink RL 112 yX4_page ∈ g_WS := List.mem_filter.mpr ⟨k_t5 (List.mem_of_getElem? (i := 6) (by decide +kernel)), rfl⟩
theorem k_840 : Cond.methodLink RL 116 yX4_user ∈ g_WS := List.mem_filter.mpr ⟨k_t5 (List.mem_of_getElem? (i := 10) (by decide +kernel)), rfl⟩
theorem k_841 : Cond.methodLink RL 119 yX4_group ∈ g_WS := List.mem_filter.mpr ⟨k_t5 (List.mem_of_getElem? (i := 14) (by decide +kernel)), rfl⟩
theorem k_842 : Cond.methodLink RL 122 yX4_write ∈ g_WS := List.mem_filter.mpr ⟨k_t5 (List.mem_of_getElem? (i := 18) (by decide +kernel)), rfl⟩
theorem k_843 : Cond.methodLink RX4 176 yX4_remember ∈ g_WS := List.mem_filter.mpr ⟨k_t5 (List.mem_of_getElem? (i := 22) (by decide +kernel)), rfl⟩
theorem k_844 : Cond.methodLink RX4 172 yX4_copy ∈ g_WS := List.mem_filter.mpr ⟨k_t5 (List.mem_of_getElem? (i := 26) (by decide +kernel)), rfl⟩
theorem k_845 : Cond.methodLink RL 125 yX4_fork ∈ g_WS := List.mem_filter.mpr ⟨k_t5 (List.mem_of_getElem? (i := 29) (by decide +kernel)), rfl⟩
theorem k_846 : Cond.methodLink RL 128 yX4_exit ∈ g_WS := List.mem_filter.mpr ⟨k_t5 (List.mem_of_getElem? (i := 33) (by decide +kernel)), rfl⟩
theorem k_847 : Cond.methodLink RL 131 yX4_marry ∈ g_WS := List.mem_filter.mpr ⟨k_t5 (List.mem_of_getElem? (i := 37) (by decide +kernel)), rfl⟩
theorem k_848 : Cond.methodLink RL 134 yX4_tear ∈ g_WS := List.mem_filter.mpr ⟨k_t5 (List.mem_of_getElem? (i := 41) (by decide +kernel)), rfl⟩
theorem k_849 : Cond.methodLink RX4 121 yX4_torn ∈ g_WS := List.mem_filter.mpr ⟨k_t5 (List.mem_of_getElem? (i := 45) (by decide +kernel)), rfl⟩
theorem k_850 : Cond.methodLink RL 137 yX4_press ∈ g_WS := List.mem_filter.mpr ⟨k_t5 (List.mem_of_getElem? (i := 49) (by decide +kernel)), rfl⟩
theorem k_851 : Cond.methodLink RX4 201 yX4_pressed ∈ g_WS := List.mem_filter.mpr ⟨k_t5 (List.mem_of_getElem? (i := 53) (by decide +kernel)), rfl⟩
theorem k_852 : Cond.methodLink RX4 115 yX4_firstLoser ∈ g_WS := List.mem_filter.mpr ⟨k_t5 (List.mem_of_getElem? (i := 57) (by decide +kernel)), rfl⟩
theorem k_853 : Cond.methodLink RX4 112 yX4_isEmpty ∈ g_WS := List.mem_filter.mpr ⟨k_t5 (List.mem_of_getElem? (i := 61) (by decide +kernel)), rfl⟩
theorem k_854 : Cond.methodLink RX4 118 yX4_firstTorn ∈ g_WS := List.mem_filter.mpr ⟨k_t5 (List.mem_of_getElem? (i := 65) (by decide +kernel)), rfl⟩
theorem k_855 : Cond.methodLink RL 142 yX4_setEager ∈ g_WS := List.mem_filter.mpr ⟨k_t5 (List.mem_of_getElem? (i := 69) (by decide +kernel)), rfl⟩
theorem k_856 : Cond.methodLink RL 145 yX4_undo ∈ g_WS := List.mem_filter.mpr ⟨k_t5 (List.mem_of_getElem? (i := 73) (by decide +kernel)), rfl⟩
theorem k_857 : Cond.methodLink RL 148 yX4_whyNot ∈ g_WS := List.mem_filter.mpr ⟨k_t5 (List.mem_of_getElem? (i := 77) (by decide +kernel)), rfl⟩
theorem k_858 : Cond.methodLink RL 151 yX4_wouldDo ∈ g_WS := List.mem_filter.mpr ⟨k_t5 (List.mem_of_getElem? (i := 81) (by decide +kernel)), rfl⟩
theorem k_859 : Cond.methodLink RL 155 yX4_marriages ∈ g_WS := List.mem_filter.mpr ⟨k_t5 (List.mem_of_getElem? (i := 85) (by decide +kernel)), rfl⟩
theorem k_860 : Cond.methodLink RX4 204 yX4_firstToMarry ∈ g_WS := List.mem_filter.mpr ⟨k_t5 (List.mem_of_getElem? (i := 89) (by decide +kernel)), rfl⟩
theorem k_861 : Cond.methodLink RL 159 yX4_mostFree ∈ g_WS := List.mem_filter.mpr ⟨k_t5 (List.mem_of_getElem? (i := 93) (by decide +kernel)), rfl⟩
theorem k_862 : Cond.methodLink RL 162 yX4_writable ∈ g_WS := List.mem_filter.mpr ⟨k_t5 (List.mem_of_getElem? (i := 97) (by decide +kernel)), rfl⟩
theorem k_863 : Cond.methodLink RL 168 yX4_runScript ∈ g_WS := List.mem_filter.mpr ⟨k_t5 (List.mem_of_getElem? (i := 101) (by decide +kernel)), rfl⟩
theorem k_864 : Cond.methodLink RX4 223 yX4_commands ∈ g_WS := List.mem_filter.mpr ⟨k_t5 (List.mem_of_getElem? (i := 108) (by decide +kernel)), rfl⟩
theorem k_865 : Cond.methodLink RX4 208 yX4_tryTear ∈ g_WS := List.mem_filter.mpr ⟨k_t5 (List.mem_of_getElem? (i := 112) (by decide +kernel)), rfl⟩
theorem k_866 : Cond.methodLink RX4 211 yX4_tryPress ∈ g_WS := List.mem_filter.mpr ⟨k_t5 (List.mem_of_getElem? (i := 116) (by decide +kernel)), rfl⟩
theorem k_867 : Cond.methodLink RX4 214 yX4_hasValue ∈ g_WS := List.mem_filter.mpr ⟨k_t5 (List.mem_of_getElem? (i := 120) (by decide +kernel)), rfl⟩
theorem k_868 : Cond.methodLink RL 172 yX4_simulate ∈ g_WS := List.mem_filter.mpr ⟨k_t5 (List.mem_of_getElem? (i := 124) (by decide +kernel)), rfl⟩
theorem k_869 : Cond.methodLink RX4 230 yX4_step ∈ g_WS := List.mem_filter.mpr ⟨k_t5 (List.mem_of_getElem? (i := 130) (by decide +kernel)), rfl⟩
theorem k_870 : Cond.methodLink RL 175 yX4_save ∈ g_WS := List.mem_filter.mpr ⟨k_t5 (List.mem_of_getElem? (i := 134) (by decide +kernel)), rfl⟩
theorem k_871 : Cond.methodLink RX4 233 yX4_isSlot ∈ g_WS := List.mem_filter.mpr ⟨k_t5 (List.mem_of_getElem? (i := 138) (by decide +kernel)), rfl⟩
theorem k_872 : Cond.methodLink RL 178 yX4_restore ∈ g_WS := List.mem_filter.mpr ⟨k_t5 (List.mem_of_getElem? (i := 141) (by decide +kernel)), rfl⟩
theorem k_873 : Cond.classLink RL 8 RX3 ∈ g_WS := List.mem_filter.mpr ⟨k_t1 (List.mem_of_getElem? (i := 15) (by decide +kernel)), rfl⟩
theorem k_874 : Cond.classLink RX3 7 RX2 ∈ g_WS := List.mem_filter.mpr ⟨k_t1 (List.mem_of_getElem? (i := 23) (by decide +kernel)), rfl⟩
theorem k_875 : Cond.arrayClass .char ∈ g_WS := List.mem_filter.mpr ⟨k_t1 (List.mem_of_getElem? (i := 36) (by decide +kernel)), rfl⟩
theorem k_876 : Cond.classLink RX3 16 RX1 ∈ g_WS := List.mem_filter.mpr ⟨k_t1 (List.mem_of_getElem? (i := 37) (by decide +kernel)), rfl⟩
theorem k_877 : Cond.arrayClass .int ∈ g_WS := List.mem_filter.mpr ⟨k_t1 (List.mem_of_getElem? (i := 83) (by decide +kernel)), rfl⟩
theorem k_878 : Cond.classLink RX3 26 RX0 ∈ g_WS := List.mem_filter.mpr ⟨k_t1 (List.mem_of_getElem? (i := 84) (by decide +kernel)), rfl⟩
theorem k_879 : Cond.classLink RX0 9 RX1 ∈ g_WS := List.mem_filter.mpr ⟨k_t1 (List.mem_of_getElem? (i := 90) (by decide +kernel)), rfl⟩
theorem k_880 : Cond.arrayClass .boolean ∈ g_WS := List.mem_filter.mpr ⟨k_t1 (List.mem_of_getElem? (i := 122) (by decide +kernel)), rfl⟩
theorem k_881 : Cond.classLink RL 13 "java/lang/IllegalArgumentException" ∈ g_WS := List.mem_filter.mpr ⟨k_t2 (List.mem_of_getElem? (i := 56) (by decide +kernel)), rfl⟩
theorem k_882 : Cond.classLink RL 15 "java/lang/IllegalStateException" ∈ g_WS := List.mem_filter.mpr ⟨k_t2 (List.mem_of_getElem? (i := 57) (by decide +kernel)), rfl⟩
theorem k_883 : Cond.classLink RX3 41 "java/lang/IllegalArgumentException" ∈ g_WS := List.mem_filter.mpr ⟨k_t2 (List.mem_of_getElem? (i := 62) (by decide +kernel)), rfl⟩
theorem k_884 : Cond.arrayClass .byte ∈ g_WS := List.mem_filter.mpr ⟨k_t2 (List.mem_of_getElem? (i := 129) (by decide +kernel)), rfl⟩
theorem k_885 : Cond.classLink RX3 52 "java/lang/IllegalStateException" ∈ g_WS := List.mem_filter.mpr ⟨k_t2 (List.mem_of_getElem? (i := 134) (by decide +kernel)), rfl⟩
theorem k_886 : Cond.constant RJ6 265 (1431655765 : Int32) ∈ g_WS := List.mem_filter.mpr ⟨k_t2 (List.mem_of_getElem? (i := 229) (by decide +kernel)), rfl⟩
theorem k_887 : Cond.constant RJ6 266 (858993459 : Int32) ∈ g_WS := List.mem_filter.mpr ⟨k_t2 (List.mem_of_getElem? (i := 230) (by decide +kernel)), rfl⟩
theorem k_888 : Cond.constant RJ6 267 (252645135 : Int32) ∈ g_WS := List.mem_filter.mpr ⟨k_t2 (List.mem_of_getElem? (i := 231) (by decide +kernel)), rfl⟩
theorem k_889 : Cond.classLink RL 28 "java/lang/IndexOutOfBoundsException" ∈ g_WS := List.mem_filter.mpr ⟨k_t3 (List.mem_of_getElem? (i := 33) (by decide +kernel)), rfl⟩
theorem k_890 : Cond.classLink RX3 143 "java/lang/IndexOutOfBoundsException" ∈ g_WS := List.mem_filter.mpr ⟨k_t3 (List.mem_of_getElem? (i := 43) (by decide +kernel)), rfl⟩
theorem k_891 : Cond.constantLong RX3 247 (100000 : Int64) ∈ g_WS := List.mem_filter.mpr ⟨k_t3 (List.mem_of_getElem? (i := 209) (by decide +kernel)), rfl⟩
theorem k_892 : Cond.constantLong RX3 254 (6364136223846793005 : Int64) ∈ g_WS := List.mem_filter.mpr ⟨k_t3 (List.mem_of_getElem? (i := 223) (by decide +kernel)), rfl⟩
theorem k_893 : Cond.constantLong RX3 256 (1442695040888963407 : Int64) ∈ g_WS := List.mem_filter.mpr ⟨k_t3 (List.mem_of_getElem? (i := 224) (by decide +kernel)), rfl⟩
theorem k_894 : Cond.classLink RL 82 RX4 ∈ g_WS := List.mem_filter.mpr ⟨k_t4 (List.mem_of_getElem? (i := 10) (by decide +kernel)), rfl⟩
theorem k_895 : Cond.constantLong RX4 217 (100000 : Int64) ∈ g_WS := List.mem_filter.mpr ⟨k_t5 (List.mem_of_getElem? (i := 105) (by decide +kernel)), rfl⟩
theorem k_896 : Cond.constantLong RX4 219 (10000000000 : Int64) ∈ g_WS := List.mem_filter.mpr ⟨k_t5 (List.mem_of_getElem? (i := 106) (by decide +kernel)), rfl⟩
theorem k_897 : Cond.constantLong RX4 221 (1000000000000000 : Int64) ∈ g_WS := List.mem_filter.mpr ⟨k_t5 (List.mem_of_getElem? (i := 107) (by decide +kernel)), rfl⟩
theorem k_898 : Cond.constantLong RX4 226 (6364136223846793005 : Int64) ∈ g_WS := List.mem_filter.mpr ⟨k_t5 (List.mem_of_getElem? (i := 128) (by decide +kernel)), rfl⟩
theorem k_899 : Cond.constantLong RX4 228 (1442695040888963407 : Int64) ∈ g_WS := List.mem_filter.mpr ⟨k_t5 (List.mem_of_getElem? (i := 129) (by decide +kernel)), rfl⟩
theorem k_900 : Cond.constantLong RL 163 (4294967295 : Int64) ∈ g_WS := List.mem_filter.mpr ⟨k_t5 (List.mem_of_getElem? (i := 145) (by decide +kernel)), rfl⟩
theorem k_901 : Cond.arrayClass .long ∈ g_WS := List.mem_filter.mpr ⟨k_t5 (List.mem_of_getElem? (i := 146) (by decide +kernel)), rfl⟩
theorem k_902 : Cond.instanceMethod objectInit ∈ g_WS := List.mem_filter.mpr ⟨k_t1 (List.mem_of_getElem? (i := 21) (by decide +kernel)), rfl⟩
theorem k_903 : Cond.code objectInit ⟨#[0xb1]⟩ 1 none ∈ g_WS := List.mem_filter.mpr ⟨k_t1 (List.mem_of_getElem? (i := 22) (by decide +kernel)), rfl⟩
theorem k_904 : Cond.static Lib.Math.min.name ∈ g_WS := List.mem_filter.mpr ⟨k_t1 (List.mem_of_getElem? (i := 174) (by decide +kernel)), rfl⟩
theorem k_905 : Cond.initialized RJ9 ∈ g_WS := List.mem_filter.mpr ⟨k_t1 (List.mem_of_getElem? (i := 14) (by decide +kernel)), rfl⟩
theorem k_906 : Cond.code Lib.Math.min.name Lib.Math.min.code 2 (some .int) ∈ g_WS := List.mem_filter.mpr ⟨k_t1 (List.mem_of_getElem? (i := 175) (by decide +kernel)), rfl⟩
theorem k_907 : Cond.native arraycopyName ∈ g_WS := List.mem_filter.mpr ⟨k_t1 (List.mem_of_getElem? (i := 172) (by decide +kernel)), rfl⟩
theorem k_908 : Cond.static arraycopyName ∈ g_WS := List.mem_filter.mpr ⟨k_t1 (List.mem_of_getElem? (i := 171) (by decide +kernel)), rfl⟩
theorem k_909 : Cond.initialized RJ10 ∈ g_WS := List.mem_filter.mpr ⟨k_t1 (List.mem_of_getElem? (i := 13) (by decide +kernel)), rfl⟩
theorem k_910 : Cond.instantiable RX3 6 ∈ g_WS := List.mem_filter.mpr ⟨k_t1 (List.mem_of_getElem? (i := 16) (by decide +kernel)), rfl⟩
theorem k_911 : Cond.instantiable RX2 2 ∈ g_WS := List.mem_filter.mpr ⟨k_t1 (List.mem_of_getElem? (i := 24) (by decide +kernel)), rfl⟩
theorem k_912 : Cond.instantiable RX1 10 ∈ g_WS := List.mem_filter.mpr ⟨k_t1 (List.mem_of_getElem? (i := 38) (by decide +kernel)), rfl⟩
theorem k_913 : Cond.instantiable RX0 3 ∈ g_WS := List.mem_filter.mpr ⟨k_t1 (List.mem_of_getElem? (i := 85) (by decide +kernel)), rfl⟩
theorem k_914 : Cond.instantiable RX4 10 ∈ g_WS := List.mem_filter.mpr ⟨k_t4 (List.mem_of_getElem? (i := 11) (by decide +kernel)), rfl⟩
theorem k_915 : Cond.initialized "java/lang/IllegalArgumentException" ∈ g_WS := List.mem_filter.mpr ⟨k_t1 (List.mem_of_getElem? (i := 9) (by decide +kernel)), rfl⟩
theorem k_916 : Cond.initialized "java/lang/IllegalStateException" ∈ g_WS := List.mem_filter.mpr ⟨k_t1 (List.mem_of_getElem? (i := 10) (by decide +kernel)), rfl⟩
theorem k_917 : Cond.initialized "java/lang/IndexOutOfBoundsException" ∈ g_WS := List.mem_filter.mpr ⟨k_t1 (List.mem_of_getElem? (i := 12) (by decide +kernel)), rfl⟩
theorem k_lay_0_0 : u_lay RX0 TX0 0 ∈ g_WS := List.mem_filter.mpr ⟨k_t1 (List.mem_of_getElem? (i := 96) (by decide +kernel)), by decide +kernel⟩
theorem k_lay_0_1 : u_lay RX0 TX0 1 ∈ g_WS := List.mem_filter.mpr ⟨k_t1 (List.mem_of_getElem? (i := 98) (by decide +kernel)), by decide +kernel⟩
theorem k_lay_0_2 : u_lay RX0 TX0 2 ∈ g_WS := List.mem_filter.mpr ⟨k_t1 (List.mem_of_getElem? (i := 100) (by decide +kernel)), by decide +kernel⟩
theorem k_ws_0 : ∀ wd ∈ u_ws RX0 TX0 3, wd ∈ g_WS := by
  intro wd h
  obtain ⟨j, hj, rfl⟩ := List.mem_map.mp h
  have hj := List.mem_range.mp hj
  rcases (show j = 0 ∨ j = 1 ∨ j = 2 by omega) with rfl | rfl | rfl
  · exact k_lay_0_0
  · exact k_lay_0_1
  · exact k_lay_0_2
theorem k_lay_1_0 : u_lay RX1 TX1 0 ∈ g_WS := List.mem_filter.mpr ⟨k_t1 (List.mem_of_getElem? (i := 62) (by decide +kernel)), by decide +kernel⟩
theorem k_lay_1_1 : u_lay RX1 TX1 1 ∈ g_WS := List.mem_filter.mpr ⟨k_t1 (List.mem_of_getElem? (i := 64) (by decide +kernel)), by decide +kernel⟩
theorem k_lay_1_2 : u_lay RX1 TX1 2 ∈ g_WS := List.mem_filter.mpr ⟨k_t1 (List.mem_of_getElem? (i := 66) (by decide +kernel)), by decide +kernel⟩
theorem k_lay_1_3 : u_lay RX1 TX1 3 ∈ g_WS := List.mem_filter.mpr ⟨k_t1 (List.mem_of_getElem? (i := 68) (by decide +kernel)), by decide +kernel⟩
theorem k_lay_1_4 : u_lay RX1 TX1 4 ∈ g_WS := List.mem_filter.mpr ⟨k_t1 (List.mem_of_getElem? (i := 70) (by decide +kernel)), by decide +kernel⟩
theorem k_lay_1_5 : u_lay RX1 TX1 5 ∈ g_WS := List.mem_filter.mpr ⟨k_t1 (List.mem_of_getElem? (i := 72) (by decide +kernel)), by decide +kernel⟩
theorem k_lay_1_6 : u_lay RX1 TX1 6 ∈ g_WS := List.mem_filter.mpr ⟨k_t1 (List.mem_of_getElem? (i := 74) (by decide +kernel)), by decide +kernel⟩
theorem k_lay_1_7 : u_lay RX1 TX1 7 ∈ g_WS := List.mem_filter.mpr ⟨k_t1 (List.mem_of_getElem? (i := 76) (by decide +kernel)), by decide +kernel⟩
theorem k_lay_1_8 : u_lay RX1 TX1 8 ∈ g_WS := List.mem_filter.mpr ⟨k_t1 (List.mem_of_getElem? (i := 78) (by decide +kernel)), by decide +kernel⟩
theorem k_lay_1_9 : u_lay RX1 TX1 9 ∈ g_WS := List.mem_filter.mpr ⟨k_t1 (List.mem_of_getElem? (i := 80) (by decide +kernel)), by decide +kernel⟩
theorem k_ws_1 : ∀ wd ∈ u_ws RX1 TX1 10, wd ∈ g_WS := by
  intro wd h
  obtain ⟨j, hj, rfl⟩ := List.mem_map.mp h
  have hj := List.mem_range.mp hj
  rcases (show j = 0 ∨ j = 1 ∨ j = 2 ∨ j = 3 ∨ j = 4 ∨ j = 5 ∨ j = 6 ∨ j = 7 ∨ j = 8 ∨ j = 9 by omega) with rfl | rfl | rfl | rfl | rfl | rfl | rfl | rfl | rfl | rfl
  · exact k_lay_1_0
  · exact k_lay_1_1
  · exact k_lay_1_2
  · exact k_lay_1_3
  · exact k_lay_1_4
  · exact k_lay_1_5
  · exact k_lay_1_6
  · exact k_lay_1_7
  · exact k_lay_1_8
  · exact k_lay_1_9
theorem k_lay_2_0 : u_lay RX2 TX2 0 ∈ g_WS := List.mem_filter.mpr ⟨k_t1 (List.mem_of_getElem? (i := 31) (by decide +kernel)), by decide +kernel⟩
theorem k_lay_2_1 : u_lay RX2 TX2 1 ∈ g_WS := List.mem_filter.mpr ⟨k_t1 (List.mem_of_getElem? (i := 33) (by decide +kernel)), by decide +kernel⟩
theorem k_ws_2 : ∀ wd ∈ u_ws RX2 TX2 2, wd ∈ g_WS := by
  intro wd h
  obtain ⟨j, hj, rfl⟩ := List.mem_map.mp h
  have hj := List.mem_range.mp hj
  rcases (show j = 0 ∨ j = 1 by omega) with rfl | rfl
  · exact k_lay_2_0
  · exact k_lay_2_1
theorem k_lay_3_0 : u_lay RX3 TX3 0 ∈ g_WS := List.mem_filter.mpr ⟨k_t1 (List.mem_of_getElem? (i := 109) (by decide +kernel)), by decide +kernel⟩
theorem k_lay_3_1 : u_lay RX3 TX3 1 ∈ g_WS := List.mem_filter.mpr ⟨k_t1 (List.mem_of_getElem? (i := 111) (by decide +kernel)), by decide +kernel⟩
theorem k_lay_3_2 : u_lay RX3 TX3 2 ∈ g_WS := List.mem_filter.mpr ⟨k_t1 (List.mem_of_getElem? (i := 113) (by decide +kernel)), by decide +kernel⟩
theorem k_lay_3_3 : u_lay RX3 TX3 3 ∈ g_WS := List.mem_filter.mpr ⟨k_t1 (List.mem_of_getElem? (i := 115) (by decide +kernel)), by decide +kernel⟩
theorem k_lay_3_4 : u_lay RX3 TX3 4 ∈ g_WS := List.mem_filter.mpr ⟨k_t1 (List.mem_of_getElem? (i := 117) (by decide +kernel)), by decide +kernel⟩
theorem k_lay_3_5 : u_lay RX3 TX3 5 ∈ g_WS := List.mem_filter.mpr ⟨k_t1 (List.mem_of_getElem? (i := 119) (by decide +kernel)), by decide +kernel⟩
theorem k_ws_3 : ∀ wd ∈ u_ws RX3 TX3 6, wd ∈ g_WS := by
  intro wd h
  obtain ⟨j, hj, rfl⟩ := List.mem_map.mp h
  have hj := List.mem_range.mp hj
  rcases (show j = 0 ∨ j = 1 ∨ j = 2 ∨ j = 3 ∨ j = 4 ∨ j = 5 by omega) with rfl | rfl | rfl | rfl | rfl | rfl
  · exact k_lay_3_0
  · exact k_lay_3_1
  · exact k_lay_3_2
  · exact k_lay_3_3
  · exact k_lay_3_4
  · exact k_lay_3_5
theorem k_lay_4_0 : u_lay RX4 TX4 0 ∈ g_WS := List.mem_filter.mpr ⟨k_t4 (List.mem_of_getElem? (i := 30) (by decide +kernel)), by decide +kernel⟩
theorem k_lay_4_1 : u_lay RX4 TX4 1 ∈ g_WS := List.mem_filter.mpr ⟨k_t4 (List.mem_of_getElem? (i := 32) (by decide +kernel)), by decide +kernel⟩
theorem k_lay_4_2 : u_lay RX4 TX4 2 ∈ g_WS := List.mem_filter.mpr ⟨k_t4 (List.mem_of_getElem? (i := 34) (by decide +kernel)), by decide +kernel⟩
theorem k_lay_4_3 : u_lay RX4 TX4 3 ∈ g_WS := List.mem_filter.mpr ⟨k_t4 (List.mem_of_getElem? (i := 36) (by decide +kernel)), by decide +kernel⟩
theorem k_lay_4_4 : u_lay RX4 TX4 4 ∈ g_WS := List.mem_filter.mpr ⟨k_t4 (List.mem_of_getElem? (i := 38) (by decide +kernel)), by decide +kernel⟩
theorem k_lay_4_5 : u_lay RX4 TX4 5 ∈ g_WS := List.mem_filter.mpr ⟨k_t4 (List.mem_of_getElem? (i := 40) (by decide +kernel)), by decide +kernel⟩
theorem k_lay_4_6 : u_lay RX4 TX4 6 ∈ g_WS := List.mem_filter.mpr ⟨k_t4 (List.mem_of_getElem? (i := 42) (by decide +kernel)), by decide +kernel⟩
theorem k_lay_4_7 : u_lay RX4 TX4 7 ∈ g_WS := List.mem_filter.mpr ⟨k_t4 (List.mem_of_getElem? (i := 44) (by decide +kernel)), by decide +kernel⟩
theorem k_lay_4_8 : u_lay RX4 TX4 8 ∈ g_WS := List.mem_filter.mpr ⟨k_t4 (List.mem_of_getElem? (i := 46) (by decide +kernel)), by decide +kernel⟩
theorem k_lay_4_9 : u_lay RX4 TX4 9 ∈ g_WS := List.mem_filter.mpr ⟨k_t4 (List.mem_of_getElem? (i := 48) (by decide +kernel)), by decide +kernel⟩
theorem k_ws_4 : ∀ wd ∈ u_ws RX4 TX4 10, wd ∈ g_WS := by
  intro wd h
  obtain ⟨j, hj, rfl⟩ := List.mem_map.mp h
  have hj := List.mem_range.mp hj
  rcases (show j = 0 ∨ j = 1 ∨ j = 2 ∨ j = 3 ∨ j = 4 ∨ j = 5 ∨ j = 6 ∨ j = 7 ∨ j = 8 ∨ j = 9 by omega) with rfl | rfl | rfl | rfl | rfl | rfl | rfl | rfl | rfl | rfl
  · exact k_lay_4_0
  · exact k_lay_4_1
  · exact k_lay_4_2
  · exact k_lay_4_3
  · exact k_lay_4_4
  · exact k_lay_4_5
  · exact k_lay_4_6
  · exact k_lay_4_7
  · exact k_lay_4_8
  · exact k_lay_4_9
theorem f_X2_9 : g_F RX2 2 0 9 := ⟨RX2, TX2, 2, rfl, k_ws_2, by decide, k_0⟩
theorem ft_X2_9 : g_Ft RX2 2 0 9 true (.array .char) := ⟨RX2, TX2, 2, tyX2, rfl, k_ws_2, by decide, k_0, tyX2_ok, nmX2, rfl, rfl, fun _ => rfl⟩
theorem f_X2_15 : g_F RX2 2 1 15 := ⟨RX2, TX2, 2, rfl, k_ws_2, by decide, k_1⟩
theorem ft_X2_15 : g_Ft RX2 2 1 15 false .int := ⟨RX2, TX2, 2, tyX2, rfl, k_ws_2, by decide, k_1, tyX2_ok, nmX2, rfl, rfl, fun h => nomatch h⟩
theorem f_X1_9 : g_F RX1 1 0 9 := ⟨RX1, TX1, 10, rfl, k_ws_1, by decide, k_2⟩
theorem ft_X1_9 : g_Ft RX1 1 0 9 true (.array .int) := ⟨RX1, TX1, 10, tyX1, rfl, k_ws_1, by decide, k_2, tyX1_ok, nmX1, rfl, rfl, fun _ => rfl⟩
theorem f_X1_15 : g_F RX1 1 1 15 := ⟨RX1, TX1, 10, rfl, k_ws_1, by decide, k_3⟩
theorem ft_X1_15 : g_Ft RX1 1 1 15 true (.array .int) := ⟨RX1, TX1, 10, tyX1, rfl, k_ws_1, by decide, k_3, tyX1_ok, nmX1, rfl, rfl, fun _ => rfl⟩
theorem f_X1_18 : g_F RX1 1 2 18 := ⟨RX1, TX1, 10, rfl, k_ws_1, by decide, k_4⟩
theorem ft_X1_18 : g_Ft RX1 1 2 18 true (.array .int) := ⟨RX1, TX1, 10, tyX1, rfl, k_ws_1, by decide, k_4, tyX1_ok, nmX1, rfl, rfl, fun _ => rfl⟩
theorem f_X1_24 : g_F RX1 1 3 24 := ⟨RX1, TX1, 10, rfl, k_ws_1, by decide, k_5⟩
theorem ft_X1_24 : g_Ft RX1 1 3 24 false .int := ⟨RX1, TX1, 10, tyX1, rfl, k_ws_1, by decide, k_5, tyX1_ok, nmX1, rfl, rfl, fun h => nomatch h⟩
theorem f_X1_28 : g_F RX1 1 4 28 := ⟨RX1, TX1, 10, rfl, k_ws_1, by decide, k_6⟩
theorem ft_X1_28 : g_Ft RX1 1 4 28 false .int := ⟨RX1, TX1, 10, tyX1, rfl, k_ws_1, by decide, k_6, tyX1_ok, nmX1, rfl, rfl, fun h => nomatch h⟩
theorem f_X1_31 : g_F RX1 1 5 31 := ⟨RX1, TX1, 10, rfl, k_ws_1, by decide, k_7⟩
theorem ft_X1_31 : g_Ft RX1 1 5 31 false .boolean := ⟨RX1, TX1, 10, tyX1, rfl, k_ws_1, by decide, k_7, tyX1_ok, nmX1, rfl, rfl, fun h => nomatch h⟩
theorem f_X3_117 : g_F RX3 1 5 117 := ⟨RX1, TX1, 10, rfl, k_ws_1, by decide, k_8⟩
theorem ft_X3_117 : g_Ft RX3 1 5 117 false .boolean := ⟨RX1, TX1, 10, tyX1, rfl, k_ws_1, by decide, k_8, tyX1_ok, nmX1, rfl, rfl, fun h => nomatch h⟩
theorem f_X1_35 : g_F RX1 1 6 35 := ⟨RX1, TX1, 10, rfl, k_ws_1, by decide, k_9⟩
theorem ft_X1_35 : g_Ft RX1 1 6 35 false .int := ⟨RX1, TX1, 10, tyX1, rfl, k_ws_1, by decide, k_9, tyX1_ok, nmX1, rfl, rfl, fun h => nomatch h⟩
theorem f_X3_104 : g_F RX3 1 6 104 := ⟨RX1, TX1, 10, rfl, k_ws_1, by decide, k_10⟩
theorem ft_X3_104 : g_Ft RX3 1 6 104 false .int := ⟨RX1, TX1, 10, tyX1, rfl, k_ws_1, by decide, k_10, tyX1_ok, nmX1, rfl, rfl, fun h => nomatch h⟩
theorem f_X1_38 : g_F RX1 1 7 38 := ⟨RX1, TX1, 10, rfl, k_ws_1, by decide, k_11⟩
theorem ft_X1_38 : g_Ft RX1 1 7 38 false .int := ⟨RX1, TX1, 10, tyX1, rfl, k_ws_1, by decide, k_11, tyX1_ok, nmX1, rfl, rfl, fun h => nomatch h⟩
theorem f_X3_108 : g_F RX3 1 7 108 := ⟨RX1, TX1, 10, rfl, k_ws_1, by decide, k_12⟩
theorem ft_X3_108 : g_Ft RX3 1 7 108 false .int := ⟨RX1, TX1, 10, tyX1, rfl, k_ws_1, by decide, k_12, tyX1_ok, nmX1, rfl, rfl, fun h => nomatch h⟩
theorem f_X1_41 : g_F RX1 1 8 41 := ⟨RX1, TX1, 10, rfl, k_ws_1, by decide, k_13⟩
theorem ft_X1_41 : g_Ft RX1 1 8 41 false .int := ⟨RX1, TX1, 10, tyX1, rfl, k_ws_1, by decide, k_13, tyX1_ok, nmX1, rfl, rfl, fun h => nomatch h⟩
theorem f_X3_111 : g_F RX3 1 8 111 := ⟨RX1, TX1, 10, rfl, k_ws_1, by decide, k_14⟩
theorem ft_X3_111 : g_Ft RX3 1 8 111 false .int := ⟨RX1, TX1, 10, tyX1, rfl, k_ws_1, by decide, k_14, tyX1_ok, nmX1, rfl, rfl, fun h => nomatch h⟩
theorem f_X1_44 : g_F RX1 1 9 44 := ⟨RX1, TX1, 10, rfl, k_ws_1, by decide, k_15⟩
theorem ft_X1_44 : g_Ft RX1 1 9 44 false .int := ⟨RX1, TX1, 10, tyX1, rfl, k_ws_1, by decide, k_15, tyX1_ok, nmX1, rfl, rfl, fun h => nomatch h⟩
theorem f_X3_114 : g_F RX3 1 9 114 := ⟨RX1, TX1, 10, rfl, k_ws_1, by decide, k_16⟩
theorem ft_X3_114 : g_Ft RX3 1 9 114 false .int := ⟨RX1, TX1, 10, tyX1, rfl, k_ws_1, by decide, k_16, tyX1_ok, nmX1, rfl, rfl, fun h => nomatch h⟩
theorem f_X0_11 : g_F RX0 0 0 11 := ⟨RX0, TX0, 3, rfl, k_ws_0, by decide, k_17⟩
theorem ft_X0_11 : g_Ft RX0 0 0 11 true (.array (.object "PageMarriages$Memory")) := ⟨RX0, TX0, 3, tyX0, rfl, k_ws_0, by decide, k_17, tyX0_ok, nmX0, rfl, rfl, fun _ => rfl⟩
theorem f_X0_22 : g_F RX0 0 1 22 := ⟨RX0, TX0, 3, rfl, k_ws_0, by decide, k_18⟩
theorem ft_X0_22 : g_Ft RX0 0 1 22 false .int := ⟨RX0, TX0, 3, tyX0, rfl, k_ws_0, by decide, k_18, tyX0_ok, nmX0, rfl, rfl, fun h => nomatch h⟩
theorem f_X0_18 : g_F RX0 0 2 18 := ⟨RX0, TX0, 3, rfl, k_ws_0, by decide, k_19⟩
theorem ft_X0_18 : g_Ft RX0 0 2 18 false .int := ⟨RX0, TX0, 3, tyX0, rfl, k_ws_0, by decide, k_19, tyX0_ok, nmX0, rfl, rfl, fun h => nomatch h⟩
theorem f_X3_10 : g_F RX3 3 0 10 := ⟨RX3, TX3, 6, rfl, k_ws_3, by decide, k_20⟩
theorem ft_X3_10 : g_Ft RX3 3 0 10 true (.object "PageMarriages$Story") := ⟨RX3, TX3, 6, tyX3, rfl, k_ws_3, by decide, k_20, tyX3_ok, nmX3, rfl, rfl, fun _ => rfl⟩
theorem f_X3_19 : g_F RX3 3 1 19 := ⟨RX3, TX3, 6, rfl, k_ws_3, by decide, k_21⟩
theorem ft_X3_19 : g_Ft RX3 3 1 19 true (.object "PageMarriages$Memory") := ⟨RX3, TX3, 6, tyX3, rfl, k_ws_3, by decide, k_21, tyX3_ok, nmX3, rfl, rfl, fun _ => rfl⟩
theorem f_X3_23 : g_F RX3 3 2 23 := ⟨RX3, TX3, 6, rfl, k_ws_3, by decide, k_22⟩
theorem ft_X3_23 : g_Ft RX3 3 2 23 true (.object "PageMarriages$Memory") := ⟨RX3, TX3, 6, tyX3, rfl, k_ws_3, by decide, k_22, tyX3_ok, nmX3, rfl, rfl, fun _ => rfl⟩
theorem f_X3_29 : g_F RX3 3 3 29 := ⟨RX3, TX3, 6, rfl, k_ws_3, by decide, k_23⟩
theorem ft_X3_29 : g_Ft RX3 3 3 29 true (.object "PageMarriages$History") := ⟨RX3, TX3, 6, tyX3, rfl, k_ws_3, by decide, k_23, tyX3_ok, nmX3, rfl, rfl, fun _ => rfl⟩
theorem f_X3_33 : g_F RX3 3 4 33 := ⟨RX3, TX3, 6, rfl, k_ws_3, by decide, k_24⟩
theorem ft_X3_33 : g_Ft RX3 3 4 33 true (.array (.object "PageMarriages$Memory")) := ⟨RX3, TX3, 6, tyX3, rfl, k_ws_3, by decide, k_24, tyX3_ok, nmX3, rfl, rfl, fun _ => rfl⟩
theorem f_X3_37 : g_F RX3 3 5 37 := ⟨RX3, TX3, 6, rfl, k_ws_3, by decide, k_25⟩
theorem ft_X3_37 : g_Ft RX3 3 5 37 true (.array .boolean) := ⟨RX3, TX3, 6, tyX3, rfl, k_ws_3, by decide, k_25, tyX3_ok, nmX3, rfl, rfl, fun _ => rfl⟩
theorem f_X4_34 : g_F RX4 4 0 34 := ⟨RX4, TX4, 10, rfl, k_ws_4, by decide, k_26⟩
theorem ft_X4_34 : g_Ft RX4 4 0 34 false .int := ⟨RX4, TX4, 10, tyX4, rfl, k_ws_4, by decide, k_26, tyX4_ok, nmX4, rfl, rfl, fun h => nomatch h⟩
theorem f_X4_7 : g_F RX4 4 1 7 := ⟨RX4, TX4, 10, rfl, k_ws_4, by decide, k_27⟩
theorem ft_X4_7 : g_Ft RX4 4 1 7 true (.array .int) := ⟨RX4, TX4, 10, tyX4, rfl, k_ws_4, by decide, k_27, tyX4_ok, nmX4, rfl, rfl, fun _ => rfl⟩
theorem f_X4_13 : g_F RX4 4 2 13 := ⟨RX4, TX4, 10, rfl, k_ws_4, by decide, k_28⟩
theorem ft_X4_13 : g_Ft RX4 4 2 13 true (.array .int) := ⟨RX4, TX4, 10, tyX4, rfl, k_ws_4, by decide, k_28, tyX4_ok, nmX4, rfl, rfl, fun _ => rfl⟩
theorem f_X4_16 : g_F RX4 4 3 16 := ⟨RX4, TX4, 10, rfl, k_ws_4, by decide, k_29⟩
theorem ft_X4_16 : g_Ft RX4 4 3 16 true (.array .int) := ⟨RX4, TX4, 10, tyX4, rfl, k_ws_4, by decide, k_29, tyX4_ok, nmX4, rfl, rfl, fun _ => rfl⟩
theorem f_X4_19 : g_F RX4 4 4 19 := ⟨RX4, TX4, 10, rfl, k_ws_4, by decide, k_30⟩
theorem ft_X4_19 : g_Ft RX4 4 4 19 true (.array .int) := ⟨RX4, TX4, 10, tyX4, rfl, k_ws_4, by decide, k_30, tyX4_ok, nmX4, rfl, rfl, fun _ => rfl⟩
theorem f_X4_154 : g_F RX4 4 5 154 := ⟨RX4, TX4, 10, rfl, k_ws_4, by decide, k_31⟩
theorem ft_X4_154 : g_Ft RX4 4 5 154 false .int := ⟨RX4, TX4, 10, tyX4, rfl, k_ws_4, by decide, k_31, tyX4_ok, nmX4, rfl, rfl, fun h => nomatch h⟩
theorem f_X4_22 : g_F RX4 4 6 22 := ⟨RX4, TX4, 10, rfl, k_ws_4, by decide, k_32⟩
theorem ft_X4_22 : g_Ft RX4 4 6 22 true (.array .int) := ⟨RX4, TX4, 10, tyX4, rfl, k_ws_4, by decide, k_32, tyX4_ok, nmX4, rfl, rfl, fun _ => rfl⟩
theorem f_X4_25 : g_F RX4 4 7 25 := ⟨RX4, TX4, 10, rfl, k_ws_4, by decide, k_33⟩
theorem ft_X4_25 : g_Ft RX4 4 7 25 true (.array .int) := ⟨RX4, TX4, 10, tyX4, rfl, k_ws_4, by decide, k_33, tyX4_ok, nmX4, rfl, rfl, fun _ => rfl⟩
theorem f_X4_28 : g_F RX4 4 8 28 := ⟨RX4, TX4, 10, rfl, k_ws_4, by decide, k_34⟩
theorem ft_X4_28 : g_Ft RX4 4 8 28 true (.array .int) := ⟨RX4, TX4, 10, tyX4, rfl, k_ws_4, by decide, k_34, tyX4_ok, nmX4, rfl, rfl, fun _ => rfl⟩
theorem f_X4_124 : g_F RX4 4 9 124 := ⟨RX4, TX4, 10, rfl, k_ws_4, by decide, k_35⟩
theorem ft_X4_124 : g_Ft RX4 4 9 124 false .int := ⟨RX4, TX4, 10, tyX4, rfl, k_ws_4, by decide, k_35, tyX4_ok, nmX4, rfl, rfl, fun h => nomatch h⟩
theorem ok_X0_init : g_ok M_X0_init := ⟨by decide +kernel, (by rw [if_pos (show mH M_X0_init = [] from by decide)]; exact k_36), k_37, by decide +kernel⟩
theorem okI_X0_init : g_okI M_X0_init 0 := ⟨ok_X0_init, k_38, rfl, rfl, by decide +kernel⟩
theorem ok_X0_size : g_ok M_X0_size := ⟨by decide +kernel, (by rw [if_pos (show mH M_X0_size = [] from by decide)]; exact k_39), k_37, by decide +kernel⟩
theorem okV_X0_size : g_okV M_X0_size 0 := ⟨ok_X0_size, k_40, k_41, by decide +kernel⟩
theorem ok_X0_forget : g_ok M_X0_forget := ⟨by decide +kernel, (by rw [if_pos (show mH M_X0_forget = [] from by decide)]; exact k_42), k_37, by decide +kernel⟩
theorem okV_X0_forget : g_okV M_X0_forget 0 := ⟨ok_X0_forget, k_43, k_44, by decide +kernel⟩
theorem ok_X0_remember : g_ok M_X0_remember := ⟨by decide +kernel, (by rw [if_pos (show mH M_X0_remember = [] from by decide)]; exact k_45), k_37, by decide +kernel⟩
theorem okV_X0_remember : g_okV M_X0_remember 1 := ⟨ok_X0_remember, k_46, k_47, by decide +kernel⟩
theorem ok_X0_takeBack : g_ok M_X0_takeBack := ⟨by decide +kernel, (by rw [if_pos (show mH M_X0_takeBack = [] from by decide)]; exact k_48), k_37, by decide +kernel⟩
theorem okV_X0_takeBack : g_okV M_X0_takeBack 1 := ⟨ok_X0_takeBack, k_49, k_50, by decide +kernel⟩
theorem ok_X1_init : g_ok M_X1_init := ⟨by decide +kernel, (by rw [if_pos (show mH M_X1_init = [] from by decide)]; exact k_51), k_52, by decide +kernel⟩
theorem okI_X1_init : g_okI M_X1_init 0 := ⟨ok_X1_init, k_53, rfl, rfl, by decide +kernel⟩
theorem ok_X1_beginAnew : g_ok M_X1_beginAnew := ⟨by decide +kernel, (by rw [if_pos (show mH M_X1_beginAnew = [] from by decide)]; exact k_54), k_52, by decide +kernel⟩
theorem okV_X1_beginAnew : g_okV M_X1_beginAnew 0 := ⟨ok_X1_beginAnew, k_55, k_56, by decide +kernel⟩
theorem ok_X1_copyFrom : g_ok M_X1_copyFrom := ⟨by decide +kernel, (by rw [if_pos (show mH M_X1_copyFrom = [] from by decide)]; exact k_57), k_52, by decide +kernel⟩
theorem okV_X1_copyFrom : g_okV M_X1_copyFrom 1 := ⟨ok_X1_copyFrom, k_58, k_59, by decide +kernel⟩
theorem ok_X1_hasProcess : g_ok M_X1_hasProcess := ⟨by decide +kernel, (by rw [if_pos (show mH M_X1_hasProcess = [] from by decide)]; exact k_60), k_52, by decide +kernel⟩
theorem okV_X1_hasProcess : g_okV M_X1_hasProcess 1 := ⟨ok_X1_hasProcess, k_61, k_62, by decide +kernel⟩
theorem ok_X1_hasPage : g_ok M_X1_hasPage := ⟨by decide +kernel, (by rw [if_pos (show mH M_X1_hasPage = [] from by decide)]; exact k_63), k_52, by decide +kernel⟩
theorem okV_X1_hasPage : g_okV M_X1_hasPage 2 := ⟨ok_X1_hasPage, k_64, k_65, by decide +kernel⟩
theorem ok_X1_hasGroup : g_ok M_X1_hasGroup := ⟨by decide +kernel, (by rw [if_pos (show mH M_X1_hasGroup = [] from by decide)]; exact k_66), k_52, by decide +kernel⟩
theorem okV_X1_hasGroup : g_okV M_X1_hasGroup 2 := ⟨ok_X1_hasGroup, k_67, k_68, by decide +kernel⟩
theorem ok_X1_processes : g_ok M_X1_processes := ⟨by decide +kernel, (by rw [if_pos (show mH M_X1_processes = [] from by decide)]; exact k_69), k_52, by decide +kernel⟩
theorem okV_X1_processes : g_okV M_X1_processes 0 := ⟨ok_X1_processes, k_70, k_71, by decide +kernel⟩
theorem ok_X1_freeFrames : g_ok M_X1_freeFrames := ⟨by decide +kernel, (by rw [if_pos (show mH M_X1_freeFrames = [] from by decide)]; exact k_72), k_52, by decide +kernel⟩
theorem okV_X1_freeFrames : g_okV M_X1_freeFrames 0 := ⟨ok_X1_freeFrames, k_73, k_74, by decide +kernel⟩
theorem ok_X1_sharedFrames : g_ok M_X1_sharedFrames := ⟨by decide +kernel, (by rw [if_pos (show mH M_X1_sharedFrames = [] from by decide)]; exact k_75), k_52, by decide +kernel⟩
theorem okV_X1_sharedFrames : g_okV M_X1_sharedFrames 0 := ⟨ok_X1_sharedFrames, k_76, k_77, by decide +kernel⟩
theorem ok_X1_freeRuns : g_ok M_X1_freeRuns := ⟨by decide +kernel, (by rw [if_pos (show mH M_X1_freeRuns = [] from by decide)]; exact k_78), k_52, by decide +kernel⟩
theorem okV_X1_freeRuns : g_okV M_X1_freeRuns 0 := ⟨ok_X1_freeRuns, k_79, k_80, by decide +kernel⟩
theorem ok_X1_bigGroups : g_ok M_X1_bigGroups := ⟨by decide +kernel, (by rw [if_pos (show mH M_X1_bigGroups = [] from by decide)]; exact k_81), k_52, by decide +kernel⟩
theorem okV_X1_bigGroups : g_okV M_X1_bigGroups 0 := ⟨ok_X1_bigGroups, k_82, k_83, by decide +kernel⟩
theorem ok_X1_widows : g_ok M_X1_widows := ⟨by decide +kernel, (by rw [if_pos (show mH M_X1_widows = [] from by decide)]; exact k_84), k_52, by decide +kernel⟩
theorem okV_X1_widows : g_okV M_X1_widows 0 := ⟨ok_X1_widows, k_85, k_86, by decide +kernel⟩
theorem ok_X1_frameOf : g_ok M_X1_frameOf := ⟨by decide +kernel, (by rw [if_pos (show mH M_X1_frameOf = [] from by decide)]; exact k_87), k_52, by decide +kernel⟩
theorem okV_X1_frameOf : g_okV M_X1_frameOf 2 := ⟨ok_X1_frameOf, k_88, k_89, by decide +kernel⟩
theorem ok_X1_valueOf : g_ok M_X1_valueOf := ⟨by decide +kernel, (by rw [if_pos (show mH M_X1_valueOf = [] from by decide)]; exact k_90), k_52, by decide +kernel⟩
theorem okV_X1_valueOf : g_okV M_X1_valueOf 2 := ⟨ok_X1_valueOf, k_91, k_92, by decide +kernel⟩
theorem ok_X1_usersOfFrameOf : g_ok M_X1_usersOfFrameOf := ⟨by decide +kernel, (by rw [if_pos (show mH M_X1_usersOfFrameOf = [] from by decide)]; exact k_93), k_52, by decide +kernel⟩
theorem okV_X1_usersOfFrameOf : g_okV M_X1_usersOfFrameOf 2 := ⟨ok_X1_usersOfFrameOf, k_94, k_95, by decide +kernel⟩
theorem ok_X1_userAt : g_ok M_X1_userAt := ⟨by decide +kernel, (by rw [if_pos (show mH M_X1_userAt = [] from by decide)]; exact k_96), k_52, by decide +kernel⟩
theorem okV_X1_userAt : g_okV M_X1_userAt 2 := ⟨ok_X1_userAt, k_97, k_98, by decide +kernel⟩
theorem ok_X1_isBig : g_ok M_X1_isBig := ⟨by decide +kernel, (by rw [if_pos (show mH M_X1_isBig = [] from by decide)]; exact k_99), k_52, by decide +kernel⟩
theorem okV_X1_isBig : g_okV M_X1_isBig 2 := ⟨ok_X1_isBig, k_100, k_101, by decide +kernel⟩
theorem ok_X1_runOf : g_ok M_X1_runOf := ⟨by decide +kernel, (by rw [if_pos (show mH M_X1_runOf = [] from by decide)]; exact k_102), k_52, by decide +kernel⟩
theorem okV_X1_runOf : g_okV M_X1_runOf 2 := ⟨ok_X1_runOf, k_103, k_104, by decide +kernel⟩
theorem ok_X1_isWidow : g_ok M_X1_isWidow := ⟨by decide +kernel, (by rw [if_pos (show mH M_X1_isWidow = [] from by decide)]; exact k_105), k_52, by decide +kernel⟩
theorem okV_X1_isWidow : g_okV M_X1_isWidow 2 := ⟨ok_X1_isWidow, k_106, k_107, by decide +kernel⟩
theorem ok_X1_bigGroupsInRun : g_ok M_X1_bigGroupsInRun := ⟨by decide +kernel, (by rw [if_pos (show mH M_X1_bigGroupsInRun = [] from by decide)]; exact k_108), k_52, by decide +kernel⟩
theorem okV_X1_bigGroupsInRun : g_okV M_X1_bigGroupsInRun 1 := ⟨ok_X1_bigGroupsInRun, k_109, k_110, by decide +kernel⟩
theorem ok_X1_pagesWithFrame : g_ok M_X1_pagesWithFrame := ⟨by decide +kernel, (by rw [if_pos (show mH M_X1_pagesWithFrame = [] from by decide)]; exact k_111), k_52, by decide +kernel⟩
theorem okV_X1_pagesWithFrame : g_okV M_X1_pagesWithFrame 2 := ⟨ok_X1_pagesWithFrame, k_112, k_113, by decide +kernel⟩
theorem ok_X1_pagesWithSharedFrame : g_ok M_X1_pagesWithSharedFrame := ⟨by decide +kernel, (by rw [if_pos (show mH M_X1_pagesWithSharedFrame = [] from by decide)]; exact k_114), k_52, by decide +kernel⟩
theorem okV_X1_pagesWithSharedFrame : g_okV M_X1_pagesWithSharedFrame 2 := ⟨ok_X1_pagesWithSharedFrame, k_115, k_116, by decide +kernel⟩
theorem ok_X1_pagesWithValueZero : g_ok M_X1_pagesWithValueZero := ⟨by decide +kernel, (by rw [if_pos (show mH M_X1_pagesWithValueZero = [] from by decide)]; exact k_117), k_52, by decide +kernel⟩
theorem okV_X1_pagesWithValueZero : g_okV M_X1_pagesWithValueZero 2 := ⟨ok_X1_pagesWithValueZero, k_118, k_119, by decide +kernel⟩
theorem ok_X1_isShared : g_ok M_X1_isShared := ⟨by decide +kernel, (by rw [if_pos (show mH M_X1_isShared = [] from by decide)]; exact k_120), k_52, by decide +kernel⟩
theorem okV_X1_isShared : g_okV M_X1_isShared 1 := ⟨ok_X1_isShared, k_121, k_122, by decide +kernel⟩
theorem ok_X1_isRunFree : g_ok M_X1_isRunFree := ⟨by decide +kernel, (by rw [if_pos (show mH M_X1_isRunFree = [] from by decide)]; exact k_123), k_52, by decide +kernel⟩
theorem okV_X1_isRunFree : g_okV M_X1_isRunFree 1 := ⟨ok_X1_isRunFree, k_124, k_125, by decide +kernel⟩
theorem ok_X1_lowestFreeRun : g_ok M_X1_lowestFreeRun := ⟨by decide +kernel, (by rw [if_pos (show mH M_X1_lowestFreeRun = [] from by decide)]; exact k_126), k_52, by decide +kernel⟩
theorem okV_X1_lowestFreeRun : g_okV M_X1_lowestFreeRun 0 := ⟨ok_X1_lowestFreeRun, k_127, k_128, by decide +kernel⟩
theorem ok_X1_lowestSingleFrame : g_ok M_X1_lowestSingleFrame := ⟨by decide +kernel, (by rw [if_pos (show mH M_X1_lowestSingleFrame = [] from by decide)]; exact k_129), k_52, by decide +kernel⟩
theorem okV_X1_lowestSingleFrame : g_okV M_X1_lowestSingleFrame 0 := ⟨ok_X1_lowestSingleFrame, k_130, k_131, by decide +kernel⟩
theorem ok_X1_takeFrame : g_ok M_X1_takeFrame := ⟨by decide +kernel, (by rw [if_pos (show mH M_X1_takeFrame = [] from by decide)]; exact k_132), k_52, by decide +kernel⟩
theorem okV_X1_takeFrame : g_okV M_X1_takeFrame 3 := ⟨ok_X1_takeFrame, k_133, k_134, by decide +kernel⟩
theorem ok_X1_letGo : g_ok M_X1_letGo := ⟨by decide +kernel, (by rw [if_pos (show mH M_X1_letGo = [] from by decide)]; exact k_135), k_52, by decide +kernel⟩
theorem okV_X1_letGo : g_okV M_X1_letGo 2 := ⟨ok_X1_letGo, k_136, k_137, by decide +kernel⟩
theorem ok_X1_becomeBig : g_ok M_X1_becomeBig := ⟨by decide +kernel, (by rw [if_pos (show mH M_X1_becomeBig = [] from by decide)]; exact k_138), k_52, by decide +kernel⟩
theorem okV_X1_becomeBig : g_okV M_X1_becomeBig 2 := ⟨ok_X1_becomeBig, k_139, k_140, by decide +kernel⟩
theorem ok_X1_becomeSmall : g_ok M_X1_becomeSmall := ⟨by decide +kernel, (by rw [if_pos (show mH M_X1_becomeSmall = [] from by decide)]; exact k_141), k_52, by decide +kernel⟩
theorem okV_X1_becomeSmall : g_okV M_X1_becomeSmall 2 := ⟨ok_X1_becomeSmall, k_142, k_143, by decide +kernel⟩
theorem ok_X1_becomeTorn : g_ok M_X1_becomeTorn := ⟨by decide +kernel, (by rw [if_pos (show mH M_X1_becomeTorn = [] from by decide)]; exact k_144), k_52, by decide +kernel⟩
theorem okV_X1_becomeTorn : g_okV M_X1_becomeTorn 2 := ⟨ok_X1_becomeTorn, k_145, k_146, by decide +kernel⟩
theorem ok_X1_outcomeOfWrite : g_ok M_X1_outcomeOfWrite := ⟨by decide +kernel, (by rw [if_pos (show mH M_X1_outcomeOfWrite = [] from by decide)]; exact k_147), k_52, by decide +kernel⟩
theorem okV_X1_outcomeOfWrite : g_okV M_X1_outcomeOfWrite 2 := ⟨ok_X1_outcomeOfWrite, k_148, k_149, by decide +kernel⟩
theorem ok_X1_doWrite : g_ok M_X1_doWrite := ⟨by decide +kernel, (by rw [if_pos (show mH M_X1_doWrite = [] from by decide)]; exact k_150), k_52, by decide +kernel⟩
theorem okV_X1_doWrite : g_okV M_X1_doWrite 3 := ⟨ok_X1_doWrite, k_151, k_152, by decide +kernel⟩
theorem ok_X1_bringIn : g_ok M_X1_bringIn := ⟨by decide +kernel, (by rw [if_pos (show mH M_X1_bringIn = [] from by decide)]; exact k_153), k_52, by decide +kernel⟩
theorem okV_X1_bringIn : g_okV M_X1_bringIn 2 := ⟨ok_X1_bringIn, k_154, k_155, by decide +kernel⟩
theorem ok_X1_bringInWhole : g_ok M_X1_bringInWhole := ⟨by decide +kernel, (by rw [if_pos (show mH M_X1_bringInWhole = [] from by decide)]; exact k_156), k_52, by decide +kernel⟩
theorem okV_X1_bringInWhole : g_okV M_X1_bringInWhole 3 := ⟨ok_X1_bringInWhole, k_157, k_158, by decide +kernel⟩
theorem ok_X1_copyOut : g_ok M_X1_copyOut := ⟨by decide +kernel, (by rw [if_pos (show mH M_X1_copyOut = [] from by decide)]; exact k_159), k_52, by decide +kernel⟩
theorem okV_X1_copyOut : g_okV M_X1_copyOut 2 := ⟨ok_X1_copyOut, k_160, k_161, by decide +kernel⟩
theorem ok_X1_takeSingleFrame : g_ok M_X1_takeSingleFrame := ⟨by decide +kernel, (by rw [if_pos (show mH M_X1_takeSingleFrame = [] from by decide)]; exact k_162), k_52, by decide +kernel⟩
theorem okV_X1_takeSingleFrame : g_okV M_X1_takeSingleFrame 2 := ⟨ok_X1_takeSingleFrame, k_163, k_164, by decide +kernel⟩
theorem ok_X1_lowestUnusedProcess : g_ok M_X1_lowestUnusedProcess := ⟨by decide +kernel, (by rw [if_pos (show mH M_X1_lowestUnusedProcess = [] from by decide)]; exact k_165), k_52, by decide +kernel⟩
theorem okV_X1_lowestUnusedProcess : g_okV M_X1_lowestUnusedProcess 0 := ⟨ok_X1_lowestUnusedProcess, k_166, k_167, by decide +kernel⟩
theorem ok_X1_canFork : g_ok M_X1_canFork := ⟨by decide +kernel, (by rw [if_pos (show mH M_X1_canFork = [] from by decide)]; exact k_168), k_52, by decide +kernel⟩
theorem okV_X1_canFork : g_okV M_X1_canFork 1 := ⟨ok_X1_canFork, k_169, k_170, by decide +kernel⟩
theorem ok_X1_doFork : g_ok M_X1_doFork := ⟨by decide +kernel, (by rw [if_pos (show mH M_X1_doFork = [] from by decide)]; exact k_171), k_52, by decide +kernel⟩
theorem okV_X1_doFork : g_okV M_X1_doFork 1 := ⟨ok_X1_doFork, k_172, k_173, by decide +kernel⟩
theorem ok_X1_canExit : g_ok M_X1_canExit := ⟨by decide +kernel, (by rw [if_pos (show mH M_X1_canExit = [] from by decide)]; exact k_174), k_52, by decide +kernel⟩
theorem okV_X1_canExit : g_okV M_X1_canExit 1 := ⟨ok_X1_canExit, k_175, k_176, by decide +kernel⟩
theorem ok_X1_doExit : g_ok M_X1_doExit := ⟨by decide +kernel, (by rw [if_pos (show mH M_X1_doExit = [] from by decide)]; exact k_177), k_52, by decide +kernel⟩
theorem okV_X1_doExit : g_okV M_X1_doExit 1 := ⟨ok_X1_doExit, k_178, k_179, by decide +kernel⟩
theorem ok_X1_obstacleToMarriage : g_ok M_X1_obstacleToMarriage := ⟨by decide +kernel, (by rw [if_pos (show mH M_X1_obstacleToMarriage = [] from by decide)]; exact k_180), k_52, by decide +kernel⟩
theorem okV_X1_obstacleToMarriage : g_okV M_X1_obstacleToMarriage 2 := ⟨ok_X1_obstacleToMarriage, k_181, k_182, by decide +kernel⟩
theorem ok_X1_isInPlace : g_ok M_X1_isInPlace := ⟨by decide +kernel, (by rw [if_pos (show mH M_X1_isInPlace = [] from by decide)]; exact k_183), k_52, by decide +kernel⟩
theorem okV_X1_isInPlace : g_okV M_X1_isInPlace 2 := ⟨ok_X1_isInPlace, k_184, k_185, by decide +kernel⟩
theorem ok_X1_doMarry : g_ok M_X1_doMarry := ⟨by decide +kernel, (by rw [if_pos (show mH M_X1_doMarry = [] from by decide)]; exact k_186), k_52, by decide +kernel⟩
theorem okV_X1_doMarry : g_okV M_X1_doMarry 2 := ⟨ok_X1_doMarry, k_187, k_188, by decide +kernel⟩
theorem ok_X1_moveTo : g_ok M_X1_moveTo := ⟨by decide +kernel, (by rw [if_pos (show mH M_X1_moveTo = [] from by decide)]; exact k_189), k_52, by decide +kernel⟩
theorem okV_X1_moveTo : g_okV M_X1_moveTo 3 := ⟨ok_X1_moveTo, k_190, k_191, by decide +kernel⟩
theorem ok_X1_marryNext : g_ok M_X1_marryNext := ⟨by decide +kernel, (by rw [if_pos (show mH M_X1_marryNext = [] from by decide)]; exact k_192), k_52, by decide +kernel⟩
theorem okV_X1_marryNext : g_okV M_X1_marryNext 0 := ⟨ok_X1_marryNext, k_193, k_194, by decide +kernel⟩
theorem ok_X1_doTear : g_ok M_X1_doTear := ⟨by decide +kernel, (by rw [if_pos (show mH M_X1_doTear = [] from by decide)]; exact k_195), k_52, by decide +kernel⟩
theorem okV_X1_doTear : g_okV M_X1_doTear 2 := ⟨ok_X1_doTear, k_196, k_197, by decide +kernel⟩
theorem ok_X1_doPress : g_ok M_X1_doPress := ⟨by decide +kernel, (by rw [if_pos (show mH M_X1_doPress = [] from by decide)]; exact k_198), k_52, by decide +kernel⟩
theorem okV_X1_doPress : g_okV M_X1_doPress 1 := ⟨ok_X1_doPress, k_199, k_200, by decide +kernel⟩
theorem ok_X1_loseFirstPage : g_ok M_X1_loseFirstPage := ⟨by decide +kernel, (by rw [if_pos (show mH M_X1_loseFirstPage = [] from by decide)]; exact k_201), k_52, by decide +kernel⟩
theorem okV_X1_loseFirstPage : g_okV M_X1_loseFirstPage 0 := ⟨ok_X1_loseFirstPage, k_202, k_203, by decide +kernel⟩
theorem ok_X1_tearEmptiestGroup : g_ok M_X1_tearEmptiestGroup := ⟨by decide +kernel, (by rw [if_pos (show mH M_X1_tearEmptiestGroup = [] from by decide)]; exact k_204), k_52, by decide +kernel⟩
theorem okV_X1_tearEmptiestGroup : g_okV M_X1_tearEmptiestGroup 0 := ⟨ok_X1_tearEmptiestGroup, k_205, k_206, by decide +kernel⟩
theorem ok_X2_init : g_ok M_X2_init := ⟨by decide +kernel, (by rw [if_pos (show mH M_X2_init = [] from by decide)]; exact k_207), k_208, by decide +kernel⟩
theorem okI_X2_init : g_okI M_X2_init 0 := ⟨ok_X2_init, k_209, rfl, rfl, by decide +kernel⟩
theorem ok_X2_length : g_ok M_X2_length := ⟨by decide +kernel, (by rw [if_pos (show mH M_X2_length = [] from by decide)]; exact k_210), k_208, by decide +kernel⟩
theorem okV_X2_length : g_okV M_X2_length 0 := ⟨ok_X2_length, k_211, k_212, by decide +kernel⟩
theorem ok_X2_add : g_ok M_X2_add := ⟨by decide +kernel, (by rw [if_pos (show mH M_X2_add = [] from by decide)]; exact k_213), k_208, by decide +kernel⟩
theorem okV_X2_add : g_okV M_X2_add 1 := ⟨ok_X2_add, k_214, k_215, by decide +kernel⟩
theorem ok_X2_empty : g_ok M_X2_empty := ⟨by decide +kernel, (by rw [if_pos (show mH M_X2_empty = [] from by decide)]; exact k_216), k_208, by decide +kernel⟩
theorem okV_X2_empty : g_okV M_X2_empty 0 := ⟨ok_X2_empty, k_217, k_218, by decide +kernel⟩
theorem ok_X2_sign : g_ok M_X2_sign := ⟨by decide +kernel, (by rw [if_pos (show mH M_X2_sign = [] from by decide)]; exact k_219), k_208, by decide +kernel⟩
theorem okV_X2_sign : g_okV M_X2_sign 1 := ⟨ok_X2_sign, k_220, k_221, by decide +kernel⟩
theorem ok_X2_digit : g_ok M_X2_digit := ⟨by decide +kernel, (by rw [if_pos (show mH M_X2_digit = [] from by decide)]; exact k_222), k_208, by decide +kernel⟩
theorem okV_X2_digit : g_okV M_X2_digit 1 := ⟨ok_X2_digit, k_223, k_224, by decide +kernel⟩
theorem ok_X2_number : g_ok M_X2_number := ⟨by decide +kernel, (by rw [if_pos (show mH M_X2_number = [] from by decide)]; exact k_225), k_208, by decide +kernel⟩
theorem okV_X2_number : g_okV M_X2_number 1 := ⟨ok_X2_number, k_226, k_227, by decide +kernel⟩
theorem ok_X2_digitsBehind : g_ok M_X2_digitsBehind := ⟨by decide +kernel, (by rw [if_pos (show mH M_X2_digitsBehind = [] from by decide)]; exact k_228), k_208, by decide +kernel⟩
theorem okS_X2_digitsBehind : g_okS M_X2_digitsBehind 1 := ⟨ok_X2_digitsBehind, k_229, by decide +kernel⟩
theorem ok_X2_firstError : g_ok M_X2_firstError := ⟨by decide +kernel, (by rw [if_pos (show mH M_X2_firstError = [] from by decide)]; exact k_230), k_208, by decide +kernel⟩
theorem okV_X2_firstError : g_okV M_X2_firstError 0 := ⟨ok_X2_firstError, k_231, k_232, by decide +kernel⟩
theorem ok_X2_isAllowedDigit : g_ok M_X2_isAllowedDigit := ⟨by decide +kernel, (by rw [if_pos (show mH M_X2_isAllowedDigit = [] from by decide)]; exact k_233), k_208, by decide +kernel⟩
theorem okV_X2_isAllowedDigit : g_okV M_X2_isAllowedDigit 2 := ⟨ok_X2_isAllowedDigit, k_234, k_235, by decide +kernel⟩
theorem ok_X2_highestDigit : g_ok M_X2_highestDigit := ⟨by decide +kernel, (by rw [if_pos (show mH M_X2_highestDigit = [] from by decide)]; exact k_236), k_208, by decide +kernel⟩
theorem okV_X2_highestDigit : g_okV M_X2_highestDigit 2 := ⟨ok_X2_highestDigit, k_237, k_238, by decide +kernel⟩
theorem ok_X3_init : g_ok M_X3_init := ⟨by decide +kernel, (by rw [if_pos (show mH M_X3_init = [] from by decide)]; exact k_239), k_240, by decide +kernel⟩
theorem okI_X3_init : g_okI M_X3_init 0 := ⟨ok_X3_init, k_241, rfl, rfl, by decide +kernel⟩
theorem ok_X3_append : g_ok M_X3_append := ⟨by decide +kernel, (by rw [if_pos (show mH M_X3_append = [] from by decide)]; exact k_242), k_240, by decide +kernel⟩
theorem okV_X3_append : g_okV M_X3_append 1 := ⟨ok_X3_append, k_243, k_244, by decide +kernel⟩
theorem ok_X3_clearText : g_ok M_X3_clearText := ⟨by decide +kernel, (by rw [if_pos (show mH M_X3_clearText = [] from by decide)]; exact k_245), k_240, by decide +kernel⟩
theorem okV_X3_clearText : g_okV M_X3_clearText 0 := ⟨ok_X3_clearText, k_246, k_247, by decide +kernel⟩
theorem ok_X3_errorPosition : g_ok M_X3_errorPosition := ⟨by decide +kernel, (by rw [if_pos (show mH M_X3_errorPosition = [] from by decide)]; exact k_248), k_240, by decide +kernel⟩
theorem okV_X3_errorPosition : g_okV M_X3_errorPosition 0 := ⟨ok_X3_errorPosition, k_249, k_250, by decide +kernel⟩
theorem ok_X3_load : g_ok M_X3_load := ⟨by decide +kernel, (by rw [if_pos (show mH M_X3_load = [] from by decide)]; exact k_251), k_240, by decide +kernel⟩
theorem okV_X3_load : g_okV M_X3_load 0 := ⟨ok_X3_load, k_252, k_253, by decide +kernel⟩
theorem ok_X3_about : g_ok M_X3_about := ⟨by decide +kernel, (by rw [if_pos (show mH M_X3_about = [] from by decide)]; exact k_254), k_240, by decide +kernel⟩
theorem okV_X3_about : g_okV M_X3_about 1 := ⟨ok_X3_about, k_255, k_256, by decide +kernel⟩
theorem ok_X3_page : g_ok M_X3_page := ⟨by decide +kernel, (by rw [if_pos (show mH M_X3_page = [] from by decide)]; exact k_257), k_240, by decide +kernel⟩
theorem okV_X3_page : g_okV M_X3_page 3 := ⟨ok_X3_page, k_258, k_259, by decide +kernel⟩
theorem ok_X3_user : g_ok M_X3_user := ⟨by decide +kernel, (by rw [if_pos (show mH M_X3_user = [] from by decide)]; exact k_260), k_240, by decide +kernel⟩
theorem okV_X3_user : g_okV M_X3_user 2 := ⟨ok_X3_user, k_261, k_262, by decide +kernel⟩
theorem ok_X3_group : g_ok M_X3_group := ⟨by decide +kernel, (by rw [if_pos (show mH M_X3_group = [] from by decide)]; exact k_263), k_240, by decide +kernel⟩
theorem okV_X3_group : g_okV M_X3_group 3 := ⟨ok_X3_group, k_264, k_265, by decide +kernel⟩
theorem ok_X3_write : g_ok M_X3_write := ⟨by decide +kernel, (by rw [if_pos (show mH M_X3_write = [] from by decide)]; exact k_266), k_240, by decide +kernel⟩
theorem okV_X3_write : g_okV M_X3_write 3 := ⟨ok_X3_write, k_267, k_268, by decide +kernel⟩
theorem ok_X3_fork : g_ok M_X3_fork := ⟨by decide +kernel, (by rw [if_pos (show mH M_X3_fork = [] from by decide)]; exact k_269), k_240, by decide +kernel⟩
theorem okV_X3_fork : g_okV M_X3_fork 1 := ⟨ok_X3_fork, k_270, k_271, by decide +kernel⟩
theorem ok_X3_exit : g_ok M_X3_exit := ⟨by decide +kernel, (by rw [if_pos (show mH M_X3_exit = [] from by decide)]; exact k_272), k_240, by decide +kernel⟩
theorem okV_X3_exit : g_okV M_X3_exit 1 := ⟨ok_X3_exit, k_273, k_274, by decide +kernel⟩
theorem ok_X3_marry : g_ok M_X3_marry := ⟨by decide +kernel, (by rw [if_pos (show mH M_X3_marry = [] from by decide)]; exact k_275), k_240, by decide +kernel⟩
theorem okV_X3_marry : g_okV M_X3_marry 2 := ⟨ok_X3_marry, k_276, k_277, by decide +kernel⟩
theorem ok_X3_tear : g_ok M_X3_tear := ⟨by decide +kernel, (by rw [if_pos (show mH M_X3_tear = [] from by decide)]; exact k_278), k_240, by decide +kernel⟩
theorem okV_X3_tear : g_okV M_X3_tear 2 := ⟨ok_X3_tear, k_279, k_280, by decide +kernel⟩
theorem ok_X3_press : g_ok M_X3_press := ⟨by decide +kernel, (by rw [if_pos (show mH M_X3_press = [] from by decide)]; exact k_281), k_240, by decide +kernel⟩
theorem okV_X3_press : g_okV M_X3_press 1 := ⟨ok_X3_press, k_282, k_283, by decide +kernel⟩
theorem ok_X3_setEager : g_ok M_X3_setEager := ⟨by decide +kernel, (by rw [if_pos (show mH M_X3_setEager = [] from by decide)]; exact k_284), k_240, by decide +kernel⟩
theorem okV_X3_setEager : g_okV M_X3_setEager 1 := ⟨ok_X3_setEager, k_285, k_286, by decide +kernel⟩
theorem ok_X3_undo : g_ok M_X3_undo := ⟨by decide +kernel, (by rw [if_pos (show mH M_X3_undo = [] from by decide)]; exact k_287), k_240, by decide +kernel⟩
theorem okV_X3_undo : g_okV M_X3_undo 0 := ⟨ok_X3_undo, k_288, k_289, by decide +kernel⟩
theorem ok_X3_whyNot : g_ok M_X3_whyNot := ⟨by decide +kernel, (by rw [if_pos (show mH M_X3_whyNot = [] from by decide)]; exact k_290), k_240, by decide +kernel⟩
theorem okV_X3_whyNot : g_okV M_X3_whyNot 2 := ⟨ok_X3_whyNot, k_291, k_292, by decide +kernel⟩
theorem ok_X3_wouldDo : g_ok M_X3_wouldDo := ⟨by decide +kernel, (by rw [if_pos (show mH M_X3_wouldDo = [] from by decide)]; exact k_293), k_240, by decide +kernel⟩
theorem okV_X3_wouldDo : g_okV M_X3_wouldDo 2 := ⟨ok_X3_wouldDo, k_294, k_295, by decide +kernel⟩
theorem ok_X3_marriages : g_ok M_X3_marriages := ⟨by decide +kernel, (by rw [if_pos (show mH M_X3_marriages = [] from by decide)]; exact k_296), k_240, by decide +kernel⟩
theorem okV_X3_marriages : g_okV M_X3_marriages 0 := ⟨ok_X3_marriages, k_297, k_298, by decide +kernel⟩
theorem ok_X3_mostFree : g_ok M_X3_mostFree := ⟨by decide +kernel, (by rw [if_pos (show mH M_X3_mostFree = [] from by decide)]; exact k_299), k_240, by decide +kernel⟩
theorem okV_X3_mostFree : g_okV M_X3_mostFree 0 := ⟨ok_X3_mostFree, k_300, k_301, by decide +kernel⟩
theorem ok_X3_writable : g_ok M_X3_writable := ⟨by decide +kernel, (by rw [if_pos (show mH M_X3_writable = [] from by decide)]; exact k_302), k_240, by decide +kernel⟩
theorem okV_X3_writable : g_okV M_X3_writable 1 := ⟨ok_X3_writable, k_303, k_304, by decide +kernel⟩
theorem ok_X3_runScript : g_ok M_X3_runScript := ⟨by decide +kernel, (by rw [if_pos (show mH M_X3_runScript = [] from by decide)]; exact k_305), k_240, by decide +kernel⟩
theorem okV_X3_runScript : g_okV M_X3_runScript 2 := ⟨ok_X3_runScript, k_306, k_307, by decide +kernel⟩
theorem ok_X3_simulate : g_ok M_X3_simulate := ⟨by decide +kernel, (by rw [if_pos (show mH M_X3_simulate = [] from by decide)]; exact k_308), k_240, by decide +kernel⟩
theorem okV_X3_simulate : g_okV M_X3_simulate 2 := ⟨ok_X3_simulate, k_309, k_310, by decide +kernel⟩
theorem ok_X3_save : g_ok M_X3_save := ⟨by decide +kernel, (by rw [if_pos (show mH M_X3_save = [] from by decide)]; exact k_311), k_240, by decide +kernel⟩
theorem okV_X3_save : g_okV M_X3_save 1 := ⟨ok_X3_save, k_312, k_313, by decide +kernel⟩
theorem ok_X3_restore : g_ok M_X3_restore := ⟨by decide +kernel, (by rw [if_pos (show mH M_X3_restore = [] from by decide)]; exact k_314), k_240, by decide +kernel⟩
theorem okV_X3_restore : g_okV M_X3_restore 1 := ⟨ok_X3_restore, k_315, k_316, by decide +kernel⟩
theorem ok_X3_requireProcess : g_ok M_X3_requireProcess := ⟨by decide +kernel, (by rw [if_pos (show mH M_X3_requireProcess = [] from by decide)]; exact k_317), k_240, by decide +kernel⟩
theorem okV_X3_requireProcess : g_okV M_X3_requireProcess 1 := ⟨ok_X3_requireProcess, k_318, k_319, by decide +kernel⟩
theorem ok_X3_requirePage : g_ok M_X3_requirePage := ⟨by decide +kernel, (by rw [if_pos (show mH M_X3_requirePage = [] from by decide)]; exact k_320), k_240, by decide +kernel⟩
theorem okV_X3_requirePage : g_okV M_X3_requirePage 2 := ⟨ok_X3_requirePage, k_321, k_322, by decide +kernel⟩
theorem ok_X3_requireGroup : g_ok M_X3_requireGroup := ⟨by decide +kernel, (by rw [if_pos (show mH M_X3_requireGroup = [] from by decide)]; exact k_323), k_240, by decide +kernel⟩
theorem okV_X3_requireGroup : g_okV M_X3_requireGroup 2 := ⟨ok_X3_requireGroup, k_324, k_325, by decide +kernel⟩
theorem ok_X3_requireSlot : g_ok M_X3_requireSlot := ⟨by decide +kernel, (by rw [if_pos (show mH M_X3_requireSlot = [] from by decide)]; exact k_326), k_240, by decide +kernel⟩
theorem okV_X3_requireSlot : g_okV M_X3_requireSlot 1 := ⟨ok_X3_requireSlot, k_327, k_328, by decide +kernel⟩
theorem ok_X3_doCommandOfText : g_ok M_X3_doCommandOfText := ⟨by decide +kernel, (by rw [if_pos (show mH M_X3_doCommandOfText = [] from by decide)]; exact k_329), k_240, by decide +kernel⟩
theorem okV_X3_doCommandOfText : g_okV M_X3_doCommandOfText 1 := ⟨ok_X3_doCommandOfText, k_330, k_331, by decide +kernel⟩
theorem ok_X3_withoutLastCommands : g_ok M_X3_withoutLastCommands := ⟨by decide +kernel, (by rw [if_pos (show mH M_X3_withoutLastCommands = [] from by decide)]; exact k_332), k_240, by decide +kernel⟩
theorem okS_X3_withoutLastCommands : g_okS M_X3_withoutLastCommands 2 := ⟨ok_X3_withoutLastCommands, k_333, by decide +kernel⟩
theorem ok_X3_doCommandOfScript : g_ok M_X3_doCommandOfScript := ⟨by decide +kernel, (by rw [if_pos (show mH M_X3_doCommandOfScript = [] from by decide)]; exact k_334), k_240, by decide +kernel⟩
theorem okV_X3_doCommandOfScript : g_okV M_X3_doCommandOfScript 1 := ⟨ok_X3_doCommandOfScript, k_335, k_336, by decide +kernel⟩
theorem ok_X3_doStep : g_ok M_X3_doStep := ⟨by decide +kernel, (by rw [if_pos (show mH M_X3_doStep = [] from by decide)]; exact k_337), k_240, by decide +kernel⟩
theorem okV_X3_doStep : g_okV M_X3_doStep 1 := ⟨ok_X3_doStep, k_338, k_339, by decide +kernel⟩
theorem ok_X4_init : g_ok M_X4_init := ⟨by decide +kernel, (by rw [if_pos (show mH M_X4_init = [] from by decide)]; exact k_340), k_341, by decide +kernel⟩
theorem okI_X4_init : g_okI M_X4_init 0 := ⟨ok_X4_init, k_342, rfl, rfl, by decide +kernel⟩
theorem ok_X4_thrown : g_ok M_X4_thrown := ⟨by decide +kernel, (by rw [if_pos (show mH M_X4_thrown = [] from by decide)]; exact k_343), k_341, by decide +kernel⟩
theorem okV_X4_thrown : g_okV M_X4_thrown 0 := ⟨ok_X4_thrown, k_344, k_345, by decide +kernel⟩
theorem ok_X4_copy : g_ok M_X4_copy := ⟨by decide +kernel, (by rw [if_pos (show mH M_X4_copy = [] from by decide)]; exact k_346), k_341, by decide +kernel⟩
theorem okS_X4_copy : g_okS M_X4_copy 4 := ⟨ok_X4_copy, k_347, by decide +kernel⟩
theorem ok_X4_within : g_ok M_X4_within := ⟨by decide +kernel, (by rw [if_pos (show mH M_X4_within = [] from by decide)]; exact k_348), k_341, by decide +kernel⟩
theorem okS_X4_within : g_okS M_X4_within 3 := ⟨ok_X4_within, k_349, by decide +kernel⟩
theorem ok_X4_renew : g_ok M_X4_renew := ⟨by decide +kernel, (by rw [if_pos (show mH M_X4_renew = [] from by decide)]; exact k_350), k_341, by decide +kernel⟩
theorem okV_X4_renew : g_okV M_X4_renew 0 := ⟨ok_X4_renew, k_351, k_352, by decide +kernel⟩
theorem ok_X4_isProcess : g_ok M_X4_isProcess := ⟨by decide +kernel, (by rw [if_pos (show mH M_X4_isProcess = [] from by decide)]; exact k_353), k_341, by decide +kernel⟩
theorem okV_X4_isProcess : g_okV M_X4_isProcess 1 := ⟨ok_X4_isProcess, k_354, k_355, by decide +kernel⟩
theorem ok_X4_isPage : g_ok M_X4_isPage := ⟨by decide +kernel, (by rw [if_pos (show mH M_X4_isPage = [] from by decide)]; exact k_356), k_341, by decide +kernel⟩
theorem okV_X4_isPage : g_okV M_X4_isPage 2 := ⟨ok_X4_isPage, k_357, k_358, by decide +kernel⟩
theorem ok_X4_isGroup : g_ok M_X4_isGroup := ⟨by decide +kernel, (by rw [if_pos (show mH M_X4_isGroup = [] from by decide)]; exact k_359), k_341, by decide +kernel⟩
theorem okV_X4_isGroup : g_okV M_X4_isGroup 2 := ⟨ok_X4_isGroup, k_360, k_361, by decide +kernel⟩
theorem ok_X4_frameOf : g_ok M_X4_frameOf := ⟨by decide +kernel, (by rw [if_pos (show mH M_X4_frameOf = [] from by decide)]; exact k_362), k_341, by decide +kernel⟩
theorem okV_X4_frameOf : g_okV M_X4_frameOf 2 := ⟨ok_X4_frameOf, k_363, k_364, by decide +kernel⟩
theorem ok_X4_setFrame : g_ok M_X4_setFrame := ⟨by decide +kernel, (by rw [if_pos (show mH M_X4_setFrame = [] from by decide)]; exact k_365), k_341, by decide +kernel⟩
theorem okV_X4_setFrame : g_okV M_X4_setFrame 3 := ⟨ok_X4_setFrame, k_366, k_367, by decide +kernel⟩
theorem ok_X4_isBig : g_ok M_X4_isBig := ⟨by decide +kernel, (by rw [if_pos (show mH M_X4_isBig = [] from by decide)]; exact k_368), k_341, by decide +kernel⟩
theorem okV_X4_isBig : g_okV M_X4_isBig 2 := ⟨ok_X4_isBig, k_369, k_370, by decide +kernel⟩
theorem ok_X4_setBig : g_ok M_X4_setBig := ⟨by decide +kernel, (by rw [if_pos (show mH M_X4_setBig = [] from by decide)]; exact k_371), k_341, by decide +kernel⟩
theorem okV_X4_setBig : g_okV M_X4_setBig 3 := ⟨ok_X4_setBig, k_372, k_373, by decide +kernel⟩
theorem ok_X4_valueOf : g_ok M_X4_valueOf := ⟨by decide +kernel, (by rw [if_pos (show mH M_X4_valueOf = [] from by decide)]; exact k_374), k_341, by decide +kernel⟩
theorem okV_X4_valueOf : g_okV M_X4_valueOf 1 := ⟨ok_X4_valueOf, k_375, k_376, by decide +kernel⟩
theorem ok_X4_uses : g_ok M_X4_uses := ⟨by decide +kernel, (by rw [if_pos (show mH M_X4_uses = [] from by decide)]; exact k_377), k_341, by decide +kernel⟩
theorem okV_X4_uses : g_okV M_X4_uses 1 := ⟨ok_X4_uses, k_378, k_379, by decide +kernel⟩
theorem ok_X4_isShared : g_ok M_X4_isShared := ⟨by decide +kernel, (by rw [if_pos (show mH M_X4_isShared = [] from by decide)]; exact k_380), k_341, by decide +kernel⟩
theorem okV_X4_isShared : g_okV M_X4_isShared 1 := ⟨ok_X4_isShared, k_381, k_382, by decide +kernel⟩
theorem ok_X4_isFreeRun : g_ok M_X4_isFreeRun := ⟨by decide +kernel, (by rw [if_pos (show mH M_X4_isFreeRun = [] from by decide)]; exact k_383), k_341, by decide +kernel⟩
theorem okV_X4_isFreeRun : g_okV M_X4_isFreeRun 1 := ⟨ok_X4_isFreeRun, k_384, k_385, by decide +kernel⟩
theorem ok_X4_freeRun : g_ok M_X4_freeRun := ⟨by decide +kernel, (by rw [if_pos (show mH M_X4_freeRun = [] from by decide)]; exact k_386), k_341, by decide +kernel⟩
theorem okV_X4_freeRun : g_okV M_X4_freeRun 0 := ⟨ok_X4_freeRun, k_387, k_388, by decide +kernel⟩
theorem ok_X4_freeRuns : g_ok M_X4_freeRuns := ⟨by decide +kernel, (by rw [if_pos (show mH M_X4_freeRuns = [] from by decide)]; exact k_389), k_341, by decide +kernel⟩
theorem okV_X4_freeRuns : g_okV M_X4_freeRuns 0 := ⟨ok_X4_freeRuns, k_390, k_391, by decide +kernel⟩
theorem ok_X4_freeFrames : g_ok M_X4_freeFrames := ⟨by decide +kernel, (by rw [if_pos (show mH M_X4_freeFrames = [] from by decide)]; exact k_392), k_341, by decide +kernel⟩
theorem okV_X4_freeFrames : g_okV M_X4_freeFrames 0 := ⟨ok_X4_freeFrames, k_393, k_394, by decide +kernel⟩
theorem ok_X4_singleFrame : g_ok M_X4_singleFrame := ⟨by decide +kernel, (by rw [if_pos (show mH M_X4_singleFrame = [] from by decide)]; exact k_395), k_341, by decide +kernel⟩
theorem okV_X4_singleFrame : g_okV M_X4_singleFrame 0 := ⟨ok_X4_singleFrame, k_396, k_397, by decide +kernel⟩
theorem ok_X4_placedIn : g_ok M_X4_placedIn := ⟨by decide +kernel, (by rw [if_pos (show mH M_X4_placedIn = [] from by decide)]; exact k_398), k_341, by decide +kernel⟩
theorem okV_X4_placedIn : g_okV M_X4_placedIn 2 := ⟨ok_X4_placedIn, k_399, k_400, by decide +kernel⟩
theorem ok_X4_sharedIn : g_ok M_X4_sharedIn := ⟨by decide +kernel, (by rw [if_pos (show mH M_X4_sharedIn = [] from by decide)]; exact k_401), k_341, by decide +kernel⟩
theorem okV_X4_sharedIn : g_okV M_X4_sharedIn 2 := ⟨ok_X4_sharedIn, k_402, k_403, by decide +kernel⟩
theorem ok_X4_runOf : g_ok M_X4_runOf := ⟨by decide +kernel, (by rw [if_pos (show mH M_X4_runOf = [] from by decide)]; exact k_404), k_341, by decide +kernel⟩
theorem okV_X4_runOf : g_okV M_X4_runOf 2 := ⟨ok_X4_runOf, k_405, k_406, by decide +kernel⟩
theorem ok_X4_isWidow : g_ok M_X4_isWidow := ⟨by decide +kernel, (by rw [if_pos (show mH M_X4_isWidow = [] from by decide)]; exact k_407), k_341, by decide +kernel⟩
theorem okV_X4_isWidow : g_okV M_X4_isWidow 2 := ⟨ok_X4_isWidow, k_408, k_409, by decide +kernel⟩
theorem ok_X4_isEagerFault : g_ok M_X4_isEagerFault := ⟨by decide +kernel, (by rw [if_pos (show mH M_X4_isEagerFault = [] from by decide)]; exact k_410), k_341, by decide +kernel⟩
theorem okV_X4_isEagerFault : g_okV M_X4_isEagerFault 2 := ⟨ok_X4_isEagerFault, k_411, k_412, by decide +kernel⟩
theorem ok_X4_outcome : g_ok M_X4_outcome := ⟨by decide +kernel, (by rw [if_pos (show mH M_X4_outcome = [] from by decide)]; exact k_413), k_341, by decide +kernel⟩
theorem okV_X4_outcome : g_okV M_X4_outcome 2 := ⟨ok_X4_outcome, k_414, k_415, by decide +kernel⟩
theorem ok_X4_makeBig : g_ok M_X4_makeBig := ⟨by decide +kernel, (by rw [if_pos (show mH M_X4_makeBig = [] from by decide)]; exact k_416), k_341, by decide +kernel⟩
theorem okV_X4_makeBig : g_okV M_X4_makeBig 2 := ⟨ok_X4_makeBig, k_417, k_418, by decide +kernel⟩
theorem ok_X4_written : g_ok M_X4_written := ⟨by decide +kernel, (by rw [if_pos (show mH M_X4_written = [] from by decide)]; exact k_419), k_341, by decide +kernel⟩
theorem okV_X4_written : g_okV M_X4_written 3 := ⟨ok_X4_written, k_420, k_421, by decide +kernel⟩
theorem ok_X4_freeProcess : g_ok M_X4_freeProcess := ⟨by decide +kernel, (by rw [if_pos (show mH M_X4_freeProcess = [] from by decide)]; exact k_422), k_341, by decide +kernel⟩
theorem okV_X4_freeProcess : g_okV M_X4_freeProcess 0 := ⟨ok_X4_freeProcess, k_423, k_424, by decide +kernel⟩
theorem ok_X4_whyNotForked : g_ok M_X4_whyNotForked := ⟨by decide +kernel, (by rw [if_pos (show mH M_X4_whyNotForked = [] from by decide)]; exact k_425), k_341, by decide +kernel⟩
theorem okV_X4_whyNotForked : g_okV M_X4_whyNotForked 1 := ⟨ok_X4_whyNotForked, k_426, k_427, by decide +kernel⟩
theorem ok_X4_forked : g_ok M_X4_forked := ⟨by decide +kernel, (by rw [if_pos (show mH M_X4_forked = [] from by decide)]; exact k_428), k_341, by decide +kernel⟩
theorem okV_X4_forked : g_okV M_X4_forked 1 := ⟨ok_X4_forked, k_429, k_430, by decide +kernel⟩
theorem ok_X4_processMany : g_ok M_X4_processMany := ⟨by decide +kernel, (by rw [if_pos (show mH M_X4_processMany = [] from by decide)]; exact k_431), k_341, by decide +kernel⟩
theorem okV_X4_processMany : g_okV M_X4_processMany 0 := ⟨ok_X4_processMany, k_432, k_433, by decide +kernel⟩
theorem ok_X4_whyNotEnded : g_ok M_X4_whyNotEnded := ⟨by decide +kernel, (by rw [if_pos (show mH M_X4_whyNotEnded = [] from by decide)]; exact k_434), k_341, by decide +kernel⟩
theorem okV_X4_whyNotEnded : g_okV M_X4_whyNotEnded 1 := ⟨ok_X4_whyNotEnded, k_435, k_436, by decide +kernel⟩
theorem ok_X4_ended : g_ok M_X4_ended := ⟨by decide +kernel, (by rw [if_pos (show mH M_X4_ended = [] from by decide)]; exact k_437), k_341, by decide +kernel⟩
theorem okV_X4_ended : g_okV M_X4_ended 1 := ⟨ok_X4_ended, k_438, k_439, by decide +kernel⟩
theorem ok_X4_isInPlace : g_ok M_X4_isInPlace := ⟨by decide +kernel, (by rw [if_pos (show mH M_X4_isInPlace = [] from by decide)]; exact k_440), k_341, by decide +kernel⟩
theorem okV_X4_isInPlace : g_okV M_X4_isInPlace 2 := ⟨ok_X4_isInPlace, k_441, k_442, by decide +kernel⟩
theorem ok_X4_whyNoMarriage : g_ok M_X4_whyNoMarriage := ⟨by decide +kernel, (by rw [if_pos (show mH M_X4_whyNoMarriage = [] from by decide)]; exact k_443), k_341, by decide +kernel⟩
theorem okV_X4_whyNoMarriage : g_okV M_X4_whyNoMarriage 2 := ⟨ok_X4_whyNoMarriage, k_444, k_445, by decide +kernel⟩
theorem ok_X4_married : g_ok M_X4_married := ⟨by decide +kernel, (by rw [if_pos (show mH M_X4_married = [] from by decide)]; exact k_446), k_341, by decide +kernel⟩
theorem okV_X4_married : g_okV M_X4_married 2 := ⟨ok_X4_married, k_447, k_448, by decide +kernel⟩
theorem ok_X4_torn : g_ok M_X4_torn := ⟨by decide +kernel, (by rw [if_pos (show mH M_X4_torn = [] from by decide)]; exact k_449), k_341, by decide +kernel⟩
theorem okV_X4_torn : g_okV M_X4_torn 2 := ⟨ok_X4_torn, k_450, k_451, by decide +kernel⟩
theorem ok_X4_isEmpty : g_ok M_X4_isEmpty := ⟨by decide +kernel, (by rw [if_pos (show mH M_X4_isEmpty = [] from by decide)]; exact k_452), k_341, by decide +kernel⟩
theorem okV_X4_isEmpty : g_okV M_X4_isEmpty 1 := ⟨ok_X4_isEmpty, k_453, k_454, by decide +kernel⟩
theorem ok_X4_firstLoser : g_ok M_X4_firstLoser := ⟨by decide +kernel, (by rw [if_pos (show mH M_X4_firstLoser = [] from by decide)]; exact k_455), k_341, by decide +kernel⟩
theorem okV_X4_firstLoser : g_okV M_X4_firstLoser 0 := ⟨ok_X4_firstLoser, k_456, k_457, by decide +kernel⟩
theorem ok_X4_firstTorn : g_ok M_X4_firstTorn := ⟨by decide +kernel, (by rw [if_pos (show mH M_X4_firstTorn = [] from by decide)]; exact k_458), k_341, by decide +kernel⟩
theorem okV_X4_firstTorn : g_okV M_X4_firstTorn 0 := ⟨ok_X4_firstTorn, k_459, k_460, by decide +kernel⟩
theorem ok_X4_pressed : g_ok M_X4_pressed := ⟨by decide +kernel, (by rw [if_pos (show mH M_X4_pressed = [] from by decide)]; exact k_461), k_341, by decide +kernel⟩
theorem okV_X4_pressed : g_okV M_X4_pressed 1 := ⟨ok_X4_pressed, k_462, k_463, by decide +kernel⟩
theorem ok_X4_append : g_ok M_X4_append := ⟨by decide +kernel, (by rw [if_pos (show mH M_X4_append = [] from by decide)]; exact k_464), k_341, by decide +kernel⟩
theorem okV_X4_append : g_okV M_X4_append 1 := ⟨ok_X4_append, k_465, k_466, by decide +kernel⟩
theorem ok_X4_clearText : g_ok M_X4_clearText := ⟨by decide +kernel, (by rw [if_pos (show mH M_X4_clearText = [] from by decide)]; exact k_467), k_341, by decide +kernel⟩
theorem okV_X4_clearText : g_okV M_X4_clearText 0 := ⟨ok_X4_clearText, k_468, k_469, by decide +kernel⟩
theorem ok_X4_digit : g_ok M_X4_digit := ⟨by decide +kernel, (by rw [if_pos (show mH M_X4_digit = [] from by decide)]; exact k_470), k_341, by decide +kernel⟩
theorem okV_X4_digit : g_okV M_X4_digit 1 := ⟨ok_X4_digit, k_471, k_472, by decide +kernel⟩
theorem ok_X4_mostAt : g_ok M_X4_mostAt := ⟨by decide +kernel, (by rw [if_pos (show mH M_X4_mostAt = [] from by decide)]; exact k_473), k_341, by decide +kernel⟩
theorem okV_X4_mostAt : g_okV M_X4_mostAt 2 := ⟨ok_X4_mostAt, k_474, k_475, by decide +kernel⟩
theorem ok_X4_isLetter : g_ok M_X4_isLetter := ⟨by decide +kernel, (by rw [if_pos (show mH M_X4_isLetter = [] from by decide)]; exact k_476), k_341, by decide +kernel⟩
theorem okV_X4_isLetter : g_okV M_X4_isLetter 1 := ⟨ok_X4_isLetter, k_477, k_478, by decide +kernel⟩
theorem ok_X4_lengthAt : g_ok M_X4_lengthAt := ⟨by decide +kernel, (by rw [if_pos (show mH M_X4_lengthAt = [] from by decide)]; exact k_479), k_341, by decide +kernel⟩
theorem okV_X4_lengthAt : g_okV M_X4_lengthAt 1 := ⟨ok_X4_lengthAt, k_480, k_481, by decide +kernel⟩
theorem ok_X4_findError : g_ok M_X4_findError := ⟨by decide +kernel, (by rw [if_pos (show mH M_X4_findError = [] from by decide)]; exact k_482), k_341, by decide +kernel⟩
theorem okV_X4_findError : g_okV M_X4_findError 0 := ⟨ok_X4_findError, k_483, k_484, by decide +kernel⟩
theorem ok_X4_errorPosition : g_ok M_X4_errorPosition := ⟨by decide +kernel, (by rw [if_pos (show mH M_X4_errorPosition = [] from by decide)]; exact k_485), k_341, by decide +kernel⟩
theorem okV_X4_errorPosition : g_okV M_X4_errorPosition 0 := ⟨ok_X4_errorPosition, k_486, k_487, by decide +kernel⟩
theorem ok_X4_commandAt : g_ok M_X4_commandAt := ⟨by decide +kernel, (by rw [if_pos (show mH M_X4_commandAt = [] from by decide)]; exact k_488), k_341, by decide +kernel⟩
theorem okV_X4_commandAt : g_okV M_X4_commandAt 1 := ⟨ok_X4_commandAt, k_489, k_490, by decide +kernel⟩
theorem ok_X4_load : g_ok M_X4_load := ⟨by decide +kernel, (by rw [if_pos (show mH M_X4_load = [] from by decide)]; exact k_491), k_341, by decide +kernel⟩
theorem okV_X4_load : g_okV M_X4_load 0 := ⟨ok_X4_load, k_492, k_493, by decide +kernel⟩
theorem ok_X4_about : g_ok M_X4_about := ⟨by decide +kernel, (by rw [if_pos (show mH M_X4_about = [] from by decide)]; exact k_494), k_341, by decide +kernel⟩
theorem okV_X4_about : g_okV M_X4_about 1 := ⟨ok_X4_about, k_495, k_496, by decide +kernel⟩
theorem ok_X4_page : g_ok M_X4_page := ⟨by decide +kernel, (by rw [if_pos (show mH M_X4_page = [] from by decide)]; exact k_497), k_341, by decide +kernel⟩
theorem okV_X4_page : g_okV M_X4_page 3 := ⟨ok_X4_page, k_498, k_499, by decide +kernel⟩
theorem ok_X4_user : g_ok M_X4_user := ⟨by decide +kernel, (by rw [if_pos (show mH M_X4_user = [] from by decide)]; exact k_500), k_341, by decide +kernel⟩
theorem okV_X4_user : g_okV M_X4_user 2 := ⟨ok_X4_user, k_501, k_502, by decide +kernel⟩
theorem ok_X4_group : g_ok M_X4_group := ⟨by decide +kernel, (by rw [if_pos (show mH M_X4_group = [] from by decide)]; exact k_503), k_341, by decide +kernel⟩
theorem okV_X4_group : g_okV M_X4_group 3 := ⟨ok_X4_group, k_504, k_505, by decide +kernel⟩
theorem ok_X4_remember : g_ok M_X4_remember := ⟨by decide +kernel, (by rw [if_pos (show mH M_X4_remember = [] from by decide)]; exact k_506), k_341, by decide +kernel⟩
theorem okV_X4_remember : g_okV M_X4_remember 0 := ⟨ok_X4_remember, k_507, k_508, by decide +kernel⟩
theorem ok_X4_write : g_ok M_X4_write := ⟨by decide +kernel, (by rw [if_pos (show mH M_X4_write = [] from by decide)]; exact k_509), k_341, by decide +kernel⟩
theorem okV_X4_write : g_okV M_X4_write 3 := ⟨ok_X4_write, k_510, k_511, by decide +kernel⟩
theorem ok_X4_fork : g_ok M_X4_fork := ⟨by decide +kernel, (by rw [if_pos (show mH M_X4_fork = [] from by decide)]; exact k_512), k_341, by decide +kernel⟩
theorem okV_X4_fork : g_okV M_X4_fork 1 := ⟨ok_X4_fork, k_513, k_514, by decide +kernel⟩
theorem ok_X4_exit : g_ok M_X4_exit := ⟨by decide +kernel, (by rw [if_pos (show mH M_X4_exit = [] from by decide)]; exact k_515), k_341, by decide +kernel⟩
theorem okV_X4_exit : g_okV M_X4_exit 1 := ⟨ok_X4_exit, k_516, k_517, by decide +kernel⟩
theorem ok_X4_marry : g_ok M_X4_marry := ⟨by decide +kernel, (by rw [if_pos (show mH M_X4_marry = [] from by decide)]; exact k_518), k_341, by decide +kernel⟩
theorem okV_X4_marry : g_okV M_X4_marry 2 := ⟨ok_X4_marry, k_519, k_520, by decide +kernel⟩
theorem ok_X4_tear : g_ok M_X4_tear := ⟨by decide +kernel, (by rw [if_pos (show mH M_X4_tear = [] from by decide)]; exact k_521), k_341, by decide +kernel⟩
theorem okV_X4_tear : g_okV M_X4_tear 2 := ⟨ok_X4_tear, k_522, k_523, by decide +kernel⟩
theorem ok_X4_press : g_ok M_X4_press := ⟨by decide +kernel, (by rw [if_pos (show mH M_X4_press = [] from by decide)]; exact k_524), k_341, by decide +kernel⟩
theorem okV_X4_press : g_okV M_X4_press 1 := ⟨ok_X4_press, k_525, k_526, by decide +kernel⟩
theorem ok_X4_setEager : g_ok M_X4_setEager := ⟨by decide +kernel, (by rw [if_pos (show mH M_X4_setEager = [] from by decide)]; exact k_527), k_341, by decide +kernel⟩
theorem okV_X4_setEager : g_okV M_X4_setEager 1 := ⟨ok_X4_setEager, k_528, k_529, by decide +kernel⟩
theorem ok_X4_undo : g_ok M_X4_undo := ⟨by decide +kernel, (by rw [if_pos (show mH M_X4_undo = [] from by decide)]; exact k_530), k_341, by decide +kernel⟩
theorem okV_X4_undo : g_okV M_X4_undo 0 := ⟨ok_X4_undo, k_531, k_532, by decide +kernel⟩
theorem ok_X4_whyNot : g_ok M_X4_whyNot := ⟨by decide +kernel, (by rw [if_pos (show mH M_X4_whyNot = [] from by decide)]; exact k_533), k_341, by decide +kernel⟩
theorem okV_X4_whyNot : g_okV M_X4_whyNot 2 := ⟨ok_X4_whyNot, k_534, k_535, by decide +kernel⟩
theorem ok_X4_wouldDo : g_ok M_X4_wouldDo := ⟨by decide +kernel, (by rw [if_pos (show mH M_X4_wouldDo = [] from by decide)]; exact k_536), k_341, by decide +kernel⟩
theorem okV_X4_wouldDo : g_okV M_X4_wouldDo 2 := ⟨ok_X4_wouldDo, k_537, k_538, by decide +kernel⟩
theorem ok_X4_firstToMarry : g_ok M_X4_firstToMarry := ⟨by decide +kernel, (by rw [if_pos (show mH M_X4_firstToMarry = [] from by decide)]; exact k_539), k_341, by decide +kernel⟩
theorem okV_X4_firstToMarry : g_okV M_X4_firstToMarry 1 := ⟨ok_X4_firstToMarry, k_540, k_541, by decide +kernel⟩
theorem ok_X4_marriages : g_ok M_X4_marriages := ⟨by decide +kernel, (by rw [if_pos (show mH M_X4_marriages = [] from by decide)]; exact k_542), k_341, by decide +kernel⟩
theorem okV_X4_marriages : g_okV M_X4_marriages 0 := ⟨ok_X4_marriages, k_543, k_544, by decide +kernel⟩
theorem ok_X4_mostFree : g_ok M_X4_mostFree := ⟨by decide +kernel, (by rw [if_pos (show mH M_X4_mostFree = [] from by decide)]; exact k_545), k_341, by decide +kernel⟩
theorem okV_X4_mostFree : g_okV M_X4_mostFree 0 := ⟨ok_X4_mostFree, k_546, k_547, by decide +kernel⟩
theorem ok_X4_writable : g_ok M_X4_writable := ⟨by decide +kernel, (by rw [if_pos (show mH M_X4_writable = [] from by decide)]; exact k_548), k_341, by decide +kernel⟩
theorem okV_X4_writable : g_okV M_X4_writable 1 := ⟨ok_X4_writable, k_549, k_550, by decide +kernel⟩
theorem ok_X4_tryWrite : g_ok M_X4_tryWrite := ⟨by decide +kernel, (by rw [if_pos (show mH M_X4_tryWrite = [] from by decide)]; exact k_551), k_341, by decide +kernel⟩
theorem okV_X4_tryWrite : g_okV M_X4_tryWrite 3 := ⟨ok_X4_tryWrite, k_552, k_553, by decide +kernel⟩
theorem ok_X4_tryFork : g_ok M_X4_tryFork := ⟨by decide +kernel, (by rw [if_pos (show mH M_X4_tryFork = [] from by decide)]; exact k_554), k_341, by decide +kernel⟩
theorem okV_X4_tryFork : g_okV M_X4_tryFork 1 := ⟨ok_X4_tryFork, k_555, k_556, by decide +kernel⟩
theorem ok_X4_tryExit : g_ok M_X4_tryExit := ⟨by decide +kernel, (by rw [if_pos (show mH M_X4_tryExit = [] from by decide)]; exact k_557), k_341, by decide +kernel⟩
theorem okV_X4_tryExit : g_okV M_X4_tryExit 1 := ⟨ok_X4_tryExit, k_558, k_559, by decide +kernel⟩
theorem ok_X4_tryMarry : g_ok M_X4_tryMarry := ⟨by decide +kernel, (by rw [if_pos (show mH M_X4_tryMarry = [] from by decide)]; exact k_560), k_341, by decide +kernel⟩
theorem okV_X4_tryMarry : g_okV M_X4_tryMarry 2 := ⟨ok_X4_tryMarry, k_561, k_562, by decide +kernel⟩
theorem ok_X4_tryTear : g_ok M_X4_tryTear := ⟨by decide +kernel, (by rw [if_pos (show mH M_X4_tryTear = [] from by decide)]; exact k_563), k_341, by decide +kernel⟩
theorem okV_X4_tryTear : g_okV M_X4_tryTear 2 := ⟨ok_X4_tryTear, k_564, k_565, by decide +kernel⟩
theorem ok_X4_tryPress : g_ok M_X4_tryPress := ⟨by decide +kernel, (by rw [if_pos (show mH M_X4_tryPress = [] from by decide)]; exact k_566), k_341, by decide +kernel⟩
theorem okV_X4_tryPress : g_okV M_X4_tryPress 1 := ⟨ok_X4_tryPress, k_567, k_568, by decide +kernel⟩
theorem ok_X4_hasValue : g_ok M_X4_hasValue := ⟨by decide +kernel, (by rw [if_pos (show mH M_X4_hasValue = [] from by decide)]; exact k_569), k_341, by decide +kernel⟩
theorem okV_X4_hasValue : g_okV M_X4_hasValue 3 := ⟨ok_X4_hasValue, k_570, k_571, by decide +kernel⟩
theorem ok_X4_commands : g_ok M_X4_commands := ⟨by decide +kernel, (by rw [if_pos (show mH M_X4_commands = [] from by decide)]; exact k_572), k_341, by decide +kernel⟩
theorem okV_X4_commands : g_okV M_X4_commands 1 := ⟨ok_X4_commands, k_573, k_574, by decide +kernel⟩
theorem ok_X4_runScript : g_ok M_X4_runScript := ⟨by decide +kernel, (by rw [if_pos (show mH M_X4_runScript = [] from by decide)]; exact k_575), k_341, by decide +kernel⟩
theorem okV_X4_runScript : g_okV M_X4_runScript 2 := ⟨ok_X4_runScript, k_576, k_577, by decide +kernel⟩
theorem ok_X4_step : g_ok M_X4_step := ⟨by decide +kernel, (by rw [if_pos (show mH M_X4_step = [] from by decide)]; exact k_578), k_341, by decide +kernel⟩
theorem okV_X4_step : g_okV M_X4_step 2 := ⟨ok_X4_step, k_579, k_580, by decide +kernel⟩
theorem ok_X4_simulate : g_ok M_X4_simulate := ⟨by decide +kernel, (by rw [if_pos (show mH M_X4_simulate = [] from by decide)]; exact k_581), k_341, by decide +kernel⟩
theorem okV_X4_simulate : g_okV M_X4_simulate 2 := ⟨ok_X4_simulate, k_582, k_583, by decide +kernel⟩
theorem ok_X4_isSlot : g_ok M_X4_isSlot := ⟨by decide +kernel, (by rw [if_pos (show mH M_X4_isSlot = [] from by decide)]; exact k_584), k_341, by decide +kernel⟩
theorem okS_X4_isSlot : g_okS M_X4_isSlot 1 := ⟨ok_X4_isSlot, k_585, by decide +kernel⟩
theorem ok_X4_save : g_ok M_X4_save := ⟨by decide +kernel, (by rw [if_pos (show mH M_X4_save = [] from by decide)]; exact k_586), k_341, by decide +kernel⟩
theorem okV_X4_save : g_okV M_X4_save 1 := ⟨ok_X4_save, k_587, k_588, by decide +kernel⟩
theorem ok_X4_restore : g_ok M_X4_restore := ⟨by decide +kernel, (by rw [if_pos (show mH M_X4_restore = [] from by decide)]; exact k_589), k_341, by decide +kernel⟩
theorem okV_X4_restore : g_okV M_X4_restore 1 := ⟨ok_X4_restore, k_590, k_591, by decide +kernel⟩
theorem ok_J6_bitCount_0f7a4 : g_ok M_J6_bitCount_0f7a4 := ⟨by decide +kernel, (by rw [if_pos (show mH M_J6_bitCount_0f7a4 = [] from by decide)]; exact k_592), k_593, by decide +kernel⟩
theorem okS_J6_bitCount_0f7a4 : g_okS M_J6_bitCount_0f7a4 1 := ⟨ok_J6_bitCount_0f7a4, k_594, by decide +kernel⟩
theorem ok_L_append : g_ok M_L_append := ⟨by decide +kernel, (by rw [if_neg (show mH M_L_append ≠ [] from by decide)]; exact k_595), k_596, by decide +kernel⟩
theorem okS_L_append : g_okS M_L_append 3 := ⟨ok_L_append, k_597, by decide +kernel⟩
theorem ok_L_load : g_ok M_L_load := ⟨by decide +kernel, (by rw [if_neg (show mH M_L_load ≠ [] from by decide)]; exact k_598), k_596, by decide +kernel⟩
theorem okS_L_load : g_okS M_L_load 2 := ⟨ok_L_load, k_599, by decide +kernel⟩
theorem ok_L_about : g_ok M_L_about := ⟨by decide +kernel, (by rw [if_neg (show mH M_L_about ≠ [] from by decide)]; exact k_600), k_596, by decide +kernel⟩
theorem okS_L_about : g_okS M_L_about 3 := ⟨ok_L_about, k_601, by decide +kernel⟩
theorem ok_L_page : g_ok M_L_page := ⟨by decide +kernel, (by rw [if_neg (show mH M_L_page ≠ [] from by decide)]; exact k_602), k_596, by decide +kernel⟩
theorem okS_L_page : g_okS M_L_page 5 := ⟨ok_L_page, k_603, by decide +kernel⟩
theorem ok_L_user : g_ok M_L_user := ⟨by decide +kernel, (by rw [if_neg (show mH M_L_user ≠ [] from by decide)]; exact k_604), k_596, by decide +kernel⟩
theorem okS_L_user : g_okS M_L_user 4 := ⟨ok_L_user, k_605, by decide +kernel⟩
theorem ok_L_group : g_ok M_L_group := ⟨by decide +kernel, (by rw [if_neg (show mH M_L_group ≠ [] from by decide)]; exact k_606), k_596, by decide +kernel⟩
theorem okS_L_group : g_okS M_L_group 5 := ⟨ok_L_group, k_607, by decide +kernel⟩
theorem ok_L_write : g_ok M_L_write := ⟨by decide +kernel, (by rw [if_neg (show mH M_L_write ≠ [] from by decide)]; exact k_608), k_596, by decide +kernel⟩
theorem okS_L_write : g_okS M_L_write 5 := ⟨ok_L_write, k_609, by decide +kernel⟩
theorem ok_L_fork : g_ok M_L_fork := ⟨by decide +kernel, (by rw [if_neg (show mH M_L_fork ≠ [] from by decide)]; exact k_610), k_596, by decide +kernel⟩
theorem okS_L_fork : g_okS M_L_fork 3 := ⟨ok_L_fork, k_611, by decide +kernel⟩
theorem ok_L_exit : g_ok M_L_exit := ⟨by decide +kernel, (by rw [if_neg (show mH M_L_exit ≠ [] from by decide)]; exact k_612), k_596, by decide +kernel⟩
theorem okS_L_exit : g_okS M_L_exit 3 := ⟨ok_L_exit, k_613, by decide +kernel⟩
theorem ok_L_marry : g_ok M_L_marry := ⟨by decide +kernel, (by rw [if_neg (show mH M_L_marry ≠ [] from by decide)]; exact k_614), k_596, by decide +kernel⟩
theorem okS_L_marry : g_okS M_L_marry 4 := ⟨ok_L_marry, k_615, by decide +kernel⟩
theorem ok_L_tear : g_ok M_L_tear := ⟨by decide +kernel, (by rw [if_neg (show mH M_L_tear ≠ [] from by decide)]; exact k_616), k_596, by decide +kernel⟩
theorem okS_L_tear : g_okS M_L_tear 4 := ⟨ok_L_tear, k_617, by decide +kernel⟩
theorem ok_L_press : g_ok M_L_press := ⟨by decide +kernel, (by rw [if_neg (show mH M_L_press ≠ [] from by decide)]; exact k_618), k_596, by decide +kernel⟩
theorem okS_L_press : g_okS M_L_press 3 := ⟨ok_L_press, k_619, by decide +kernel⟩
theorem ok_L_undo : g_ok M_L_undo := ⟨by decide +kernel, (by rw [if_neg (show mH M_L_undo ≠ [] from by decide)]; exact k_620), k_596, by decide +kernel⟩
theorem okS_L_undo : g_okS M_L_undo 2 := ⟨ok_L_undo, k_621, by decide +kernel⟩
theorem ok_L_whyNot : g_ok M_L_whyNot := ⟨by decide +kernel, (by rw [if_neg (show mH M_L_whyNot ≠ [] from by decide)]; exact k_622), k_596, by decide +kernel⟩
theorem okS_L_whyNot : g_okS M_L_whyNot 4 := ⟨ok_L_whyNot, k_623, by decide +kernel⟩
theorem ok_L_wouldDo : g_ok M_L_wouldDo := ⟨by decide +kernel, (by rw [if_neg (show mH M_L_wouldDo ≠ [] from by decide)]; exact k_624), k_596, by decide +kernel⟩
theorem okS_L_wouldDo : g_okS M_L_wouldDo 4 := ⟨ok_L_wouldDo, k_625, by decide +kernel⟩
theorem ok_L_writable : g_ok M_L_writable := ⟨by decide +kernel, (by rw [if_neg (show mH M_L_writable ≠ [] from by decide)]; exact k_626), k_596, by decide +kernel⟩
theorem okS_L_writable : g_okS M_L_writable 3 := ⟨ok_L_writable, k_627, by decide +kernel⟩
theorem ok_L_runScript : g_ok M_L_runScript := ⟨by decide +kernel, (by rw [if_neg (show mH M_L_runScript ≠ [] from by decide)]; exact k_628), k_596, by decide +kernel⟩
theorem okS_L_runScript : g_okS M_L_runScript 4 := ⟨ok_L_runScript, k_629, by decide +kernel⟩
theorem ok_L_simulate : g_ok M_L_simulate := ⟨by decide +kernel, (by rw [if_neg (show mH M_L_simulate ≠ [] from by decide)]; exact k_630), k_596, by decide +kernel⟩
theorem okS_L_simulate : g_okS M_L_simulate 4 := ⟨ok_L_simulate, k_631, by decide +kernel⟩
theorem ok_L_save : g_ok M_L_save := ⟨by decide +kernel, (by rw [if_neg (show mH M_L_save ≠ [] from by decide)]; exact k_632), k_596, by decide +kernel⟩
theorem okS_L_save : g_okS M_L_save 3 := ⟨ok_L_save, k_633, by decide +kernel⟩
theorem ok_L_restore : g_ok M_L_restore := ⟨by decide +kernel, (by rw [if_neg (show mH M_L_restore ≠ [] from by decide)]; exact k_634), k_596, by decide +kernel⟩
theorem okS_L_restore : g_okS M_L_restore 3 := ⟨ok_L_restore, k_635, by decide +kernel⟩
theorem l_L_81 : Cond.methodLink RL 81 yX3_init ∈ g_WS := k_636
theorem l_X3_1 : Cond.methodLink RX3 1 objectInit ∈ g_WS := k_637
theorem l_X2_3 : Cond.methodLink RX2 3 objectInit ∈ g_WS := k_638
theorem l_X3_18 : Cond.methodLink RX3 18 yX1_init ∈ g_WS := k_639
theorem l_X1_3 : Cond.methodLink RX1 3 objectInit ∈ g_WS := k_640
theorem l_X1_21 : Cond.methodLink RX1 21 yX1_beginAnew ∈ g_WS := k_641
theorem l_X3_28 : Cond.methodLink RX3 28 yX0_init ∈ g_WS := k_642
theorem l_X0_3 : Cond.methodLink RX0 3 objectInit ∈ g_WS := k_643
theorem l_X0_17 : Cond.methodLink RX0 17 yX1_init ∈ g_WS := k_644
theorem l_L_94 : Cond.methodLink RL 94 yX3_clearText ∈ g_WS := k_645
theorem l_X3_61 : Cond.methodLink RX3 61 yX2_empty ∈ g_WS := k_646
theorem l_L_98 : Cond.methodLink RL 98 yX3_errorPosition ∈ g_WS := k_647
theorem l_X3_64 : Cond.methodLink RX3 64 yX2_firstError ∈ g_WS := k_648
theorem l_X2_19 : Cond.methodLink RX2 19 yX2_sign ∈ g_WS := k_649
theorem l_X2_27 : Cond.methodLink RX2 27 yX2_isAllowedDigit ∈ g_WS := k_650
theorem l_X2_23 : Cond.methodLink RX2 23 yX2_digit ∈ g_WS := k_651
theorem l_X2_35 : Cond.methodLink RX2 35 yX2_highestDigit ∈ g_WS := k_652
theorem l_X2_31 : Cond.methodLink RX2 31 yX2_digitsBehind ∈ g_WS := k_653
theorem l_L_138 : Cond.methodLink RL 138 yX3_setEager ∈ g_WS := k_654
theorem l_X3_177 : Cond.methodLink RX3 177 yX0_remember ∈ g_WS := k_655
theorem l_X0_25 : Cond.methodLink RX0 25 yX1_copyFrom ∈ g_WS := k_656
theorem l_X1_47 : Cond.methodLink RX1 47 arraycopyName ∈ g_WS := k_657
theorem l_X0_29 : Cond.methodLink RX0 29 Lib.Math.min.name ∈ g_WS := k_658
theorem l_X3_92 : Cond.methodLink RX3 92 yX1_freeRuns ∈ g_WS := k_659
theorem l_X1_60 : Cond.methodLink RX1 60 yX1_isRunFree ∈ g_WS := k_660
theorem l_L_152 : Cond.methodLink RL 152 yX3_marriages ∈ g_WS := k_661
theorem l_X3_232 : Cond.methodLink RX3 232 yX1_copyFrom ∈ g_WS := k_662
theorem l_X3_235 : Cond.methodLink RX3 235 yX1_marryNext ∈ g_WS := k_663
theorem l_X1_53 : Cond.methodLink RX1 53 yX1_hasProcess ∈ g_WS := k_664
theorem l_X1_152 : Cond.methodLink RX1 152 yX1_obstacleToMarriage ∈ g_WS := k_665
theorem l_X1_77 : Cond.methodLink RX1 77 yX1_isBig ∈ g_WS := k_666
theorem l_X1_115 : Cond.methodLink RX1 115 yX1_pagesWithFrame ∈ g_WS := k_667
theorem l_X1_73 : Cond.methodLink RX1 73 yX1_frameOf ∈ g_WS := k_668
theorem l_X1_80 : Cond.methodLink RX1 80 yX1_pagesWithSharedFrame ∈ g_WS := k_669
theorem l_X1_57 : Cond.methodLink RX1 57 yX1_isShared ∈ g_WS := k_670
theorem l_X1_146 : Cond.methodLink RX1 146 yX1_isInPlace ∈ g_WS := k_671
theorem l_X1_112 : Cond.methodLink RX1 112 yX1_lowestFreeRun ∈ g_WS := k_672
theorem l_X1_159 : Cond.methodLink RX1 159 yX1_doMarry ∈ g_WS := k_673
theorem l_X1_149 : Cond.methodLink RX1 149 yX1_hasGroup ∈ g_WS := k_674
theorem l_X1_155 : Cond.methodLink RX1 155 yX1_moveTo ∈ g_WS := k_675
theorem l_X1_89 : Cond.methodLink RX1 89 yX1_valueOf ∈ g_WS := k_676
theorem l_X1_137 : Cond.methodLink RX1 137 yX1_letGo ∈ g_WS := k_677
theorem l_X1_125 : Cond.methodLink RX1 125 yX1_takeFrame ∈ g_WS := k_678
theorem l_X1_128 : Cond.methodLink RX1 128 yX1_becomeBig ∈ g_WS := k_679
theorem l_L_156 : Cond.methodLink RL 156 yX3_mostFree ∈ g_WS := k_680
theorem l_X3_221 : Cond.methodLink RX3 221 yX1_doPress ∈ g_WS := k_681
theorem l_X1_99 : Cond.methodLink RX1 99 yX1_freeFrames ∈ g_WS := k_682
theorem l_X1_162 : Cond.methodLink RX1 162 yX1_loseFirstPage ∈ g_WS := k_683
theorem l_X1_169 : Cond.methodLink RX1 169 yX1_usersOfFrameOf ∈ g_WS := k_684
theorem l_X1_166 : Cond.methodLink RX1 166 yX1_tearEmptiestGroup ∈ g_WS := k_685
theorem l_X1_172 : Cond.methodLink RX1 172 yX1_pagesWithValueZero ∈ g_WS := k_686
theorem l_X1_131 : Cond.methodLink RX1 131 yX1_becomeTorn ∈ g_WS := k_687
theorem l_X1_92 : Cond.methodLink RX1 92 yX1_becomeSmall ∈ g_WS := k_688
theorem l_L_85 : Cond.methodLink RL 85 yL_append ∈ g_WS := k_689
theorem l_L_7 : Cond.methodLink RL 7 yX3_append ∈ g_WS := k_690
theorem l_X3_48 : Cond.methodLink RX3 48 yX2_length ∈ g_WS := k_691
theorem l_X3_57 : Cond.methodLink RX3 57 yX2_add ∈ g_WS := k_692
theorem l_L_102 : Cond.methodLink RL 102 yL_load ∈ g_WS := k_693
theorem l_L_17 : Cond.methodLink RL 17 yX3_load ∈ g_WS := k_694
theorem l_X3_69 : Cond.methodLink RX3 69 yX1_beginAnew ∈ g_WS := k_695
theorem l_X3_72 : Cond.methodLink RX3 72 yX0_forget ∈ g_WS := k_696
theorem l_X3_75 : Cond.methodLink RX3 75 yX2_sign ∈ g_WS := k_697
theorem l_X3_79 : Cond.methodLink RX3 79 yX2_digitsBehind ∈ g_WS := k_698
theorem l_X3_82 : Cond.methodLink RX3 82 yX3_doCommandOfText ∈ g_WS := k_699
theorem l_X3_288 : Cond.methodLink RX3 288 yX2_digit ∈ g_WS := k_700
theorem l_X3_291 : Cond.methodLink RX3 291 yX2_number ∈ g_WS := k_701
theorem l_X3_181 : Cond.methodLink RX3 181 yX1_doWrite ∈ g_WS := k_702
theorem l_X1_103 : Cond.methodLink RX1 103 yX1_outcomeOfWrite ∈ g_WS := k_703
theorem l_X1_96 : Cond.methodLink RX1 96 yX1_hasPage ∈ g_WS := k_704
theorem l_X1_106 : Cond.methodLink RX1 106 yX1_bringIn ∈ g_WS := k_705
theorem l_X1_118 : Cond.methodLink RX1 118 yX1_bringInWhole ∈ g_WS := k_706
theorem l_X1_122 : Cond.methodLink RX1 122 yX1_takeSingleFrame ∈ g_WS := k_707
theorem l_X1_134 : Cond.methodLink RX1 134 yX1_lowestSingleFrame ∈ g_WS := k_708
theorem l_X1_109 : Cond.methodLink RX1 109 yX1_copyOut ∈ g_WS := k_709
theorem l_X3_194 : Cond.methodLink RX3 194 yX1_doFork ∈ g_WS := k_710
theorem l_X1_140 : Cond.methodLink RX1 140 yX1_lowestUnusedProcess ∈ g_WS := k_711
theorem l_X3_203 : Cond.methodLink RX3 203 yX1_doExit ∈ g_WS := k_712
theorem l_X1_143 : Cond.methodLink RX1 143 yX1_canExit ∈ g_WS := k_713
theorem l_X1_63 : Cond.methodLink RX1 63 yJ6_bitCount_0f7a4 ∈ g_WS := k_714
theorem l_X3_211 : Cond.methodLink RX3 211 yX1_doMarry ∈ g_WS := k_715
theorem l_L_106 : Cond.methodLink RL 106 yL_about ∈ g_WS := k_716
theorem l_L_21 : Cond.methodLink RL 21 yX3_about ∈ g_WS := k_717
theorem l_X3_86 : Cond.methodLink RX3 86 yX1_processes ∈ g_WS := k_718
theorem l_X3_89 : Cond.methodLink RX3 89 yX1_freeFrames ∈ g_WS := k_719
theorem l_X3_95 : Cond.methodLink RX3 95 yX1_bigGroups ∈ g_WS := k_720
theorem l_X3_98 : Cond.methodLink RX3 98 yX1_widows ∈ g_WS := k_721
theorem l_X1_69 : Cond.methodLink RX1 69 yX1_isWidow ∈ g_WS := k_722
theorem l_X1_83 : Cond.methodLink RX1 83 yX1_runOf ∈ g_WS := k_723
theorem l_X1_86 : Cond.methodLink RX1 86 yX1_bigGroupsInRun ∈ g_WS := k_724
theorem l_X3_101 : Cond.methodLink RX3 101 yX1_sharedFrames ∈ g_WS := k_725
theorem l_L_109 : Cond.methodLink RL 109 yL_page ∈ g_WS := k_726
theorem l_L_24 : Cond.methodLink RL 24 yX3_page ∈ g_WS := k_727
theorem l_X3_123 : Cond.methodLink RX3 123 yX3_requirePage ∈ g_WS := k_728
theorem l_X3_276 : Cond.methodLink RX3 276 yX1_hasPage ∈ g_WS := k_729
theorem l_X3_127 : Cond.methodLink RX3 127 yX1_frameOf ∈ g_WS := k_730
theorem l_X3_131 : Cond.methodLink RX3 131 yX1_valueOf ∈ g_WS := k_731
theorem l_X3_134 : Cond.methodLink RX3 134 yX1_usersOfFrameOf ∈ g_WS := k_732
theorem l_X3_137 : Cond.methodLink RX3 137 yX1_isBig ∈ g_WS := k_733
theorem l_L_113 : Cond.methodLink RL 113 yL_user ∈ g_WS := k_734
theorem l_L_30 : Cond.methodLink RL 30 yX3_user ∈ g_WS := k_735
theorem l_X3_150 : Cond.methodLink RX3 150 yX1_userAt ∈ g_WS := k_736
theorem l_L_117 : Cond.methodLink RL 117 yL_group ∈ g_WS := k_737
theorem l_L_34 : Cond.methodLink RL 34 yX3_group ∈ g_WS := k_738
theorem l_X3_153 : Cond.methodLink RX3 153 yX3_requireGroup ∈ g_WS := k_739
theorem l_X3_281 : Cond.methodLink RX3 281 yX1_hasGroup ∈ g_WS := k_740
theorem l_X3_156 : Cond.methodLink RX3 156 yX1_pagesWithFrame ∈ g_WS := k_741
theorem l_X3_159 : Cond.methodLink RX3 159 yX1_isWidow ∈ g_WS := k_742
theorem l_X3_162 : Cond.methodLink RX3 162 yX1_pagesWithSharedFrame ∈ g_WS := k_743
theorem l_X3_165 : Cond.methodLink RX3 165 yX1_runOf ∈ g_WS := k_744
theorem l_L_120 : Cond.methodLink RL 120 yL_write ∈ g_WS := k_745
theorem l_L_37 : Cond.methodLink RL 37 yX3_write ∈ g_WS := k_746
theorem l_X3_172 : Cond.methodLink RX3 172 yX1_outcomeOfWrite ∈ g_WS := k_747
theorem l_L_123 : Cond.methodLink RL 123 yL_fork ∈ g_WS := k_748
theorem l_L_40 : Cond.methodLink RL 40 yX3_fork ∈ g_WS := k_749
theorem l_X3_185 : Cond.methodLink RX3 185 yX3_requireProcess ∈ g_WS := k_750
theorem l_X3_271 : Cond.methodLink RX3 271 yX1_hasProcess ∈ g_WS := k_751
theorem l_X3_189 : Cond.methodLink RX3 189 yX1_canFork ∈ g_WS := k_752
theorem l_L_126 : Cond.methodLink RL 126 yL_exit ∈ g_WS := k_753
theorem l_L_43 : Cond.methodLink RL 43 yX3_exit ∈ g_WS := k_754
theorem l_X3_198 : Cond.methodLink RX3 198 yX1_canExit ∈ g_WS := k_755
theorem l_L_129 : Cond.methodLink RL 129 yL_marry ∈ g_WS := k_756
theorem l_L_46 : Cond.methodLink RL 46 yX3_marry ∈ g_WS := k_757
theorem l_X3_206 : Cond.methodLink RX3 206 yX1_obstacleToMarriage ∈ g_WS := k_758
theorem l_L_132 : Cond.methodLink RL 132 yL_tear ∈ g_WS := k_759
theorem l_L_49 : Cond.methodLink RL 49 yX3_tear ∈ g_WS := k_760
theorem l_X3_216 : Cond.methodLink RX3 216 yX1_doTear ∈ g_WS := k_761
theorem l_L_135 : Cond.methodLink RL 135 yL_press ∈ g_WS := k_762
theorem l_L_52 : Cond.methodLink RL 52 yX3_press ∈ g_WS := k_763
theorem l_L_143 : Cond.methodLink RL 143 yL_undo ∈ g_WS := k_764
theorem l_L_55 : Cond.methodLink RL 55 yX3_undo ∈ g_WS := k_765
theorem l_X3_224 : Cond.methodLink RX3 224 yX0_size ∈ g_WS := k_766
theorem l_X3_229 : Cond.methodLink RX3 229 yX0_takeBack ∈ g_WS := k_767
theorem l_L_146 : Cond.methodLink RL 146 yL_whyNot ∈ g_WS := k_768
theorem l_L_58 : Cond.methodLink RL 58 yX3_whyNot ∈ g_WS := k_769
theorem l_L_149 : Cond.methodLink RL 149 yL_wouldDo ∈ g_WS := k_770
theorem l_L_61 : Cond.methodLink RL 61 yX3_wouldDo ∈ g_WS := k_771
theorem l_L_160 : Cond.methodLink RL 160 yL_writable ∈ g_WS := k_772
theorem l_L_64 : Cond.methodLink RL 64 yX3_writable ∈ g_WS := k_773
theorem l_L_165 : Cond.methodLink RL 165 yL_runScript ∈ g_WS := k_774
theorem l_L_67 : Cond.methodLink RL 67 yX3_runScript ∈ g_WS := k_775
theorem l_X3_241 : Cond.methodLink RX3 241 yX3_withoutLastCommands ∈ g_WS := k_776
theorem l_X3_249 : Cond.methodLink RX3 249 yX3_doCommandOfScript ∈ g_WS := k_777
theorem l_L_169 : Cond.methodLink RL 169 yL_simulate ∈ g_WS := k_778
theorem l_L_71 : Cond.methodLink RL 71 yX3_simulate ∈ g_WS := k_779
theorem l_X3_258 : Cond.methodLink RX3 258 yX3_doStep ∈ g_WS := k_780
theorem l_X3_261 : Cond.methodLink RX3 261 Lib.Math.min.name ∈ g_WS := k_781
theorem l_L_173 : Cond.methodLink RL 173 yL_save ∈ g_WS := k_782
theorem l_L_75 : Cond.methodLink RL 75 yX3_save ∈ g_WS := k_783
theorem l_X3_266 : Cond.methodLink RX3 266 yX3_requireSlot ∈ g_WS := k_784
theorem l_L_176 : Cond.methodLink RL 176 yL_restore ∈ g_WS := k_785
theorem l_L_78 : Cond.methodLink RL 78 yX3_restore ∈ g_WS := k_786
theorem l_L_84 : Cond.methodLink RL 84 yX4_init ∈ g_WS := k_787
theorem l_X4_1 : Cond.methodLink RX4 1 objectInit ∈ g_WS := k_788
theorem l_X4_31 : Cond.methodLink RX4 31 yX4_renew ∈ g_WS := k_789
theorem l_L_91 : Cond.methodLink RL 91 yX4_thrown ∈ g_WS := k_790
theorem l_L_90 : Cond.methodLink RL 90 yX4_append ∈ g_WS := k_791
theorem l_X4_38 : Cond.methodLink RX4 38 yX4_within ∈ g_WS := k_792
theorem l_L_97 : Cond.methodLink RL 97 yX4_clearText ∈ g_WS := k_793
theorem l_L_101 : Cond.methodLink RL 101 yX4_errorPosition ∈ g_WS := k_794
theorem l_X4_139 : Cond.methodLink RX4 139 yX4_findError ∈ g_WS := k_795
theorem l_X4_133 : Cond.methodLink RX4 133 yX4_isLetter ∈ g_WS := k_796
theorem l_X4_130 : Cond.methodLink RX4 130 yX4_mostAt ∈ g_WS := k_797
theorem l_X4_127 : Cond.methodLink RX4 127 yX4_digit ∈ g_WS := k_798
theorem l_X4_136 : Cond.methodLink RX4 136 yX4_lengthAt ∈ g_WS := k_799
theorem l_L_105 : Cond.methodLink RL 105 yX4_load ∈ g_WS := k_800
theorem l_X4_157 : Cond.methodLink RX4 157 yX4_commandAt ∈ g_WS := k_801
theorem l_X4_142 : Cond.methodLink RX4 142 yX4_tryWrite ∈ g_WS := k_802
theorem l_X4_166 : Cond.methodLink RX4 166 yX4_isPage ∈ g_WS := k_803
theorem l_X4_42 : Cond.methodLink RX4 42 yX4_isProcess ∈ g_WS := k_804
theorem l_X4_90 : Cond.methodLink RX4 90 yX4_outcome ∈ g_WS := k_805
theorem l_X4_53 : Cond.methodLink RX4 53 yX4_frameOf ∈ g_WS := k_806
theorem l_X4_77 : Cond.methodLink RX4 77 yX4_isEagerFault ∈ g_WS := k_807
theorem l_X4_70 : Cond.methodLink RX4 70 yX4_placedIn ∈ g_WS := k_808
theorem l_X4_73 : Cond.methodLink RX4 73 yX4_freeRun ∈ g_WS := k_809
theorem l_X4_50 : Cond.methodLink RX4 50 yX4_isFreeRun ∈ g_WS := k_810
theorem l_X4_46 : Cond.methodLink RX4 46 yX4_uses ∈ g_WS := k_811
theorem l_X4_80 : Cond.methodLink RX4 80 yX4_singleFrame ∈ g_WS := k_812
theorem l_X4_57 : Cond.methodLink RX4 57 yX4_isShared ∈ g_WS := k_813
theorem l_X4_60 : Cond.methodLink RX4 60 yX4_isBig ∈ g_WS := k_814
theorem l_X4_179 : Cond.methodLink RX4 179 yX4_written ∈ g_WS := k_815
theorem l_X4_93 : Cond.methodLink RX4 93 yX4_makeBig ∈ g_WS := k_816
theorem l_X4_83 : Cond.methodLink RX4 83 yX4_setFrame ∈ g_WS := k_817
theorem l_X4_87 : Cond.methodLink RX4 87 yX4_setBig ∈ g_WS := k_818
theorem l_X4_145 : Cond.methodLink RX4 145 yX4_tryFork ∈ g_WS := k_819
theorem l_X4_183 : Cond.methodLink RX4 183 yX4_whyNotForked ∈ g_WS := k_820
theorem l_X4_97 : Cond.methodLink RX4 97 yX4_freeProcess ∈ g_WS := k_821
theorem l_X4_186 : Cond.methodLink RX4 186 yX4_forked ∈ g_WS := k_822
theorem l_X4_148 : Cond.methodLink RX4 148 yX4_tryExit ∈ g_WS := k_823
theorem l_X4_189 : Cond.methodLink RX4 189 yX4_whyNotEnded ∈ g_WS := k_824
theorem l_X4_100 : Cond.methodLink RX4 100 yX4_processMany ∈ g_WS := k_825
theorem l_X4_192 : Cond.methodLink RX4 192 yX4_ended ∈ g_WS := k_826
theorem l_X4_103 : Cond.methodLink RX4 103 yX4_freeFrames ∈ g_WS := k_827
theorem l_X4_151 : Cond.methodLink RX4 151 yX4_tryMarry ∈ g_WS := k_828
theorem l_X4_169 : Cond.methodLink RX4 169 yX4_isGroup ∈ g_WS := k_829
theorem l_X4_195 : Cond.methodLink RX4 195 yX4_whyNoMarriage ∈ g_WS := k_830
theorem l_X4_64 : Cond.methodLink RX4 64 yX4_sharedIn ∈ g_WS := k_831
theorem l_X4_106 : Cond.methodLink RX4 106 yX4_isInPlace ∈ g_WS := k_832
theorem l_X4_198 : Cond.methodLink RX4 198 yX4_married ∈ g_WS := k_833
theorem l_X4_109 : Cond.methodLink RX4 109 yX4_valueOf ∈ g_WS := k_834
theorem l_L_108 : Cond.methodLink RL 108 yX4_about ∈ g_WS := k_835
theorem l_X4_160 : Cond.methodLink RX4 160 yX4_isWidow ∈ g_WS := k_836
theorem l_X4_67 : Cond.methodLink RX4 67 yX4_runOf ∈ g_WS := k_837
theorem l_X4_163 : Cond.methodLink RX4 163 yX4_freeRuns ∈ g_WS := k_838
theorem l_L_112 : Cond.methodLink RL 112 yX4_page ∈ g_WS := k_839
theorem l_L_116 : Cond.methodLink RL 116 yX4_user ∈ g_WS := k_840
theorem l_L_119 : Cond.methodLink RL 119 yX4_group ∈ g_WS := k_841
theorem l_L_122 : Cond.methodLink RL 122 yX4_write ∈ g_WS := k_842
theorem l_X4_176 : Cond.methodLink RX4 176 yX4_remember ∈ g_WS := k_843
theorem l_X4_172 : Cond.methodLink RX4 172 yX4_copy ∈ g_WS := k_844
theorem l_L_125 : Cond.methodLink RL 125 yX4_fork ∈ g_WS := k_845
theorem l_L_128 : Cond.methodLink RL 128 yX4_exit ∈ g_WS := k_846
theorem l_L_131 : Cond.methodLink RL 131 yX4_marry ∈ g_WS := k_847
theorem l_L_134 : Cond.methodLink RL 134 yX4_tear ∈ g_WS := k_848
theorem l_X4_121 : Cond.methodLink RX4 121 yX4_torn ∈ g_WS := k_849
theorem l_L_137 : Cond.methodLink RL 137 yX4_press ∈ g_WS := k_850
theorem l_X4_201 : Cond.methodLink RX4 201 yX4_pressed ∈ g_WS := k_851
theorem l_X4_115 : Cond.methodLink RX4 115 yX4_firstLoser ∈ g_WS := k_852
theorem l_X4_112 : Cond.methodLink RX4 112 yX4_isEmpty ∈ g_WS := k_853
theorem l_X4_118 : Cond.methodLink RX4 118 yX4_firstTorn ∈ g_WS := k_854
theorem l_L_142 : Cond.methodLink RL 142 yX4_setEager ∈ g_WS := k_855
theorem l_L_145 : Cond.methodLink RL 145 yX4_undo ∈ g_WS := k_856
theorem l_L_148 : Cond.methodLink RL 148 yX4_whyNot ∈ g_WS := k_857
theorem l_L_151 : Cond.methodLink RL 151 yX4_wouldDo ∈ g_WS := k_858
theorem l_L_155 : Cond.methodLink RL 155 yX4_marriages ∈ g_WS := k_859
theorem l_X4_204 : Cond.methodLink RX4 204 yX4_firstToMarry ∈ g_WS := k_860
theorem l_L_159 : Cond.methodLink RL 159 yX4_mostFree ∈ g_WS := k_861
theorem l_L_162 : Cond.methodLink RL 162 yX4_writable ∈ g_WS := k_862
theorem l_L_168 : Cond.methodLink RL 168 yX4_runScript ∈ g_WS := k_863
theorem l_X4_223 : Cond.methodLink RX4 223 yX4_commands ∈ g_WS := k_864
theorem l_X4_208 : Cond.methodLink RX4 208 yX4_tryTear ∈ g_WS := k_865
theorem l_X4_211 : Cond.methodLink RX4 211 yX4_tryPress ∈ g_WS := k_866
theorem l_X4_214 : Cond.methodLink RX4 214 yX4_hasValue ∈ g_WS := k_867
theorem l_L_172 : Cond.methodLink RL 172 yX4_simulate ∈ g_WS := k_868
theorem l_X4_230 : Cond.methodLink RX4 230 yX4_step ∈ g_WS := k_869
theorem l_L_175 : Cond.methodLink RL 175 yX4_save ∈ g_WS := k_870
theorem l_X4_233 : Cond.methodLink RX4 233 yX4_isSlot ∈ g_WS := k_871
theorem l_L_178 : Cond.methodLink RL 178 yX4_restore ∈ g_WS := k_872
theorem cl_L_8 : Cond.classLink RL 8 RX3 ∈ g_WS := k_873
theorem cl_X3_7 : Cond.classLink RX3 7 RX2 ∈ g_WS := k_874
theorem ac_char : Cond.arrayClass .char ∈ g_WS := k_875
theorem cl_X3_16 : Cond.classLink RX3 16 RX1 ∈ g_WS := k_876
theorem ac_int : Cond.arrayClass .int ∈ g_WS := k_877
theorem cl_X3_26 : Cond.classLink RX3 26 RX0 ∈ g_WS := k_878
theorem cl_X0_9 : Cond.classLink RX0 9 RX1 ∈ g_WS := k_879
theorem ac_boolean : Cond.arrayClass .boolean ∈ g_WS := k_880
theorem cl_L_13 : Cond.classLink RL 13 "java/lang/IllegalArgumentException" ∈ g_WS := k_881
theorem cl_L_15 : Cond.classLink RL 15 "java/lang/IllegalStateException" ∈ g_WS := k_882
theorem cl_X3_41 : Cond.classLink RX3 41 "java/lang/IllegalArgumentException" ∈ g_WS := k_883
theorem ac_byte : Cond.arrayClass .byte ∈ g_WS := k_884
theorem cl_X3_52 : Cond.classLink RX3 52 "java/lang/IllegalStateException" ∈ g_WS := k_885
theorem co_J6_265 : Cond.constant RJ6 265 (1431655765 : Int32) ∈ g_WS := k_886
theorem co_J6_266 : Cond.constant RJ6 266 (858993459 : Int32) ∈ g_WS := k_887
theorem co_J6_267 : Cond.constant RJ6 267 (252645135 : Int32) ∈ g_WS := k_888
theorem cl_L_28 : Cond.classLink RL 28 "java/lang/IndexOutOfBoundsException" ∈ g_WS := k_889
theorem cl_X3_143 : Cond.classLink RX3 143 "java/lang/IndexOutOfBoundsException" ∈ g_WS := k_890
theorem co_X3_247 : Cond.constantLong RX3 247 (100000 : Int64) ∈ g_WS := k_891
theorem co_X3_254 : Cond.constantLong RX3 254 (6364136223846793005 : Int64) ∈ g_WS := k_892
theorem co_X3_256 : Cond.constantLong RX3 256 (1442695040888963407 : Int64) ∈ g_WS := k_893
theorem cl_L_82 : Cond.classLink RL 82 RX4 ∈ g_WS := k_894
theorem co_X4_217 : Cond.constantLong RX4 217 (100000 : Int64) ∈ g_WS := k_895
theorem co_X4_219 : Cond.constantLong RX4 219 (10000000000 : Int64) ∈ g_WS := k_896
theorem co_X4_221 : Cond.constantLong RX4 221 (1000000000000000 : Int64) ∈ g_WS := k_897
theorem co_X4_226 : Cond.constantLong RX4 226 (6364136223846793005 : Int64) ∈ g_WS := k_898
theorem co_X4_228 : Cond.constantLong RX4 228 (1442695040888963407 : Int64) ∈ g_WS := k_899
theorem co_L_163 : Cond.constantLong RL 163 (4294967295 : Int64) ∈ g_WS := k_900
theorem ac_long : Cond.arrayClass .long ∈ g_WS := k_901
theorem w_oi1 : Cond.instanceMethod objectInit ∈ g_WS := k_902
theorem w_oi2 : Cond.code objectInit ⟨#[0xb1]⟩ 1 none ∈ g_WS := k_903
theorem w_mm1 : Cond.static Lib.Math.min.name ∈ g_WS := k_904
theorem w_mm2 : Cond.initialized RJ9 ∈ g_WS := k_905
theorem w_mm3 : Cond.code Lib.Math.min.name Lib.Math.min.code 2 (some .int) ∈ g_WS := k_906
theorem w_ac1 : Cond.native arraycopyName ∈ g_WS := k_907
theorem w_ac2 : Cond.static arraycopyName ∈ g_WS := k_908
theorem w_ac3 : Cond.initialized RJ10 ∈ g_WS := k_909
theorem n_L_8 : g_N RL 3 8 6 [vN, vN, vN, vN, vN, vN] := ⟨RX3, TX3, 6, tyX3, rfl, k_ws_3, tyX3_ok, k_873, k_910, k_240, rfl, fun ad j hj => by rcases (show j = 0 ∨ j = 1 ∨ j = 2 ∨ j = 3 ∨ j = 4 ∨ j = 5 by omega) with rfl | rfl | rfl | rfl | rfl | rfl <;> rfl⟩
theorem n_X3_7 : g_N RX3 2 7 2 [vN, vI 0] := ⟨RX2, TX2, 2, tyX2, rfl, k_ws_2, tyX2_ok, k_874, k_911, k_208, rfl, fun ad j hj => by rcases (show j = 0 ∨ j = 1 by omega) with rfl | rfl <;> rfl⟩
theorem n_X3_16 : g_N RX3 1 16 10 [vN, vN, vN, vI 0, vI 0, vI 0, vI 0, vI 0, vI 0, vI 0] := ⟨RX1, TX1, 10, tyX1, rfl, k_ws_1, tyX1_ok, k_876, k_912, k_52, rfl, fun ad j hj => by rcases (show j = 0 ∨ j = 1 ∨ j = 2 ∨ j = 3 ∨ j = 4 ∨ j = 5 ∨ j = 6 ∨ j = 7 ∨ j = 8 ∨ j = 9 by omega) with rfl | rfl | rfl | rfl | rfl | rfl | rfl | rfl | rfl | rfl <;> rfl⟩
theorem n_X3_26 : g_N RX3 0 26 3 [vN, vI 0, vI 0] := ⟨RX0, TX0, 3, tyX0, rfl, k_ws_0, tyX0_ok, k_878, k_913, k_37, rfl, fun ad j hj => by rcases (show j = 0 ∨ j = 1 ∨ j = 2 by omega) with rfl | rfl | rfl <;> rfl⟩
theorem n_X0_9 : g_N RX0 1 9 10 [vN, vN, vN, vI 0, vI 0, vI 0, vI 0, vI 0, vI 0, vI 0] := ⟨RX1, TX1, 10, tyX1, rfl, k_ws_1, tyX1_ok, k_879, k_912, k_52, rfl, fun ad j hj => by rcases (show j = 0 ∨ j = 1 ∨ j = 2 ∨ j = 3 ∨ j = 4 ∨ j = 5 ∨ j = 6 ∨ j = 7 ∨ j = 8 ∨ j = 9 by omega) with rfl | rfl | rfl | rfl | rfl | rfl | rfl | rfl | rfl | rfl <;> rfl⟩
theorem n_L_82 : g_N RL 4 82 10 [vI 0, vN, vN, vN, vN, vI 0, vN, vN, vN, vI 0] := ⟨RX4, TX4, 10, tyX4, rfl, k_ws_4, tyX4_ok, k_894, k_914, k_341, rfl, fun ad j hj => by rcases (show j = 0 ∨ j = 1 ∨ j = 2 ∨ j = 3 ∨ j = 4 ∨ j = 5 ∨ j = 6 ∨ j = 7 ∨ j = 8 ∨ j = 9 by omega) with rfl | rfl | rfl | rfl | rfl | rfl | rfl | rfl | rfl | rfl <;> rfl⟩
set_option maxRecDepth 100000 in
theorem e_41_45 : g_E RX3 41 45 "java/lang/IllegalArgumentException" := ⟨by decide +kernel, k_883, k_915, by
  have h : ((vx_atS RX3 45 "java/lang/IllegalArgumentException" g_xn).all fun wd => (decide (wd ∈ lw_tbl) && goodWord wd) || (g_csts.any fun q => decide (wd = .castable q.1 q.2)) || g_decl.any fun q => decide (wd = .declares q)) = true := by decide +kernel
  intro wd hw
  have h1 := List.all_eq_true.mp h wd hw
  rw [Bool.or_eq_true, Bool.or_eq_true] at h1
  rcases h1 with (h1 | h1) | h1
  · rw [Bool.and_eq_true] at h1
    exact Or.inl (List.mem_filter.mpr ⟨of_decide_eq_true h1.1, h1.2⟩)
  · obtain ⟨q, hq, h2⟩ := List.any_eq_true.mp h1
    exact Or.inr (Or.inl ⟨q, hq, of_decide_eq_true h2⟩)
  · obtain ⟨q, hq, h2⟩ := List.any_eq_true.mp h1
    exact Or.inr (Or.inr ⟨q, hq, of_decide_eq_true h2⟩), by
  have h : (Cond.classLink RX3 41 "java/lang/IllegalArgumentException" :: Cond.initialized "java/lang/IllegalArgumentException" :: vx_atS RX3 45 "java/lang/IllegalArgumentException" g_xn).all vx_ot = true := by decide +kernel
  exact fun wd hw => List.all_eq_true.mp h wd hw⟩
set_option maxRecDepth 100000 in
theorem e_52_56 : g_E RX3 52 56 "java/lang/IllegalStateException" := ⟨by decide +kernel, k_885, k_916, by
  have h : ((vx_atS RX3 56 "java/lang/IllegalStateException" g_xn).all fun wd => (decide (wd ∈ lw_tbl) && goodWord wd) || (g_csts.any fun q => decide (wd = .castable q.1 q.2)) || g_decl.any fun q => decide (wd = .declares q)) = true := by decide +kernel
  intro wd hw
  have h1 := List.all_eq_true.mp h wd hw
  rw [Bool.or_eq_true, Bool.or_eq_true] at h1
  rcases h1 with (h1 | h1) | h1
  · rw [Bool.and_eq_true] at h1
    exact Or.inl (List.mem_filter.mpr ⟨of_decide_eq_true h1.1, h1.2⟩)
  · obtain ⟨q, hq, h2⟩ := List.any_eq_true.mp h1
    exact Or.inr (Or.inl ⟨q, hq, of_decide_eq_true h2⟩)
  · obtain ⟨q, hq, h2⟩ := List.any_eq_true.mp h1
    exact Or.inr (Or.inr ⟨q, hq, of_decide_eq_true h2⟩), by
  have h : (Cond.classLink RX3 52 "java/lang/IllegalStateException" :: Cond.initialized "java/lang/IllegalStateException" :: vx_atS RX3 56 "java/lang/IllegalStateException" g_xn).all vx_ot = true := by decide +kernel
  exact fun wd hw => List.all_eq_true.mp h wd hw⟩
set_option maxRecDepth 100000 in
theorem e_143_147 : g_E RX3 143 147 "java/lang/IndexOutOfBoundsException" := ⟨by decide +kernel, k_890, k_917, by
  have h : ((vx_atS RX3 147 "java/lang/IndexOutOfBoundsException" g_xn).all fun wd => (decide (wd ∈ lw_tbl) && goodWord wd) || (g_csts.any fun q => decide (wd = .castable q.1 q.2)) || g_decl.any fun q => decide (wd = .declares q)) = true := by decide +kernel
  intro wd hw
  have h1 := List.all_eq_true.mp h wd hw
  rw [Bool.or_eq_true, Bool.or_eq_true] at h1
  rcases h1 with (h1 | h1) | h1
  · rw [Bool.and_eq_true] at h1
    exact Or.inl (List.mem_filter.mpr ⟨of_decide_eq_true h1.1, h1.2⟩)
  · obtain ⟨q, hq, h2⟩ := List.any_eq_true.mp h1
    exact Or.inr (Or.inl ⟨q, hq, of_decide_eq_true h2⟩)
  · obtain ⟨q, hq, h2⟩ := List.any_eq_true.mp h1
    exact Or.inr (Or.inr ⟨q, hq, of_decide_eq_true h2⟩), by
  have h : (Cond.classLink RX3 143 "java/lang/IndexOutOfBoundsException" :: Cond.initialized "java/lang/IndexOutOfBoundsException" :: vx_atS RX3 147 "java/lang/IndexOutOfBoundsException" g_xn).all vx_ot = true := by decide +kernel
  exact fun wd hw => List.all_eq_true.mp h wd hw⟩

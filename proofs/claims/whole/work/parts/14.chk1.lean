set_option maxRecDepth 20000 in
theorem ok_X3_init : q_X3_init.all (ex_okB xP xN xV xS xI m_X3_init) = true := by decide +kernel
set_option maxRecDepth 20000 in
theorem ok_X3_isChild : q_X3_isChild.all (ex_okB xP xN xV xS xI m_X3_isChild) = true := by decide +kernel
set_option maxRecDepth 20000 in
theorem ok_X3_isTeaching : q_X3_isTeaching.all (ex_okB xP xN xV xS xI m_X3_isTeaching) = true := by decide +kernel
set_option maxRecDepth 20000 in
theorem ok_X3_saying : q_X3_saying.all (ex_okB xP xN xV xS xI m_X3_saying) = true := by decide +kernel
set_option maxRecDepth 20000 in
theorem ok_X3_setSaying : q_X3_setSaying.all (ex_okB xP xN xV xS xI m_X3_setSaying) = true := by decide +kernel
set_option maxRecDepth 20000 in
theorem ok_X3_setKnown : q_X3_setKnown.all (ex_okB xP xN xV xS xI m_X3_setKnown) = true := by decide +kernel
set_option maxRecDepth 20000 in
theorem ok_X3_admit : q_X3_admit.all (ex_okB xP xN xV xS xI m_X3_admit) = true := by decide +kernel
set_option maxRecDepth 20000 in
theorem ok_X3_sendHome : q_X3_sendHome.all (ex_okB xP xN xV xS xI m_X3_sendHome) = true := by decide +kernel
set_option maxRecDepth 20000 in
theorem ok_X3_takeOver : q_X3_takeOver.all (ex_okB xP xN xV xS xI m_X3_takeOver) = true := by decide +kernel
set_option maxRecDepth 20000 in
theorem ok_X3_knownOf : q_X3_knownOf.all (ex_okB xP xN xV xS xI m_X3_knownOf) = true := by decide +kernel
set_option maxRecDepth 20000 in
theorem ok_X3_garbled : q_X3_garbled.all (ex_okB xP xN xV xS xI m_X3_garbled) = true := by decide +kernel
set_option maxRecDepth 20000 in
theorem ok_X3_allows : q_X3_allows.all (ex_okB xP xN xV xS xI m_X3_allows) = true := by decide +kernel
set_option maxRecDepth 20000 in
theorem ok_X3_perform : q_X3_perform.all (ex_okB xP xN xV xS xI m_X3_perform) = true := by decide +kernel
set_option maxRecDepth 20000 in
theorem ok_X3_runPlan : q_X3_runPlan.all (ex_okB xP xN xV xS xI m_X3_runPlan) = true := by decide +kernel
set_option maxRecDepth 20000 in
theorem ok_X3_goWithout : q_X3_goWithout.all (ex_okB xP xN xV xS xI m_X3_goWithout) = true := by decide +kernel
set_option maxRecDepth 20000 in
theorem ok_X3_sparedSet : q_X3_sparedSet.all (ex_okB xP xN xV xS xI m_X3_sparedSet) = true := by decide +kernel
set_option maxRecDepth 20000 in
theorem ok_X3_trialIsAsGood : q_X3_trialIsAsGood.all (ex_okB xP xN xV xS xI m_X3_trialIsAsGood) = true := by decide +kernel
set_option maxRecDepth 20000 in
theorem ok_X3_firstTellable : q_X3_firstTellable.all (ex_okB xP xN xV xS xI m_X3_firstTellable) = true := by decide +kernel
set_option maxRecDepth 20000 in
theorem ok_X3_drawLesson : q_X3_drawLesson.all (ex_okB xP xN xV xS xI m_X3_drawLesson) = true := by decide +kernel
set_option maxRecDepth 20000 in
theorem ok_X3_listChoices : q_X3_listChoices.all (ex_okB xP xN xV xS xI m_X3_listChoices) = true := by decide +kernel
set_option maxRecDepth 20000 in
theorem ok_X3_holdHour : q_X3_holdHour.all (ex_okB xP xN xV xS xI m_X3_holdHour) = true := by decide +kernel
set_option maxRecDepth 20000 in
theorem ok_X1_init : q_X1_init.all (ex_okB xP xN xV xS xI m_X1_init) = true := by decide +kernel
set_option maxRecDepth 20000 in
theorem ok_X1_append : q_X1_append.all (ex_okB xP xN xV xS xI m_X1_append) = true := by decide +kernel
set_option maxRecDepth 20000 in
theorem ok_X1_signOf : q_X1_signOf.all (ex_okB xP xN xV xS xI m_X1_signOf) = true := by decide +kernel
set_option maxRecDepth 20000 in
theorem ok_X1_clear : q_X1_clear.all (ex_okB xP xN xV xS xI m_X1_clear) = true := by decide +kernel
set_option maxRecDepth 20000 in
theorem ok_X1_rewind : q_X1_rewind.all (ex_okB xP xN xV xS xI m_X1_rewind) = true := by decide +kernel
set_option maxRecDepth 20000 in
theorem ok_X1_step : q_X1_step.all (ex_okB xP xN xV xS xI m_X1_step) = true := by decide +kernel
set_option maxRecDepth 20000 in
theorem ok_X1_skipBlanks : q_X1_skipBlanks.all (ex_okB xP xN xV xS xI m_X1_skipBlanks) = true := by decide +kernel
set_option maxRecDepth 20000 in
theorem ok_X1_sign : q_X1_sign.all (ex_okB xP xN xV xS xI m_X1_sign) = true := by decide +kernel
set_option maxRecDepth 20000 in
theorem ok_X1_takes : q_X1_takes.all (ex_okB xP xN xV xS xI m_X1_takes) = true := by decide +kernel
set_option maxRecDepth 20000 in
theorem ok_X1_fault : q_X1_fault.all (ex_okB xP xN xV xS xI m_X1_fault) = true := by decide +kernel
set_option maxRecDepth 20000 in
theorem ok_X1_readSchool : q_X1_readSchool.all (ex_okB xP xN xV xS xI m_X1_readSchool) = true := by decide +kernel
set_option maxRecDepth 20000 in
theorem ok_X1_kindOf : q_X1_kindOf.all (ex_okB xP xN xV xS xI m_X1_kindOf) = true := by decide +kernel
set_option maxRecDepth 20000 in
theorem ok_X1_readThings : q_X1_readThings.all (ex_okB xP xN xV xS xI m_X1_readThings) = true := by decide +kernel
set_option maxRecDepth 20000 in
theorem ok_X1_readPlan : q_X1_readPlan.all (ex_okB xP xN xV xS xI m_X1_readPlan) = true := by decide +kernel
set_option maxRecDepth 20000 in
theorem ok_X1_readTeaching : q_X1_readTeaching.all (ex_okB xP xN xV xS xI m_X1_readTeaching) = true := by decide +kernel
set_option maxRecDepth 20000 in
theorem ok_X2_init : q_X2_init.all (ex_okB xP xN xV xS xI m_X2_init) = true := by decide +kernel
set_option maxRecDepth 20000 in
theorem ok_X2_listen : q_X2_listen.all (ex_okB xP xN xV xS xI m_X2_listen) = true := by decide +kernel
set_option maxRecDepth 20000 in
theorem ok_X2_countWays : q_X2_countWays.all (ex_okB xP xN xV xS xI m_X2_countWays) = true := by decide +kernel
set_option maxRecDepth 20000 in
theorem ok_X2_minor : q_X2_minor.all (ex_okB xP xN xV xS xI m_X2_minor) = true := by decide +kernel
set_option maxRecDepth 20000 in
theorem ok_X2_firstMouths : q_X2_firstMouths.all (ex_okB xP xN xV xS xI m_X2_firstMouths) = true := by decide +kernel
set_option maxRecDepth 20000 in
theorem ok_X2_reachesAll : q_X2_reachesAll.all (ex_okB xP xN xV xS xI m_X2_reachesAll) = true := by decide +kernel
set_option maxRecDepth 20000 in
theorem ok_X2_sourceOf : q_X2_sourceOf.all (ex_okB xP xN xV xS xI m_X2_sourceOf) = true := by decide +kernel
set_option maxRecDepth 20000 in
theorem ok_X2_settle : q_X2_settle.all (ex_okB xP xN xV xS xI m_X2_settle) = true := by decide +kernel

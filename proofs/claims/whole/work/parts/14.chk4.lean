set_option maxRecDepth 20000 in
theorem ok_X7_teachNow : q_X7_teachNow.all (ex_okB xP xN xV xS xI m_X7_teachNow) = true := by decide +kernel
set_option maxRecDepth 20000 in
theorem ok_X7_may : q_X7_may.all (ex_okB xP xN xV xS xI m_X7_may) = true := by decide +kernel
set_option maxRecDepth 20000 in
theorem ok_X7_teach : q_X7_teach.all (ex_okB xP xN xV xS xI m_X7_teach) = true := by decide +kernel
set_option maxRecDepth 20000 in
theorem ok_X7_run : q_X7_run.all (ex_okB xP xN xV xS xI m_X7_run) = true := by decide +kernel
set_option maxRecDepth 20000 in
theorem ok_X7_ones : q_X7_ones.all (ex_okB xP xN xV xS xI m_X7_ones) = true := by decide +kernel
set_option maxRecDepth 20000 in
theorem ok_X7_mayTeach : q_X7_mayTeach.all (ex_okB xP xN xV xS xI m_X7_mayTeach) = true := by decide +kernel
set_option maxRecDepth 20000 in
theorem ok_X7_goOn : q_X7_goOn.all (ex_okB xP xN xV xS xI m_X7_goOn) = true := by decide +kernel
set_option maxRecDepth 20000 in
theorem ok_X7_hours : q_X7_hours.all (ex_okB xP xN xV xS xI m_X7_hours) = true := by decide +kernel
set_option maxRecDepth 20000 in
theorem ok_X7_bound : q_X7_bound.all (ex_okB xP xN xV xS xI m_X7_bound) = true := by decide +kernel
set_option maxRecDepth 20000 in
theorem ok_X7_goWithout : q_X7_goWithout.all (ex_okB xP xN xV xS xI m_X7_goWithout) = true := by decide +kernel
set_option maxRecDepth 20000 in
theorem ok_X7_bringBack : q_X7_bringBack.all (ex_okB xP xN xV xS xI m_X7_bringBack) = true := by decide +kernel
set_option maxRecDepth 20000 in
theorem ok_X7_spared : q_X7_spared.all (ex_okB xP xN xV xS xI m_X7_spared) = true := by decide +kernel
set_option maxRecDepth 20000 in
theorem ok_X7_order : q_X7_order.all (ex_okB xP xN xV xS xI m_X7_order) = true := by decide +kernel
set_option maxRecDepth 20000 in
theorem ok_X7_canHave : q_X7_canHave.all (ex_okB xP xN xV xS xI m_X7_canHave) = true := by decide +kernel
set_option maxRecDepth 20000 in
theorem ok_X7_isWay : q_X7_isWay.all (ex_okB xP xN xV xS xI m_X7_isWay) = true := by decide +kernel
set_option maxRecDepth 20000 in
theorem ok_X7_nextRow : q_X7_nextRow.all (ex_okB xP xN xV xS xI m_X7_nextRow) = true := by decide +kernel
set_option maxRecDepth 20000 in
theorem ok_X7_findWays : q_X7_findWays.all (ex_okB xP xN xV xS xI m_X7_findWays) = true := by decide +kernel
set_option maxRecDepth 20000 in
theorem ok_X7_mouths : q_X7_mouths.all (ex_okB xP xN xV xS xI m_X7_mouths) = true := by decide +kernel
set_option maxRecDepth 20000 in
theorem ok_X7_from : q_X7_from.all (ex_okB xP xN xV xS xI m_X7_from) = true := by decide +kernel
set_option maxRecDepth 20000 in
theorem ok_X7_lesson : q_X7_lesson.all (ex_okB xP xN xV xS xI m_X7_lesson) = true := by decide +kernel
set_option maxRecDepth 20000 in
theorem ok_X7_lessons : q_X7_lessons.all (ex_okB xP xN xV xS xI m_X7_lessons) = true := by decide +kernel
set_option maxRecDepth 20000 in
theorem ok_X7_seed : q_X7_seed.all (ex_okB xP xN xV xS xI m_X7_seed) = true := by decide +kernel
set_option maxRecDepth 20000 in
theorem ok_X7_carried : q_X7_carried.all (ex_okB xP xN xV xS xI m_X7_carried) = true := by decide +kernel
set_option maxRecDepth 20000 in
theorem ok_X7_image : q_X7_image.all (ex_okB xP xN xV xS xI m_X7_image) = true := by decide +kernel
set_option maxRecDepth 20000 in
theorem ok_X7_restore : q_X7_restore.all (ex_okB xP xN xV xS xI m_X7_restore) = true := by decide +kernel
set_option maxRecDepth 20000 in
theorem ok_X7_isSheet : q_X7_isSheet.all (ex_okB xP xN xV xS xI m_X7_isSheet) = true := by decide +kernel
set_option maxRecDepth 20000 in
theorem ok_X7_sheet : q_X7_sheet.all (ex_okB xP xN xV xS xI m_X7_sheet) = true := by decide +kernel
set_option maxRecDepth 20000 in
theorem ok_X7_drop : q_X7_drop.all (ex_okB xP xN xV xS xI m_X7_drop) = true := by decide +kernel
set_option maxRecDepth 20000 in
theorem ok_X7_lacksRow : q_X7_lacksRow.all (ex_okB xP xN xV xS xI m_X7_lacksRow) = true := by decide +kernel
set_option maxRecDepth 20000 in
theorem ok_X7_item : q_X7_item.all (ex_okB xP xN xV xS xI m_X7_item) = true := by decide +kernel
set_option maxRecDepth 20000 in
theorem ok_X7_hour : q_X7_hour.all (ex_okB xP xN xV xS xI m_X7_hour) = true := by decide +kernel
set_option maxRecDepth 20000 in
theorem ok_X7_film : q_X7_film.all (ex_okB xP xN xV xS xI m_X7_film) = true := by decide +kernel
set_option maxRecDepth 20000 in
theorem ok_X7_copy : q_X7_copy.all (ex_okB xP xN xV xS xI m_X7_copy) = true := by decide +kernel

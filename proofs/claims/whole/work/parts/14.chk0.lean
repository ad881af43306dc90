set_option maxRecDepth 20000 in
theorem ok_X5_init : q_X5_init.all (ex_okB xP xN xV xS xI m_X5_init) = true := by decide +kernel
set_option maxRecDepth 20000 in
theorem ok_X5_isMissing : q_X5_isMissing.all (ex_okB xP xN xV xS xI m_X5_isMissing) = true := by decide +kernel
set_option maxRecDepth 20000 in
theorem ok_X5_holds : q_X5_holds.all (ex_okB xP xN xV xS xI m_X5_holds) = true := by decide +kernel
set_option maxRecDepth 20000 in
theorem ok_X5_refusal : q_X5_refusal.all (ex_okB xP xN xV xS xI m_X5_refusal) = true := by decide +kernel
set_option maxRecDepth 20000 in
theorem ok_X5_renew : q_X5_renew.all (ex_okB xP xN xV xS xI m_X5_renew) = true := by decide +kernel
set_option maxRecDepth 20000 in
theorem ok_X5_discard : q_X5_discard.all (ex_okB xP xN xV xS xI m_X5_discard) = true := by decide +kernel
set_option maxRecDepth 20000 in
theorem ok_X5_put : q_X5_put.all (ex_okB xP xN xV xS xI m_X5_put) = true := by decide +kernel
set_option maxRecDepth 20000 in
theorem ok_X0_init : q_X0_init.all (ex_okB xP xN xV xS xI m_X0_init) = true := by decide +kernel
set_option maxRecDepth 20000 in
theorem ok_X0_clear : q_X0_clear.all (ex_okB xP xN xV xS xI m_X0_clear) = true := by decide +kernel
set_option maxRecDepth 20000 in
theorem ok_X0_isFull : q_X0_isFull.all (ex_okB xP xN xV xS xI m_X0_isFull) = true := by decide +kernel
set_option maxRecDepth 20000 in
theorem ok_X0_add : q_X0_add.all (ex_okB xP xN xV xS xI m_X0_add) = true := by decide +kernel
set_option maxRecDepth 20000 in
theorem ok_X0_takeOver : q_X0_takeOver.all (ex_okB xP xN xV xS xI m_X0_takeOver) = true := by decide +kernel
set_option maxRecDepth 20000 in
theorem ok_J6_bitCount_0f7a4 : q_J6_bitCount_0f7a4.all (ex_okB xP xN xV xS xI m_J6_bitCount_0f7a4) = true := by decide +kernel
set_option maxRecDepth 20000 in
theorem ok_J7_fill_53178 : q_J7_fill_53178.all (ex_okB xP xN xV xS xI m_J7_fill_53178) = true := by decide +kernel
set_option maxRecDepth 20000 in
theorem ok_J7_fill_031fb : q_J7_fill_031fb.all (ex_okB xP xN xV xS xI m_J7_fill_031fb) = true := by decide +kernel
set_option maxRecDepth 20000 in
theorem ok_X6_init : q_X6_init.all (ex_okB xP xN xV xS xI m_X6_init) = true := by decide +kernel
set_option maxRecDepth 20000 in
theorem ok_X6_child : q_X6_child.all (ex_okB xP xN xV xS xI m_X6_child) = true := by decide +kernel
set_option maxRecDepth 20000 in
theorem ok_X6_know : q_X6_know.all (ex_okB xP xN xV xS xI m_X6_know) = true := by decide +kernel
set_option maxRecDepth 20000 in
theorem ok_X6_need : q_X6_need.all (ex_okB xP xN xV xS xI m_X6_need) = true := by decide +kernel
set_option maxRecDepth 20000 in
theorem ok_X6_hears : q_X6_hears.all (ex_okB xP xN xV xS xI m_X6_hears) = true := by decide +kernel
set_option maxRecDepth 20000 in
theorem ok_X6_told : q_X6_told.all (ex_okB xP xN xV xS xI m_X6_told) = true := by decide +kernel
set_option maxRecDepth 20000 in
theorem ok_X6_passes : q_X6_passes.all (ex_okB xP xN xV xS xI m_X6_passes) = true := by decide +kernel
set_option maxRecDepth 20000 in
theorem ok_X6_type : q_X6_type.all (ex_okB xP xN xV xS xI m_X6_type) = true := by decide +kernel
set_option maxRecDepth 20000 in
theorem ok_X6_school : q_X6_school.all (ex_okB xP xN xV xS xI m_X6_school) = true := by decide +kernel
set_option maxRecDepth 20000 in
theorem ok_X6_plan : q_X6_plan.all (ex_okB xP xN xV xS xI m_X6_plan) = true := by decide +kernel
set_option maxRecDepth 20000 in
theorem ok_X6_count : q_X6_count.all (ex_okB xP xN xV xS xI m_X6_count) = true := by decide +kernel
set_option maxRecDepth 20000 in
theorem ok_X6_may : q_X6_may.all (ex_okB xP xN xV xS xI m_X6_may) = true := by decide +kernel
set_option maxRecDepth 20000 in
theorem ok_X6_teach : q_X6_teach.all (ex_okB xP xN xV xS xI m_X6_teach) = true := by decide +kernel
set_option maxRecDepth 20000 in
theorem ok_X6_run : q_X6_run.all (ex_okB xP xN xV xS xI m_X6_run) = true := by decide +kernel
set_option maxRecDepth 20000 in
theorem ok_X6_hours : q_X6_hours.all (ex_okB xP xN xV xS xI m_X6_hours) = true := by decide +kernel
set_option maxRecDepth 20000 in
theorem ok_X6_bound : q_X6_bound.all (ex_okB xP xN xV xS xI m_X6_bound) = true := by decide +kernel
set_option maxRecDepth 20000 in
theorem ok_X6_spared : q_X6_spared.all (ex_okB xP xN xV xS xI m_X6_spared) = true := by decide +kernel
set_option maxRecDepth 20000 in
theorem ok_X6_order : q_X6_order.all (ex_okB xP xN xV xS xI m_X6_order) = true := by decide +kernel
set_option maxRecDepth 20000 in
theorem ok_X6_mouths : q_X6_mouths.all (ex_okB xP xN xV xS xI m_X6_mouths) = true := by decide +kernel
set_option maxRecDepth 20000 in
theorem ok_X6_from : q_X6_from.all (ex_okB xP xN xV xS xI m_X6_from) = true := by decide +kernel
set_option maxRecDepth 20000 in
theorem ok_X6_lessons : q_X6_lessons.all (ex_okB xP xN xV xS xI m_X6_lessons) = true := by decide +kernel
set_option maxRecDepth 20000 in
theorem ok_X6_seed : q_X6_seed.all (ex_okB xP xN xV xS xI m_X6_seed) = true := by decide +kernel
set_option maxRecDepth 20000 in
theorem ok_X6_image : q_X6_image.all (ex_okB xP xN xV xS xI m_X6_image) = true := by decide +kernel
set_option maxRecDepth 20000 in
theorem ok_X6_restore : q_X6_restore.all (ex_okB xP xN xV xS xI m_X6_restore) = true := by decide +kernel
set_option maxRecDepth 20000 in
theorem ok_X6_hour : q_X6_hour.all (ex_okB xP xN xV xS xI m_X6_hour) = true := by decide +kernel
set_option maxRecDepth 20000 in
theorem ok_X6_film : q_X6_film.all (ex_okB xP xN xV xS xI m_X6_film) = true := by decide +kernel
set_option maxRecDepth 20000 in
theorem ok_X6_sheet : q_X6_sheet.all (ex_okB xP xN xV xS xI m_X6_sheet) = true := by decide +kernel
set_option maxRecDepth 20000 in
theorem ok_X6_drop : q_X6_drop.all (ex_okB xP xN xV xS xI m_X6_drop) = true := by decide +kernel
set_option maxRecDepth 20000 in
theorem ok_X6_item : q_X6_item.all (ex_okB xP xN xV xS xI m_X6_item) = true := by decide +kernel
set_option maxRecDepth 20000 in
theorem ok_X6_copy : q_X6_copy.all (ex_okB xP xN xV xS xI m_X6_copy) = true := by decide +kernel
set_option maxRecDepth 20000 in
theorem ok_X6_isThing : q_X6_isThing.all (ex_okB xP xN xV xS xI m_X6_isThing) = true := by decide +kernel
set_option maxRecDepth 20000 in
theorem ok_X6_isSet : q_X6_isSet.all (ex_okB xP xN xV xS xI m_X6_isSet) = true := by decide +kernel
set_option maxRecDepth 20000 in
theorem ok_X6_isSheet : q_X6_isSheet.all (ex_okB xP xN xV xS xI m_X6_isSheet) = true := by decide +kernel
set_option maxRecDepth 20000 in
theorem ok_X6_isLane : q_X6_isLane.all (ex_okB xP xN xV xS xI m_X6_isLane) = true := by decide +kernel
set_option maxRecDepth 20000 in
theorem ok_X6_has : q_X6_has.all (ex_okB xP xN xV xS xI m_X6_has) = true := by decide +kernel
set_option maxRecDepth 20000 in
theorem ok_X6_passedOn : q_X6_passedOn.all (ex_okB xP xN xV xS xI m_X6_passedOn) = true := by decide +kernel
set_option maxRecDepth 20000 in
theorem ok_X6_teaching : q_X6_teaching.all (ex_okB xP xN xV xS xI m_X6_teaching) = true := by decide +kernel
set_option maxRecDepth 20000 in
theorem ok_X6_teacherOf : q_X6_teacherOf.all (ex_okB xP xN xV xS xI m_X6_teacherOf) = true := by decide +kernel
set_option maxRecDepth 20000 in
theorem ok_X6_pupilOf : q_X6_pupilOf.all (ex_okB xP xN xV xS xI m_X6_pupilOf) = true := by decide +kernel
set_option maxRecDepth 20000 in
theorem ok_X6_thingOf : q_X6_thingOf.all (ex_okB xP xN xV xS xI m_X6_thingOf) = true := by decide +kernel
set_option maxRecDepth 20000 in
theorem ok_X6_pairOf : q_X6_pairOf.all (ex_okB xP xN xV xS xI m_X6_pairOf) = true := by decide +kernel

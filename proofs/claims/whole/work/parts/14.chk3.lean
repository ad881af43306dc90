set_option maxRecDepth 20000 in
theorem ok_X7_init : q_X7_init.all (ex_okB xP xN xV xS xI m_X7_init) = true := by decide +kernel
set_option maxRecDepth 20000 in
theorem ok_X7_in : q_X7_in.all (ex_okB xP xN xV xS xI m_X7_in) = true := by decide +kernel
set_option maxRecDepth 20000 in
theorem ok_X7_has : q_X7_has.all (ex_okB xP xN xV xS xI m_X7_has) = true := by decide +kernel
set_option maxRecDepth 20000 in
theorem ok_X7_isChild : q_X7_isChild.all (ex_okB xP xN xV xS xI m_X7_isChild) = true := by decide +kernel
set_option maxRecDepth 20000 in
theorem ok_X7_isThing : q_X7_isThing.all (ex_okB xP xN xV xS xI m_X7_isThing) = true := by decide +kernel
set_option maxRecDepth 20000 in
theorem ok_X7_areTwo : q_X7_areTwo.all (ex_okB xP xN xV xS xI m_X7_areTwo) = true := by decide +kernel
set_option maxRecDepth 20000 in
theorem ok_X7_add : q_X7_add.all (ex_okB xP xN xV xS xI m_X7_add) = true := by decide +kernel
set_option maxRecDepth 20000 in
theorem ok_X7_child : q_X7_child.all (ex_okB xP xN xV xS xI m_X7_child) = true := by decide +kernel
set_option maxRecDepth 20000 in
theorem ok_X7_know : q_X7_know.all (ex_okB xP xN xV xS xI m_X7_know) = true := by decide +kernel
set_option maxRecDepth 20000 in
theorem ok_X7_need : q_X7_need.all (ex_okB xP xN xV xS xI m_X7_need) = true := by decide +kernel
set_option maxRecDepth 20000 in
theorem ok_X7_hears : q_X7_hears.all (ex_okB xP xN xV xS xI m_X7_hears) = true := by decide +kernel
set_option maxRecDepth 20000 in
theorem ok_X7_knownTo : q_X7_knownTo.all (ex_okB xP xN xV xS xI m_X7_knownTo) = true := by decide +kernel
set_option maxRecDepth 20000 in
theorem ok_X7_told : q_X7_told.all (ex_okB xP xN xV xS xI m_X7_told) = true := by decide +kernel
set_option maxRecDepth 20000 in
theorem ok_X7_pass : q_X7_pass.all (ex_okB xP xN xV xS xI m_X7_pass) = true := by decide +kernel
set_option maxRecDepth 20000 in
theorem ok_X7_passes : q_X7_passes.all (ex_okB xP xN xV xS xI m_X7_passes) = true := by decide +kernel
set_option maxRecDepth 20000 in
theorem ok_X7_count : q_X7_count.all (ex_okB xP xN xV xS xI m_X7_count) = true := by decide +kernel
set_option maxRecDepth 20000 in
theorem ok_X7_type : q_X7_type.all (ex_okB xP xN xV xS xI m_X7_type) = true := by decide +kernel
set_option maxRecDepth 20000 in
theorem ok_X7_nextByte : q_X7_nextByte.all (ex_okB xP xN xV xS xI m_X7_nextByte) = true := by decide +kernel
set_option maxRecDepth 20000 in
theorem ok_X7_readChild : q_X7_readChild.all (ex_okB xP xN xV xS xI m_X7_readChild) = true := by decide +kernel
set_option maxRecDepth 20000 in
theorem ok_X7_readSchool : q_X7_readSchool.all (ex_okB xP xN xV xS xI m_X7_readSchool) = true := by decide +kernel
set_option maxRecDepth 20000 in
theorem ok_X7_school : q_X7_school.all (ex_okB xP xN xV xS xI m_X7_school) = true := by decide +kernel
set_option maxRecDepth 20000 in
theorem ok_X7_readTeaching : q_X7_readTeaching.all (ex_okB xP xN xV xS xI m_X7_readTeaching) = true := by decide +kernel
set_option maxRecDepth 20000 in
theorem ok_X7_readPlan : q_X7_readPlan.all (ex_okB xP xN xV xS xI m_X7_readPlan) = true := by decide +kernel
set_option maxRecDepth 20000 in
theorem ok_X7_plan : q_X7_plan.all (ex_okB xP xN xV xS xI m_X7_plan) = true := by decide +kernel
set_option maxRecDepth 20000 in
theorem ok_X7_mayBe : q_X7_mayBe.all (ex_okB xP xN xV xS xI m_X7_mayBe) = true := by decide +kernel

set_option maxRecDepth 20000 in
theorem ok_L_law_0 : q_L_law_0.all (ex_okB xP xN xV xS xI m_L_law) = true := by decide +kernel
set_option maxRecDepth 20000 in
theorem ok_L_law_1 : q_L_law_1.all (ex_okB xP xN xV xS xI m_L_law) = true := by decide +kernel
set_option maxRecDepth 20000 in
theorem ok_L_law_2 : q_L_law_2.all (ex_okB xP xN xV xS xI m_L_law) = true := by decide +kernel
set_option maxRecDepth 20000 in
theorem ok_L_law_3 : q_L_law_3.all (ex_okB xP xN xV xS xI m_L_law) = true := by decide +kernel
set_option maxRecDepth 20000 in
theorem ok_L_law_4 : q_L_law_4.all (ex_okB xP xN xV xS xI m_L_law) = true := by decide +kernel
set_option maxRecDepth 20000 in
theorem ok_L_law_5 : q_L_law_5.all (ex_okB xP xN xV xS xI m_L_law) = true := by decide +kernel
set_option maxRecDepth 20000 in
theorem ok_L_law_6 : q_L_law_6.all (ex_okB xP xN xV xS xI m_L_law) = true := by decide +kernel
set_option maxRecDepth 20000 in
theorem ok_L_law_7 : q_L_law_7.all (ex_okB xP xN xV xS xI m_L_law) = true := by decide +kernel
set_option maxRecDepth 20000 in
theorem ok_L_law_8 : q_L_law_8.all (ex_okB xP xN xV xS xI m_L_law) = true := by decide +kernel
set_option maxRecDepth 20000 in
theorem ok_L_law_9 : q_L_law_9.all (ex_okB xP xN xV xS xI m_L_law) = true := by decide +kernel

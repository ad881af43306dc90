set_option maxRecDepth 20000 in
theorem ok_X4_init : q_X4_init.all (ex_okB xP xN xV xS xI m_X4_init) = true := by decide +kernel
set_option maxRecDepth 20000 in
theorem ok_X4_fewest : q_X4_fewest.all (ex_okB xP xN xV xS xI m_X4_fewest) = true := by decide +kernel
set_option maxRecDepth 20000 in
theorem ok_X4_load : q_X4_load.all (ex_okB xP xN xV xS xI m_X4_load) = true := by decide +kernel
set_option maxRecDepth 20000 in
theorem ok_X4_squeeze : q_X4_squeeze.all (ex_okB xP xN xV xS xI m_X4_squeeze) = true := by decide +kernel
set_option maxRecDepth 20000 in
theorem ok_X4_knownBy : q_X4_knownBy.all (ex_okB xP xN xV xS xI m_X4_knownBy) = true := by decide +kernel
set_option maxRecDepth 20000 in
theorem ok_X4_learnable : q_X4_learnable.all (ex_okB xP xN xV xS xI m_X4_learnable) = true := by decide +kernel
set_option maxRecDepth 20000 in
theorem ok_X4_closure : q_X4_closure.all (ex_okB xP xN xV xS xI m_X4_closure) = true := by decide +kernel
set_option maxRecDepth 20000 in
theorem ok_X4_lacking : q_X4_lacking.all (ex_okB xP xN xV xS xI m_X4_lacking) = true := by decide +kernel
set_option maxRecDepth 20000 in
theorem ok_X4_isEnough : q_X4_isEnough.all (ex_okB xP xN xV xS xI m_X4_isEnough) = true := by decide +kernel
set_option maxRecDepth 20000 in
theorem ok_X4_listGains : q_X4_listGains.all (ex_okB xP xN xV xS xI m_X4_listGains) = true := by decide +kernel
set_option maxRecDepth 20000 in
theorem ok_X4_pairUp : q_X4_pairUp.all (ex_okB xP xN xV xS xI m_X4_pairUp) = true := by decide +kernel
set_option maxRecDepth 20000 in
theorem ok_X4_pairTaught : q_X4_pairTaught.all (ex_okB xP xN xV xS xI m_X4_pairTaught) = true := by decide +kernel
set_option maxRecDepth 20000 in
theorem ok_X4_firstOf : q_X4_firstOf.all (ex_okB xP xN xV xS xI m_X4_firstOf) = true := by decide +kernel

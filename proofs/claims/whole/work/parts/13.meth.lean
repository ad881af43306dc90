theorem ex_t1 {w : Cond} (i : Nat) (h : tables_1_1[i]? = some w) (hg : goodWord w = true) : w ∈ ex_tbl := ex_tbl_of (List.mem_append_right _ (List.mem_append_left _ (List.mem_of_getElem? h))) hg
theorem ex_t2 {w : Cond} (i : Nat) (h : tables_1_2[i]? = some w) (hg : goodWord w = true) : w ∈ ex_tbl := ex_tbl_of (List.mem_append_right _ (List.mem_append_right _ (List.mem_append_left _ (List.mem_of_getElem? h)))) hg
theorem ex_t3 {w : Cond} (i : Nat) (h : tables_1_3[i]? = some w) (hg : goodWord w = true) : w ∈ ex_tbl := ex_tbl_of (List.mem_append_right _ (List.mem_append_right _ (List.mem_append_right _ (List.mem_append_left _ (List.mem_of_getElem? h))))) hg
theorem ex_t4 {w : Cond} (i : Nat) (h : tables_1_4[i]? = some w) (hg : goodWord w = true) : w ∈ ex_tbl := ex_tbl_of (List.mem_append_right _ (List.mem_append_right _ (List.mem_append_right _ (List.mem_append_right _ (List.mem_append_left _ (List.mem_of_getElem? h)))))) hg
theorem ex_t5 {w : Cond} (i : Nat) (h : tables_1_5[i]? = some w) (hg : goodWord w = true) : w ∈ ex_tbl := ex_tbl_of (List.mem_append_right _ (List.mem_append_right _ (List.mem_append_right _ (List.mem_append_right _ (List.mem_append_right _ (List.mem_of_getElem? h)))))) hg
set_option maxRecDepth 20000 in
theorem om_X5_init : ex_okM m_X5_init true := ⟨by decide +kernel, rfl, ⟨by decide +kernel, by decide +kernel⟩, ex_t1 198 rfl rfl, ex_t1 7 rfl rfl, by decide, fun h => absurd h (by decide), fun _ => ⟨ex_t1 197 rfl rfl, by decide +kernel⟩⟩
set_option maxRecDepth 20000 in
theorem om_X5_isMissing : ex_okM m_X5_isMissing true := ⟨by decide +kernel, rfl, ⟨by decide +kernel, by decide +kernel⟩, ex_t3 160 rfl rfl, ex_t1 7 rfl rfl, by decide, fun h => absurd h (by decide), fun _ => ⟨ex_t3 158 rfl rfl, by decide +kernel⟩⟩
set_option maxRecDepth 20000 in
theorem os_X5_isMissing : Cond.selects (m_X5_isMissing).2.1.cls (m_X5_isMissing).2.1 (m_X5_isMissing).2.1 ∈ ex_tbl := ex_t3 159 rfl rfl
set_option maxRecDepth 20000 in
theorem om_X5_holds : ex_okM m_X5_holds true := ⟨by decide +kernel, rfl, ⟨by decide +kernel, by decide +kernel⟩, ex_t3 164 rfl rfl, ex_t1 7 rfl rfl, by decide, fun h => absurd h (by decide), fun _ => ⟨ex_t3 162 rfl rfl, by decide +kernel⟩⟩
set_option maxRecDepth 20000 in
theorem os_X5_holds : Cond.selects (m_X5_holds).2.1.cls (m_X5_holds).2.1 (m_X5_holds).2.1 ∈ ex_tbl := ex_t3 163 rfl rfl
set_option maxRecDepth 20000 in
theorem om_X5_refusal : ex_okM m_X5_refusal true := ⟨by decide +kernel, rfl, ⟨by decide +kernel, by decide +kernel⟩, ex_t3 156 rfl rfl, ex_t1 7 rfl rfl, by decide, fun h => absurd h (by decide), fun _ => ⟨ex_t3 154 rfl rfl, by decide +kernel⟩⟩
set_option maxRecDepth 20000 in
theorem os_X5_refusal : Cond.selects (m_X5_refusal).2.1.cls (m_X5_refusal).2.1 (m_X5_refusal).2.1 ∈ ex_tbl := ex_t3 155 rfl rfl
set_option maxRecDepth 20000 in
theorem om_X5_renew : ex_okM m_X5_renew true := ⟨by decide +kernel, rfl, ⟨by decide +kernel, by decide +kernel⟩, ex_t3 185 rfl rfl, ex_t1 7 rfl rfl, by decide, fun h => absurd h (by decide), fun _ => ⟨ex_t3 183 rfl rfl, by decide +kernel⟩⟩
set_option maxRecDepth 20000 in
theorem os_X5_renew : Cond.selects (m_X5_renew).2.1.cls (m_X5_renew).2.1 (m_X5_renew).2.1 ∈ ex_tbl := ex_t3 184 rfl rfl
set_option maxRecDepth 20000 in
theorem om_X5_discard : ex_okM m_X5_discard true := ⟨by decide +kernel, rfl, ⟨by decide +kernel, by decide +kernel⟩, ex_t3 195 rfl rfl, ex_t1 7 rfl rfl, by decide, fun h => absurd h (by decide), fun _ => ⟨ex_t3 193 rfl rfl, by decide +kernel⟩⟩
set_option maxRecDepth 20000 in
theorem os_X5_discard : Cond.selects (m_X5_discard).2.1.cls (m_X5_discard).2.1 (m_X5_discard).2.1 ∈ ex_tbl := ex_t3 194 rfl rfl
set_option maxRecDepth 20000 in
theorem om_X5_put : ex_okM m_X5_put true := ⟨by decide +kernel, rfl, ⟨by decide +kernel, by decide +kernel⟩, ex_t3 177 rfl rfl, ex_t1 7 rfl rfl, by decide, fun h => absurd h (by decide), fun _ => ⟨ex_t3 175 rfl rfl, by decide +kernel⟩⟩
set_option maxRecDepth 20000 in
theorem os_X5_put : Cond.selects (m_X5_put).2.1.cls (m_X5_put).2.1 (m_X5_put).2.1 ∈ ex_tbl := ex_t3 176 rfl rfl
set_option maxRecDepth 20000 in
theorem om_X0_init : ex_okM m_X0_init true := ⟨by decide +kernel, rfl, ⟨by decide +kernel, by decide +kernel⟩, ex_t1 30 rfl rfl, ex_t1 3 rfl rfl, by decide, fun h => absurd h (by decide), fun _ => ⟨ex_t1 29 rfl rfl, by decide +kernel⟩⟩
set_option maxRecDepth 20000 in
theorem om_X0_clear : ex_okM m_X0_clear true := ⟨by decide +kernel, rfl, ⟨by decide +kernel, by decide +kernel⟩, ex_t2 117 rfl rfl, ex_t1 3 rfl rfl, by decide, fun h => absurd h (by decide), fun _ => ⟨ex_t2 115 rfl rfl, by decide +kernel⟩⟩
set_option maxRecDepth 20000 in
theorem os_X0_clear : Cond.selects (m_X0_clear).2.1.cls (m_X0_clear).2.1 (m_X0_clear).2.1 ∈ ex_tbl := ex_t2 116 rfl rfl
set_option maxRecDepth 20000 in
theorem om_X0_isFull : ex_okM m_X0_isFull true := ⟨by decide +kernel, rfl, ⟨by decide +kernel, by decide +kernel⟩, ex_t2 142 rfl rfl, ex_t1 3 rfl rfl, by decide, fun h => absurd h (by decide), fun _ => ⟨ex_t2 140 rfl rfl, by decide +kernel⟩⟩
set_option maxRecDepth 20000 in
theorem os_X0_isFull : Cond.selects (m_X0_isFull).2.1.cls (m_X0_isFull).2.1 (m_X0_isFull).2.1 ∈ ex_tbl := ex_t2 141 rfl rfl
set_option maxRecDepth 20000 in
theorem om_X0_add : ex_okM m_X0_add true := ⟨by decide +kernel, rfl, ⟨by decide +kernel, by decide +kernel⟩, ex_t2 138 rfl rfl, ex_t1 3 rfl rfl, by decide, fun h => absurd h (by decide), fun _ => ⟨ex_t2 136 rfl rfl, by decide +kernel⟩⟩
set_option maxRecDepth 20000 in
theorem os_X0_add : Cond.selects (m_X0_add).2.1.cls (m_X0_add).2.1 (m_X0_add).2.1 ∈ ex_tbl := ex_t2 137 rfl rfl
set_option maxRecDepth 20000 in
theorem om_X0_takeOver : ex_okM m_X0_takeOver true := ⟨by decide +kernel, rfl, ⟨by decide +kernel, by decide +kernel⟩, ex_t2 146 rfl rfl, ex_t1 3 rfl rfl, by decide, fun h => absurd h (by decide), fun _ => ⟨ex_t2 144 rfl rfl, by decide +kernel⟩⟩
set_option maxRecDepth 20000 in
theorem os_X0_takeOver : Cond.selects (m_X0_takeOver).2.1.cls (m_X0_takeOver).2.1 (m_X0_takeOver).2.1 ∈ ex_tbl := ex_t2 145 rfl rfl
set_option maxRecDepth 20000 in
theorem om_J6_bitCount_0f7a4 : ex_okM m_J6_bitCount_0f7a4 false := ⟨by decide +kernel, rfl, ⟨by decide +kernel, by decide +kernel⟩, ex_t2 159 rfl rfl, ex_t1 9 rfl rfl, by decide, fun _ => ⟨ex_t2 158 rfl rfl, by decide +kernel⟩, fun h => absurd h (by decide)⟩
set_option maxRecDepth 20000 in
theorem om_J7_fill_53178 : ex_okM m_J7_fill_53178 false := ⟨by decide +kernel, rfl, ⟨by decide +kernel, by decide +kernel⟩, ex_t2 233 rfl rfl, ex_t1 10 rfl rfl, by decide, fun _ => ⟨ex_t2 232 rfl rfl, by decide +kernel⟩, fun h => absurd h (by decide)⟩
set_option maxRecDepth 20000 in
theorem om_J7_fill_031fb : ex_okM m_J7_fill_031fb false := ⟨by decide +kernel, rfl, ⟨by decide +kernel, by decide +kernel⟩, ex_t3 15 rfl rfl, ex_t1 10 rfl rfl, by decide, fun _ => ⟨ex_t3 14 rfl rfl, by decide +kernel⟩, fun h => absurd h (by decide)⟩
set_option maxRecDepth 20000 in
theorem om_X6_init : ex_okM m_X6_init true := ⟨by decide +kernel, rfl, ⟨by decide +kernel, by decide +kernel⟩, ex_t1 16 rfl rfl, ex_t1 1 rfl rfl, by decide, fun h => absurd h (by decide), fun _ => ⟨ex_t1 15 rfl rfl, by decide +kernel⟩⟩
set_option maxRecDepth 20000 in
theorem om_X6_child : ex_okM m_X6_child true := ⟨by decide +kernel, rfl, ⟨by decide +kernel, by decide +kernel⟩, ex_t1 238 rfl rfl, ex_t1 1 rfl rfl, by decide, fun h => absurd h (by decide), fun _ => ⟨ex_t1 236 rfl rfl, by decide +kernel⟩⟩
set_option maxRecDepth 20000 in
theorem os_X6_child : Cond.selects (m_X6_child).2.1.cls (m_X6_child).2.1 (m_X6_child).2.1 ∈ ex_tbl := ex_t1 237 rfl rfl
set_option maxRecDepth 20000 in
theorem om_X6_know : ex_okM m_X6_know true := ⟨by decide +kernel, rfl, ⟨by decide +kernel, by decide +kernel⟩, ex_t2 17 rfl rfl, ex_t1 1 rfl rfl, by decide, fun h => absurd h (by decide), fun _ => ⟨ex_t2 15 rfl rfl, by decide +kernel⟩⟩
set_option maxRecDepth 20000 in
theorem os_X6_know : Cond.selects (m_X6_know).2.1.cls (m_X6_know).2.1 (m_X6_know).2.1 ∈ ex_tbl := ex_t2 16 rfl rfl
set_option maxRecDepth 20000 in
theorem om_X6_need : ex_okM m_X6_need true := ⟨by decide +kernel, rfl, ⟨by decide +kernel, by decide +kernel⟩, ex_t2 33 rfl rfl, ex_t1 1 rfl rfl, by decide, fun h => absurd h (by decide), fun _ => ⟨ex_t2 31 rfl rfl, by decide +kernel⟩⟩
set_option maxRecDepth 20000 in
theorem os_X6_need : Cond.selects (m_X6_need).2.1.cls (m_X6_need).2.1 (m_X6_need).2.1 ∈ ex_tbl := ex_t2 32 rfl rfl
set_option maxRecDepth 20000 in
theorem om_X6_hears : ex_okM m_X6_hears true := ⟨by decide +kernel, rfl, ⟨by decide +kernel, by decide +kernel⟩, ex_t2 41 rfl rfl, ex_t1 1 rfl rfl, by decide, fun h => absurd h (by decide), fun _ => ⟨ex_t2 39 rfl rfl, by decide +kernel⟩⟩
set_option maxRecDepth 20000 in
theorem os_X6_hears : Cond.selects (m_X6_hears).2.1.cls (m_X6_hears).2.1 (m_X6_hears).2.1 ∈ ex_tbl := ex_t2 40 rfl rfl
set_option maxRecDepth 20000 in
theorem om_X6_told : ex_okM m_X6_told true := ⟨by decide +kernel, rfl, ⟨by decide +kernel, by decide +kernel⟩, ex_t2 45 rfl rfl, ex_t1 1 rfl rfl, by decide, fun h => absurd h (by decide), fun _ => ⟨ex_t2 43 rfl rfl, by decide +kernel⟩⟩
set_option maxRecDepth 20000 in
theorem os_X6_told : Cond.selects (m_X6_told).2.1.cls (m_X6_told).2.1 (m_X6_told).2.1 ∈ ex_tbl := ex_t2 44 rfl rfl
set_option maxRecDepth 20000 in
theorem om_X6_passes : ex_okM m_X6_passes true := ⟨by decide +kernel, rfl, ⟨by decide +kernel, by decide +kernel⟩, ex_t2 49 rfl rfl, ex_t1 1 rfl rfl, by decide, fun h => absurd h (by decide), fun _ => ⟨ex_t2 47 rfl rfl, by decide +kernel⟩⟩
set_option maxRecDepth 20000 in
theorem os_X6_passes : Cond.selects (m_X6_passes).2.1.cls (m_X6_passes).2.1 (m_X6_passes).2.1 ∈ ex_tbl := ex_t2 48 rfl rfl
set_option maxRecDepth 20000 in
theorem om_X6_type : ex_okM m_X6_type true := ⟨by decide +kernel, rfl, ⟨by decide +kernel, by decide +kernel⟩, ex_t2 56 rfl rfl, ex_t1 1 rfl rfl, by decide, fun h => absurd h (by decide), fun _ => ⟨ex_t2 54 rfl rfl, by decide +kernel⟩⟩
set_option maxRecDepth 20000 in
theorem os_X6_type : Cond.selects (m_X6_type).2.1.cls (m_X6_type).2.1 (m_X6_type).2.1 ∈ ex_tbl := ex_t2 55 rfl rfl
set_option maxRecDepth 20000 in
theorem om_X6_school : ex_okM m_X6_school true := ⟨by decide +kernel, rfl, ⟨by decide +kernel, by decide +kernel⟩, ex_t2 68 rfl rfl, ex_t1 1 rfl rfl, by decide, fun h => absurd h (by decide), fun _ => ⟨ex_t2 66 rfl rfl, by decide +kernel⟩⟩
set_option maxRecDepth 20000 in
theorem os_X6_school : Cond.selects (m_X6_school).2.1.cls (m_X6_school).2.1 (m_X6_school).2.1 ∈ ex_tbl := ex_t2 67 rfl rfl
set_option maxRecDepth 20000 in
theorem om_X6_plan : ex_okM m_X6_plan true := ⟨by decide +kernel, rfl, ⟨by decide +kernel, by decide +kernel⟩, ex_t2 122 rfl rfl, ex_t1 1 rfl rfl, by decide, fun h => absurd h (by decide), fun _ => ⟨ex_t2 120 rfl rfl, by decide +kernel⟩⟩
set_option maxRecDepth 20000 in
theorem os_X6_plan : Cond.selects (m_X6_plan).2.1.cls (m_X6_plan).2.1 (m_X6_plan).2.1 ∈ ex_tbl := ex_t2 121 rfl rfl
set_option maxRecDepth 20000 in
theorem om_X6_count : ex_okM m_X6_count true := ⟨by decide +kernel, rfl, ⟨by decide +kernel, by decide +kernel⟩, ex_t2 152 rfl rfl, ex_t1 1 rfl rfl, by decide, fun h => absurd h (by decide), fun _ => ⟨ex_t2 150 rfl rfl, by decide +kernel⟩⟩
set_option maxRecDepth 20000 in
theorem os_X6_count : Cond.selects (m_X6_count).2.1.cls (m_X6_count).2.1 (m_X6_count).2.1 ∈ ex_tbl := ex_t2 151 rfl rfl
set_option maxRecDepth 20000 in
theorem om_X6_may : ex_okM m_X6_may true := ⟨by decide +kernel, rfl, ⟨by decide +kernel, by decide +kernel⟩, ex_t2 170 rfl rfl, ex_t1 1 rfl rfl, by decide, fun h => absurd h (by decide), fun _ => ⟨ex_t2 168 rfl rfl, by decide +kernel⟩⟩
set_option maxRecDepth 20000 in
theorem os_X6_may : Cond.selects (m_X6_may).2.1.cls (m_X6_may).2.1 (m_X6_may).2.1 ∈ ex_tbl := ex_t2 169 rfl rfl
set_option maxRecDepth 20000 in
theorem om_X6_teach : ex_okM m_X6_teach true := ⟨by decide +kernel, rfl, ⟨by decide +kernel, by decide +kernel⟩, ex_t2 194 rfl rfl, ex_t1 1 rfl rfl, by decide, fun h => absurd h (by decide), fun _ => ⟨ex_t2 192 rfl rfl, by decide +kernel⟩⟩
set_option maxRecDepth 20000 in
theorem os_X6_teach : Cond.selects (m_X6_teach).2.1.cls (m_X6_teach).2.1 (m_X6_teach).2.1 ∈ ex_tbl := ex_t2 193 rfl rfl
set_option maxRecDepth 20000 in
theorem om_X6_run : ex_okM m_X6_run true := ⟨by decide +kernel, rfl, ⟨by decide +kernel, by decide +kernel⟩, ex_t2 205 rfl rfl, ex_t1 1 rfl rfl, by decide, fun h => absurd h (by decide), fun _ => ⟨ex_t2 203 rfl rfl, by decide +kernel⟩⟩
set_option maxRecDepth 20000 in
theorem os_X6_run : Cond.selects (m_X6_run).2.1.cls (m_X6_run).2.1 (m_X6_run).2.1 ∈ ex_tbl := ex_t2 204 rfl rfl
set_option maxRecDepth 20000 in
theorem om_X6_hours : ex_okM m_X6_hours true := ⟨by decide +kernel, rfl, ⟨by decide +kernel, by decide +kernel⟩, ex_t2 220 rfl rfl, ex_t1 1 rfl rfl, by decide, fun h => absurd h (by decide), fun _ => ⟨ex_t2 218 rfl rfl, by decide +kernel⟩⟩
set_option maxRecDepth 20000 in
theorem os_X6_hours : Cond.selects (m_X6_hours).2.1.cls (m_X6_hours).2.1 (m_X6_hours).2.1 ∈ ex_tbl := ex_t2 219 rfl rfl
set_option maxRecDepth 20000 in
theorem om_X6_bound : ex_okM m_X6_bound true := ⟨by decide +kernel, rfl, ⟨by decide +kernel, by decide +kernel⟩, ex_t3 42 rfl rfl, ex_t1 1 rfl rfl, by decide, fun h => absurd h (by decide), fun _ => ⟨ex_t3 40 rfl rfl, by decide +kernel⟩⟩
set_option maxRecDepth 20000 in
theorem os_X6_bound : Cond.selects (m_X6_bound).2.1.cls (m_X6_bound).2.1 (m_X6_bound).2.1 ∈ ex_tbl := ex_t3 41 rfl rfl
set_option maxRecDepth 20000 in
theorem om_X6_spared : ex_okM m_X6_spared true := ⟨by decide +kernel, rfl, ⟨by decide +kernel, by decide +kernel⟩, ex_t3 46 rfl rfl, ex_t1 1 rfl rfl, by decide, fun h => absurd h (by decide), fun _ => ⟨ex_t3 44 rfl rfl, by decide +kernel⟩⟩
set_option maxRecDepth 20000 in
theorem os_X6_spared : Cond.selects (m_X6_spared).2.1.cls (m_X6_spared).2.1 (m_X6_spared).2.1 ∈ ex_tbl := ex_t3 45 rfl rfl
set_option maxRecDepth 20000 in
theorem om_X6_order : ex_okM m_X6_order true := ⟨by decide +kernel, rfl, ⟨by decide +kernel, by decide +kernel⟩, ex_t3 63 rfl rfl, ex_t1 1 rfl rfl, by decide, fun h => absurd h (by decide), fun _ => ⟨ex_t3 61 rfl rfl, by decide +kernel⟩⟩
set_option maxRecDepth 20000 in
theorem os_X6_order : Cond.selects (m_X6_order).2.1.cls (m_X6_order).2.1 (m_X6_order).2.1 ∈ ex_tbl := ex_t3 62 rfl rfl
set_option maxRecDepth 20000 in
theorem om_X6_mouths : ex_okM m_X6_mouths true := ⟨by decide +kernel, rfl, ⟨by decide +kernel, by decide +kernel⟩, ex_t3 71 rfl rfl, ex_t1 1 rfl rfl, by decide, fun h => absurd h (by decide), fun _ => ⟨ex_t3 69 rfl rfl, by decide +kernel⟩⟩
set_option maxRecDepth 20000 in
theorem os_X6_mouths : Cond.selects (m_X6_mouths).2.1.cls (m_X6_mouths).2.1 (m_X6_mouths).2.1 ∈ ex_tbl := ex_t3 70 rfl rfl
set_option maxRecDepth 20000 in
theorem om_X6_from : ex_okM m_X6_from true := ⟨by decide +kernel, rfl, ⟨by decide +kernel, by decide +kernel⟩, ex_t3 100 rfl rfl, ex_t1 1 rfl rfl, by decide, fun h => absurd h (by decide), fun _ => ⟨ex_t3 98 rfl rfl, by decide +kernel⟩⟩
set_option maxRecDepth 20000 in
theorem os_X6_from : Cond.selects (m_X6_from).2.1.cls (m_X6_from).2.1 (m_X6_from).2.1 ∈ ex_tbl := ex_t3 99 rfl rfl
set_option maxRecDepth 20000 in
theorem om_X6_lessons : ex_okM m_X6_lessons true := ⟨by decide +kernel, rfl, ⟨by decide +kernel, by decide +kernel⟩, ex_t3 113 rfl rfl, ex_t1 1 rfl rfl, by decide, fun h => absurd h (by decide), fun _ => ⟨ex_t3 111 rfl rfl, by decide +kernel⟩⟩
set_option maxRecDepth 20000 in
theorem os_X6_lessons : Cond.selects (m_X6_lessons).2.1.cls (m_X6_lessons).2.1 (m_X6_lessons).2.1 ∈ ex_tbl := ex_t3 112 rfl rfl
set_option maxRecDepth 20000 in
theorem om_X6_seed : ex_okM m_X6_seed true := ⟨by decide +kernel, rfl, ⟨by decide +kernel, by decide +kernel⟩, ex_t3 129 rfl rfl, ex_t1 1 rfl rfl, by decide, fun h => absurd h (by decide), fun _ => ⟨ex_t3 127 rfl rfl, by decide +kernel⟩⟩
set_option maxRecDepth 20000 in
theorem os_X6_seed : Cond.selects (m_X6_seed).2.1.cls (m_X6_seed).2.1 (m_X6_seed).2.1 ∈ ex_tbl := ex_t3 128 rfl rfl
set_option maxRecDepth 20000 in
theorem om_X6_image : ex_okM m_X6_image true := ⟨by decide +kernel, rfl, ⟨by decide +kernel, by decide +kernel⟩, ex_t3 133 rfl rfl, ex_t1 1 rfl rfl, by decide, fun h => absurd h (by decide), fun _ => ⟨ex_t3 131 rfl rfl, by decide +kernel⟩⟩
set_option maxRecDepth 20000 in
theorem os_X6_image : Cond.selects (m_X6_image).2.1.cls (m_X6_image).2.1 (m_X6_image).2.1 ∈ ex_tbl := ex_t3 132 rfl rfl
set_option maxRecDepth 20000 in
theorem om_X6_restore : ex_okM m_X6_restore true := ⟨by decide +kernel, rfl, ⟨by decide +kernel, by decide +kernel⟩, ex_t3 142 rfl rfl, ex_t1 1 rfl rfl, by decide, fun h => absurd h (by decide), fun _ => ⟨ex_t3 140 rfl rfl, by decide +kernel⟩⟩
set_option maxRecDepth 20000 in
theorem os_X6_restore : Cond.selects (m_X6_restore).2.1.cls (m_X6_restore).2.1 (m_X6_restore).2.1 ∈ ex_tbl := ex_t3 141 rfl rfl
set_option maxRecDepth 20000 in
theorem om_X6_hour : ex_okM m_X6_hour true := ⟨by decide +kernel, rfl, ⟨by decide +kernel, by decide +kernel⟩, ex_t3 146 rfl rfl, ex_t1 1 rfl rfl, by decide, fun h => absurd h (by decide), fun _ => ⟨ex_t3 144 rfl rfl, by decide +kernel⟩⟩
set_option maxRecDepth 20000 in
theorem os_X6_hour : Cond.selects (m_X6_hour).2.1.cls (m_X6_hour).2.1 (m_X6_hour).2.1 ∈ ex_tbl := ex_t3 145 rfl rfl
set_option maxRecDepth 20000 in
theorem om_X6_film : ex_okM m_X6_film true := ⟨by decide +kernel, rfl, ⟨by decide +kernel, by decide +kernel⟩, ex_t3 173 rfl rfl, ex_t1 1 rfl rfl, by decide, fun h => absurd h (by decide), fun _ => ⟨ex_t3 171 rfl rfl, by decide +kernel⟩⟩
set_option maxRecDepth 20000 in
theorem os_X6_film : Cond.selects (m_X6_film).2.1.cls (m_X6_film).2.1 (m_X6_film).2.1 ∈ ex_tbl := ex_t3 172 rfl rfl
set_option maxRecDepth 20000 in
theorem om_X6_sheet : ex_okM m_X6_sheet true := ⟨by decide +kernel, rfl, ⟨by decide +kernel, by decide +kernel⟩, ex_t3 181 rfl rfl, ex_t1 1 rfl rfl, by decide, fun h => absurd h (by decide), fun _ => ⟨ex_t3 179 rfl rfl, by decide +kernel⟩⟩
set_option maxRecDepth 20000 in
theorem os_X6_sheet : Cond.selects (m_X6_sheet).2.1.cls (m_X6_sheet).2.1 (m_X6_sheet).2.1 ∈ ex_tbl := ex_t3 180 rfl rfl
set_option maxRecDepth 20000 in
theorem om_X6_drop : ex_okM m_X6_drop true := ⟨by decide +kernel, rfl, ⟨by decide +kernel, by decide +kernel⟩, ex_t3 190 rfl rfl, ex_t1 1 rfl rfl, by decide, fun h => absurd h (by decide), fun _ => ⟨ex_t3 188 rfl rfl, by decide +kernel⟩⟩
set_option maxRecDepth 20000 in
theorem os_X6_drop : Cond.selects (m_X6_drop).2.1.cls (m_X6_drop).2.1 (m_X6_drop).2.1 ∈ ex_tbl := ex_t3 189 rfl rfl
set_option maxRecDepth 20000 in
theorem om_X6_item : ex_okM m_X6_item true := ⟨by decide +kernel, rfl, ⟨by decide +kernel, by decide +kernel⟩, ex_t3 199 rfl rfl, ex_t1 1 rfl rfl, by decide, fun h => absurd h (by decide), fun _ => ⟨ex_t3 197 rfl rfl, by decide +kernel⟩⟩
set_option maxRecDepth 20000 in
theorem os_X6_item : Cond.selects (m_X6_item).2.1.cls (m_X6_item).2.1 (m_X6_item).2.1 ∈ ex_tbl := ex_t3 198 rfl rfl
set_option maxRecDepth 20000 in
theorem om_X6_copy : ex_okM m_X6_copy true := ⟨by decide +kernel, rfl, ⟨by decide +kernel, by decide +kernel⟩, ex_t3 203 rfl rfl, ex_t1 1 rfl rfl, by decide, fun h => absurd h (by decide), fun _ => ⟨ex_t3 201 rfl rfl, by decide +kernel⟩⟩
set_option maxRecDepth 20000 in
theorem os_X6_copy : Cond.selects (m_X6_copy).2.1.cls (m_X6_copy).2.1 (m_X6_copy).2.1 ∈ ex_tbl := ex_t3 202 rfl rfl
set_option maxRecDepth 20000 in
theorem om_X6_isThing : ex_okM m_X6_isThing false := ⟨by decide +kernel, rfl, ⟨by decide +kernel, by decide +kernel⟩, ex_t2 24 rfl rfl, ex_t1 1 rfl rfl, by decide, fun _ => ⟨ex_t2 23 rfl rfl, by decide +kernel⟩, fun h => absurd h (by decide)⟩
set_option maxRecDepth 20000 in
theorem om_X6_isSet : ex_okM m_X6_isSet false := ⟨by decide +kernel, rfl, ⟨by decide +kernel, by decide +kernel⟩, ex_t2 36 rfl rfl, ex_t1 1 rfl rfl, by decide, fun _ => ⟨ex_t2 35 rfl rfl, by decide +kernel⟩, fun h => absurd h (by decide)⟩
set_option maxRecDepth 20000 in
theorem om_X6_isSheet : ex_okM m_X6_isSheet false := ⟨by decide +kernel, rfl, ⟨by decide +kernel, by decide +kernel⟩, ex_t3 149 rfl rfl, ex_t1 1 rfl rfl, by decide, fun _ => ⟨ex_t3 148 rfl rfl, by decide +kernel⟩, fun h => absurd h (by decide)⟩
set_option maxRecDepth 20000 in
theorem om_X6_isLane : ex_okM m_X6_isLane false := ⟨by decide +kernel, rfl, ⟨by decide +kernel, by decide +kernel⟩, ex_t3 152 rfl rfl, ex_t1 1 rfl rfl, by decide, fun _ => ⟨ex_t3 151 rfl rfl, by decide +kernel⟩, fun h => absurd h (by decide)⟩
set_option maxRecDepth 20000 in
theorem om_X6_has : ex_okM m_X6_has false := ⟨by decide +kernel, rfl, ⟨by decide +kernel, by decide +kernel⟩, ex_t2 9 rfl rfl, ex_t1 1 rfl rfl, by decide, fun _ => ⟨ex_t2 8 rfl rfl, by decide +kernel⟩, fun h => absurd h (by decide)⟩
set_option maxRecDepth 20000 in
theorem om_X6_passedOn : ex_okM m_X6_passedOn false := ⟨by decide +kernel, rfl, ⟨by decide +kernel, by decide +kernel⟩, ex_t2 52 rfl rfl, ex_t1 1 rfl rfl, by decide, fun _ => ⟨ex_t2 51 rfl rfl, by decide +kernel⟩, fun h => absurd h (by decide)⟩
set_option maxRecDepth 20000 in
theorem om_X6_teaching : ex_okM m_X6_teaching false := ⟨by decide +kernel, rfl, ⟨by decide +kernel, by decide +kernel⟩, ex_t2 134 rfl rfl, ex_t1 1 rfl rfl, by decide, fun _ => ⟨ex_t2 133 rfl rfl, by decide +kernel⟩, fun h => absurd h (by decide)⟩
set_option maxRecDepth 20000 in
theorem om_X6_teacherOf : ex_okM m_X6_teacherOf false := ⟨by decide +kernel, rfl, ⟨by decide +kernel, by decide +kernel⟩, ex_t2 184 rfl rfl, ex_t1 1 rfl rfl, by decide, fun _ => ⟨ex_t2 183 rfl rfl, by decide +kernel⟩, fun h => absurd h (by decide)⟩
set_option maxRecDepth 20000 in
theorem om_X6_pupilOf : ex_okM m_X6_pupilOf false := ⟨by decide +kernel, rfl, ⟨by decide +kernel, by decide +kernel⟩, ex_t2 187 rfl rfl, ex_t1 1 rfl rfl, by decide, fun _ => ⟨ex_t2 186 rfl rfl, by decide +kernel⟩, fun h => absurd h (by decide)⟩
set_option maxRecDepth 20000 in
theorem om_X6_thingOf : ex_okM m_X6_thingOf false := ⟨by decide +kernel, rfl, ⟨by decide +kernel, by decide +kernel⟩, ex_t2 190 rfl rfl, ex_t1 1 rfl rfl, by decide, fun _ => ⟨ex_t2 189 rfl rfl, by decide +kernel⟩, fun h => absurd h (by decide)⟩
set_option maxRecDepth 20000 in
theorem om_X6_pairOf : ex_okM m_X6_pairOf false := ⟨by decide +kernel, rfl, ⟨by decide +kernel, by decide +kernel⟩, ex_t2 212 rfl rfl, ex_t1 1 rfl rfl, by decide, fun _ => ⟨ex_t2 211 rfl rfl, by decide +kernel⟩, fun h => absurd h (by decide)⟩
set_option maxRecDepth 20000 in
theorem om_X3_init : ex_okM m_X3_init true := ⟨by decide +kernel, rfl, ⟨by decide +kernel, by decide +kernel⟩, ex_t1 24 rfl rfl, ex_t1 2 rfl rfl, by decide, fun h => absurd h (by decide), fun _ => ⟨ex_t1 23 rfl rfl, by decide +kernel⟩⟩
set_option maxRecDepth 20000 in
theorem om_X3_isChild : ex_okM m_X3_isChild true := ⟨by decide +kernel, rfl, ⟨by decide +kernel, by decide +kernel⟩, ex_t2 21 rfl rfl, ex_t1 2 rfl rfl, by decide, fun h => absurd h (by decide), fun _ => ⟨ex_t2 19 rfl rfl, by decide +kernel⟩⟩
set_option maxRecDepth 20000 in
theorem os_X3_isChild : Cond.selects (m_X3_isChild).2.1.cls (m_X3_isChild).2.1 (m_X3_isChild).2.1 ∈ ex_tbl := ex_t2 20 rfl rfl
set_option maxRecDepth 20000 in
theorem om_X3_isTeaching : ex_okM m_X3_isTeaching true := ⟨by decide +kernel, rfl, ⟨by decide +kernel, by decide +kernel⟩, ex_t2 174 rfl rfl, ex_t1 2 rfl rfl, by decide, fun h => absurd h (by decide), fun _ => ⟨ex_t2 172 rfl rfl, by decide +kernel⟩⟩
set_option maxRecDepth 20000 in
theorem os_X3_isTeaching : Cond.selects (m_X3_isTeaching).2.1.cls (m_X3_isTeaching).2.1 (m_X3_isTeaching).2.1 ∈ ex_tbl := ex_t2 173 rfl rfl
set_option maxRecDepth 20000 in
theorem om_X3_saying : ex_okM m_X3_saying true := ⟨by decide +kernel, rfl, ⟨by decide +kernel, by decide +kernel⟩, ex_t2 28 rfl rfl, ex_t1 2 rfl rfl, by decide, fun h => absurd h (by decide), fun _ => ⟨ex_t2 26 rfl rfl, by decide +kernel⟩⟩
set_option maxRecDepth 20000 in
theorem os_X3_saying : Cond.selects (m_X3_saying).2.1.cls (m_X3_saying).2.1 (m_X3_saying).2.1 ∈ ex_tbl := ex_t2 27 rfl rfl
set_option maxRecDepth 20000 in
theorem om_X3_setSaying : ex_okM m_X3_setSaying true := ⟨by decide +kernel, rfl, ⟨by decide +kernel, by decide +kernel⟩, ex_t2 13 rfl rfl, ex_t1 2 rfl rfl, by decide, fun h => absurd h (by decide), fun _ => ⟨ex_t2 11 rfl rfl, by decide +kernel⟩⟩
set_option maxRecDepth 20000 in
theorem os_X3_setSaying : Cond.selects (m_X3_setSaying).2.1.cls (m_X3_setSaying).2.1 (m_X3_setSaying).2.1 ∈ ex_tbl := ex_t2 12 rfl rfl
set_option maxRecDepth 20000 in
theorem om_X3_setKnown : ex_okM m_X3_setKnown true := ⟨by decide +kernel, rfl, ⟨by decide +kernel, by decide +kernel⟩, ex_t2 6 rfl rfl, ex_t1 2 rfl rfl, by decide, fun h => absurd h (by decide), fun _ => ⟨ex_t2 4 rfl rfl, by decide +kernel⟩⟩
set_option maxRecDepth 20000 in
theorem os_X3_setKnown : Cond.selects (m_X3_setKnown).2.1.cls (m_X3_setKnown).2.1 (m_X3_setKnown).2.1 ∈ ex_tbl := ex_t2 5 rfl rfl
set_option maxRecDepth 20000 in
theorem om_X3_admit : ex_okM m_X3_admit true := ⟨by decide +kernel, rfl, ⟨by decide +kernel, by decide +kernel⟩, ex_t2 2 rfl rfl, ex_t1 2 rfl rfl, by decide, fun h => absurd h (by decide), fun _ => ⟨ex_t2 0 rfl rfl, by decide +kernel⟩⟩
set_option maxRecDepth 20000 in
theorem os_X3_admit : Cond.selects (m_X3_admit).2.1.cls (m_X3_admit).2.1 (m_X3_admit).2.1 ∈ ex_tbl := ex_t2 1 rfl rfl
set_option maxRecDepth 20000 in
theorem om_X3_sendHome : ex_okM m_X3_sendHome true := ⟨by decide +kernel, rfl, ⟨by decide +kernel, by decide +kernel⟩, ex_t2 113 rfl rfl, ex_t1 2 rfl rfl, by decide, fun h => absurd h (by decide), fun _ => ⟨ex_t2 111 rfl rfl, by decide +kernel⟩⟩
set_option maxRecDepth 20000 in
theorem os_X3_sendHome : Cond.selects (m_X3_sendHome).2.1.cls (m_X3_sendHome).2.1 (m_X3_sendHome).2.1 ∈ ex_tbl := ex_t2 112 rfl rfl
set_option maxRecDepth 20000 in
theorem om_X3_takeOver : ex_okM m_X3_takeOver true := ⟨by decide +kernel, rfl, ⟨by decide +kernel, by decide +kernel⟩, ex_t3 137 rfl rfl, ex_t1 2 rfl rfl, by decide, fun h => absurd h (by decide), fun _ => ⟨ex_t3 135 rfl rfl, by decide +kernel⟩⟩
set_option maxRecDepth 20000 in
theorem os_X3_takeOver : Cond.selects (m_X3_takeOver).2.1.cls (m_X3_takeOver).2.1 (m_X3_takeOver).2.1 ∈ ex_tbl := ex_t3 136 rfl rfl
set_option maxRecDepth 20000 in
theorem om_X3_knownOf : ex_okM m_X3_knownOf true := ⟨by decide +kernel, rfl, ⟨by decide +kernel, by decide +kernel⟩, ex_t2 156 rfl rfl, ex_t1 2 rfl rfl, by decide, fun h => absurd h (by decide), fun _ => ⟨ex_t2 154 rfl rfl, by decide +kernel⟩⟩
set_option maxRecDepth 20000 in
theorem os_X3_knownOf : Cond.selects (m_X3_knownOf).2.1.cls (m_X3_knownOf).2.1 (m_X3_knownOf).2.1 ∈ ex_tbl := ex_t2 155 rfl rfl
set_option maxRecDepth 20000 in
theorem om_X3_garbled : ex_okM m_X3_garbled true := ⟨by decide +kernel, rfl, ⟨by decide +kernel, by decide +kernel⟩, ex_t2 166 rfl rfl, ex_t1 2 rfl rfl, by decide, fun h => absurd h (by decide), fun _ => ⟨ex_t2 164 rfl rfl, by decide +kernel⟩⟩
set_option maxRecDepth 20000 in
theorem os_X3_garbled : Cond.selects (m_X3_garbled).2.1.cls (m_X3_garbled).2.1 (m_X3_garbled).2.1 ∈ ex_tbl := ex_t2 165 rfl rfl
set_option maxRecDepth 20000 in
theorem om_X3_allows : ex_okM m_X3_allows true := ⟨by decide +kernel, rfl, ⟨by decide +kernel, by decide +kernel⟩, ex_t2 181 rfl rfl, ex_t1 2 rfl rfl, by decide, fun h => absurd h (by decide), fun _ => ⟨ex_t2 179 rfl rfl, by decide +kernel⟩⟩
set_option maxRecDepth 20000 in
theorem os_X3_allows : Cond.selects (m_X3_allows).2.1.cls (m_X3_allows).2.1 (m_X3_allows).2.1 ∈ ex_tbl := ex_t2 180 rfl rfl
set_option maxRecDepth 20000 in
theorem om_X3_perform : ex_okM m_X3_perform true := ⟨by decide +kernel, rfl, ⟨by decide +kernel, by decide +kernel⟩, ex_t2 198 rfl rfl, ex_t1 2 rfl rfl, by decide, fun h => absurd h (by decide), fun _ => ⟨ex_t2 196 rfl rfl, by decide +kernel⟩⟩
set_option maxRecDepth 20000 in
theorem os_X3_perform : Cond.selects (m_X3_perform).2.1.cls (m_X3_perform).2.1 (m_X3_perform).2.1 ∈ ex_tbl := ex_t2 197 rfl rfl
set_option maxRecDepth 20000 in
theorem om_X3_runPlan : ex_okM m_X3_runPlan true := ⟨by decide +kernel, rfl, ⟨by decide +kernel, by decide +kernel⟩, ex_t2 209 rfl rfl, ex_t1 2 rfl rfl, by decide, fun h => absurd h (by decide), fun _ => ⟨ex_t2 207 rfl rfl, by decide +kernel⟩⟩
set_option maxRecDepth 20000 in
theorem os_X3_runPlan : Cond.selects (m_X3_runPlan).2.1.cls (m_X3_runPlan).2.1 (m_X3_runPlan).2.1 ∈ ex_tbl := ex_t2 208 rfl rfl
set_option maxRecDepth 20000 in
theorem om_X3_goWithout : ex_okM m_X3_goWithout true := ⟨by decide +kernel, rfl, ⟨by decide +kernel, by decide +kernel⟩, ex_t3 54 rfl rfl, ex_t1 2 rfl rfl, by decide, fun h => absurd h (by decide), fun _ => ⟨ex_t3 53 rfl rfl, by decide +kernel⟩⟩
set_option maxRecDepth 20000 in
theorem os_X3_goWithout : Cond.selects (m_X3_goWithout).2.1.cls (m_X3_goWithout).2.1 (m_X3_goWithout).2.1 ∈ ex_tbl := ex_tbl_of (List.mem_append_left _ (List.mem_map.mpr ⟨(yX3_goWithout, 13), List.mem_append_right _ (List.mem_append_left _ (List.mem_of_getElem? (i := 1) rfl)), rfl⟩)) rfl
set_option maxRecDepth 20000 in
theorem om_X3_sparedSet : ex_okM m_X3_sparedSet true := ⟨by decide +kernel, rfl, ⟨by decide +kernel, by decide +kernel⟩, ex_t3 50 rfl rfl, ex_t1 2 rfl rfl, by decide, fun h => absurd h (by decide), fun _ => ⟨ex_t3 48 rfl rfl, by decide +kernel⟩⟩
set_option maxRecDepth 20000 in
theorem os_X3_sparedSet : Cond.selects (m_X3_sparedSet).2.1.cls (m_X3_sparedSet).2.1 (m_X3_sparedSet).2.1 ∈ ex_tbl := ex_t3 49 rfl rfl
set_option maxRecDepth 20000 in
theorem om_X3_trialIsAsGood : ex_okM m_X3_trialIsAsGood true := ⟨by decide +kernel, rfl, ⟨by decide +kernel, by decide +kernel⟩, ex_t3 59 rfl rfl, ex_t1 2 rfl rfl, by decide, fun h => absurd h (by decide), fun _ => ⟨ex_t3 58 rfl rfl, by decide +kernel⟩⟩
set_option maxRecDepth 20000 in
theorem os_X3_trialIsAsGood : Cond.selects (m_X3_trialIsAsGood).2.1.cls (m_X3_trialIsAsGood).2.1 (m_X3_trialIsAsGood).2.1 ∈ ex_tbl := ex_tbl_of (List.mem_append_left _ (List.mem_map.mpr ⟨(yX3_trialIsAsGood, 13), List.mem_append_right _ (List.mem_append_left _ (List.mem_of_getElem? (i := 2) rfl)), rfl⟩)) rfl
set_option maxRecDepth 20000 in
theorem om_X3_firstTellable : ex_okM m_X3_firstTellable true := ⟨by decide +kernel, rfl, ⟨by decide +kernel, by decide +kernel⟩, ex_t3 67 rfl rfl, ex_t1 2 rfl rfl, by decide, fun h => absurd h (by decide), fun _ => ⟨ex_t3 65 rfl rfl, by decide +kernel⟩⟩
set_option maxRecDepth 20000 in
theorem os_X3_firstTellable : Cond.selects (m_X3_firstTellable).2.1.cls (m_X3_firstTellable).2.1 (m_X3_firstTellable).2.1 ∈ ex_tbl := ex_t3 66 rfl rfl
set_option maxRecDepth 20000 in
theorem om_X3_drawLesson : ex_okM m_X3_drawLesson true := ⟨by decide +kernel, rfl, ⟨by decide +kernel, by decide +kernel⟩, ex_t3 117 rfl rfl, ex_t1 2 rfl rfl, by decide, fun h => absurd h (by decide), fun _ => ⟨ex_t3 115 rfl rfl, by decide +kernel⟩⟩
set_option maxRecDepth 20000 in
theorem os_X3_drawLesson : Cond.selects (m_X3_drawLesson).2.1.cls (m_X3_drawLesson).2.1 (m_X3_drawLesson).2.1 ∈ ex_tbl := ex_t3 116 rfl rfl
set_option maxRecDepth 20000 in
theorem om_X3_listChoices : ex_okM m_X3_listChoices true := ⟨by decide +kernel, rfl, ⟨by decide +kernel, by decide +kernel⟩, ex_t3 121 rfl rfl, ex_t1 2 rfl rfl, by decide, fun h => absurd h (by decide), fun _ => ⟨ex_t3 120 rfl rfl, by decide +kernel⟩⟩
set_option maxRecDepth 20000 in
theorem os_X3_listChoices : Cond.selects (m_X3_listChoices).2.1.cls (m_X3_listChoices).2.1 (m_X3_listChoices).2.1 ∈ ex_tbl := ex_tbl_of (List.mem_append_left _ (List.mem_map.mpr ⟨(yX3_listChoices, 13), List.mem_append_right _ (List.mem_append_left _ (List.mem_of_getElem? (i := 6) rfl)), rfl⟩)) rfl
set_option maxRecDepth 20000 in
theorem om_X3_holdHour : ex_okM m_X3_holdHour true := ⟨by decide +kernel, rfl, ⟨by decide +kernel, by decide +kernel⟩, ex_t3 168 rfl rfl, ex_t1 2 rfl rfl, by decide, fun h => absurd h (by decide), fun _ => ⟨ex_t3 166 rfl rfl, by decide +kernel⟩⟩
set_option maxRecDepth 20000 in
theorem os_X3_holdHour : Cond.selects (m_X3_holdHour).2.1.cls (m_X3_holdHour).2.1 (m_X3_holdHour).2.1 ∈ ex_tbl := ex_t3 167 rfl rfl
set_option maxRecDepth 20000 in
theorem om_X1_init : ex_okM m_X1_init true := ⟨by decide +kernel, rfl, ⟨by decide +kernel, by decide +kernel⟩, ex_t1 113 rfl rfl, ex_t1 4 rfl rfl, by decide, fun h => absurd h (by decide), fun _ => ⟨ex_t1 112 rfl rfl, by decide +kernel⟩⟩
set_option maxRecDepth 20000 in
theorem om_X1_append : ex_okM m_X1_append true := ⟨by decide +kernel, rfl, ⟨by decide +kernel, by decide +kernel⟩, ex_t2 60 rfl rfl, ex_t1 4 rfl rfl, by decide, fun h => absurd h (by decide), fun _ => ⟨ex_t2 58 rfl rfl, by decide +kernel⟩⟩
set_option maxRecDepth 20000 in
theorem os_X1_append : Cond.selects (m_X1_append).2.1.cls (m_X1_append).2.1 (m_X1_append).2.1 ∈ ex_tbl := ex_t2 59 rfl rfl
set_option maxRecDepth 20000 in
theorem om_X1_signOf : ex_okM m_X1_signOf false := ⟨by decide +kernel, rfl, ⟨by decide +kernel, by decide +kernel⟩, ex_t2 63 rfl rfl, ex_t1 4 rfl rfl, by decide, fun _ => ⟨ex_t2 62 rfl rfl, by decide +kernel⟩, fun h => absurd h (by decide)⟩
set_option maxRecDepth 20000 in
theorem om_X1_clear : ex_okM m_X1_clear true := ⟨by decide +kernel, rfl, ⟨by decide +kernel, by decide +kernel⟩, ex_t2 109 rfl rfl, ex_t1 4 rfl rfl, by decide, fun h => absurd h (by decide), fun _ => ⟨ex_t2 107 rfl rfl, by decide +kernel⟩⟩
set_option maxRecDepth 20000 in
theorem os_X1_clear : Cond.selects (m_X1_clear).2.1.cls (m_X1_clear).2.1 (m_X1_clear).2.1 ∈ ex_tbl := ex_t2 108 rfl rfl
set_option maxRecDepth 20000 in
theorem om_X1_rewind : ex_okM m_X1_rewind true := ⟨by decide +kernel, rfl, ⟨by decide +kernel, by decide +kernel⟩, ex_t2 76 rfl rfl, ex_t1 4 rfl rfl, by decide, fun h => absurd h (by decide), fun _ => ⟨ex_t2 75 rfl rfl, by decide +kernel⟩⟩
set_option maxRecDepth 20000 in
theorem os_X1_rewind : Cond.selects (m_X1_rewind).2.1.cls (m_X1_rewind).2.1 (m_X1_rewind).2.1 ∈ ex_tbl := ex_tbl_of (List.mem_append_left _ (List.mem_map.mpr ⟨(yX1_rewind, 6), List.mem_append_left _ (List.mem_of_getElem? (i := 0) rfl), rfl⟩)) rfl
set_option maxRecDepth 20000 in
theorem om_X1_step : ex_okM m_X1_step true := ⟨by decide +kernel, rfl, ⟨by decide +kernel, by decide +kernel⟩, ex_t2 92 rfl rfl, ex_t1 4 rfl rfl, by decide, fun h => absurd h (by decide), fun _ => ⟨ex_t2 91 rfl rfl, by decide +kernel⟩⟩
set_option maxRecDepth 20000 in
theorem os_X1_step : Cond.selects (m_X1_step).2.1.cls (m_X1_step).2.1 (m_X1_step).2.1 ∈ ex_tbl := ex_tbl_of (List.mem_append_left _ (List.mem_map.mpr ⟨(yX1_step, 6), List.mem_append_left _ (List.mem_of_getElem? (i := 4) rfl), rfl⟩)) rfl
set_option maxRecDepth 20000 in
theorem om_X1_skipBlanks : ex_okM m_X1_skipBlanks true := ⟨by decide +kernel, rfl, ⟨by decide +kernel, by decide +kernel⟩, ex_t2 80 rfl rfl, ex_t1 4 rfl rfl, by decide, fun h => absurd h (by decide), fun _ => ⟨ex_t2 79 rfl rfl, by decide +kernel⟩⟩
set_option maxRecDepth 20000 in
theorem os_X1_skipBlanks : Cond.selects (m_X1_skipBlanks).2.1.cls (m_X1_skipBlanks).2.1 (m_X1_skipBlanks).2.1 ∈ ex_tbl := ex_tbl_of (List.mem_append_left _ (List.mem_map.mpr ⟨(yX1_skipBlanks, 6), List.mem_append_left _ (List.mem_of_getElem? (i := 1) rfl), rfl⟩)) rfl
set_option maxRecDepth 20000 in
theorem om_X1_sign : ex_okM m_X1_sign true := ⟨by decide +kernel, rfl, ⟨by decide +kernel, by decide +kernel⟩, ex_t2 88 rfl rfl, ex_t1 4 rfl rfl, by decide, fun h => absurd h (by decide), fun _ => ⟨ex_t2 87 rfl rfl, by decide +kernel⟩⟩
set_option maxRecDepth 20000 in
theorem os_X1_sign : Cond.selects (m_X1_sign).2.1.cls (m_X1_sign).2.1 (m_X1_sign).2.1 ∈ ex_tbl := ex_tbl_of (List.mem_append_left _ (List.mem_map.mpr ⟨(yX1_sign, 6), List.mem_append_left _ (List.mem_of_getElem? (i := 3) rfl), rfl⟩)) rfl
set_option maxRecDepth 20000 in
theorem om_X1_takes : ex_okM m_X1_takes true := ⟨by decide +kernel, rfl, ⟨by decide +kernel, by decide +kernel⟩, ex_t2 84 rfl rfl, ex_t1 4 rfl rfl, by decide, fun h => absurd h (by decide), fun _ => ⟨ex_t2 83 rfl rfl, by decide +kernel⟩⟩
set_option maxRecDepth 20000 in
theorem os_X1_takes : Cond.selects (m_X1_takes).2.1.cls (m_X1_takes).2.1 (m_X1_takes).2.1 ∈ ex_tbl := ex_tbl_of (List.mem_append_left _ (List.mem_map.mpr ⟨(yX1_takes, 6), List.mem_append_left _ (List.mem_of_getElem? (i := 2) rfl), rfl⟩)) rfl
set_option maxRecDepth 20000 in
theorem om_X1_fault : ex_okM m_X1_fault true := ⟨by decide +kernel, rfl, ⟨by decide +kernel, by decide +kernel⟩, ex_t2 96 rfl rfl, ex_t1 4 rfl rfl, by decide, fun h => absurd h (by decide), fun _ => ⟨ex_t2 95 rfl rfl, by decide +kernel⟩⟩
set_option maxRecDepth 20000 in
theorem os_X1_fault : Cond.selects (m_X1_fault).2.1.cls (m_X1_fault).2.1 (m_X1_fault).2.1 ∈ ex_tbl := ex_tbl_of (List.mem_append_left _ (List.mem_map.mpr ⟨(yX1_fault, 6), List.mem_append_left _ (List.mem_of_getElem? (i := 5) rfl), rfl⟩)) rfl
set_option maxRecDepth 20000 in
theorem om_X1_readSchool : ex_okM m_X1_readSchool true := ⟨by decide +kernel, rfl, ⟨by decide +kernel, by decide +kernel⟩, ex_t2 72 rfl rfl, ex_t1 4 rfl rfl, by decide, fun h => absurd h (by decide), fun _ => ⟨ex_t2 70 rfl rfl, by decide +kernel⟩⟩
set_option maxRecDepth 20000 in
theorem os_X1_readSchool : Cond.selects (m_X1_readSchool).2.1.cls (m_X1_readSchool).2.1 (m_X1_readSchool).2.1 ∈ ex_tbl := ex_t2 71 rfl rfl
set_option maxRecDepth 20000 in
theorem om_X1_kindOf : ex_okM m_X1_kindOf false := ⟨by decide +kernel, rfl, ⟨by decide +kernel, by decide +kernel⟩, ex_t2 99 rfl rfl, ex_t1 4 rfl rfl, by decide, fun _ => ⟨ex_t2 98 rfl rfl, by decide +kernel⟩, fun h => absurd h (by decide)⟩
set_option maxRecDepth 20000 in
theorem om_X1_readThings : ex_okM m_X1_readThings true := ⟨by decide +kernel, rfl, ⟨by decide +kernel, by decide +kernel⟩, ex_t2 103 rfl rfl, ex_t1 4 rfl rfl, by decide, fun h => absurd h (by decide), fun _ => ⟨ex_t2 102 rfl rfl, by decide +kernel⟩⟩
set_option maxRecDepth 20000 in
theorem os_X1_readThings : Cond.selects (m_X1_readThings).2.1.cls (m_X1_readThings).2.1 (m_X1_readThings).2.1 ∈ ex_tbl := ex_tbl_of (List.mem_append_left _ (List.mem_map.mpr ⟨(yX1_readThings, 6), List.mem_append_left _ (List.mem_of_getElem? (i := 6) rfl), rfl⟩)) rfl
set_option maxRecDepth 20000 in
theorem om_X1_readPlan : ex_okM m_X1_readPlan true := ⟨by decide +kernel, rfl, ⟨by decide +kernel, by decide +kernel⟩, ex_t2 126 rfl rfl, ex_t1 4 rfl rfl, by decide, fun h => absurd h (by decide), fun _ => ⟨ex_t2 124 rfl rfl, by decide +kernel⟩⟩
set_option maxRecDepth 20000 in
theorem os_X1_readPlan : Cond.selects (m_X1_readPlan).2.1.cls (m_X1_readPlan).2.1 (m_X1_readPlan).2.1 ∈ ex_tbl := ex_t2 125 rfl rfl
set_option maxRecDepth 20000 in
theorem om_X1_readTeaching : ex_okM m_X1_readTeaching true := ⟨by decide +kernel, rfl, ⟨by decide +kernel, by decide +kernel⟩, ex_t2 131 rfl rfl, ex_t1 4 rfl rfl, by decide, fun h => absurd h (by decide), fun _ => ⟨ex_t2 130 rfl rfl, by decide +kernel⟩⟩
set_option maxRecDepth 20000 in
theorem os_X1_readTeaching : Cond.selects (m_X1_readTeaching).2.1.cls (m_X1_readTeaching).2.1 (m_X1_readTeaching).2.1 ∈ ex_tbl := ex_tbl_of (List.mem_append_left _ (List.mem_map.mpr ⟨(yX1_readTeaching, 6), List.mem_append_left _ (List.mem_of_getElem? (i := 7) rfl), rfl⟩)) rfl
set_option maxRecDepth 20000 in
theorem om_X4_init : ex_okM m_X4_init true := ⟨by decide +kernel, rfl, ⟨by decide +kernel, by decide +kernel⟩, ex_t1 144 rfl rfl, ex_t1 5 rfl rfl, by decide, fun h => absurd h (by decide), fun _ => ⟨ex_t1 143 rfl rfl, by decide +kernel⟩⟩
set_option maxRecDepth 20000 in
theorem om_X4_fewest : ex_okM m_X4_fewest true := ⟨by decide +kernel, rfl, ⟨by decide +kernel, by decide +kernel⟩, ex_t2 225 rfl rfl, ex_t1 5 rfl rfl, by decide, fun h => absurd h (by decide), fun _ => ⟨ex_t2 223 rfl rfl, by decide +kernel⟩⟩
set_option maxRecDepth 20000 in
theorem os_X4_fewest : Cond.selects (m_X4_fewest).2.1.cls (m_X4_fewest).2.1 (m_X4_fewest).2.1 ∈ ex_tbl := ex_t2 224 rfl rfl
set_option maxRecDepth 20000 in
theorem om_X4_load : ex_okM m_X4_load true := ⟨by decide +kernel, rfl, ⟨by decide +kernel, by decide +kernel⟩, ex_t2 229 rfl rfl, ex_t1 5 rfl rfl, by decide, fun h => absurd h (by decide), fun _ => ⟨ex_t2 228 rfl rfl, by decide +kernel⟩⟩
set_option maxRecDepth 20000 in
theorem os_X4_load : Cond.selects (m_X4_load).2.1.cls (m_X4_load).2.1 (m_X4_load).2.1 ∈ ex_tbl := ex_tbl_of (List.mem_append_left _ (List.mem_map.mpr ⟨(yX4_load, 9), List.mem_append_left _ (List.mem_of_getElem? (i := 8) rfl), rfl⟩)) rfl
set_option maxRecDepth 20000 in
theorem om_X4_squeeze : ex_okM m_X4_squeeze false := ⟨by decide +kernel, rfl, ⟨by decide +kernel, by decide +kernel⟩, ex_t2 237 rfl rfl, ex_t1 5 rfl rfl, by decide, fun _ => ⟨ex_t2 236 rfl rfl, by decide +kernel⟩, fun h => absurd h (by decide)⟩
set_option maxRecDepth 20000 in
theorem om_X4_knownBy : ex_okM m_X4_knownBy true := ⟨by decide +kernel, rfl, ⟨by decide +kernel, by decide +kernel⟩, ex_t3 8 rfl rfl, ex_t1 5 rfl rfl, by decide, fun h => absurd h (by decide), fun _ => ⟨ex_t3 7 rfl rfl, by decide +kernel⟩⟩
set_option maxRecDepth 20000 in
theorem os_X4_knownBy : Cond.selects (m_X4_knownBy).2.1.cls (m_X4_knownBy).2.1 (m_X4_knownBy).2.1 ∈ ex_tbl := ex_tbl_of (List.mem_append_left _ (List.mem_map.mpr ⟨(yX4_knownBy, 9), List.mem_append_left _ (List.mem_of_getElem? (i := 10) rfl), rfl⟩)) rfl
set_option maxRecDepth 20000 in
theorem om_X4_learnable : ex_okM m_X4_learnable true := ⟨by decide +kernel, rfl, ⟨by decide +kernel, by decide +kernel⟩, ex_t3 12 rfl rfl, ex_t1 5 rfl rfl, by decide, fun h => absurd h (by decide), fun _ => ⟨ex_t3 11 rfl rfl, by decide +kernel⟩⟩
set_option maxRecDepth 20000 in
theorem os_X4_learnable : Cond.selects (m_X4_learnable).2.1.cls (m_X4_learnable).2.1 (m_X4_learnable).2.1 ∈ ex_tbl := ex_tbl_of (List.mem_append_left _ (List.mem_map.mpr ⟨(yX4_learnable, 9), List.mem_append_left _ (List.mem_of_getElem? (i := 11) rfl), rfl⟩)) rfl
set_option maxRecDepth 20000 in
theorem om_X4_closure : ex_okM m_X4_closure true := ⟨by decide +kernel, rfl, ⟨by decide +kernel, by decide +kernel⟩, ex_t3 4 rfl rfl, ex_t1 5 rfl rfl, by decide, fun h => absurd h (by decide), fun _ => ⟨ex_t3 3 rfl rfl, by decide +kernel⟩⟩
set_option maxRecDepth 20000 in
theorem os_X4_closure : Cond.selects (m_X4_closure).2.1.cls (m_X4_closure).2.1 (m_X4_closure).2.1 ∈ ex_tbl := ex_tbl_of (List.mem_append_left _ (List.mem_map.mpr ⟨(yX4_closure, 9), List.mem_append_left _ (List.mem_of_getElem? (i := 9) rfl), rfl⟩)) rfl
set_option maxRecDepth 20000 in
theorem om_X4_lacking : ex_okM m_X4_lacking true := ⟨by decide +kernel, rfl, ⟨by decide +kernel, by decide +kernel⟩, ex_t3 23 rfl rfl, ex_t1 5 rfl rfl, by decide, fun h => absurd h (by decide), fun _ => ⟨ex_t3 22 rfl rfl, by decide +kernel⟩⟩
set_option maxRecDepth 20000 in
theorem os_X4_lacking : Cond.selects (m_X4_lacking).2.1.cls (m_X4_lacking).2.1 (m_X4_lacking).2.1 ∈ ex_tbl := ex_tbl_of (List.mem_append_left _ (List.mem_map.mpr ⟨(yX4_lacking, 9), List.mem_append_left _ (List.mem_of_getElem? (i := 13) rfl), rfl⟩)) rfl
set_option maxRecDepth 20000 in
theorem om_X4_isEnough : ex_okM m_X4_isEnough true := ⟨by decide +kernel, rfl, ⟨by decide +kernel, by decide +kernel⟩, ex_t3 19 rfl rfl, ex_t1 5 rfl rfl, by decide, fun h => absurd h (by decide), fun _ => ⟨ex_t3 18 rfl rfl, by decide +kernel⟩⟩
set_option maxRecDepth 20000 in
theorem os_X4_isEnough : Cond.selects (m_X4_isEnough).2.1.cls (m_X4_isEnough).2.1 (m_X4_isEnough).2.1 ∈ ex_tbl := ex_tbl_of (List.mem_append_left _ (List.mem_map.mpr ⟨(yX4_isEnough, 9), List.mem_append_left _ (List.mem_of_getElem? (i := 12) rfl), rfl⟩)) rfl
set_option maxRecDepth 20000 in
theorem om_X4_listGains : ex_okM m_X4_listGains true := ⟨by decide +kernel, rfl, ⟨by decide +kernel, by decide +kernel⟩, ex_t3 27 rfl rfl, ex_t1 5 rfl rfl, by decide, fun h => absurd h (by decide), fun _ => ⟨ex_t3 26 rfl rfl, by decide +kernel⟩⟩
set_option maxRecDepth 20000 in
theorem os_X4_listGains : Cond.selects (m_X4_listGains).2.1.cls (m_X4_listGains).2.1 (m_X4_listGains).2.1 ∈ ex_tbl := ex_tbl_of (List.mem_append_left _ (List.mem_map.mpr ⟨(yX4_listGains, 9), List.mem_append_left _ (List.mem_of_getElem? (i := 14) rfl), rfl⟩)) rfl
set_option maxRecDepth 20000 in
theorem om_X4_pairUp : ex_okM m_X4_pairUp true := ⟨by decide +kernel, rfl, ⟨by decide +kernel, by decide +kernel⟩, ex_t3 31 rfl rfl, ex_t1 5 rfl rfl, by decide, fun h => absurd h (by decide), fun _ => ⟨ex_t3 30 rfl rfl, by decide +kernel⟩⟩
set_option maxRecDepth 20000 in
theorem os_X4_pairUp : Cond.selects (m_X4_pairUp).2.1.cls (m_X4_pairUp).2.1 (m_X4_pairUp).2.1 ∈ ex_tbl := ex_tbl_of (List.mem_append_left _ (List.mem_map.mpr ⟨(yX4_pairUp, 9), List.mem_append_left _ (List.mem_of_getElem? (i := 15) rfl), rfl⟩)) rfl
set_option maxRecDepth 20000 in
theorem om_X4_pairTaught : ex_okM m_X4_pairTaught true := ⟨by decide +kernel, rfl, ⟨by decide +kernel, by decide +kernel⟩, ex_t3 38 rfl rfl, ex_t1 5 rfl rfl, by decide, fun h => absurd h (by decide), fun _ => ⟨ex_t3 37 rfl rfl, by decide +kernel⟩⟩
set_option maxRecDepth 20000 in
theorem os_X4_pairTaught : Cond.selects (m_X4_pairTaught).2.1.cls (m_X4_pairTaught).2.1 (m_X4_pairTaught).2.1 ∈ ex_tbl := ex_tbl_of (List.mem_append_left _ (List.mem_map.mpr ⟨(yX4_pairTaught, 9), List.mem_append_right _ (List.mem_append_left _ (List.mem_of_getElem? (i := 0) rfl)), rfl⟩)) rfl
set_option maxRecDepth 20000 in
theorem om_X4_firstOf : ex_okM m_X4_firstOf false := ⟨by decide +kernel, rfl, ⟨by decide +kernel, by decide +kernel⟩, ex_t3 34 rfl rfl, ex_t1 5 rfl rfl, by decide, fun _ => ⟨ex_t3 33 rfl rfl, by decide +kernel⟩, fun h => absurd h (by decide)⟩
set_option maxRecDepth 20000 in
theorem om_X2_init : ex_okM m_X2_init true := ⟨by decide +kernel, rfl, ⟨by decide +kernel, by decide +kernel⟩, ex_t1 178 rfl rfl, ex_t1 6 rfl rfl, by decide, fun h => absurd h (by decide), fun _ => ⟨ex_t1 177 rfl rfl, by decide +kernel⟩⟩
set_option maxRecDepth 20000 in
theorem om_X2_listen : ex_okM m_X2_listen true := ⟨by decide +kernel, rfl, ⟨by decide +kernel, by decide +kernel⟩, ex_t3 75 rfl rfl, ex_t1 6 rfl rfl, by decide, fun h => absurd h (by decide), fun _ => ⟨ex_t3 73 rfl rfl, by decide +kernel⟩⟩
set_option maxRecDepth 20000 in
theorem os_X2_listen : Cond.selects (m_X2_listen).2.1.cls (m_X2_listen).2.1 (m_X2_listen).2.1 ∈ ex_tbl := ex_t3 74 rfl rfl
set_option maxRecDepth 20000 in
theorem om_X2_countWays : ex_okM m_X2_countWays true := ⟨by decide +kernel, rfl, ⟨by decide +kernel, by decide +kernel⟩, ex_t3 83 rfl rfl, ex_t1 6 rfl rfl, by decide, fun h => absurd h (by decide), fun _ => ⟨ex_t3 81 rfl rfl, by decide +kernel⟩⟩
set_option maxRecDepth 20000 in
theorem os_X2_countWays : Cond.selects (m_X2_countWays).2.1.cls (m_X2_countWays).2.1 (m_X2_countWays).2.1 ∈ ex_tbl := ex_t3 82 rfl rfl
set_option maxRecDepth 20000 in
theorem om_X2_minor : ex_okM m_X2_minor true := ⟨by decide +kernel, rfl, ⟨by decide +kernel, by decide +kernel⟩, ex_t3 87 rfl rfl, ex_t1 6 rfl rfl, by decide, fun h => absurd h (by decide), fun _ => ⟨ex_t3 86 rfl rfl, by decide +kernel⟩⟩
set_option maxRecDepth 20000 in
theorem os_X2_minor : Cond.selects (m_X2_minor).2.1.cls (m_X2_minor).2.1 (m_X2_minor).2.1 ∈ ex_tbl := ex_tbl_of (List.mem_append_left _ (List.mem_map.mpr ⟨(yX2_minor, 4), List.mem_append_right _ (List.mem_append_left _ (List.mem_of_getElem? (i := 3) rfl)), rfl⟩)) rfl
set_option maxRecDepth 20000 in
theorem om_X2_firstMouths : ex_okM m_X2_firstMouths true := ⟨by decide +kernel, rfl, ⟨by decide +kernel, by decide +kernel⟩, ex_t3 92 rfl rfl, ex_t1 6 rfl rfl, by decide, fun h => absurd h (by decide), fun _ => ⟨ex_t3 90 rfl rfl, by decide +kernel⟩⟩
set_option maxRecDepth 20000 in
theorem os_X2_firstMouths : Cond.selects (m_X2_firstMouths).2.1.cls (m_X2_firstMouths).2.1 (m_X2_firstMouths).2.1 ∈ ex_tbl := ex_t3 91 rfl rfl
set_option maxRecDepth 20000 in
theorem om_X2_reachesAll : ex_okM m_X2_reachesAll true := ⟨by decide +kernel, rfl, ⟨by decide +kernel, by decide +kernel⟩, ex_t3 96 rfl rfl, ex_t1 6 rfl rfl, by decide, fun h => absurd h (by decide), fun _ => ⟨ex_t3 95 rfl rfl, by decide +kernel⟩⟩
set_option maxRecDepth 20000 in
theorem os_X2_reachesAll : Cond.selects (m_X2_reachesAll).2.1.cls (m_X2_reachesAll).2.1 (m_X2_reachesAll).2.1 ∈ ex_tbl := ex_tbl_of (List.mem_append_left _ (List.mem_map.mpr ⟨(yX2_reachesAll, 4), List.mem_append_right _ (List.mem_append_left _ (List.mem_of_getElem? (i := 4) rfl)), rfl⟩)) rfl
set_option maxRecDepth 20000 in
theorem om_X2_sourceOf : ex_okM m_X2_sourceOf true := ⟨by decide +kernel, rfl, ⟨by decide +kernel, by decide +kernel⟩, ex_t3 104 rfl rfl, ex_t1 6 rfl rfl, by decide, fun h => absurd h (by decide), fun _ => ⟨ex_t3 102 rfl rfl, by decide +kernel⟩⟩
set_option maxRecDepth 20000 in
theorem os_X2_sourceOf : Cond.selects (m_X2_sourceOf).2.1.cls (m_X2_sourceOf).2.1 (m_X2_sourceOf).2.1 ∈ ex_tbl := ex_t3 103 rfl rfl
set_option maxRecDepth 20000 in
theorem om_X2_settle : ex_okM m_X2_settle true := ⟨by decide +kernel, rfl, ⟨by decide +kernel, by decide +kernel⟩, ex_t3 109 rfl rfl, ex_t1 6 rfl rfl, by decide, fun h => absurd h (by decide), fun _ => ⟨ex_t3 108 rfl rfl, by decide +kernel⟩⟩
set_option maxRecDepth 20000 in
theorem os_X2_settle : Cond.selects (m_X2_settle).2.1.cls (m_X2_settle).2.1 (m_X2_settle).2.1 ∈ ex_tbl := ex_tbl_of (List.mem_append_left _ (List.mem_map.mpr ⟨(yX2_settle, 4), List.mem_append_right _ (List.mem_append_left _ (List.mem_of_getElem? (i := 5) rfl)), rfl⟩)) rfl
set_option maxRecDepth 20000 in
theorem om_X7_init : ex_okM m_X7_init true := ⟨by decide +kernel, rfl, ⟨by decide +kernel, by decide +kernel⟩, ex_t3 210 rfl rfl, ex_t1 8 rfl rfl, by decide, fun h => absurd h (by decide), fun _ => ⟨ex_t3 209 rfl rfl, by decide +kernel⟩⟩
set_option maxRecDepth 20000 in
theorem om_X7_in : ex_okM m_X7_in false := ⟨by decide +kernel, rfl, ⟨by decide +kernel, by decide +kernel⟩, ex_t4 82 rfl rfl, ex_t1 8 rfl rfl, by decide, fun _ => ⟨ex_t4 81 rfl rfl, by decide +kernel⟩, fun h => absurd h (by decide)⟩
set_option maxRecDepth 20000 in
theorem om_X7_has : ex_okM m_X7_has false := ⟨by decide +kernel, rfl, ⟨by decide +kernel, by decide +kernel⟩, ex_t4 107 rfl rfl, ex_t1 8 rfl rfl, by decide, fun _ => ⟨ex_t4 106 rfl rfl, by decide +kernel⟩, fun h => absurd h (by decide)⟩
set_option maxRecDepth 20000 in
theorem om_X7_isChild : ex_okM m_X7_isChild true := ⟨by decide +kernel, rfl, ⟨by decide +kernel, by decide +kernel⟩, ex_t4 94 rfl rfl, ex_t1 8 rfl rfl, by decide, fun h => absurd h (by decide), fun _ => ⟨ex_t4 93 rfl rfl, by decide +kernel⟩⟩
set_option maxRecDepth 20000 in
theorem os_X7_isChild : Cond.selects (m_X7_isChild).2.1.cls (m_X7_isChild).2.1 (m_X7_isChild).2.1 ∈ ex_tbl := ex_tbl_of (List.mem_append_left _ (List.mem_map.mpr ⟨(yX7_isChild, 34), List.mem_append_right _ (List.mem_append_left _ (List.mem_of_getElem? (i := 8) rfl)), rfl⟩)) rfl
set_option maxRecDepth 20000 in
theorem om_X7_isThing : ex_okM m_X7_isThing false := ⟨by decide +kernel, rfl, ⟨by decide +kernel, by decide +kernel⟩, ex_t4 97 rfl rfl, ex_t1 8 rfl rfl, by decide, fun _ => ⟨ex_t4 96 rfl rfl, by decide +kernel⟩, fun h => absurd h (by decide)⟩
set_option maxRecDepth 20000 in
theorem om_X7_areTwo : ex_okM m_X7_areTwo true := ⟨by decide +kernel, rfl, ⟨by decide +kernel, by decide +kernel⟩, ex_t4 115 rfl rfl, ex_t1 8 rfl rfl, by decide, fun h => absurd h (by decide), fun _ => ⟨ex_t4 114 rfl rfl, by decide +kernel⟩⟩
set_option maxRecDepth 20000 in
theorem os_X7_areTwo : Cond.selects (m_X7_areTwo).2.1.cls (m_X7_areTwo).2.1 (m_X7_areTwo).2.1 ∈ ex_tbl := ex_tbl_of (List.mem_append_left _ (List.mem_map.mpr ⟨(yX7_areTwo, 34), List.mem_append_right _ (List.mem_append_left _ (List.mem_of_getElem? (i := 9) rfl)), rfl⟩)) rfl
set_option maxRecDepth 20000 in
theorem om_X7_add : ex_okM m_X7_add true := ⟨by decide +kernel, rfl, ⟨by decide +kernel, by decide +kernel⟩, ex_t4 86 rfl rfl, ex_t1 8 rfl rfl, by decide, fun h => absurd h (by decide), fun _ => ⟨ex_t4 85 rfl rfl, by decide +kernel⟩⟩
set_option maxRecDepth 20000 in
theorem os_X7_add : Cond.selects (m_X7_add).2.1.cls (m_X7_add).2.1 (m_X7_add).2.1 ∈ ex_tbl := ex_tbl_of (List.mem_append_left _ (List.mem_map.mpr ⟨(yX7_add, 34), List.mem_append_right _ (List.mem_append_left _ (List.mem_of_getElem? (i := 7) rfl)), rfl⟩)) rfl
set_option maxRecDepth 20000 in
theorem om_X7_child : ex_okM m_X7_child true := ⟨by decide +kernel, rfl, ⟨by decide +kernel, by decide +kernel⟩, ex_t4 78 rfl rfl, ex_t1 8 rfl rfl, by decide, fun h => absurd h (by decide), fun _ => ⟨ex_t4 76 rfl rfl, by decide +kernel⟩⟩
set_option maxRecDepth 20000 in
theorem os_X7_child : Cond.selects (m_X7_child).2.1.cls (m_X7_child).2.1 (m_X7_child).2.1 ∈ ex_tbl := ex_t4 77 rfl rfl
set_option maxRecDepth 20000 in
theorem om_X7_know : ex_okM m_X7_know true := ⟨by decide +kernel, rfl, ⟨by decide +kernel, by decide +kernel⟩, ex_t4 90 rfl rfl, ex_t1 8 rfl rfl, by decide, fun h => absurd h (by decide), fun _ => ⟨ex_t4 88 rfl rfl, by decide +kernel⟩⟩
set_option maxRecDepth 20000 in
theorem os_X7_know : Cond.selects (m_X7_know).2.1.cls (m_X7_know).2.1 (m_X7_know).2.1 ∈ ex_tbl := ex_t4 89 rfl rfl
set_option maxRecDepth 20000 in
theorem om_X7_need : ex_okM m_X7_need true := ⟨by decide +kernel, rfl, ⟨by decide +kernel, by decide +kernel⟩, ex_t4 103 rfl rfl, ex_t1 8 rfl rfl, by decide, fun h => absurd h (by decide), fun _ => ⟨ex_t4 101 rfl rfl, by decide +kernel⟩⟩
set_option maxRecDepth 20000 in
theorem os_X7_need : Cond.selects (m_X7_need).2.1.cls (m_X7_need).2.1 (m_X7_need).2.1 ∈ ex_tbl := ex_t4 102 rfl rfl
set_option maxRecDepth 20000 in
theorem om_X7_hears : ex_okM m_X7_hears true := ⟨by decide +kernel, rfl, ⟨by decide +kernel, by decide +kernel⟩, ex_t4 111 rfl rfl, ex_t1 8 rfl rfl, by decide, fun h => absurd h (by decide), fun _ => ⟨ex_t4 109 rfl rfl, by decide +kernel⟩⟩
set_option maxRecDepth 20000 in
theorem os_X7_hears : Cond.selects (m_X7_hears).2.1.cls (m_X7_hears).2.1 (m_X7_hears).2.1 ∈ ex_tbl := ex_t4 110 rfl rfl
set_option maxRecDepth 20000 in
theorem om_X7_knownTo : ex_okM m_X7_knownTo true := ⟨by decide +kernel, rfl, ⟨by decide +kernel, by decide +kernel⟩, ex_t4 124 rfl rfl, ex_t1 8 rfl rfl, by decide, fun h => absurd h (by decide), fun _ => ⟨ex_t4 123 rfl rfl, by decide +kernel⟩⟩
set_option maxRecDepth 20000 in
theorem os_X7_knownTo : Cond.selects (m_X7_knownTo).2.1.cls (m_X7_knownTo).2.1 (m_X7_knownTo).2.1 ∈ ex_tbl := ex_tbl_of (List.mem_append_left _ (List.mem_map.mpr ⟨(yX7_knownTo, 34), List.mem_append_right _ (List.mem_append_left _ (List.mem_of_getElem? (i := 10) rfl)), rfl⟩)) rfl
set_option maxRecDepth 20000 in
theorem om_X7_told : ex_okM m_X7_told true := ⟨by decide +kernel, rfl, ⟨by decide +kernel, by decide +kernel⟩, ex_t4 119 rfl rfl, ex_t1 8 rfl rfl, by decide, fun h => absurd h (by decide), fun _ => ⟨ex_t4 117 rfl rfl, by decide +kernel⟩⟩
set_option maxRecDepth 20000 in
theorem os_X7_told : Cond.selects (m_X7_told).2.1.cls (m_X7_told).2.1 (m_X7_told).2.1 ∈ ex_tbl := ex_t4 118 rfl rfl
set_option maxRecDepth 20000 in
theorem om_X7_pass : ex_okM m_X7_pass false := ⟨by decide +kernel, rfl, ⟨by decide +kernel, by decide +kernel⟩, ex_t4 131 rfl rfl, ex_t1 8 rfl rfl, by decide, fun _ => ⟨ex_t4 130 rfl rfl, by decide +kernel⟩, fun h => absurd h (by decide)⟩
set_option maxRecDepth 20000 in
theorem om_X7_passes : ex_okM m_X7_passes true := ⟨by decide +kernel, rfl, ⟨by decide +kernel, by decide +kernel⟩, ex_t4 128 rfl rfl, ex_t1 8 rfl rfl, by decide, fun h => absurd h (by decide), fun _ => ⟨ex_t4 126 rfl rfl, by decide +kernel⟩⟩
set_option maxRecDepth 20000 in
theorem os_X7_passes : Cond.selects (m_X7_passes).2.1.cls (m_X7_passes).2.1 (m_X7_passes).2.1 ∈ ex_tbl := ex_t4 127 rfl rfl
set_option maxRecDepth 20000 in
theorem om_X7_count : ex_okM m_X7_count true := ⟨by decide +kernel, rfl, ⟨by decide +kernel, by decide +kernel⟩, ex_t4 135 rfl rfl, ex_t1 8 rfl rfl, by decide, fun h => absurd h (by decide), fun _ => ⟨ex_t4 133 rfl rfl, by decide +kernel⟩⟩
set_option maxRecDepth 20000 in
theorem os_X7_count : Cond.selects (m_X7_count).2.1.cls (m_X7_count).2.1 (m_X7_count).2.1 ∈ ex_tbl := ex_t4 134 rfl rfl
set_option maxRecDepth 20000 in
theorem om_X7_type : ex_okM m_X7_type true := ⟨by decide +kernel, rfl, ⟨by decide +kernel, by decide +kernel⟩, ex_t4 139 rfl rfl, ex_t1 8 rfl rfl, by decide, fun h => absurd h (by decide), fun _ => ⟨ex_t4 137 rfl rfl, by decide +kernel⟩⟩
set_option maxRecDepth 20000 in
theorem os_X7_type : Cond.selects (m_X7_type).2.1.cls (m_X7_type).2.1 (m_X7_type).2.1 ∈ ex_tbl := ex_t4 138 rfl rfl
set_option maxRecDepth 20000 in
theorem om_X7_nextByte : ex_okM m_X7_nextByte true := ⟨by decide +kernel, rfl, ⟨by decide +kernel, by decide +kernel⟩, ex_t4 159 rfl rfl, ex_t1 8 rfl rfl, by decide, fun h => absurd h (by decide), fun _ => ⟨ex_t4 158 rfl rfl, by decide +kernel⟩⟩
set_option maxRecDepth 20000 in
theorem os_X7_nextByte : Cond.selects (m_X7_nextByte).2.1.cls (m_X7_nextByte).2.1 (m_X7_nextByte).2.1 ∈ ex_tbl := ex_tbl_of (List.mem_append_left _ (List.mem_map.mpr ⟨(yX7_nextByte, 34), List.mem_append_right _ (List.mem_append_left _ (List.mem_of_getElem? (i := 13) rfl)), rfl⟩)) rfl
set_option maxRecDepth 20000 in
theorem om_X7_readChild : ex_okM m_X7_readChild true := ⟨by decide +kernel, rfl, ⟨by decide +kernel, by decide +kernel⟩, ex_t4 155 rfl rfl, ex_t1 8 rfl rfl, by decide, fun h => absurd h (by decide), fun _ => ⟨ex_t4 154 rfl rfl, by decide +kernel⟩⟩
set_option maxRecDepth 20000 in
theorem os_X7_readChild : Cond.selects (m_X7_readChild).2.1.cls (m_X7_readChild).2.1 (m_X7_readChild).2.1 ∈ ex_tbl := ex_tbl_of (List.mem_append_left _ (List.mem_map.mpr ⟨(yX7_readChild, 34), List.mem_append_right _ (List.mem_append_left _ (List.mem_of_getElem? (i := 12) rfl)), rfl⟩)) rfl
set_option maxRecDepth 20000 in
theorem om_X7_readSchool : ex_okM m_X7_readSchool true := ⟨by decide +kernel, rfl, ⟨by decide +kernel, by decide +kernel⟩, ex_t4 151 rfl rfl, ex_t1 8 rfl rfl, by decide, fun h => absurd h (by decide), fun _ => ⟨ex_t4 150 rfl rfl, by decide +kernel⟩⟩
set_option maxRecDepth 20000 in
theorem os_X7_readSchool : Cond.selects (m_X7_readSchool).2.1.cls (m_X7_readSchool).2.1 (m_X7_readSchool).2.1 ∈ ex_tbl := ex_tbl_of (List.mem_append_left _ (List.mem_map.mpr ⟨(yX7_readSchool, 34), List.mem_append_right _ (List.mem_append_left _ (List.mem_of_getElem? (i := 11) rfl)), rfl⟩)) rfl
set_option maxRecDepth 20000 in
theorem om_X7_school : ex_okM m_X7_school true := ⟨by decide +kernel, rfl, ⟨by decide +kernel, by decide +kernel⟩, ex_t4 147 rfl rfl, ex_t1 8 rfl rfl, by decide, fun h => absurd h (by decide), fun _ => ⟨ex_t4 145 rfl rfl, by decide +kernel⟩⟩
set_option maxRecDepth 20000 in
theorem os_X7_school : Cond.selects (m_X7_school).2.1.cls (m_X7_school).2.1 (m_X7_school).2.1 ∈ ex_tbl := ex_t4 146 rfl rfl
set_option maxRecDepth 20000 in
theorem om_X7_readTeaching : ex_okM m_X7_readTeaching true := ⟨by decide +kernel, rfl, ⟨by decide +kernel, by decide +kernel⟩, ex_t4 173 rfl rfl, ex_t1 8 rfl rfl, by decide, fun h => absurd h (by decide), fun _ => ⟨ex_t4 172 rfl rfl, by decide +kernel⟩⟩
set_option maxRecDepth 20000 in
theorem os_X7_readTeaching : Cond.selects (m_X7_readTeaching).2.1.cls (m_X7_readTeaching).2.1 (m_X7_readTeaching).2.1 ∈ ex_tbl := ex_tbl_of (List.mem_append_left _ (List.mem_map.mpr ⟨(yX7_readTeaching, 34), List.mem_append_right _ (List.mem_append_left _ (List.mem_of_getElem? (i := 15) rfl)), rfl⟩)) rfl
set_option maxRecDepth 20000 in
theorem om_X7_readPlan : ex_okM m_X7_readPlan true := ⟨by decide +kernel, rfl, ⟨by decide +kernel, by decide +kernel⟩, ex_t4 169 rfl rfl, ex_t1 8 rfl rfl, by decide, fun h => absurd h (by decide), fun _ => ⟨ex_t4 168 rfl rfl, by decide +kernel⟩⟩
set_option maxRecDepth 20000 in
theorem os_X7_readPlan : Cond.selects (m_X7_readPlan).2.1.cls (m_X7_readPlan).2.1 (m_X7_readPlan).2.1 ∈ ex_tbl := ex_tbl_of (List.mem_append_left _ (List.mem_map.mpr ⟨(yX7_readPlan, 34), List.mem_append_right _ (List.mem_append_left _ (List.mem_of_getElem? (i := 14) rfl)), rfl⟩)) rfl
set_option maxRecDepth 20000 in
theorem om_X7_plan : ex_okM m_X7_plan true := ⟨by decide +kernel, rfl, ⟨by decide +kernel, by decide +kernel⟩, ex_t4 165 rfl rfl, ex_t1 8 rfl rfl, by decide, fun h => absurd h (by decide), fun _ => ⟨ex_t4 163 rfl rfl, by decide +kernel⟩⟩
set_option maxRecDepth 20000 in
theorem os_X7_plan : Cond.selects (m_X7_plan).2.1.cls (m_X7_plan).2.1 (m_X7_plan).2.1 ∈ ex_tbl := ex_t4 164 rfl rfl
set_option maxRecDepth 20000 in
theorem om_X7_mayBe : ex_okM m_X7_mayBe true := ⟨by decide +kernel, rfl, ⟨by decide +kernel, by decide +kernel⟩, ex_t4 181 rfl rfl, ex_t1 8 rfl rfl, by decide, fun h => absurd h (by decide), fun _ => ⟨ex_t4 180 rfl rfl, by decide +kernel⟩⟩
set_option maxRecDepth 20000 in
theorem os_X7_mayBe : Cond.selects (m_X7_mayBe).2.1.cls (m_X7_mayBe).2.1 (m_X7_mayBe).2.1 ∈ ex_tbl := ex_tbl_of (List.mem_append_left _ (List.mem_map.mpr ⟨(yX7_mayBe, 34), List.mem_append_right _ (List.mem_append_right _ (List.mem_of_getElem? (i := 0) rfl)), rfl⟩)) rfl
set_option maxRecDepth 20000 in
theorem om_X7_teachNow : ex_okM m_X7_teachNow true := ⟨by decide +kernel, rfl, ⟨by decide +kernel, by decide +kernel⟩, ex_t4 189 rfl rfl, ex_t1 8 rfl rfl, by decide, fun h => absurd h (by decide), fun _ => ⟨ex_t4 188 rfl rfl, by decide +kernel⟩⟩
set_option maxRecDepth 20000 in
theorem os_X7_teachNow : Cond.selects (m_X7_teachNow).2.1.cls (m_X7_teachNow).2.1 (m_X7_teachNow).2.1 ∈ ex_tbl := ex_tbl_of (List.mem_append_left _ (List.mem_map.mpr ⟨(yX7_teachNow, 34), List.mem_append_right _ (List.mem_append_right _ (List.mem_of_getElem? (i := 1) rfl)), rfl⟩)) rfl
set_option maxRecDepth 20000 in
theorem om_X7_may : ex_okM m_X7_may true := ⟨by decide +kernel, rfl, ⟨by decide +kernel, by decide +kernel⟩, ex_t4 177 rfl rfl, ex_t1 8 rfl rfl, by decide, fun h => absurd h (by decide), fun _ => ⟨ex_t4 175 rfl rfl, by decide +kernel⟩⟩
set_option maxRecDepth 20000 in
theorem os_X7_may : Cond.selects (m_X7_may).2.1.cls (m_X7_may).2.1 (m_X7_may).2.1 ∈ ex_tbl := ex_t4 176 rfl rfl
set_option maxRecDepth 20000 in
theorem om_X7_teach : ex_okM m_X7_teach true := ⟨by decide +kernel, rfl, ⟨by decide +kernel, by decide +kernel⟩, ex_t4 185 rfl rfl, ex_t1 8 rfl rfl, by decide, fun h => absurd h (by decide), fun _ => ⟨ex_t4 183 rfl rfl, by decide +kernel⟩⟩
set_option maxRecDepth 20000 in
theorem os_X7_teach : Cond.selects (m_X7_teach).2.1.cls (m_X7_teach).2.1 (m_X7_teach).2.1 ∈ ex_tbl := ex_t4 184 rfl rfl
set_option maxRecDepth 20000 in
theorem om_X7_run : ex_okM m_X7_run true := ⟨by decide +kernel, rfl, ⟨by decide +kernel, by decide +kernel⟩, ex_t4 194 rfl rfl, ex_t1 8 rfl rfl, by decide, fun h => absurd h (by decide), fun _ => ⟨ex_t4 192 rfl rfl, by decide +kernel⟩⟩
set_option maxRecDepth 20000 in
theorem os_X7_run : Cond.selects (m_X7_run).2.1.cls (m_X7_run).2.1 (m_X7_run).2.1 ∈ ex_tbl := ex_t4 193 rfl rfl
set_option maxRecDepth 20000 in
theorem om_X7_ones : ex_okM m_X7_ones false := ⟨by decide +kernel, rfl, ⟨by decide +kernel, by decide +kernel⟩, ex_t4 201 rfl rfl, ex_t1 8 rfl rfl, by decide, fun _ => ⟨ex_t4 200 rfl rfl, by decide +kernel⟩, fun h => absurd h (by decide)⟩
set_option maxRecDepth 20000 in
theorem om_X7_mayTeach : ex_okM m_X7_mayTeach true := ⟨by decide +kernel, rfl, ⟨by decide +kernel, by decide +kernel⟩, ex_t4 209 rfl rfl, ex_t1 8 rfl rfl, by decide, fun h => absurd h (by decide), fun _ => ⟨ex_t4 208 rfl rfl, by decide +kernel⟩⟩
set_option maxRecDepth 20000 in
theorem os_X7_mayTeach : Cond.selects (m_X7_mayTeach).2.1.cls (m_X7_mayTeach).2.1 (m_X7_mayTeach).2.1 ∈ ex_tbl := ex_tbl_of (List.mem_append_left _ (List.mem_map.mpr ⟨(yX7_mayTeach, 34), List.mem_append_right _ (List.mem_append_right _ (List.mem_of_getElem? (i := 3) rfl)), rfl⟩)) rfl
set_option maxRecDepth 20000 in
theorem om_X7_goOn : ex_okM m_X7_goOn true := ⟨by decide +kernel, rfl, ⟨by decide +kernel, by decide +kernel⟩, ex_t4 205 rfl rfl, ex_t1 8 rfl rfl, by decide, fun h => absurd h (by decide), fun _ => ⟨ex_t4 204 rfl rfl, by decide +kernel⟩⟩
set_option maxRecDepth 20000 in
theorem os_X7_goOn : Cond.selects (m_X7_goOn).2.1.cls (m_X7_goOn).2.1 (m_X7_goOn).2.1 ∈ ex_tbl := ex_tbl_of (List.mem_append_left _ (List.mem_map.mpr ⟨(yX7_goOn, 34), List.mem_append_right _ (List.mem_append_right _ (List.mem_of_getElem? (i := 2) rfl)), rfl⟩)) rfl
set_option maxRecDepth 20000 in
theorem om_X7_hours : ex_okM m_X7_hours true := ⟨by decide +kernel, rfl, ⟨by decide +kernel, by decide +kernel⟩, ex_t4 198 rfl rfl, ex_t1 8 rfl rfl, by decide, fun h => absurd h (by decide), fun _ => ⟨ex_t4 196 rfl rfl, by decide +kernel⟩⟩
set_option maxRecDepth 20000 in
theorem os_X7_hours : Cond.selects (m_X7_hours).2.1.cls (m_X7_hours).2.1 (m_X7_hours).2.1 ∈ ex_tbl := ex_t4 197 rfl rfl
set_option maxRecDepth 20000 in
theorem om_X7_bound : ex_okM m_X7_bound true := ⟨by decide +kernel, rfl, ⟨by decide +kernel, by decide +kernel⟩, ex_t4 213 rfl rfl, ex_t1 8 rfl rfl, by decide, fun h => absurd h (by decide), fun _ => ⟨ex_t4 211 rfl rfl, by decide +kernel⟩⟩
set_option maxRecDepth 20000 in
theorem os_X7_bound : Cond.selects (m_X7_bound).2.1.cls (m_X7_bound).2.1 (m_X7_bound).2.1 ∈ ex_tbl := ex_t4 212 rfl rfl
set_option maxRecDepth 20000 in
theorem om_X7_goWithout : ex_okM m_X7_goWithout true := ⟨by decide +kernel, rfl, ⟨by decide +kernel, by decide +kernel⟩, ex_t4 221 rfl rfl, ex_t1 8 rfl rfl, by decide, fun h => absurd h (by decide), fun _ => ⟨ex_t4 220 rfl rfl, by decide +kernel⟩⟩
set_option maxRecDepth 20000 in
theorem os_X7_goWithout : Cond.selects (m_X7_goWithout).2.1.cls (m_X7_goWithout).2.1 (m_X7_goWithout).2.1 ∈ ex_tbl := ex_tbl_of (List.mem_append_left _ (List.mem_map.mpr ⟨(yX7_goWithout, 34), List.mem_append_right _ (List.mem_append_right _ (List.mem_of_getElem? (i := 4) rfl)), rfl⟩)) rfl
set_option maxRecDepth 20000 in
theorem om_X7_bringBack : ex_okM m_X7_bringBack true := ⟨by decide +kernel, rfl, ⟨by decide +kernel, by decide +kernel⟩, ex_t4 225 rfl rfl, ex_t1 8 rfl rfl, by decide, fun h => absurd h (by decide), fun _ => ⟨ex_t4 224 rfl rfl, by decide +kernel⟩⟩
set_option maxRecDepth 20000 in
theorem os_X7_bringBack : Cond.selects (m_X7_bringBack).2.1.cls (m_X7_bringBack).2.1 (m_X7_bringBack).2.1 ∈ ex_tbl := ex_tbl_of (List.mem_append_left _ (List.mem_map.mpr ⟨(yX7_bringBack, 34), List.mem_append_right _ (List.mem_append_right _ (List.mem_of_getElem? (i := 5) rfl)), rfl⟩)) rfl
set_option maxRecDepth 20000 in
theorem om_X7_spared : ex_okM m_X7_spared true := ⟨by decide +kernel, rfl, ⟨by decide +kernel, by decide +kernel⟩, ex_t4 217 rfl rfl, ex_t1 8 rfl rfl, by decide, fun h => absurd h (by decide), fun _ => ⟨ex_t4 215 rfl rfl, by decide +kernel⟩⟩
set_option maxRecDepth 20000 in
theorem os_X7_spared : Cond.selects (m_X7_spared).2.1.cls (m_X7_spared).2.1 (m_X7_spared).2.1 ∈ ex_tbl := ex_t4 216 rfl rfl
set_option maxRecDepth 20000 in
theorem om_X7_order : ex_okM m_X7_order true := ⟨by decide +kernel, rfl, ⟨by decide +kernel, by decide +kernel⟩, ex_t4 229 rfl rfl, ex_t1 8 rfl rfl, by decide, fun h => absurd h (by decide), fun _ => ⟨ex_t4 227 rfl rfl, by decide +kernel⟩⟩
set_option maxRecDepth 20000 in
theorem os_X7_order : Cond.selects (m_X7_order).2.1.cls (m_X7_order).2.1 (m_X7_order).2.1 ∈ ex_tbl := ex_t4 228 rfl rfl
set_option maxRecDepth 20000 in
theorem om_X7_canHave : ex_okM m_X7_canHave true := ⟨by decide +kernel, rfl, ⟨by decide +kernel, by decide +kernel⟩, ex_t5 5 rfl rfl, ex_t1 8 rfl rfl, by decide, fun h => absurd h (by decide), fun _ => ⟨ex_t5 4 rfl rfl, by decide +kernel⟩⟩
set_option maxRecDepth 20000 in
theorem os_X7_canHave : Cond.selects (m_X7_canHave).2.1.cls (m_X7_canHave).2.1 (m_X7_canHave).2.1 ∈ ex_tbl := ex_tbl_of (List.mem_append_left _ (List.mem_map.mpr ⟨(yX7_canHave, 34), List.mem_append_right _ (List.mem_append_right _ (List.mem_of_getElem? (i := 8) rfl)), rfl⟩)) rfl
set_option maxRecDepth 20000 in
theorem om_X7_isWay : ex_okM m_X7_isWay true := ⟨by decide +kernel, rfl, ⟨by decide +kernel, by decide +kernel⟩, ex_t5 1 rfl rfl, ex_t1 8 rfl rfl, by decide, fun h => absurd h (by decide), fun _ => ⟨ex_t5 0 rfl rfl, by decide +kernel⟩⟩
set_option maxRecDepth 20000 in
theorem os_X7_isWay : Cond.selects (m_X7_isWay).2.1.cls (m_X7_isWay).2.1 (m_X7_isWay).2.1 ∈ ex_tbl := ex_tbl_of (List.mem_append_left _ (List.mem_map.mpr ⟨(yX7_isWay, 34), List.mem_append_right _ (List.mem_append_right _ (List.mem_of_getElem? (i := 7) rfl)), rfl⟩)) rfl
set_option maxRecDepth 20000 in
theorem om_X7_nextRow : ex_okM m_X7_nextRow true := ⟨by decide +kernel, rfl, ⟨by decide +kernel, by decide +kernel⟩, ex_t5 9 rfl rfl, ex_t1 8 rfl rfl, by decide, fun h => absurd h (by decide), fun _ => ⟨ex_t5 8 rfl rfl, by decide +kernel⟩⟩
set_option maxRecDepth 20000 in
theorem os_X7_nextRow : Cond.selects (m_X7_nextRow).2.1.cls (m_X7_nextRow).2.1 (m_X7_nextRow).2.1 ∈ ex_tbl := ex_tbl_of (List.mem_append_left _ (List.mem_map.mpr ⟨(yX7_nextRow, 34), List.mem_append_right _ (List.mem_append_right _ (List.mem_of_getElem? (i := 9) rfl)), rfl⟩)) rfl
set_option maxRecDepth 20000 in
theorem om_X7_findWays : ex_okM m_X7_findWays true := ⟨by decide +kernel, rfl, ⟨by decide +kernel, by decide +kernel⟩, ex_t4 237 rfl rfl, ex_t1 8 rfl rfl, by decide, fun h => absurd h (by decide), fun _ => ⟨ex_t4 236 rfl rfl, by decide +kernel⟩⟩
set_option maxRecDepth 20000 in
theorem os_X7_findWays : Cond.selects (m_X7_findWays).2.1.cls (m_X7_findWays).2.1 (m_X7_findWays).2.1 ∈ ex_tbl := ex_tbl_of (List.mem_append_left _ (List.mem_map.mpr ⟨(yX7_findWays, 34), List.mem_append_right _ (List.mem_append_right _ (List.mem_of_getElem? (i := 6) rfl)), rfl⟩)) rfl
set_option maxRecDepth 20000 in
theorem om_X7_mouths : ex_okM m_X7_mouths true := ⟨by decide +kernel, rfl, ⟨by decide +kernel, by decide +kernel⟩, ex_t4 233 rfl rfl, ex_t1 8 rfl rfl, by decide, fun h => absurd h (by decide), fun _ => ⟨ex_t4 231 rfl rfl, by decide +kernel⟩⟩
set_option maxRecDepth 20000 in
theorem os_X7_mouths : Cond.selects (m_X7_mouths).2.1.cls (m_X7_mouths).2.1 (m_X7_mouths).2.1 ∈ ex_tbl := ex_t4 232 rfl rfl
set_option maxRecDepth 20000 in
theorem om_X7_from : ex_okM m_X7_from true := ⟨by decide +kernel, rfl, ⟨by decide +kernel, by decide +kernel⟩, ex_t5 13 rfl rfl, ex_t1 8 rfl rfl, by decide, fun h => absurd h (by decide), fun _ => ⟨ex_t5 11 rfl rfl, by decide +kernel⟩⟩
set_option maxRecDepth 20000 in
theorem os_X7_from : Cond.selects (m_X7_from).2.1.cls (m_X7_from).2.1 (m_X7_from).2.1 ∈ ex_tbl := ex_t5 12 rfl rfl
set_option maxRecDepth 20000 in
theorem om_X7_lesson : ex_okM m_X7_lesson true := ⟨by decide +kernel, rfl, ⟨by decide +kernel, by decide +kernel⟩, ex_t5 22 rfl rfl, ex_t1 8 rfl rfl, by decide, fun h => absurd h (by decide), fun _ => ⟨ex_t5 21 rfl rfl, by decide +kernel⟩⟩
set_option maxRecDepth 20000 in
theorem os_X7_lesson : Cond.selects (m_X7_lesson).2.1.cls (m_X7_lesson).2.1 (m_X7_lesson).2.1 ∈ ex_tbl := ex_tbl_of (List.mem_append_left _ (List.mem_map.mpr ⟨(yX7_lesson, 34), List.mem_append_right _ (List.mem_append_right _ (List.mem_of_getElem? (i := 10) rfl)), rfl⟩)) rfl
set_option maxRecDepth 20000 in
theorem om_X7_lessons : ex_okM m_X7_lessons true := ⟨by decide +kernel, rfl, ⟨by decide +kernel, by decide +kernel⟩, ex_t5 17 rfl rfl, ex_t1 8 rfl rfl, by decide, fun h => absurd h (by decide), fun _ => ⟨ex_t5 15 rfl rfl, by decide +kernel⟩⟩
set_option maxRecDepth 20000 in
theorem os_X7_lessons : Cond.selects (m_X7_lessons).2.1.cls (m_X7_lessons).2.1 (m_X7_lessons).2.1 ∈ ex_tbl := ex_t5 16 rfl rfl
set_option maxRecDepth 20000 in
theorem om_X7_seed : ex_okM m_X7_seed true := ⟨by decide +kernel, rfl, ⟨by decide +kernel, by decide +kernel⟩, ex_t5 30 rfl rfl, ex_t1 8 rfl rfl, by decide, fun h => absurd h (by decide), fun _ => ⟨ex_t5 28 rfl rfl, by decide +kernel⟩⟩
set_option maxRecDepth 20000 in
theorem os_X7_seed : Cond.selects (m_X7_seed).2.1.cls (m_X7_seed).2.1 (m_X7_seed).2.1 ∈ ex_tbl := ex_t5 29 rfl rfl
set_option maxRecDepth 20000 in
theorem om_X7_carried : ex_okM m_X7_carried true := ⟨by decide +kernel, rfl, ⟨by decide +kernel, by decide +kernel⟩, ex_t5 38 rfl rfl, ex_t1 8 rfl rfl, by decide, fun h => absurd h (by decide), fun _ => ⟨ex_t5 37 rfl rfl, by decide +kernel⟩⟩
set_option maxRecDepth 20000 in
theorem os_X7_carried : Cond.selects (m_X7_carried).2.1.cls (m_X7_carried).2.1 (m_X7_carried).2.1 ∈ ex_tbl := ex_tbl_of (List.mem_append_left _ (List.mem_map.mpr ⟨(yX7_carried, 34), List.mem_append_right _ (List.mem_append_right _ (List.mem_of_getElem? (i := 11) rfl)), rfl⟩)) rfl
set_option maxRecDepth 20000 in
theorem om_X7_image : ex_okM m_X7_image true := ⟨by decide +kernel, rfl, ⟨by decide +kernel, by decide +kernel⟩, ex_t5 34 rfl rfl, ex_t1 8 rfl rfl, by decide, fun h => absurd h (by decide), fun _ => ⟨ex_t5 32 rfl rfl, by decide +kernel⟩⟩
set_option maxRecDepth 20000 in
theorem os_X7_image : Cond.selects (m_X7_image).2.1.cls (m_X7_image).2.1 (m_X7_image).2.1 ∈ ex_tbl := ex_t5 33 rfl rfl
set_option maxRecDepth 20000 in
theorem om_X7_restore : ex_okM m_X7_restore true := ⟨by decide +kernel, rfl, ⟨by decide +kernel, by decide +kernel⟩, ex_t5 42 rfl rfl, ex_t1 8 rfl rfl, by decide, fun h => absurd h (by decide), fun _ => ⟨ex_t5 40 rfl rfl, by decide +kernel⟩⟩
set_option maxRecDepth 20000 in
theorem os_X7_restore : Cond.selects (m_X7_restore).2.1.cls (m_X7_restore).2.1 (m_X7_restore).2.1 ∈ ex_tbl := ex_t5 41 rfl rfl
set_option maxRecDepth 20000 in
theorem om_X7_isSheet : ex_okM m_X7_isSheet false := ⟨by decide +kernel, rfl, ⟨by decide +kernel, by decide +kernel⟩, ex_t5 49 rfl rfl, ex_t1 8 rfl rfl, by decide, fun _ => ⟨ex_t5 48 rfl rfl, by decide +kernel⟩, fun h => absurd h (by decide)⟩
set_option maxRecDepth 20000 in
theorem om_X7_sheet : ex_okM m_X7_sheet true := ⟨by decide +kernel, rfl, ⟨by decide +kernel, by decide +kernel⟩, ex_t5 46 rfl rfl, ex_t1 8 rfl rfl, by decide, fun h => absurd h (by decide), fun _ => ⟨ex_t5 44 rfl rfl, by decide +kernel⟩⟩
set_option maxRecDepth 20000 in
theorem os_X7_sheet : Cond.selects (m_X7_sheet).2.1.cls (m_X7_sheet).2.1 (m_X7_sheet).2.1 ∈ ex_tbl := ex_t5 45 rfl rfl
set_option maxRecDepth 20000 in
theorem om_X7_drop : ex_okM m_X7_drop true := ⟨by decide +kernel, rfl, ⟨by decide +kernel, by decide +kernel⟩, ex_t5 54 rfl rfl, ex_t1 8 rfl rfl, by decide, fun h => absurd h (by decide), fun _ => ⟨ex_t5 52 rfl rfl, by decide +kernel⟩⟩
set_option maxRecDepth 20000 in
theorem os_X7_drop : Cond.selects (m_X7_drop).2.1.cls (m_X7_drop).2.1 (m_X7_drop).2.1 ∈ ex_tbl := ex_t5 53 rfl rfl
set_option maxRecDepth 20000 in
theorem om_X7_lacksRow : ex_okM m_X7_lacksRow true := ⟨by decide +kernel, rfl, ⟨by decide +kernel, by decide +kernel⟩, ex_t5 62 rfl rfl, ex_t1 8 rfl rfl, by decide, fun h => absurd h (by decide), fun _ => ⟨ex_t5 61 rfl rfl, by decide +kernel⟩⟩
set_option maxRecDepth 20000 in
theorem os_X7_lacksRow : Cond.selects (m_X7_lacksRow).2.1.cls (m_X7_lacksRow).2.1 (m_X7_lacksRow).2.1 ∈ ex_tbl := ex_tbl_of (List.mem_append_left _ (List.mem_map.mpr ⟨(yX7_lacksRow, 34), List.mem_append_right _ (List.mem_append_right _ (List.mem_of_getElem? (i := 12) rfl)), rfl⟩)) rfl
set_option maxRecDepth 20000 in
theorem om_X7_item : ex_okM m_X7_item true := ⟨by decide +kernel, rfl, ⟨by decide +kernel, by decide +kernel⟩, ex_t5 58 rfl rfl, ex_t1 8 rfl rfl, by decide, fun h => absurd h (by decide), fun _ => ⟨ex_t5 56 rfl rfl, by decide +kernel⟩⟩
set_option maxRecDepth 20000 in
theorem os_X7_item : Cond.selects (m_X7_item).2.1.cls (m_X7_item).2.1 (m_X7_item).2.1 ∈ ex_tbl := ex_t5 57 rfl rfl
set_option maxRecDepth 20000 in
theorem om_X7_hour : ex_okM m_X7_hour true := ⟨by decide +kernel, rfl, ⟨by decide +kernel, by decide +kernel⟩, ex_t5 66 rfl rfl, ex_t1 8 rfl rfl, by decide, fun h => absurd h (by decide), fun _ => ⟨ex_t5 64 rfl rfl, by decide +kernel⟩⟩
set_option maxRecDepth 20000 in
theorem os_X7_hour : Cond.selects (m_X7_hour).2.1.cls (m_X7_hour).2.1 (m_X7_hour).2.1 ∈ ex_tbl := ex_t5 65 rfl rfl
set_option maxRecDepth 20000 in
theorem om_X7_film : ex_okM m_X7_film true := ⟨by decide +kernel, rfl, ⟨by decide +kernel, by decide +kernel⟩, ex_t5 70 rfl rfl, ex_t1 8 rfl rfl, by decide, fun h => absurd h (by decide), fun _ => ⟨ex_t5 68 rfl rfl, by decide +kernel⟩⟩
set_option maxRecDepth 20000 in
theorem os_X7_film : Cond.selects (m_X7_film).2.1.cls (m_X7_film).2.1 (m_X7_film).2.1 ∈ ex_tbl := ex_t5 69 rfl rfl
set_option maxRecDepth 20000 in
theorem om_X7_copy : ex_okM m_X7_copy true := ⟨by decide +kernel, rfl, ⟨by decide +kernel, by decide +kernel⟩, ex_t5 74 rfl rfl, ex_t1 8 rfl rfl, by decide, fun h => absurd h (by decide), fun _ => ⟨ex_t5 72 rfl rfl, by decide +kernel⟩⟩
set_option maxRecDepth 20000 in
theorem os_X7_copy : Cond.selects (m_X7_copy).2.1.cls (m_X7_copy).2.1 (m_X7_copy).2.1 ∈ ex_tbl := ex_t5 73 rfl rfl
set_option maxRecDepth 20000 in
theorem oxV_0 : ∀ a ∈ xV_0, ex_okM (xP a) true ∧ Cond.selects (xP a).2.1.cls (xP a).2.1 (xP a).2.1 ∈ ex_tbl := List.forall_mem_cons.mpr ⟨⟨om_X5_isMissing, os_X5_isMissing⟩, List.forall_mem_cons.mpr ⟨⟨om_X5_holds, os_X5_holds⟩, List.forall_mem_cons.mpr ⟨⟨om_X5_refusal, os_X5_refusal⟩, List.forall_mem_cons.mpr ⟨⟨om_X5_renew, os_X5_renew⟩, List.forall_mem_cons.mpr ⟨⟨om_X5_discard, os_X5_discard⟩, List.forall_mem_cons.mpr ⟨⟨om_X5_put, os_X5_put⟩, List.forall_mem_cons.mpr ⟨⟨om_X0_clear, os_X0_clear⟩, List.forall_mem_cons.mpr ⟨⟨om_X0_isFull, os_X0_isFull⟩, List.forall_mem_cons.mpr ⟨⟨om_X0_add, os_X0_add⟩, List.forall_mem_cons.mpr ⟨⟨om_X0_takeOver, os_X0_takeOver⟩, List.forall_mem_cons.mpr ⟨⟨om_X6_child, os_X6_child⟩, List.forall_mem_cons.mpr ⟨⟨om_X6_know, os_X6_know⟩, List.forall_mem_cons.mpr ⟨⟨om_X6_need, os_X6_need⟩, List.forall_mem_cons.mpr ⟨⟨om_X6_hears, os_X6_hears⟩, List.forall_mem_cons.mpr ⟨⟨om_X6_told, os_X6_told⟩, List.forall_mem_cons.mpr ⟨⟨om_X6_passes, os_X6_passes⟩, fun _ h => absurd h List.not_mem_nil⟩⟩⟩⟩⟩⟩⟩⟩⟩⟩⟩⟩⟩⟩⟩⟩
set_option maxRecDepth 20000 in
theorem oxV_1 : ∀ a ∈ xV_1, ex_okM (xP a) true ∧ Cond.selects (xP a).2.1.cls (xP a).2.1 (xP a).2.1 ∈ ex_tbl := List.forall_mem_cons.mpr ⟨⟨om_X6_type, os_X6_type⟩, List.forall_mem_cons.mpr ⟨⟨om_X6_school, os_X6_school⟩, List.forall_mem_cons.mpr ⟨⟨om_X6_plan, os_X6_plan⟩, List.forall_mem_cons.mpr ⟨⟨om_X6_count, os_X6_count⟩, List.forall_mem_cons.mpr ⟨⟨om_X6_may, os_X6_may⟩, List.forall_mem_cons.mpr ⟨⟨om_X6_teach, os_X6_teach⟩, List.forall_mem_cons.mpr ⟨⟨om_X6_run, os_X6_run⟩, List.forall_mem_cons.mpr ⟨⟨om_X6_hours, os_X6_hours⟩, List.forall_mem_cons.mpr ⟨⟨om_X6_bound, os_X6_bound⟩, List.forall_mem_cons.mpr ⟨⟨om_X6_spared, os_X6_spared⟩, List.forall_mem_cons.mpr ⟨⟨om_X6_order, os_X6_order⟩, List.forall_mem_cons.mpr ⟨⟨om_X6_mouths, os_X6_mouths⟩, List.forall_mem_cons.mpr ⟨⟨om_X6_from, os_X6_from⟩, List.forall_mem_cons.mpr ⟨⟨om_X6_lessons, os_X6_lessons⟩, List.forall_mem_cons.mpr ⟨⟨om_X6_seed, os_X6_seed⟩, List.forall_mem_cons.mpr ⟨⟨om_X6_image, os_X6_image⟩, fun _ h => absurd h List.not_mem_nil⟩⟩⟩⟩⟩⟩⟩⟩⟩⟩⟩⟩⟩⟩⟩⟩
set_option maxRecDepth 20000 in
theorem oxV_2 : ∀ a ∈ xV_2, ex_okM (xP a) true ∧ Cond.selects (xP a).2.1.cls (xP a).2.1 (xP a).2.1 ∈ ex_tbl := List.forall_mem_cons.mpr ⟨⟨om_X6_restore, os_X6_restore⟩, List.forall_mem_cons.mpr ⟨⟨om_X6_hour, os_X6_hour⟩, List.forall_mem_cons.mpr ⟨⟨om_X6_film, os_X6_film⟩, List.forall_mem_cons.mpr ⟨⟨om_X6_sheet, os_X6_sheet⟩, List.forall_mem_cons.mpr ⟨⟨om_X6_drop, os_X6_drop⟩, List.forall_mem_cons.mpr ⟨⟨om_X6_item, os_X6_item⟩, List.forall_mem_cons.mpr ⟨⟨om_X6_copy, os_X6_copy⟩, List.forall_mem_cons.mpr ⟨⟨om_X3_isChild, os_X3_isChild⟩, List.forall_mem_cons.mpr ⟨⟨om_X3_isTeaching, os_X3_isTeaching⟩, List.forall_mem_cons.mpr ⟨⟨om_X3_saying, os_X3_saying⟩, List.forall_mem_cons.mpr ⟨⟨om_X3_setSaying, os_X3_setSaying⟩, List.forall_mem_cons.mpr ⟨⟨om_X3_setKnown, os_X3_setKnown⟩, List.forall_mem_cons.mpr ⟨⟨om_X3_admit, os_X3_admit⟩, List.forall_mem_cons.mpr ⟨⟨om_X3_sendHome, os_X3_sendHome⟩, List.forall_mem_cons.mpr ⟨⟨om_X3_takeOver, os_X3_takeOver⟩, List.forall_mem_cons.mpr ⟨⟨om_X3_knownOf, os_X3_knownOf⟩, fun _ h => absurd h List.not_mem_nil⟩⟩⟩⟩⟩⟩⟩⟩⟩⟩⟩⟩⟩⟩⟩⟩
set_option maxRecDepth 20000 in
theorem oxV_3 : ∀ a ∈ xV_3, ex_okM (xP a) true ∧ Cond.selects (xP a).2.1.cls (xP a).2.1 (xP a).2.1 ∈ ex_tbl := List.forall_mem_cons.mpr ⟨⟨om_X3_garbled, os_X3_garbled⟩, List.forall_mem_cons.mpr ⟨⟨om_X3_allows, os_X3_allows⟩, List.forall_mem_cons.mpr ⟨⟨om_X3_perform, os_X3_perform⟩, List.forall_mem_cons.mpr ⟨⟨om_X3_runPlan, os_X3_runPlan⟩, List.forall_mem_cons.mpr ⟨⟨om_X3_goWithout, os_X3_goWithout⟩, List.forall_mem_cons.mpr ⟨⟨om_X3_sparedSet, os_X3_sparedSet⟩, List.forall_mem_cons.mpr ⟨⟨om_X3_trialIsAsGood, os_X3_trialIsAsGood⟩, List.forall_mem_cons.mpr ⟨⟨om_X3_firstTellable, os_X3_firstTellable⟩, List.forall_mem_cons.mpr ⟨⟨om_X3_drawLesson, os_X3_drawLesson⟩, List.forall_mem_cons.mpr ⟨⟨om_X3_listChoices, os_X3_listChoices⟩, List.forall_mem_cons.mpr ⟨⟨om_X3_holdHour, os_X3_holdHour⟩, List.forall_mem_cons.mpr ⟨⟨om_X1_append, os_X1_append⟩, List.forall_mem_cons.mpr ⟨⟨om_X1_clear, os_X1_clear⟩, List.forall_mem_cons.mpr ⟨⟨om_X1_rewind, os_X1_rewind⟩, List.forall_mem_cons.mpr ⟨⟨om_X1_step, os_X1_step⟩, List.forall_mem_cons.mpr ⟨⟨om_X1_skipBlanks, os_X1_skipBlanks⟩, fun _ h => absurd h List.not_mem_nil⟩⟩⟩⟩⟩⟩⟩⟩⟩⟩⟩⟩⟩⟩⟩⟩
set_option maxRecDepth 20000 in
theorem oxV_4 : ∀ a ∈ xV_4, ex_okM (xP a) true ∧ Cond.selects (xP a).2.1.cls (xP a).2.1 (xP a).2.1 ∈ ex_tbl := List.forall_mem_cons.mpr ⟨⟨om_X1_sign, os_X1_sign⟩, List.forall_mem_cons.mpr ⟨⟨om_X1_takes, os_X1_takes⟩, List.forall_mem_cons.mpr ⟨⟨om_X1_fault, os_X1_fault⟩, List.forall_mem_cons.mpr ⟨⟨om_X1_readSchool, os_X1_readSchool⟩, List.forall_mem_cons.mpr ⟨⟨om_X1_readThings, os_X1_readThings⟩, List.forall_mem_cons.mpr ⟨⟨om_X1_readPlan, os_X1_readPlan⟩, List.forall_mem_cons.mpr ⟨⟨om_X1_readTeaching, os_X1_readTeaching⟩, List.forall_mem_cons.mpr ⟨⟨om_X4_fewest, os_X4_fewest⟩, List.forall_mem_cons.mpr ⟨⟨om_X4_load, os_X4_load⟩, List.forall_mem_cons.mpr ⟨⟨om_X4_knownBy, os_X4_knownBy⟩, List.forall_mem_cons.mpr ⟨⟨om_X4_learnable, os_X4_learnable⟩, List.forall_mem_cons.mpr ⟨⟨om_X4_closure, os_X4_closure⟩, List.forall_mem_cons.mpr ⟨⟨om_X4_lacking, os_X4_lacking⟩, List.forall_mem_cons.mpr ⟨⟨om_X4_isEnough, os_X4_isEnough⟩, List.forall_mem_cons.mpr ⟨⟨om_X4_listGains, os_X4_listGains⟩, List.forall_mem_cons.mpr ⟨⟨om_X4_pairUp, os_X4_pairUp⟩, fun _ h => absurd h List.not_mem_nil⟩⟩⟩⟩⟩⟩⟩⟩⟩⟩⟩⟩⟩⟩⟩⟩
set_option maxRecDepth 20000 in
theorem oxV_5 : ∀ a ∈ xV_5, ex_okM (xP a) true ∧ Cond.selects (xP a).2.1.cls (xP a).2.1 (xP a).2.1 ∈ ex_tbl := List.forall_mem_cons.mpr ⟨⟨om_X4_pairTaught, os_X4_pairTaught⟩, List.forall_mem_cons.mpr ⟨⟨om_X2_listen, os_X2_listen⟩, List.forall_mem_cons.mpr ⟨⟨om_X2_countWays, os_X2_countWays⟩, List.forall_mem_cons.mpr ⟨⟨om_X2_minor, os_X2_minor⟩, List.forall_mem_cons.mpr ⟨⟨om_X2_firstMouths, os_X2_firstMouths⟩, List.forall_mem_cons.mpr ⟨⟨om_X2_reachesAll, os_X2_reachesAll⟩, List.forall_mem_cons.mpr ⟨⟨om_X2_sourceOf, os_X2_sourceOf⟩, List.forall_mem_cons.mpr ⟨⟨om_X2_settle, os_X2_settle⟩, List.forall_mem_cons.mpr ⟨⟨om_X7_isChild, os_X7_isChild⟩, List.forall_mem_cons.mpr ⟨⟨om_X7_areTwo, os_X7_areTwo⟩, List.forall_mem_cons.mpr ⟨⟨om_X7_add, os_X7_add⟩, List.forall_mem_cons.mpr ⟨⟨om_X7_child, os_X7_child⟩, List.forall_mem_cons.mpr ⟨⟨om_X7_know, os_X7_know⟩, List.forall_mem_cons.mpr ⟨⟨om_X7_need, os_X7_need⟩, List.forall_mem_cons.mpr ⟨⟨om_X7_hears, os_X7_hears⟩, List.forall_mem_cons.mpr ⟨⟨om_X7_knownTo, os_X7_knownTo⟩, fun _ h => absurd h List.not_mem_nil⟩⟩⟩⟩⟩⟩⟩⟩⟩⟩⟩⟩⟩⟩⟩⟩
set_option maxRecDepth 20000 in
theorem oxV_6 : ∀ a ∈ xV_6, ex_okM (xP a) true ∧ Cond.selects (xP a).2.1.cls (xP a).2.1 (xP a).2.1 ∈ ex_tbl := List.forall_mem_cons.mpr ⟨⟨om_X7_told, os_X7_told⟩, List.forall_mem_cons.mpr ⟨⟨om_X7_passes, os_X7_passes⟩, List.forall_mem_cons.mpr ⟨⟨om_X7_count, os_X7_count⟩, List.forall_mem_cons.mpr ⟨⟨om_X7_type, os_X7_type⟩, List.forall_mem_cons.mpr ⟨⟨om_X7_nextByte, os_X7_nextByte⟩, List.forall_mem_cons.mpr ⟨⟨om_X7_readChild, os_X7_readChild⟩, List.forall_mem_cons.mpr ⟨⟨om_X7_readSchool, os_X7_readSchool⟩, List.forall_mem_cons.mpr ⟨⟨om_X7_school, os_X7_school⟩, List.forall_mem_cons.mpr ⟨⟨om_X7_readTeaching, os_X7_readTeaching⟩, List.forall_mem_cons.mpr ⟨⟨om_X7_readPlan, os_X7_readPlan⟩, List.forall_mem_cons.mpr ⟨⟨om_X7_plan, os_X7_plan⟩, List.forall_mem_cons.mpr ⟨⟨om_X7_mayBe, os_X7_mayBe⟩, List.forall_mem_cons.mpr ⟨⟨om_X7_teachNow, os_X7_teachNow⟩, List.forall_mem_cons.mpr ⟨⟨om_X7_may, os_X7_may⟩, List.forall_mem_cons.mpr ⟨⟨om_X7_teach, os_X7_teach⟩, List.forall_mem_cons.mpr ⟨⟨om_X7_run, os_X7_run⟩, fun _ h => absurd h List.not_mem_nil⟩⟩⟩⟩⟩⟩⟩⟩⟩⟩⟩⟩⟩⟩⟩⟩
set_option maxRecDepth 20000 in
theorem oxV_7 : ∀ a ∈ xV_7, ex_okM (xP a) true ∧ Cond.selects (xP a).2.1.cls (xP a).2.1 (xP a).2.1 ∈ ex_tbl := List.forall_mem_cons.mpr ⟨⟨om_X7_mayTeach, os_X7_mayTeach⟩, List.forall_mem_cons.mpr ⟨⟨om_X7_goOn, os_X7_goOn⟩, List.forall_mem_cons.mpr ⟨⟨om_X7_hours, os_X7_hours⟩, List.forall_mem_cons.mpr ⟨⟨om_X7_bound, os_X7_bound⟩, List.forall_mem_cons.mpr ⟨⟨om_X7_goWithout, os_X7_goWithout⟩, List.forall_mem_cons.mpr ⟨⟨om_X7_bringBack, os_X7_bringBack⟩, List.forall_mem_cons.mpr ⟨⟨om_X7_spared, os_X7_spared⟩, List.forall_mem_cons.mpr ⟨⟨om_X7_order, os_X7_order⟩, List.forall_mem_cons.mpr ⟨⟨om_X7_canHave, os_X7_canHave⟩, List.forall_mem_cons.mpr ⟨⟨om_X7_isWay, os_X7_isWay⟩, List.forall_mem_cons.mpr ⟨⟨om_X7_nextRow, os_X7_nextRow⟩, List.forall_mem_cons.mpr ⟨⟨om_X7_findWays, os_X7_findWays⟩, List.forall_mem_cons.mpr ⟨⟨om_X7_mouths, os_X7_mouths⟩, List.forall_mem_cons.mpr ⟨⟨om_X7_from, os_X7_from⟩, List.forall_mem_cons.mpr ⟨⟨om_X7_lesson, os_X7_lesson⟩, List.forall_mem_cons.mpr ⟨⟨om_X7_lessons, os_X7_lessons⟩, fun _ h => absurd h List.not_mem_nil⟩⟩⟩⟩⟩⟩⟩⟩⟩⟩⟩⟩⟩⟩⟩⟩
set_option maxRecDepth 20000 in
theorem oxV_8 : ∀ a ∈ xV_8, ex_okM (xP a) true ∧ Cond.selects (xP a).2.1.cls (xP a).2.1 (xP a).2.1 ∈ ex_tbl := List.forall_mem_cons.mpr ⟨⟨om_X7_seed, os_X7_seed⟩, List.forall_mem_cons.mpr ⟨⟨om_X7_carried, os_X7_carried⟩, List.forall_mem_cons.mpr ⟨⟨om_X7_image, os_X7_image⟩, List.forall_mem_cons.mpr ⟨⟨om_X7_restore, os_X7_restore⟩, List.forall_mem_cons.mpr ⟨⟨om_X7_sheet, os_X7_sheet⟩, List.forall_mem_cons.mpr ⟨⟨om_X7_drop, os_X7_drop⟩, List.forall_mem_cons.mpr ⟨⟨om_X7_lacksRow, os_X7_lacksRow⟩, List.forall_mem_cons.mpr ⟨⟨om_X7_item, os_X7_item⟩, List.forall_mem_cons.mpr ⟨⟨om_X7_hour, os_X7_hour⟩, List.forall_mem_cons.mpr ⟨⟨om_X7_film, os_X7_film⟩, List.forall_mem_cons.mpr ⟨⟨om_X7_copy, os_X7_copy⟩, fun _ h => absurd h List.not_mem_nil⟩⟩⟩⟩⟩⟩⟩⟩⟩⟩⟩
set_option maxRecDepth 20000 in
theorem oxV : ∀ a ∈ xV, ex_okM (xP a) true ∧ Cond.selects (xP a).2.1.cls (xP a).2.1 (xP a).2.1 ∈ ex_tbl := List.forall_mem_append.mpr ⟨oxV_0, List.forall_mem_append.mpr ⟨oxV_1, List.forall_mem_append.mpr ⟨oxV_2, List.forall_mem_append.mpr ⟨oxV_3, List.forall_mem_append.mpr ⟨oxV_4, List.forall_mem_append.mpr ⟨oxV_5, List.forall_mem_append.mpr ⟨oxV_6, List.forall_mem_append.mpr ⟨oxV_7, oxV_8⟩⟩⟩⟩⟩⟩⟩⟩
set_option maxRecDepth 20000 in
theorem oxS_0 : ∀ a ∈ xS_0, ex_okM (xP a) false := List.forall_mem_cons.mpr ⟨om_J6_bitCount_0f7a4, List.forall_mem_cons.mpr ⟨om_J7_fill_53178, List.forall_mem_cons.mpr ⟨om_J7_fill_031fb, List.forall_mem_cons.mpr ⟨om_X6_isThing, List.forall_mem_cons.mpr ⟨om_X6_isSet, List.forall_mem_cons.mpr ⟨om_X6_isSheet, List.forall_mem_cons.mpr ⟨om_X6_isLane, List.forall_mem_cons.mpr ⟨om_X6_has, List.forall_mem_cons.mpr ⟨om_X6_passedOn, List.forall_mem_cons.mpr ⟨om_X6_teaching, List.forall_mem_cons.mpr ⟨om_X6_teacherOf, List.forall_mem_cons.mpr ⟨om_X6_pupilOf, List.forall_mem_cons.mpr ⟨om_X6_thingOf, List.forall_mem_cons.mpr ⟨om_X6_pairOf, List.forall_mem_cons.mpr ⟨om_X1_signOf, List.forall_mem_cons.mpr ⟨om_X1_kindOf, fun _ h => absurd h List.not_mem_nil⟩⟩⟩⟩⟩⟩⟩⟩⟩⟩⟩⟩⟩⟩⟩⟩
set_option maxRecDepth 20000 in
theorem oxS_1 : ∀ a ∈ xS_1, ex_okM (xP a) false := List.forall_mem_cons.mpr ⟨om_X4_squeeze, List.forall_mem_cons.mpr ⟨om_X4_firstOf, List.forall_mem_cons.mpr ⟨om_X7_in, List.forall_mem_cons.mpr ⟨om_X7_has, List.forall_mem_cons.mpr ⟨om_X7_isThing, List.forall_mem_cons.mpr ⟨om_X7_pass, List.forall_mem_cons.mpr ⟨om_X7_ones, List.forall_mem_cons.mpr ⟨om_X7_isSheet, fun _ h => absurd h List.not_mem_nil⟩⟩⟩⟩⟩⟩⟩⟩
set_option maxRecDepth 20000 in
theorem oxS : ∀ a ∈ xS, ex_okM (xP a) false := List.forall_mem_append.mpr ⟨oxS_0, oxS_1⟩
set_option maxRecDepth 20000 in
theorem oxI_0 : ∀ a ∈ xI_0, ex_okM (xP a) true ∧ ((xP a).2.1.name = "<init>" ∧ (xP a).2.2.2.2.1 = none) := List.forall_mem_cons.mpr ⟨⟨om_X5_init, rfl, rfl⟩, List.forall_mem_cons.mpr ⟨⟨om_X0_init, rfl, rfl⟩, List.forall_mem_cons.mpr ⟨⟨om_X6_init, rfl, rfl⟩, List.forall_mem_cons.mpr ⟨⟨om_X3_init, rfl, rfl⟩, List.forall_mem_cons.mpr ⟨⟨om_X1_init, rfl, rfl⟩, List.forall_mem_cons.mpr ⟨⟨om_X4_init, rfl, rfl⟩, List.forall_mem_cons.mpr ⟨⟨om_X2_init, rfl, rfl⟩, List.forall_mem_cons.mpr ⟨⟨om_X7_init, rfl, rfl⟩, fun _ h => absurd h List.not_mem_nil⟩⟩⟩⟩⟩⟩⟩⟩
set_option maxRecDepth 20000 in
theorem oxI : ∀ a ∈ xI, ex_okM (xP a) true ∧ ((xP a).2.1.name = "<init>" ∧ (xP a).2.2.2.2.1 = none) := oxI_0
set_option maxRecDepth 20000 in
theorem oC : ∀ ci, ci < 8 → Cond.instantiable (ex_RC ci) (ex_nF ci) ∈ ex_tbl ∧ Cond.initialized (ex_RC ci) ∈ ex_tbl := by
  intro ci h
  match ci, h with
  | 0, _ => exact ⟨ex_t1 27 rfl rfl, ex_t1 3 rfl rfl⟩
  | 1, _ => exact ⟨ex_t1 110 rfl rfl, ex_t1 4 rfl rfl⟩
  | 2, _ => exact ⟨ex_t1 175 rfl rfl, ex_t1 6 rfl rfl⟩
  | 3, _ => exact ⟨ex_t1 21 rfl rfl, ex_t1 2 rfl rfl⟩
  | 4, _ => exact ⟨ex_t1 141 rfl rfl, ex_t1 5 rfl rfl⟩
  | 5, _ => exact ⟨ex_t1 195 rfl rfl, ex_t1 7 rfl rfl⟩
  | 6, _ => exact ⟨ex_t1 13 rfl rfl, ex_t1 1 rfl rfl⟩
  | 7, _ => exact ⟨ex_t3 207 rfl rfl, ex_t1 8 rfl rfl⟩
  | n + 8, h => exact absurd h (by omega)
set_option maxRecDepth 20000 in
theorem oP : ex_okP xP xV xS xI := ⟨oxV, oxS, oxI, oC⟩
set_option maxRecDepth 20000 in
theorem oU : ∀ ci, ci < 8 → ∀ w ∈ u_ws (ex_RC ci) (ex_TC ci) (ex_nF ci), w ∈ ex_tbl := by
  intro ci h
  match ci, h with
  | 0, _ => exact (List.forall_mem_cons.mpr ⟨ex_t1 42 rfl rfl, List.forall_mem_cons.mpr ⟨ex_t1 44 rfl rfl, List.forall_mem_cons.mpr ⟨ex_t1 46 rfl rfl, List.forall_mem_cons.mpr ⟨ex_t1 48 rfl rfl, fun _ h => absurd h List.not_mem_nil⟩⟩⟩⟩)
  | 1, _ => exact (List.forall_mem_cons.mpr ⟨ex_t1 126 rfl rfl, List.forall_mem_cons.mpr ⟨ex_t1 128 rfl rfl, List.forall_mem_cons.mpr ⟨ex_t1 130 rfl rfl, List.forall_mem_cons.mpr ⟨ex_t1 132 rfl rfl, List.forall_mem_cons.mpr ⟨ex_t1 134 rfl rfl, List.forall_mem_cons.mpr ⟨ex_t1 136 rfl rfl, fun _ h => absurd h List.not_mem_nil⟩⟩⟩⟩⟩⟩)
  | 2, _ => exact (List.forall_mem_cons.mpr ⟨ex_t1 184 rfl rfl, List.forall_mem_cons.mpr ⟨ex_t1 186 rfl rfl, List.forall_mem_cons.mpr ⟨ex_t1 188 rfl rfl, List.forall_mem_cons.mpr ⟨ex_t1 190 rfl rfl, fun _ h => absurd h List.not_mem_nil⟩⟩⟩⟩)
  | 3, _ => exact (List.forall_mem_cons.mpr ⟨ex_t1 82 rfl rfl, List.forall_mem_cons.mpr ⟨ex_t1 84 rfl rfl, List.forall_mem_cons.mpr ⟨ex_t1 86 rfl rfl, List.forall_mem_cons.mpr ⟨ex_t1 88 rfl rfl, List.forall_mem_cons.mpr ⟨ex_t1 90 rfl rfl, List.forall_mem_cons.mpr ⟨ex_t1 92 rfl rfl, List.forall_mem_cons.mpr ⟨ex_t1 94 rfl rfl, List.forall_mem_cons.mpr ⟨ex_t1 96 rfl rfl, List.forall_mem_cons.mpr ⟨ex_t1 98 rfl rfl, List.forall_mem_cons.mpr ⟨ex_t1 100 rfl rfl, List.forall_mem_cons.mpr ⟨ex_t1 102 rfl rfl, List.forall_mem_cons.mpr ⟨ex_t1 104 rfl rfl, List.forall_mem_cons.mpr ⟨ex_t1 106 rfl rfl, fun _ h => absurd h List.not_mem_nil⟩⟩⟩⟩⟩⟩⟩⟩⟩⟩⟩⟩⟩)
  | 4, _ => exact (List.forall_mem_cons.mpr ⟨ex_t1 155 rfl rfl, List.forall_mem_cons.mpr ⟨ex_t1 157 rfl rfl, List.forall_mem_cons.mpr ⟨ex_t1 159 rfl rfl, List.forall_mem_cons.mpr ⟨ex_t1 161 rfl rfl, List.forall_mem_cons.mpr ⟨ex_t1 163 rfl rfl, List.forall_mem_cons.mpr ⟨ex_t1 165 rfl rfl, List.forall_mem_cons.mpr ⟨ex_t1 167 rfl rfl, List.forall_mem_cons.mpr ⟨ex_t1 169 rfl rfl, List.forall_mem_cons.mpr ⟨ex_t1 171 rfl rfl, fun _ h => absurd h List.not_mem_nil⟩⟩⟩⟩⟩⟩⟩⟩⟩)
  | 5, _ => exact (List.forall_mem_cons.mpr ⟨ex_t1 206 rfl rfl, List.forall_mem_cons.mpr ⟨ex_t1 208 rfl rfl, List.forall_mem_cons.mpr ⟨ex_t1 210 rfl rfl, fun _ h => absurd h List.not_mem_nil⟩⟩⟩)
  | 6, _ => exact (List.forall_mem_cons.mpr ⟨ex_t1 220 rfl rfl, List.forall_mem_cons.mpr ⟨ex_t1 222 rfl rfl, List.forall_mem_cons.mpr ⟨ex_t1 224 rfl rfl, List.forall_mem_cons.mpr ⟨ex_t1 226 rfl rfl, List.forall_mem_cons.mpr ⟨ex_t1 228 rfl rfl, List.forall_mem_cons.mpr ⟨ex_t1 230 rfl rfl, List.forall_mem_cons.mpr ⟨ex_t1 232 rfl rfl, fun _ h => absurd h List.not_mem_nil⟩⟩⟩⟩⟩⟩⟩)
  | 7, _ => exact (List.forall_mem_cons.mpr ⟨ex_t4 6 rfl rfl, List.forall_mem_cons.mpr ⟨ex_t4 8 rfl rfl, List.forall_mem_cons.mpr ⟨ex_t4 10 rfl rfl, List.forall_mem_cons.mpr ⟨ex_t4 12 rfl rfl, List.forall_mem_cons.mpr ⟨ex_t4 14 rfl rfl, List.forall_mem_cons.mpr ⟨ex_t4 16 rfl rfl, List.forall_mem_cons.mpr ⟨ex_t4 18 rfl rfl, List.forall_mem_cons.mpr ⟨ex_t4 20 rfl rfl, List.forall_mem_cons.mpr ⟨ex_t4 22 rfl rfl, List.forall_mem_cons.mpr ⟨ex_t4 24 rfl rfl, List.forall_mem_cons.mpr ⟨ex_t4 26 rfl rfl, List.forall_mem_cons.mpr ⟨ex_t4 28 rfl rfl, List.forall_mem_cons.mpr ⟨ex_t4 30 rfl rfl, List.forall_mem_cons.mpr ⟨ex_t4 32 rfl rfl, List.forall_mem_cons.mpr ⟨ex_t4 34 rfl rfl, List.forall_mem_cons.mpr ⟨ex_t4 36 rfl rfl, List.forall_mem_cons.mpr ⟨ex_t4 38 rfl rfl, List.forall_mem_cons.mpr ⟨ex_t4 40 rfl rfl, List.forall_mem_cons.mpr ⟨ex_t4 42 rfl rfl, List.forall_mem_cons.mpr ⟨ex_t4 44 rfl rfl, List.forall_mem_cons.mpr ⟨ex_t4 46 rfl rfl, List.forall_mem_cons.mpr ⟨ex_t4 48 rfl rfl, List.forall_mem_cons.mpr ⟨ex_t4 50 rfl rfl, List.forall_mem_cons.mpr ⟨ex_t4 52 rfl rfl, List.forall_mem_cons.mpr ⟨ex_t4 54 rfl rfl, List.forall_mem_cons.mpr ⟨ex_t4 56 rfl rfl, List.forall_mem_cons.mpr ⟨ex_t4 58 rfl rfl, List.forall_mem_cons.mpr ⟨ex_t4 60 rfl rfl, List.forall_mem_cons.mpr ⟨ex_t4 62 rfl rfl, List.forall_mem_cons.mpr ⟨ex_t4 64 rfl rfl, List.forall_mem_cons.mpr ⟨ex_t4 66 rfl rfl, List.forall_mem_cons.mpr ⟨ex_t4 68 rfl rfl, List.forall_mem_cons.mpr ⟨ex_t4 70 rfl rfl, List.forall_mem_cons.mpr ⟨ex_t4 72 rfl rfl, fun _ h => absurd h List.not_mem_nil⟩⟩⟩⟩⟩⟩⟩⟩⟩⟩⟩⟩⟩⟩⟩⟩⟩⟩⟩⟩⟩⟩⟩⟩⟩⟩⟩⟩⟩⟩⟩⟩⟩⟩)
  | n + 8, h => exact absurd h (by omega)
set_option maxRecDepth 20000 in
theorem oG : ex_gw := ⟨oU, ⟨ex_t1 51 rfl rfl, ex_t1 139 rfl rfl, ex_t1 52 rfl rfl⟩, ⟨ex_t3 0 rfl rfl, ex_t2 239 rfl rfl, ex_t1 11 rfl rfl⟩, ex_t1 18 rfl rfl, ex_t1 19 rfl rfl⟩
set_option maxRecDepth 20000 in
theorem oN : ex_nwk xN := by
  intro w hw
  simp only [xN, List.mem_cons, List.not_mem_nil, or_false] at hw
  rcases hw with rfl | rfl | rfl | rfl | rfl | rfl | rfl | rfl | rfl | rfl | rfl | rfl | rfl | rfl | rfl | rfl | rfl | rfl | rfl | rfl | rfl <;> exact ⟨_, _, _, _, rfl⟩

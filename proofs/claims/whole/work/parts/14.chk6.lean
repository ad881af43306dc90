set_option maxRecDepth 20000 in
theorem ok_L_law_10 : q_L_law_10.all (ex_okB xP xN xV xS xI m_L_law) = true := by decide +kernel
set_option maxRecDepth 20000 in
theorem ok_L_law_11 : q_L_law_11.all (ex_okB xP xN xV xS xI m_L_law) = true := by decide +kernel
set_option maxRecDepth 20000 in
theorem ok_L_law_12 : q_L_law_12.all (ex_okB xP xN xV xS xI m_L_law) = true := by decide +kernel
set_option maxRecDepth 20000 in
theorem ok_L_law_13 : q_L_law_13.all (ex_okB xP xN xV xS xI m_L_law) = true := by decide +kernel
set_option maxRecDepth 20000 in
theorem ok_L_law_14 : q_L_law_14.all (ex_okB xP xN xV xS xI m_L_law) = true := by decide +kernel
set_option maxRecDepth 20000 in
theorem ok_L_law_15 : q_L_law_15.all (ex_okB xP xN xV xS xI m_L_law) = true := by decide +kernel
set_option maxRecDepth 20000 in
theorem ok_L_law_16 : q_L_law_16.all (ex_okB xP xN xV xS xI m_L_law) = true := by decide +kernel
set_option maxRecDepth 20000 in
theorem ok_L_law_17 : q_L_law_17.all (ex_okB xP xN xV xS xI m_L_law) = true := by decide +kernel
set_option maxRecDepth 20000 in
theorem ok_L_law_18 : q_L_law_18.all (ex_okB xP xN xV xS xI m_L_law) = true := by decide +kernel
set_option maxRecDepth 20000 in
theorem ok_L_law_19 : q_L_law_19.all (ex_okB xP xN xV xS xI m_L_law) = true := by decide +kernel
theorem ok_L_law : q_L_law.all (ex_okB xP xN xV xS xI m_L_law) = true := (List.all_append.trans (Bool.and_eq_true_iff.mpr ⟨ok_L_law_0, (List.all_append.trans (Bool.and_eq_true_iff.mpr ⟨ok_L_law_1, (List.all_append.trans (Bool.and_eq_true_iff.mpr ⟨ok_L_law_2, (List.all_append.trans (Bool.and_eq_true_iff.mpr ⟨ok_L_law_3, (List.all_append.trans (Bool.and_eq_true_iff.mpr ⟨ok_L_law_4, (List.all_append.trans (Bool.and_eq_true_iff.mpr ⟨ok_L_law_5, (List.all_append.trans (Bool.and_eq_true_iff.mpr ⟨ok_L_law_6, (List.all_append.trans (Bool.and_eq_true_iff.mpr ⟨ok_L_law_7, (List.all_append.trans (Bool.and_eq_true_iff.mpr ⟨ok_L_law_8, (List.all_append.trans (Bool.and_eq_true_iff.mpr ⟨ok_L_law_9, (List.all_append.trans (Bool.and_eq_true_iff.mpr ⟨ok_L_law_10, (List.all_append.trans (Bool.and_eq_true_iff.mpr ⟨ok_L_law_11, (List.all_append.trans (Bool.and_eq_true_iff.mpr ⟨ok_L_law_12, (List.all_append.trans (Bool.and_eq_true_iff.mpr ⟨ok_L_law_13, (List.all_append.trans (Bool.and_eq_true_iff.mpr ⟨ok_L_law_14, (List.all_append.trans (Bool.and_eq_true_iff.mpr ⟨ok_L_law_15, (List.all_append.trans (Bool.and_eq_true_iff.mpr ⟨ok_L_law_16, (List.all_append.trans (Bool.and_eq_true_iff.mpr ⟨ok_L_law_17, (List.all_append.trans (Bool.and_eq_true_iff.mpr ⟨ok_L_law_18, ok_L_law_19⟩))⟩))⟩))⟩))⟩))⟩))⟩))⟩))⟩))⟩))⟩))⟩))⟩))⟩))⟩))⟩))⟩))⟩))⟩))

theorem go_rb {d k pc : Nat} {L : ex_L} {h : ex_H} {Q : Option Value → ex_H → Prop} {e : Nat × Nat × Int} {b : Bool} (hc : cd k pc = some (.ireturn, e)) (hr : (xP k).2.2.2.2.1 = some .boolean) : Go d k pc L [.int (bI b)] h Q = Q (some (.int (bI b))) h := go_rz hc hr (by cases b <;> decide)
section SB
variable {d : Nat} {L : ex_L} {st : List Value} {h : ex_H} {Q : Option Value → ex_H → Prop} {lx : Nat} {xs : Nat → Int32} {M : Nat → Nat → Int32} {x y : Int32} {u w : Int64} {r r2 : Nat} {o0 o1 o2 o3 o4 o5 o6 o7 o8 o9 o10 o11 : Option Value}
set_option maxRecDepth 30000 in
theorem sb_1_12 {b : Bool} : Go d 1 12 L [.int (bI b)] h Q = Q (some (.int (bI b))) h := go_rb rfl rfl
set_option maxRecDepth 30000 in
theorem sb_2_31 {b : Bool} : Go d 2 31 L [.int (bI b)] h Q = Q (some (.int (bI b))) h := go_rb rfl rfl
set_option maxRecDepth 30000 in
theorem sb_9_14 {b : Bool} : Go d 9 14 L [.int (bI b)] h Q = Q (some (.int (bI b))) h := go_rb rfl rfl
set_option maxRecDepth 30000 in
theorem sb_45_14 {b : Bool} : Go d 45 14 L [.int (bI b)] h Q = Q (some (.int (bI b))) h := go_rb rfl rfl
set_option maxRecDepth 30000 in
theorem sb_46_15 {b : Bool} : Go d 46 15 L [.int (bI b)] h Q = Q (some (.int (bI b))) h := go_rb rfl rfl
set_option maxRecDepth 30000 in
theorem sb_47_14 {b : Bool} : Go d 47 14 L [.int (bI b)] h Q = Q (some (.int (bI b))) h := go_rb rfl rfl
set_option maxRecDepth 30000 in
theorem sb_48_14 {b : Bool} : Go d 48 14 L [.int (bI b)] h Q = Q (some (.int (bI b))) h := go_rb rfl rfl
set_option maxRecDepth 30000 in
theorem sb_49_13 {b : Bool} : Go d 49 13 L [.int (bI b)] h Q = Q (some (.int (bI b))) h := go_rb rfl rfl
set_option maxRecDepth 30000 in
theorem sb_57_17 {b : Bool} : Go d 57 17 L [.int (bI b)] h Q = Q (some (.int (bI b))) h := go_rb rfl rfl
set_option maxRecDepth 30000 in
theorem sb_58_33 {b : Bool} : Go d 58 33 L [.int (bI b)] h Q = Q (some (.int (bI b))) h := go_rb rfl rfl
set_option maxRecDepth 30000 in
theorem sb_67_76 {b : Bool} : Go d 67 76 L [.int (bI b)] h Q = Q (some (.int (bI b))) h := go_rb rfl rfl
set_option maxRecDepth 30000 in
theorem sb_72_34 {b : Bool} : Go d 72 34 L [.int (bI b)] h Q = Q (some (.int (bI b))) h := go_rb rfl rfl
set_option maxRecDepth 30000 in
theorem sb_72_42 {b : Bool} : Go d 72 42 L [.int (bI b)] h Q = Q (some (.int (bI b))) h := go_rb rfl rfl
set_option maxRecDepth 30000 in
theorem sb_74_10 {b : Bool} : Go d 74 10 L [.int (bI b)] h Q = Q (some (.int (bI b))) h := go_rb rfl rfl
set_option maxRecDepth 30000 in
theorem sb_74_48 {b : Bool} : Go d 74 48 L [.int (bI b)] h Q = Q (some (.int (bI b))) h := go_rb rfl rfl
set_option maxRecDepth 30000 in
theorem sb_76_44 {b : Bool} : Go d 76 44 L [.int (bI b)] h Q = Q (some (.int (bI b))) h := go_rb rfl rfl
set_option maxRecDepth 30000 in
theorem sb_76_91 {b : Bool} : Go d 76 91 L [.int (bI b)] h Q = Q (some (.int (bI b))) h := go_rb rfl rfl
set_option maxRecDepth 30000 in
theorem sb_76_144 {b : Bool} : Go d 76 144 L [.int (bI b)] h Q = Q (some (.int (bI b))) h := go_rb rfl rfl
set_option maxRecDepth 30000 in
theorem sb_85_9 {b : Bool} : Go d 85 9 L [.int (bI b)] h Q = Q (some (.int (bI b))) h := go_rb rfl rfl
set_option maxRecDepth 30000 in
theorem sb_85_15 {b : Bool} : Go d 85 15 L [.int (bI b)] h Q = Q (some (.int (bI b))) h := go_rb rfl rfl
set_option maxRecDepth 30000 in
theorem sb_100_9 {b : Bool} : Go d 100 9 L [.int (bI b)] h Q = Q (some (.int (bI b))) h := go_rb rfl rfl
set_option maxRecDepth 30000 in
theorem sb_100_37 {b : Bool} : Go d 100 37 L [.int (bI b)] h Q = Q (some (.int (bI b))) h := go_rb rfl rfl
set_option maxRecDepth 30000 in
theorem sb_100_63 {b : Bool} : Go d 100 63 L [.int (bI b)] h Q = Q (some (.int (bI b))) h := go_rb rfl rfl
set_option maxRecDepth 30000 in
theorem sb_100_73 {b : Bool} : Go d 100 73 L [.int (bI b)] h Q = Q (some (.int (bI b))) h := go_rb rfl rfl
set_option maxRecDepth 30000 in
theorem sb_102_31 {b : Bool} : Go d 102 31 L [.int (bI b)] h Q = Q (some (.int (bI b))) h := go_rb rfl rfl
set_option maxRecDepth 30000 in
theorem sb_102_45 {b : Bool} : Go d 102 45 L [.int (bI b)] h Q = Q (some (.int (bI b))) h := go_rb rfl rfl
set_option maxRecDepth 30000 in
theorem sb_102_153 {b : Bool} : Go d 102 153 L [.int (bI b)] h Q = Q (some (.int (bI b))) h := go_rb rfl rfl
set_option maxRecDepth 30000 in
theorem sb_102_196 {b : Bool} : Go d 102 196 L [.int (bI b)] h Q = Q (some (.int (bI b))) h := go_rb rfl rfl
set_option maxRecDepth 30000 in
theorem sb_102_219 {b : Bool} : Go d 102 219 L [.int (bI b)] h Q = Q (some (.int (bI b))) h := go_rb rfl rfl
set_option maxRecDepth 30000 in
theorem sb_102_241 {b : Bool} : Go d 102 241 L [.int (bI b)] h Q = Q (some (.int (bI b))) h := go_rb rfl rfl
set_option maxRecDepth 30000 in
theorem sb_103_38 {b : Bool} : Go d 103 38 L [.int (bI b)] h Q = Q (some (.int (bI b))) h := go_rb rfl rfl
set_option maxRecDepth 30000 in
theorem sb_103_46 {b : Bool} : Go d 103 46 L [.int (bI b)] h Q = Q (some (.int (bI b))) h := go_rb rfl rfl
set_option maxRecDepth 30000 in
theorem sb_110_66 {b : Bool} : Go d 110 66 L [.int (bI b)] h Q = Q (some (.int (bI b))) h := go_rb rfl rfl
set_option maxRecDepth 30000 in
theorem sb_114_18 {b : Bool} : Go d 114 18 L [.int (bI b)] h Q = Q (some (.int (bI b))) h := go_rb rfl rfl
set_option maxRecDepth 30000 in
theorem sb_115_14 {b : Bool} : Go d 115 14 L [.int (bI b)] h Q = Q (some (.int (bI b))) h := go_rb rfl rfl
set_option maxRecDepth 30000 in
theorem sb_116_13 {b : Bool} : Go d 116 13 L [.int (bI b)] h Q = Q (some (.int (bI b))) h := go_rb rfl rfl
set_option maxRecDepth 30000 in
theorem sb_117_9 {b : Bool} : Go d 117 9 L [.int (bI b)] h Q = Q (some (.int (bI b))) h := go_rb rfl rfl
set_option maxRecDepth 30000 in
theorem sb_118_26 {b : Bool} : Go d 118 26 L [.int (bI b)] h Q = Q (some (.int (bI b))) h := go_rb rfl rfl
set_option maxRecDepth 30000 in
theorem sb_131_52 {b : Bool} : Go d 131 52 L [.int (bI b)] h Q = Q (some (.int (bI b))) h := go_rb rfl rfl
set_option maxRecDepth 30000 in
theorem sb_131_103 {b : Bool} : Go d 131 103 L [.int (bI b)] h Q = Q (some (.int (bI b))) h := go_rb rfl rfl
set_option maxRecDepth 30000 in
theorem sb_131_148 {b : Bool} : Go d 131 148 L [.int (bI b)] h Q = Q (some (.int (bI b))) h := go_rb rfl rfl
set_option maxRecDepth 30000 in
theorem sb_132_22 {b : Bool} : Go d 132 22 L [.int (bI b)] h Q = Q (some (.int (bI b))) h := go_rb rfl rfl
set_option maxRecDepth 30000 in
theorem sb_132_40 {b : Bool} : Go d 132 40 L [.int (bI b)] h Q = Q (some (.int (bI b))) h := go_rb rfl rfl
set_option maxRecDepth 30000 in
theorem sb_132_53 {b : Bool} : Go d 132 53 L [.int (bI b)] h Q = Q (some (.int (bI b))) h := go_rb rfl rfl
set_option maxRecDepth 30000 in
theorem sb_132_71 {b : Bool} : Go d 132 71 L [.int (bI b)] h Q = Q (some (.int (bI b))) h := go_rb rfl rfl
set_option maxRecDepth 30000 in
theorem sb_134_17 {b : Bool} : Go d 134 17 L [.int (bI b)] h Q = Q (some (.int (bI b))) h := go_rb rfl rfl
set_option maxRecDepth 30000 in
theorem sb_134_38 {b : Bool} : Go d 134 38 L [.int (bI b)] h Q = Q (some (.int (bI b))) h := go_rb rfl rfl
set_option maxRecDepth 30000 in
theorem sb_134_71 {b : Bool} : Go d 134 71 L [.int (bI b)] h Q = Q (some (.int (bI b))) h := go_rb rfl rfl
set_option maxRecDepth 30000 in
theorem sb_134_100 {b : Bool} : Go d 134 100 L [.int (bI b)] h Q = Q (some (.int (bI b))) h := go_rb rfl rfl
set_option maxRecDepth 30000 in
theorem sb_134_138 {b : Bool} : Go d 134 138 L [.int (bI b)] h Q = Q (some (.int (bI b))) h := go_rb rfl rfl
set_option maxRecDepth 30000 in
theorem sb_135_26 {b : Bool} : Go d 135 26 L [.int (bI b)] h Q = Q (some (.int (bI b))) h := go_rb rfl rfl
set_option maxRecDepth 30000 in
theorem sb_135_55 {b : Bool} : Go d 135 55 L [.int (bI b)] h Q = Q (some (.int (bI b))) h := go_rb rfl rfl
set_option maxRecDepth 30000 in
theorem sb_135_75 {b : Bool} : Go d 135 75 L [.int (bI b)] h Q = Q (some (.int (bI b))) h := go_rb rfl rfl
set_option maxRecDepth 30000 in
theorem sb_135_107 {b : Bool} : Go d 135 107 L [.int (bI b)] h Q = Q (some (.int (bI b))) h := go_rb rfl rfl
set_option maxRecDepth 30000 in
theorem sb_137_65 {b : Bool} : Go d 137 65 L [.int (bI b)] h Q = Q (some (.int (bI b))) h := go_rb rfl rfl
set_option maxRecDepth 30000 in
theorem sb_143_55 {b : Bool} : Go d 143 55 L [.int (bI b)] h Q = Q (some (.int (bI b))) h := go_rb rfl rfl
set_option maxRecDepth 30000 in
theorem sb_143_136 {b : Bool} : Go d 143 136 L [.int (bI b)] h Q = Q (some (.int (bI b))) h := go_rb rfl rfl
set_option maxRecDepth 30000 in
theorem sb_151_55 {b : Bool} : Go d 151 55 L [.int (bI b)] h Q = Q (some (.int (bI b))) h := go_rb rfl rfl
set_option maxRecDepth 30000 in
theorem sb_152_191 {b : Bool} : Go d 152 191 L [.int (bI b)] h Q = Q (some (.int (bI b))) h := go_rb rfl rfl
set_option maxRecDepth 30000 in
theorem sb_153_35 {b : Bool} : Go d 153 35 L [.int (bI b)] h Q = Q (some (.int (bI b))) h := go_rb rfl rfl
set_option maxRecDepth 30000 in
theorem sb_153_50 {b : Bool} : Go d 153 50 L [.int (bI b)] h Q = Q (some (.int (bI b))) h := go_rb rfl rfl
set_option maxRecDepth 30000 in
theorem sb_163_29 {b : Bool} : Go d 163 29 L [.int (bI b)] h Q = Q (some (.int (bI b))) h := go_rb rfl rfl
end SB

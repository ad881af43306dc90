section SL
variable {d : Nat} {L : ex_L} {st : List Value} {h : ex_H} {Q : Option Value → ex_H → Prop} {lx : Nat} {xs : Nat → Int32} {M : Nat → Nat → Int32} {x y : Int32} {u w : Int64} {r r2 : Nat} {o0 o1 o2 o3 o4 o5 o6 o7 o8 o9 o10 o11 : Option Value}
theorem s_171_18 : Go d 171 18 [o0, o1, o2, some (.int x)] (st) h Q = Go d 171 19 [o0, o1, o2, some (.int x)] (.int x :: st) h Q := go_lo (E := (.iload_n 3, 0, 0, 0)) rfl rfl rfl
theorem s_171_19 : Go d 171 19 [some (.ref r), o1, o2, o3] (st) h Q = Go d 171 20 [some (.ref r), o1, o2, o3] (.ref r :: st) h Q := go_lo (E := (.aload_n 0, 0, 0, 0)) rfl rfl rfl
theorem s_171_20 : Go d 171 20 L (.ref 0 :: st) (HP lx xs M) Q = Go d 171 21 L (.int (nI lx) :: st) (HP lx xs M) Q := go_len rfl rfl
theorem s_171_21 : Go d 171 21 L (st) h Q = Go d 171 23 L (.int (nI 6) :: st) h Q := go_bi rfl ci_b6
theorem s_171_23 : Go d 171 23 L (.int y :: .int x :: st) h Q = Go d 171 24 L (.int (x - y) :: st) h Q := go_op (E := (.isub, 0, 0, 0)) rfl rfl
theorem s_171_24 : Go d 171 24 L (.int y :: .int x :: st) h Q = (if y < x then Go d 171 1123 L st h Q else Go d 171 27 L st h Q) := go_icgt rfl
theorem s_171_27 : Go d 171 27 [some (.ref r), o1, o2, o3] (st) h Q = Go d 171 28 [some (.ref r), o1, o2, o3] (.ref r :: st) h Q := go_lo (E := (.aload_n 0, 0, 0, 0)) rfl rfl rfl
theorem s_171_28 : Go d 171 28 [o0, o1, o2, some (.int x)] (st) h Q = Go d 171 29 [o0, o1, o2, some (.int x)] (.int x :: st) h Q := go_lo (E := (.iload_n 3, 0, 0, 0)) rfl rfl rfl
theorem s_171_29 : Go d 171 29 L (.int x :: .ref 0 :: st) (HP lx xs M) Q = (ex_in x lx = true ∧ Go d 171 30 L (.int (xs x.toNatClampNeg) :: st) (HP lx xs M) Q) := go_al rfl rfl
theorem s_171_30 : Go d 171 30 L (st) h Q = Go d 171 32 L (.int (nI 31) :: st) h Q := go_bi rfl ci_b31
theorem s_171_32 : Go d 171 32 L (.int y :: .int x :: st) h Q = Go d 171 33 L (.int (x &&& y) :: st) h Q := go_op (E := (.iand, 0, 0, 0)) rfl rfl
theorem s_171_33_0 : Go d 171 33 L (.int (nI 0) :: st) h Q = Go d 171 164 L (st) h Q := go_ts (i := 0) (off := 131) rfl (by decide +kernel) (by decide +kernel) rfl (by decide +kernel)
theorem s_171_33_1 : Go d 171 33 L (.int (nI 1) :: st) h Q = Go d 171 187 L (st) h Q := go_ts (i := 1) (off := 154) rfl (by decide +kernel) (by decide +kernel) rfl (by decide +kernel)
theorem s_171_33_2 : Go d 171 33 L (.int (nI 2) :: st) h Q = Go d 171 230 L (st) h Q := go_ts (i := 2) (off := 197) rfl (by decide +kernel) (by decide +kernel) rfl (by decide +kernel)
theorem s_171_33_3 : Go d 171 33 L (.int (nI 3) :: st) h Q = Go d 171 263 L (st) h Q := go_ts (i := 3) (off := 230) rfl (by decide +kernel) (by decide +kernel) rfl (by decide +kernel)
theorem s_171_33_4 : Go d 171 33 L (.int (nI 4) :: st) h Q = Go d 171 322 L (st) h Q := go_ts (i := 4) (off := 289) rfl (by decide +kernel) (by decide +kernel) rfl (by decide +kernel)
theorem s_171_33_5 : Go d 171 33 L (.int (nI 5) :: st) h Q = Go d 171 355 L (st) h Q := go_ts (i := 5) (off := 322) rfl (by decide +kernel) (by decide +kernel) rfl (by decide +kernel)
theorem s_171_33_6 : Go d 171 33 L (.int (nI 6) :: st) h Q = Go d 171 388 L (st) h Q := go_ts (i := 6) (off := 355) rfl (by decide +kernel) (by decide +kernel) rfl (by decide +kernel)
theorem s_171_33_7 : Go d 171 33 L (.int (nI 7) :: st) h Q = Go d 171 451 L (st) h Q := go_ts (i := 7) (off := 418) rfl (by decide +kernel) (by decide +kernel) rfl (by decide +kernel)
theorem s_171_33_8 : Go d 171 33 L (.int (nI 8) :: st) h Q = Go d 171 464 L (st) h Q := go_ts (i := 8) (off := 431) rfl (by decide +kernel) (by decide +kernel) rfl (by decide +kernel)
theorem s_171_33_9 : Go d 171 33 L (.int (nI 9) :: st) h Q = Go d 171 477 L (st) h Q := go_ts (i := 9) (off := 444) rfl (by decide +kernel) (by decide +kernel) rfl (by decide +kernel)
theorem s_171_33_10 : Go d 171 33 L (.int (nI 10) :: st) h Q = Go d 171 500 L (st) h Q := go_ts (i := 10) (off := 467) rfl (by decide +kernel) (by decide +kernel) rfl (by decide +kernel)
theorem s_171_33_11 : Go d 171 33 L (.int (nI 11) :: st) h Q = Go d 171 543 L (st) h Q := go_ts (i := 11) (off := 510) rfl (by decide +kernel) (by decide +kernel) rfl (by decide +kernel)
theorem s_171_33_12 : Go d 171 33 L (.int (nI 12) :: st) h Q = Go d 171 586 L (st) h Q := go_ts (i := 12) (off := 553) rfl (by decide +kernel) (by decide +kernel) rfl (by decide +kernel)
theorem s_171_33_13 : Go d 171 33 L (.int (nI 13) :: st) h Q = Go d 171 599 L (st) h Q := go_ts (i := 13) (off := 566) rfl (by decide +kernel) (by decide +kernel) rfl (by decide +kernel)
theorem s_171_33_14 : Go d 171 33 L (.int (nI 14) :: st) h Q = Go d 171 622 L (st) h Q := go_ts (i := 14) (off := 589) rfl (by decide +kernel) (by decide +kernel) rfl (by decide +kernel)
theorem s_171_33_15 : Go d 171 33 L (.int (nI 15) :: st) h Q = Go d 171 645 L (st) h Q := go_ts (i := 15) (off := 612) rfl (by decide +kernel) (by decide +kernel) rfl (by decide +kernel)
theorem s_171_33_16 : Go d 171 33 L (.int (nI 16) :: st) h Q = Go d 171 658 L (st) h Q := go_ts (i := 16) (off := 625) rfl (by decide +kernel) (by decide +kernel) rfl (by decide +kernel)
theorem s_171_33_17 : Go d 171 33 L (.int (nI 17) :: st) h Q = Go d 171 691 L (st) h Q := go_ts (i := 17) (off := 658) rfl (by decide +kernel) (by decide +kernel) rfl (by decide +kernel)
theorem s_171_33_18 : Go d 171 33 L (.int (nI 18) :: st) h Q = Go d 171 724 L (st) h Q := go_ts (i := 18) (off := 691) rfl (by decide +kernel) (by decide +kernel) rfl (by decide +kernel)
theorem s_171_33_19 : Go d 171 33 L (.int (nI 19) :: st) h Q = Go d 171 757 L (st) h Q := go_ts (i := 19) (off := 724) rfl (by decide +kernel) (by decide +kernel) rfl (by decide +kernel)
theorem s_171_33_20 : Go d 171 33 L (.int (nI 20) :: st) h Q = Go d 171 780 L (st) h Q := go_ts (i := 20) (off := 747) rfl (by decide +kernel) (by decide +kernel) rfl (by decide +kernel)
theorem s_171_33_21 : Go d 171 33 L (.int (nI 21) :: st) h Q = Go d 171 803 L (st) h Q := go_ts (i := 21) (off := 770) rfl (by decide +kernel) (by decide +kernel) rfl (by decide +kernel)
theorem s_171_33_22 : Go d 171 33 L (.int (nI 22) :: st) h Q = Go d 171 816 L (st) h Q := go_ts (i := 22) (off := 783) rfl (by decide +kernel) (by decide +kernel) rfl (by decide +kernel)
theorem s_171_33_23 : Go d 171 33 L (.int (nI 23) :: st) h Q = Go d 171 829 L (st) h Q := go_ts (i := 23) (off := 796) rfl (by decide +kernel) (by decide +kernel) rfl (by decide +kernel)
theorem s_171_33_24 : Go d 171 33 L (.int (nI 24) :: st) h Q = Go d 171 882 L (st) h Q := go_ts (i := 24) (off := 849) rfl (by decide +kernel) (by decide +kernel) rfl (by decide +kernel)
theorem s_171_33_25 : Go d 171 33 L (.int (nI 25) :: st) h Q = Go d 171 935 L (st) h Q := go_ts (i := 25) (off := 902) rfl (by decide +kernel) (by decide +kernel) rfl (by decide +kernel)
theorem s_171_33_26 : Go d 171 33 L (.int (nI 26) :: st) h Q = Go d 171 978 L (st) h Q := go_ts (i := 26) (off := 945) rfl (by decide +kernel) (by decide +kernel) rfl (by decide +kernel)
theorem s_171_33_27 : Go d 171 33 L (.int (nI 27) :: st) h Q = Go d 171 1001 L (st) h Q := go_ts (i := 27) (off := 968) rfl (by decide +kernel) (by decide +kernel) rfl (by decide +kernel)
theorem s_171_33_28 : Go d 171 33 L (.int (nI 28) :: st) h Q = Go d 171 1054 L (st) h Q := go_ts (i := 28) (off := 1021) rfl (by decide +kernel) (by decide +kernel) rfl (by decide +kernel)
theorem s_171_33_29 : Go d 171 33 L (.int (nI 29) :: st) h Q = Go d 171 1117 L (st) h Q := go_td rfl (by decide +kernel) (by decide +kernel)
theorem s_171_33_30 : Go d 171 33 L (.int (nI 30) :: st) h Q = Go d 171 1117 L (st) h Q := go_td rfl (by decide +kernel) (by decide +kernel)
theorem s_171_33_31 : Go d 171 33 L (.int (nI 31) :: st) h Q = Go d 171 1117 L (st) h Q := go_td rfl (by decide +kernel) (by decide +kernel)
theorem s_171_33_32 : Go d 171 33 L (.int (nI 32) :: st) h Q = Go d 171 1117 L (st) h Q := go_td rfl (by decide +kernel) (by decide +kernel)
theorem s_171_33_33 : Go d 171 33 L (.int (nI 33) :: st) h Q = Go d 171 1117 L (st) h Q := go_td rfl (by decide +kernel) (by decide +kernel)
theorem s_171_33_34 : Go d 171 33 L (.int (nI 34) :: st) h Q = Go d 171 1117 L (st) h Q := go_td rfl (by decide +kernel) (by decide +kernel)
theorem sd_171_33 (hx : x.toInt < 0 ∨ 28 < x.toInt) : Go d 171 33 L (.int x :: st) h Q = Go d 171 1117 L st h Q := go_td rfl hx (by decide +kernel)
theorem s_171_164 : Go d 171 164 [o0, some (.ref r), o2, o3] (st) h Q = Go d 171 165 [o0, some (.ref r), o2, o3] (.ref r :: st) h Q := go_lo (E := (.aload_n 1, 0, 0, 0)) rfl rfl rfl
theorem s_171_165 : Go d 171 165 [some (.ref r), o1, o2, o3] (st) h Q = Go d 171 166 [some (.ref r), o1, o2, o3] (.ref r :: st) h Q := go_lo (E := (.aload_n 0, 0, 0, 0)) rfl rfl rfl
theorem s_171_166 : Go d 171 166 [o0, o1, o2, some (.int x)] (st) h Q = Go d 171 167 [o0, o1, o2, some (.int x)] (.int x :: st) h Q := go_lo (E := (.iload_n 3, 0, 0, 0)) rfl rfl rfl
theorem s_171_167 : Go d 171 167 L (st) h Q = Go d 171 168 L (.int (nI 1) :: st) h Q := go_ic rfl ci_i1
theorem s_171_168 : Go d 171 168 L (.int y :: .int x :: st) h Q = Go d 171 169 L (.int (x + y) :: st) h Q := go_op (E := (.iadd, 0, 0, 0)) rfl rfl
theorem s_171_169 : Go d 171 169 L (.int x :: .ref 0 :: st) (HP lx xs M) Q = (ex_in x lx = true ∧ Go d 171 170 L (.int (xs x.toNatClampNeg) :: st) (HP lx xs M) Q) := go_al rfl rfl
theorem s_171_170 {a1 : Int32} : Go (d + 1) 171 170 L [.int a1, .ref 1] (HP lx xs M) Q = Go d 16 0 [some (.ref 1), some (.int a1)] [] (HP lx xs M) (fun v h2 => Go (d + 1) 171 173 L (ap v []) h2 Q) := go_cx (E := (.invokevirtual 13, 16, 0, 6)) (k' := 16) (as := [.ref 1, .int a1]) rfl rfl rfl rfl rfl rfl rfl rfl
theorem s_171_173 : Go d 171 173 [o0, o1, some (.ref r), o3] (st) h Q = Go d 171 174 [o0, o1, some (.ref r), o3] (.ref r :: st) h Q := go_lo (E := (.aload_n 2, 0, 0, 0)) rfl rfl rfl
theorem s_171_174 : Go d 171 174 [some (.ref r), o1, o2, o3] (st) h Q = Go d 171 175 [some (.ref r), o1, o2, o3] (.ref r :: st) h Q := go_lo (E := (.aload_n 0, 0, 0, 0)) rfl rfl rfl
theorem s_171_175 : Go d 171 175 [o0, o1, o2, some (.int x)] (st) h Q = Go d 171 176 [o0, o1, o2, some (.int x)] (.int x :: st) h Q := go_lo (E := (.iload_n 3, 0, 0, 0)) rfl rfl rfl
theorem s_171_176 : Go d 171 176 L (st) h Q = Go d 171 177 L (.int (nI 1) :: st) h Q := go_ic rfl ci_i1
theorem s_171_177 : Go d 171 177 L (.int y :: .int x :: st) h Q = Go d 171 178 L (.int (x + y) :: st) h Q := go_op (E := (.iadd, 0, 0, 0)) rfl rfl
theorem s_171_178 : Go d 171 178 L (.int x :: .ref 0 :: st) (HP lx xs M) Q = (ex_in x lx = true ∧ Go d 171 179 L (.int (xs x.toNatClampNeg) :: st) (HP lx xs M) Q) := go_al rfl rfl
theorem s_171_179 {a1 : Int32} {z0 : Int32} : Go (d + 1) 171 179 L [.int a1, .ref 53, .int z0] (HP lx xs M) Q = Go d 120 0 [some (.ref 53), some (.int a1)] [] (HP lx xs M) (fun v h2 => Go (d + 1) 171 182 L (ap v [.int z0]) h2 Q) := go_cx (E := (.invokevirtual 17, 120, 0, 7)) (k' := 120) (as := [.ref 53, .int a1]) rfl rfl rfl rfl rfl rfl rfl rfl
theorem s_171_182 : Go d 171 182 L (.int y :: .int x :: st) h Q = (if x = y then Go d 171 1117 L st h Q else Go d 171 185 L st h Q) := go_iceq rfl
theorem s_171_185 : Go d 171 185 L (st) h Q = Go d 171 186 L (.int (nI 0) :: st) h Q := go_ic rfl ci_i0
theorem s_171_186_0 : Go d 171 186 L [.int (nI 0)] h Q = Q (some (.int (nI 0))) h := go_rz rfl rfl (by decide)
theorem s_171_186_1 : Go d 171 186 L [.int (nI 1)] h Q = Q (some (.int (nI 1))) h := go_rz rfl rfl (by decide)
theorem s_171_187 : Go d 171 187 [o0, some (.ref r), o2, o3] (st) h Q = Go d 171 188 [o0, some (.ref r), o2, o3] (.ref r :: st) h Q := go_lo (E := (.aload_n 1, 0, 0, 0)) rfl rfl rfl
theorem s_171_188 : Go d 171 188 [some (.ref r), o1, o2, o3] (st) h Q = Go d 171 189 [some (.ref r), o1, o2, o3] (.ref r :: st) h Q := go_lo (E := (.aload_n 0, 0, 0, 0)) rfl rfl rfl
theorem s_171_189 : Go d 171 189 [o0, o1, o2, some (.int x)] (st) h Q = Go d 171 190 [o0, o1, o2, some (.int x)] (.int x :: st) h Q := go_lo (E := (.iload_n 3, 0, 0, 0)) rfl rfl rfl
theorem s_171_190 : Go d 171 190 L (st) h Q = Go d 171 191 L (.int (nI 1) :: st) h Q := go_ic rfl ci_i1
theorem s_171_191 : Go d 171 191 L (.int y :: .int x :: st) h Q = Go d 171 192 L (.int (x + y) :: st) h Q := go_op (E := (.iadd, 0, 0, 0)) rfl rfl
theorem s_171_192 : Go d 171 192 L (.int x :: .ref 0 :: st) (HP lx xs M) Q = (ex_in x lx = true ∧ Go d 171 193 L (.int (xs x.toNatClampNeg) :: st) (HP lx xs M) Q) := go_al rfl rfl
theorem s_171_193 : Go d 171 193 [some (.ref r), o1, o2, o3] (st) h Q = Go d 171 194 [some (.ref r), o1, o2, o3] (.ref r :: st) h Q := go_lo (E := (.aload_n 0, 0, 0, 0)) rfl rfl rfl
theorem s_171_194 : Go d 171 194 [o0, o1, o2, some (.int x)] (st) h Q = Go d 171 195 [o0, o1, o2, some (.int x)] (.int x :: st) h Q := go_lo (E := (.iload_n 3, 0, 0, 0)) rfl rfl rfl
theorem s_171_195 : Go d 171 195 L (st) h Q = Go d 171 196 L (.int (nI 2) :: st) h Q := go_ic rfl ci_i2
theorem s_171_196 : Go d 171 196 L (.int y :: .int x :: st) h Q = Go d 171 197 L (.int (x + y) :: st) h Q := go_op (E := (.iadd, 0, 0, 0)) rfl rfl
theorem s_171_197 : Go d 171 197 L (.int x :: .ref 0 :: st) (HP lx xs M) Q = (ex_in x lx = true ∧ Go d 171 198 L (.int (xs x.toNatClampNeg) :: st) (HP lx xs M) Q) := go_al rfl rfl
theorem s_171_198 : Go d 171 198 [some (.ref r), o1, o2, o3] (st) h Q = Go d 171 199 [some (.ref r), o1, o2, o3] (.ref r :: st) h Q := go_lo (E := (.aload_n 0, 0, 0, 0)) rfl rfl rfl
theorem s_171_199 : Go d 171 199 [o0, o1, o2, some (.int x)] (st) h Q = Go d 171 200 [o0, o1, o2, some (.int x)] (.int x :: st) h Q := go_lo (E := (.iload_n 3, 0, 0, 0)) rfl rfl rfl
theorem s_171_200 : Go d 171 200 L (st) h Q = Go d 171 201 L (.int (nI 3) :: st) h Q := go_ic rfl ci_i3
theorem s_171_201 : Go d 171 201 L (.int y :: .int x :: st) h Q = Go d 171 202 L (.int (x + y) :: st) h Q := go_op (E := (.iadd, 0, 0, 0)) rfl rfl
theorem s_171_202 : Go d 171 202 L (.int x :: .ref 0 :: st) (HP lx xs M) Q = (ex_in x lx = true ∧ Go d 171 203 L (.int (xs x.toNatClampNeg) :: st) (HP lx xs M) Q) := go_al rfl rfl
theorem s_171_203 {a1 : Int32} {a2 : Int32} {a3 : Int32} : Go (d + 1) 171 203 L [.int a3, .int a2, .int a1, .ref 1] (HP lx xs M) Q = Go d 17 0 [some (.ref 1), some (.int a1), some (.int a2), some (.int a3), none] [] (HP lx xs M) (fun v h2 => Go (d + 1) 171 206 L (ap v []) h2 Q) := go_cx (E := (.invokevirtual 18, 17, 0, 6)) (k' := 17) (as := [.ref 1, .int a1, .int a2, .int a3]) rfl rfl rfl rfl rfl rfl rfl rfl
theorem s_171_206 : Go d 171 206 [o0, o1, some (.ref r), o3] (st) h Q = Go d 171 207 [o0, o1, some (.ref r), o3] (.ref r :: st) h Q := go_lo (E := (.aload_n 2, 0, 0, 0)) rfl rfl rfl
theorem s_171_207 : Go d 171 207 [some (.ref r), o1, o2, o3] (st) h Q = Go d 171 208 [some (.ref r), o1, o2, o3] (.ref r :: st) h Q := go_lo (E := (.aload_n 0, 0, 0, 0)) rfl rfl rfl
theorem s_171_208 : Go d 171 208 [o0, o1, o2, some (.int x)] (st) h Q = Go d 171 209 [o0, o1, o2, some (.int x)] (.int x :: st) h Q := go_lo (E := (.iload_n 3, 0, 0, 0)) rfl rfl rfl
theorem s_171_209 : Go d 171 209 L (st) h Q = Go d 171 210 L (.int (nI 1) :: st) h Q := go_ic rfl ci_i1
theorem s_171_210 : Go d 171 210 L (.int y :: .int x :: st) h Q = Go d 171 211 L (.int (x + y) :: st) h Q := go_op (E := (.iadd, 0, 0, 0)) rfl rfl
theorem s_171_211 : Go d 171 211 L (.int x :: .ref 0 :: st) (HP lx xs M) Q = (ex_in x lx = true ∧ Go d 171 212 L (.int (xs x.toNatClampNeg) :: st) (HP lx xs M) Q) := go_al rfl rfl
theorem s_171_212 : Go d 171 212 [some (.ref r), o1, o2, o3] (st) h Q = Go d 171 213 [some (.ref r), o1, o2, o3] (.ref r :: st) h Q := go_lo (E := (.aload_n 0, 0, 0, 0)) rfl rfl rfl
theorem s_171_213 : Go d 171 213 [o0, o1, o2, some (.int x)] (st) h Q = Go d 171 214 [o0, o1, o2, some (.int x)] (.int x :: st) h Q := go_lo (E := (.iload_n 3, 0, 0, 0)) rfl rfl rfl
theorem s_171_214 : Go d 171 214 L (st) h Q = Go d 171 215 L (.int (nI 2) :: st) h Q := go_ic rfl ci_i2
theorem s_171_215 : Go d 171 215 L (.int y :: .int x :: st) h Q = Go d 171 216 L (.int (x + y) :: st) h Q := go_op (E := (.iadd, 0, 0, 0)) rfl rfl
theorem s_171_216 : Go d 171 216 L (.int x :: .ref 0 :: st) (HP lx xs M) Q = (ex_in x lx = true ∧ Go d 171 217 L (.int (xs x.toNatClampNeg) :: st) (HP lx xs M) Q) := go_al rfl rfl
theorem s_171_217 : Go d 171 217 [some (.ref r), o1, o2, o3] (st) h Q = Go d 171 218 [some (.ref r), o1, o2, o3] (.ref r :: st) h Q := go_lo (E := (.aload_n 0, 0, 0, 0)) rfl rfl rfl
theorem s_171_218 : Go d 171 218 [o0, o1, o2, some (.int x)] (st) h Q = Go d 171 219 [o0, o1, o2, some (.int x)] (.int x :: st) h Q := go_lo (E := (.iload_n 3, 0, 0, 0)) rfl rfl rfl
theorem s_171_219 : Go d 171 219 L (st) h Q = Go d 171 220 L (.int (nI 3) :: st) h Q := go_ic rfl ci_i3
theorem s_171_220 : Go d 171 220 L (.int y :: .int x :: st) h Q = Go d 171 221 L (.int (x + y) :: st) h Q := go_op (E := (.iadd, 0, 0, 0)) rfl rfl
theorem s_171_221 : Go d 171 221 L (.int x :: .ref 0 :: st) (HP lx xs M) Q = (ex_in x lx = true ∧ Go d 171 222 L (.int (xs x.toNatClampNeg) :: st) (HP lx xs M) Q) := go_al rfl rfl
theorem s_171_222 {a1 : Int32} {a2 : Int32} {a3 : Int32} {z0 : Int32} : Go (d + 1) 171 222 L [.int a3, .int a2, .int a1, .ref 53, .int z0] (HP lx xs M) Q = Go d 121 0 [some (.ref 53), some (.int a1), some (.int a2), some (.int a3), none] [] (HP lx xs M) (fun v h2 => Go (d + 1) 171 225 L (ap v [.int z0]) h2 Q) := go_cx (E := (.invokevirtual 22, 121, 0, 7)) (k' := 121) (as := [.ref 53, .int a1, .int a2, .int a3]) rfl rfl rfl rfl rfl rfl rfl rfl
theorem s_171_225 : Go d 171 225 L (.int y :: .int x :: st) h Q = (if x = y then Go d 171 1117 L st h Q else Go d 171 228 L st h Q) := go_iceq rfl
theorem s_171_228 : Go d 171 228 L (st) h Q = Go d 171 229 L (.int (nI 0) :: st) h Q := go_ic rfl ci_i0
theorem s_171_229_0 : Go d 171 229 L [.int (nI 0)] h Q = Q (some (.int (nI 0))) h := go_rz rfl rfl (by decide)
theorem s_171_229_1 : Go d 171 229 L [.int (nI 1)] h Q = Q (some (.int (nI 1))) h := go_rz rfl rfl (by decide)
theorem s_171_230 : Go d 171 230 [o0, some (.ref r), o2, o3] (st) h Q = Go d 171 231 [o0, some (.ref r), o2, o3] (.ref r :: st) h Q := go_lo (E := (.aload_n 1, 0, 0, 0)) rfl rfl rfl
theorem s_171_231 : Go d 171 231 [some (.ref r), o1, o2, o3] (st) h Q = Go d 171 232 [some (.ref r), o1, o2, o3] (.ref r :: st) h Q := go_lo (E := (.aload_n 0, 0, 0, 0)) rfl rfl rfl
theorem s_171_232 : Go d 171 232 [o0, o1, o2, some (.int x)] (st) h Q = Go d 171 233 [o0, o1, o2, some (.int x)] (.int x :: st) h Q := go_lo (E := (.iload_n 3, 0, 0, 0)) rfl rfl rfl
theorem s_171_233 : Go d 171 233 L (st) h Q = Go d 171 234 L (.int (nI 1) :: st) h Q := go_ic rfl ci_i1
theorem s_171_234 : Go d 171 234 L (.int y :: .int x :: st) h Q = Go d 171 235 L (.int (x + y) :: st) h Q := go_op (E := (.iadd, 0, 0, 0)) rfl rfl
theorem s_171_235 : Go d 171 235 L (.int x :: .ref 0 :: st) (HP lx xs M) Q = (ex_in x lx = true ∧ Go d 171 236 L (.int (xs x.toNatClampNeg) :: st) (HP lx xs M) Q) := go_al rfl rfl
theorem s_171_236 : Go d 171 236 [some (.ref r), o1, o2, o3] (st) h Q = Go d 171 237 [some (.ref r), o1, o2, o3] (.ref r :: st) h Q := go_lo (E := (.aload_n 0, 0, 0, 0)) rfl rfl rfl
theorem s_171_237 : Go d 171 237 [o0, o1, o2, some (.int x)] (st) h Q = Go d 171 238 [o0, o1, o2, some (.int x)] (.int x :: st) h Q := go_lo (E := (.iload_n 3, 0, 0, 0)) rfl rfl rfl
theorem s_171_238 : Go d 171 238 L (st) h Q = Go d 171 239 L (.int (nI 2) :: st) h Q := go_ic rfl ci_i2
theorem s_171_239 : Go d 171 239 L (.int y :: .int x :: st) h Q = Go d 171 240 L (.int (x + y) :: st) h Q := go_op (E := (.iadd, 0, 0, 0)) rfl rfl
theorem s_171_240 : Go d 171 240 L (.int x :: .ref 0 :: st) (HP lx xs M) Q = (ex_in x lx = true ∧ Go d 171 241 L (.int (xs x.toNatClampNeg) :: st) (HP lx xs M) Q) := go_al rfl rfl
theorem s_171_241 {a1 : Int32} {a2 : Int32} : Go (d + 1) 171 241 L [.int a2, .int a1, .ref 1] (HP lx xs M) Q = Go d 18 0 [some (.ref 1), some (.int a1), some (.int a2), none] [] (HP lx xs M) (fun v h2 => Go (d + 1) 171 244 L (ap v []) h2 Q) := go_cx (E := (.invokevirtual 23, 18, 0, 6)) (k' := 18) (as := [.ref 1, .int a1, .int a2]) rfl rfl rfl rfl rfl rfl rfl rfl
theorem s_171_244 : Go d 171 244 [o0, o1, some (.ref r), o3] (st) h Q = Go d 171 245 [o0, o1, some (.ref r), o3] (.ref r :: st) h Q := go_lo (E := (.aload_n 2, 0, 0, 0)) rfl rfl rfl
theorem s_171_245 : Go d 171 245 [some (.ref r), o1, o2, o3] (st) h Q = Go d 171 246 [some (.ref r), o1, o2, o3] (.ref r :: st) h Q := go_lo (E := (.aload_n 0, 0, 0, 0)) rfl rfl rfl
theorem s_171_246 : Go d 171 246 [o0, o1, o2, some (.int x)] (st) h Q = Go d 171 247 [o0, o1, o2, some (.int x)] (.int x :: st) h Q := go_lo (E := (.iload_n 3, 0, 0, 0)) rfl rfl rfl
set_option maxRecDepth 30000 in
theorem s_171_247 : Go d 171 247 L (st) h Q = Go d 171 248 L (.int (nI 1) :: st) h Q := go_ic rfl ci_i1
set_option maxRecDepth 30000 in
theorem s_171_248 : Go d 171 248 L (.int y :: .int x :: st) h Q = Go d 171 249 L (.int (x + y) :: st) h Q := go_op (E := (.iadd, 0, 0, 0)) rfl rfl
set_option maxRecDepth 30000 in
theorem s_171_249 : Go d 171 249 L (.int x :: .ref 0 :: st) (HP lx xs M) Q = (ex_in x lx = true ∧ Go d 171 250 L (.int (xs x.toNatClampNeg) :: st) (HP lx xs M) Q) := go_al rfl rfl
set_option maxRecDepth 30000 in
theorem s_171_250 : Go d 171 250 [some (.ref r), o1, o2, o3] (st) h Q = Go d 171 251 [some (.ref r), o1, o2, o3] (.ref r :: st) h Q := go_lo (E := (.aload_n 0, 0, 0, 0)) rfl rfl rfl
set_option maxRecDepth 30000 in
theorem s_171_251 : Go d 171 251 [o0, o1, o2, some (.int x)] (st) h Q = Go d 171 252 [o0, o1, o2, some (.int x)] (.int x :: st) h Q := go_lo (E := (.iload_n 3, 0, 0, 0)) rfl rfl rfl
set_option maxRecDepth 30000 in
theorem s_171_252 : Go d 171 252 L (st) h Q = Go d 171 253 L (.int (nI 2) :: st) h Q := go_ic rfl ci_i2
set_option maxRecDepth 30000 in
theorem s_171_253 : Go d 171 253 L (.int y :: .int x :: st) h Q = Go d 171 254 L (.int (x + y) :: st) h Q := go_op (E := (.iadd, 0, 0, 0)) rfl rfl
set_option maxRecDepth 30000 in
theorem s_171_254 : Go d 171 254 L (.int x :: .ref 0 :: st) (HP lx xs M) Q = (ex_in x lx = true ∧ Go d 171 255 L (.int (xs x.toNatClampNeg) :: st) (HP lx xs M) Q) := go_al rfl rfl
set_option maxRecDepth 30000 in
theorem s_171_255 {a1 : Int32} {a2 : Int32} {z0 : Int32} : Go (d + 1) 171 255 L [.int a2, .int a1, .ref 53, .int z0] (HP lx xs M) Q = Go d 122 0 [some (.ref 53), some (.int a1), some (.int a2), none] [] (HP lx xs M) (fun v h2 => Go (d + 1) 171 258 L (ap v [.int z0]) h2 Q) := go_cx (E := (.invokevirtual 27, 122, 0, 7)) (k' := 122) (as := [.ref 53, .int a1, .int a2]) rfl rfl rfl rfl rfl rfl rfl rfl
set_option maxRecDepth 30000 in
theorem s_171_258 : Go d 171 258 L (.int y :: .int x :: st) h Q = (if x = y then Go d 171 1117 L st h Q else Go d 171 261 L st h Q) := go_iceq rfl
set_option maxRecDepth 30000 in
theorem s_171_261 : Go d 171 261 L (st) h Q = Go d 171 262 L (.int (nI 0) :: st) h Q := go_ic rfl ci_i0
set_option maxRecDepth 30000 in
theorem s_171_262_0 : Go d 171 262 L [.int (nI 0)] h Q = Q (some (.int (nI 0))) h := go_rz rfl rfl (by decide)
set_option maxRecDepth 30000 in
theorem s_171_262_1 : Go d 171 262 L [.int (nI 1)] h Q = Q (some (.int (nI 1))) h := go_rz rfl rfl (by decide)
set_option maxRecDepth 30000 in
theorem s_171_263 : Go d 171 263 [o0, some (.ref r), o2, o3] (st) h Q = Go d 171 264 [o0, some (.ref r), o2, o3] (.ref r :: st) h Q := go_lo (E := (.aload_n 1, 0, 0, 0)) rfl rfl rfl
set_option maxRecDepth 30000 in
theorem s_171_264 : Go d 171 264 [some (.ref r), o1, o2, o3] (st) h Q = Go d 171 265 [some (.ref r), o1, o2, o3] (.ref r :: st) h Q := go_lo (E := (.aload_n 0, 0, 0, 0)) rfl rfl rfl
set_option maxRecDepth 30000 in
theorem s_171_265 : Go d 171 265 [o0, o1, o2, some (.int x)] (st) h Q = Go d 171 266 [o0, o1, o2, some (.int x)] (.int x :: st) h Q := go_lo (E := (.iload_n 3, 0, 0, 0)) rfl rfl rfl
set_option maxRecDepth 30000 in
theorem s_171_266 : Go d 171 266 L (st) h Q = Go d 171 267 L (.int (nI 1) :: st) h Q := go_ic rfl ci_i1
set_option maxRecDepth 30000 in
theorem s_171_267 : Go d 171 267 L (.int y :: .int x :: st) h Q = Go d 171 268 L (.int (x + y) :: st) h Q := go_op (E := (.iadd, 0, 0, 0)) rfl rfl
set_option maxRecDepth 30000 in
theorem s_171_268 : Go d 171 268 L (.int x :: .ref 0 :: st) (HP lx xs M) Q = (ex_in x lx = true ∧ Go d 171 269 L (.int (xs x.toNatClampNeg) :: st) (HP lx xs M) Q) := go_al rfl rfl
set_option maxRecDepth 30000 in
theorem s_171_269 : Go d 171 269 [some (.ref r), o1, o2, o3] (st) h Q = Go d 171 270 [some (.ref r), o1, o2, o3] (.ref r :: st) h Q := go_lo (E := (.aload_n 0, 0, 0, 0)) rfl rfl rfl
set_option maxRecDepth 30000 in
theorem s_171_270 : Go d 171 270 [o0, o1, o2, some (.int x)] (st) h Q = Go d 171 271 [o0, o1, o2, some (.int x)] (.int x :: st) h Q := go_lo (E := (.iload_n 3, 0, 0, 0)) rfl rfl rfl
set_option maxRecDepth 30000 in
theorem s_171_271 : Go d 171 271 L (st) h Q = Go d 171 272 L (.int (nI 2) :: st) h Q := go_ic rfl ci_i2
set_option maxRecDepth 30000 in
theorem s_171_272 : Go d 171 272 L (.int y :: .int x :: st) h Q = Go d 171 273 L (.int (x + y) :: st) h Q := go_op (E := (.iadd, 0, 0, 0)) rfl rfl
set_option maxRecDepth 30000 in
theorem s_171_273 : Go d 171 273 L (.int x :: .ref 0 :: st) (HP lx xs M) Q = (ex_in x lx = true ∧ Go d 171 274 L (.int (xs x.toNatClampNeg) :: st) (HP lx xs M) Q) := go_al rfl rfl
set_option maxRecDepth 30000 in
theorem s_171_274 : Go d 171 274 [some (.ref r), o1, o2, o3] (st) h Q = Go d 171 275 [some (.ref r), o1, o2, o3] (.ref r :: st) h Q := go_lo (E := (.aload_n 0, 0, 0, 0)) rfl rfl rfl
set_option maxRecDepth 30000 in
theorem s_171_275 : Go d 171 275 [o0, o1, o2, some (.int x)] (st) h Q = Go d 171 276 [o0, o1, o2, some (.int x)] (.int x :: st) h Q := go_lo (E := (.iload_n 3, 0, 0, 0)) rfl rfl rfl
set_option maxRecDepth 30000 in
theorem s_171_276 : Go d 171 276 L (st) h Q = Go d 171 277 L (.int (nI 3) :: st) h Q := go_ic rfl ci_i3
set_option maxRecDepth 30000 in
theorem s_171_277 : Go d 171 277 L (.int y :: .int x :: st) h Q = Go d 171 278 L (.int (x + y) :: st) h Q := go_op (E := (.iadd, 0, 0, 0)) rfl rfl
set_option maxRecDepth 30000 in
theorem s_171_278 : Go d 171 278 L (.int x :: .ref 0 :: st) (HP lx xs M) Q = (ex_in x lx = true ∧ Go d 171 279 L (.int (xs x.toNatClampNeg) :: st) (HP lx xs M) Q) := go_al rfl rfl
set_option maxRecDepth 30000 in
theorem s_171_279 : Go d 171 279 L (.int x :: st) h Q = (if x = 0 then Go d 171 286 L st h Q else Go d 171 282 L st h Q) := go_ifeq rfl
set_option maxRecDepth 30000 in
theorem s_171_282 : Go d 171 282 L (st) h Q = Go d 171 283 L (.int (nI 1) :: st) h Q := go_ic rfl ci_i1
set_option maxRecDepth 30000 in
theorem s_171_283 : Go d 171 283 L (st) h Q = Go d 171 287 L (st) h Q := go_goto rfl
set_option maxRecDepth 30000 in
theorem s_171_286 : Go d 171 286 L (st) h Q = Go d 171 287 L (.int (nI 0) :: st) h Q := go_ic rfl ci_i0
set_option maxRecDepth 30000 in
theorem s_171_287 {a1 : Int32} {a2 : Int32} {a3 : Int32} : Go (d + 1) 171 287 L [.int a3, .int a2, .int a1, .ref 1] (HP lx xs M) Q = Go d 19 0 [some (.ref 1), some (.int a1), some (.int a2), some (.int a3), none] [] (HP lx xs M) (fun v h2 => Go (d + 1) 171 290 L (ap v []) h2 Q) := go_cx (E := (.invokevirtual 28, 19, 0, 6)) (k' := 19) (as := [.ref 1, .int a1, .int a2, .int a3]) rfl rfl rfl rfl rfl rfl rfl rfl
set_option maxRecDepth 30000 in
theorem s_171_290 : Go d 171 290 [o0, o1, some (.ref r), o3] (st) h Q = Go d 171 291 [o0, o1, some (.ref r), o3] (.ref r :: st) h Q := go_lo (E := (.aload_n 2, 0, 0, 0)) rfl rfl rfl
set_option maxRecDepth 30000 in
theorem s_171_291 : Go d 171 291 [some (.ref r), o1, o2, o3] (st) h Q = Go d 171 292 [some (.ref r), o1, o2, o3] (.ref r :: st) h Q := go_lo (E := (.aload_n 0, 0, 0, 0)) rfl rfl rfl
set_option maxRecDepth 30000 in
theorem s_171_292 : Go d 171 292 [o0, o1, o2, some (.int x)] (st) h Q = Go d 171 293 [o0, o1, o2, some (.int x)] (.int x :: st) h Q := go_lo (E := (.iload_n 3, 0, 0, 0)) rfl rfl rfl
set_option maxRecDepth 30000 in
theorem s_171_293 : Go d 171 293 L (st) h Q = Go d 171 294 L (.int (nI 1) :: st) h Q := go_ic rfl ci_i1
set_option maxRecDepth 30000 in
theorem s_171_294 : Go d 171 294 L (.int y :: .int x :: st) h Q = Go d 171 295 L (.int (x + y) :: st) h Q := go_op (E := (.iadd, 0, 0, 0)) rfl rfl
set_option maxRecDepth 30000 in
theorem s_171_295 : Go d 171 295 L (.int x :: .ref 0 :: st) (HP lx xs M) Q = (ex_in x lx = true ∧ Go d 171 296 L (.int (xs x.toNatClampNeg) :: st) (HP lx xs M) Q) := go_al rfl rfl
set_option maxRecDepth 30000 in
theorem s_171_296 : Go d 171 296 [some (.ref r), o1, o2, o3] (st) h Q = Go d 171 297 [some (.ref r), o1, o2, o3] (.ref r :: st) h Q := go_lo (E := (.aload_n 0, 0, 0, 0)) rfl rfl rfl
set_option maxRecDepth 30000 in
theorem s_171_297 : Go d 171 297 [o0, o1, o2, some (.int x)] (st) h Q = Go d 171 298 [o0, o1, o2, some (.int x)] (.int x :: st) h Q := go_lo (E := (.iload_n 3, 0, 0, 0)) rfl rfl rfl
set_option maxRecDepth 30000 in
theorem s_171_298 : Go d 171 298 L (st) h Q = Go d 171 299 L (.int (nI 2) :: st) h Q := go_ic rfl ci_i2
set_option maxRecDepth 30000 in
theorem s_171_299 : Go d 171 299 L (.int y :: .int x :: st) h Q = Go d 171 300 L (.int (x + y) :: st) h Q := go_op (E := (.iadd, 0, 0, 0)) rfl rfl
set_option maxRecDepth 30000 in
theorem s_171_300 : Go d 171 300 L (.int x :: .ref 0 :: st) (HP lx xs M) Q = (ex_in x lx = true ∧ Go d 171 301 L (.int (xs x.toNatClampNeg) :: st) (HP lx xs M) Q) := go_al rfl rfl
set_option maxRecDepth 30000 in
theorem s_171_301 : Go d 171 301 [some (.ref r), o1, o2, o3] (st) h Q = Go d 171 302 [some (.ref r), o1, o2, o3] (.ref r :: st) h Q := go_lo (E := (.aload_n 0, 0, 0, 0)) rfl rfl rfl
set_option maxRecDepth 30000 in
theorem s_171_302 : Go d 171 302 [o0, o1, o2, some (.int x)] (st) h Q = Go d 171 303 [o0, o1, o2, some (.int x)] (.int x :: st) h Q := go_lo (E := (.iload_n 3, 0, 0, 0)) rfl rfl rfl
set_option maxRecDepth 30000 in
theorem s_171_303 : Go d 171 303 L (st) h Q = Go d 171 304 L (.int (nI 3) :: st) h Q := go_ic rfl ci_i3
set_option maxRecDepth 30000 in
theorem s_171_304 : Go d 171 304 L (.int y :: .int x :: st) h Q = Go d 171 305 L (.int (x + y) :: st) h Q := go_op (E := (.iadd, 0, 0, 0)) rfl rfl
set_option maxRecDepth 30000 in
theorem s_171_305 : Go d 171 305 L (.int x :: .ref 0 :: st) (HP lx xs M) Q = (ex_in x lx = true ∧ Go d 171 306 L (.int (xs x.toNatClampNeg) :: st) (HP lx xs M) Q) := go_al rfl rfl
set_option maxRecDepth 30000 in
theorem s_171_306 : Go d 171 306 L (.int x :: st) h Q = (if x = 0 then Go d 171 313 L st h Q else Go d 171 309 L st h Q) := go_ifeq rfl
set_option maxRecDepth 30000 in
theorem s_171_309 : Go d 171 309 L (st) h Q = Go d 171 310 L (.int (nI 1) :: st) h Q := go_ic rfl ci_i1
set_option maxRecDepth 30000 in
theorem s_171_310 : Go d 171 310 L (st) h Q = Go d 171 314 L (st) h Q := go_goto rfl
set_option maxRecDepth 30000 in
theorem s_171_313 : Go d 171 313 L (st) h Q = Go d 171 314 L (.int (nI 0) :: st) h Q := go_ic rfl ci_i0
set_option maxRecDepth 30000 in
theorem s_171_314 {a1 : Int32} {a2 : Int32} {a3 : Int32} {z0 : Int32} : Go (d + 1) 171 314 L [.int a3, .int a2, .int a1, .ref 53, .int z0] (HP lx xs M) Q = Go d 123 0 [some (.ref 53), some (.int a1), some (.int a2), some (.int a3), none] [] (HP lx xs M) (fun v h2 => Go (d + 1) 171 317 L (ap v [.int z0]) h2 Q) := go_cx (E := (.invokevirtual 32, 123, 0, 7)) (k' := 123) (as := [.ref 53, .int a1, .int a2, .int a3]) rfl rfl rfl rfl rfl rfl rfl rfl
set_option maxRecDepth 30000 in
theorem s_171_317 : Go d 171 317 L (.int y :: .int x :: st) h Q = (if x = y then Go d 171 1117 L st h Q else Go d 171 320 L st h Q) := go_iceq rfl
set_option maxRecDepth 30000 in
theorem s_171_320 : Go d 171 320 L (st) h Q = Go d 171 321 L (.int (nI 0) :: st) h Q := go_ic rfl ci_i0
set_option maxRecDepth 30000 in
theorem s_171_321_0 : Go d 171 321 L [.int (nI 0)] h Q = Q (some (.int (nI 0))) h := go_rz rfl rfl (by decide)
set_option maxRecDepth 30000 in
theorem s_171_321_1 : Go d 171 321 L [.int (nI 1)] h Q = Q (some (.int (nI 1))) h := go_rz rfl rfl (by decide)
set_option maxRecDepth 30000 in
theorem s_171_322 : Go d 171 322 [o0, some (.ref r), o2, o3] (st) h Q = Go d 171 323 [o0, some (.ref r), o2, o3] (.ref r :: st) h Q := go_lo (E := (.aload_n 1, 0, 0, 0)) rfl rfl rfl
set_option maxRecDepth 30000 in
theorem s_171_323 : Go d 171 323 [some (.ref r), o1, o2, o3] (st) h Q = Go d 171 324 [some (.ref r), o1, o2, o3] (.ref r :: st) h Q := go_lo (E := (.aload_n 0, 0, 0, 0)) rfl rfl rfl
set_option maxRecDepth 30000 in
theorem s_171_324 : Go d 171 324 [o0, o1, o2, some (.int x)] (st) h Q = Go d 171 325 [o0, o1, o2, some (.int x)] (.int x :: st) h Q := go_lo (E := (.iload_n 3, 0, 0, 0)) rfl rfl rfl
set_option maxRecDepth 30000 in
theorem s_171_325 : Go d 171 325 L (st) h Q = Go d 171 326 L (.int (nI 1) :: st) h Q := go_ic rfl ci_i1
set_option maxRecDepth 30000 in
theorem s_171_326 : Go d 171 326 L (.int y :: .int x :: st) h Q = Go d 171 327 L (.int (x + y) :: st) h Q := go_op (E := (.iadd, 0, 0, 0)) rfl rfl
set_option maxRecDepth 30000 in
theorem s_171_327 : Go d 171 327 L (.int x :: .ref 0 :: st) (HP lx xs M) Q = (ex_in x lx = true ∧ Go d 171 328 L (.int (xs x.toNatClampNeg) :: st) (HP lx xs M) Q) := go_al rfl rfl
set_option maxRecDepth 30000 in
theorem s_171_328 : Go d 171 328 [some (.ref r), o1, o2, o3] (st) h Q = Go d 171 329 [some (.ref r), o1, o2, o3] (.ref r :: st) h Q := go_lo (E := (.aload_n 0, 0, 0, 0)) rfl rfl rfl
set_option maxRecDepth 30000 in
theorem s_171_329 : Go d 171 329 [o0, o1, o2, some (.int x)] (st) h Q = Go d 171 330 [o0, o1, o2, some (.int x)] (.int x :: st) h Q := go_lo (E := (.iload_n 3, 0, 0, 0)) rfl rfl rfl
set_option maxRecDepth 30000 in
theorem s_171_330 : Go d 171 330 L (st) h Q = Go d 171 331 L (.int (nI 2) :: st) h Q := go_ic rfl ci_i2
set_option maxRecDepth 30000 in
theorem s_171_331 : Go d 171 331 L (.int y :: .int x :: st) h Q = Go d 171 332 L (.int (x + y) :: st) h Q := go_op (E := (.iadd, 0, 0, 0)) rfl rfl
set_option maxRecDepth 30000 in
theorem s_171_332 : Go d 171 332 L (.int x :: .ref 0 :: st) (HP lx xs M) Q = (ex_in x lx = true ∧ Go d 171 333 L (.int (xs x.toNatClampNeg) :: st) (HP lx xs M) Q) := go_al rfl rfl
set_option maxRecDepth 30000 in
theorem s_171_333 {a1 : Int32} {a2 : Int32} : Go (d + 1) 171 333 L [.int a2, .int a1, .ref 1] (HP lx xs M) Q = Go d 20 0 [some (.ref 1), some (.int a1), some (.int a2)] [] (HP lx xs M) (fun v h2 => Go (d + 1) 171 336 L (ap v []) h2 Q) := go_cx (E := (.invokevirtual 33, 20, 0, 6)) (k' := 20) (as := [.ref 1, .int a1, .int a2]) rfl rfl rfl rfl rfl rfl rfl rfl
set_option maxRecDepth 30000 in
theorem s_171_336 : Go d 171 336 [o0, o1, some (.ref r), o3] (st) h Q = Go d 171 337 [o0, o1, some (.ref r), o3] (.ref r :: st) h Q := go_lo (E := (.aload_n 2, 0, 0, 0)) rfl rfl rfl
set_option maxRecDepth 30000 in
theorem s_171_337 : Go d 171 337 [some (.ref r), o1, o2, o3] (st) h Q = Go d 171 338 [some (.ref r), o1, o2, o3] (.ref r :: st) h Q := go_lo (E := (.aload_n 0, 0, 0, 0)) rfl rfl rfl
set_option maxRecDepth 30000 in
theorem s_171_338 : Go d 171 338 [o0, o1, o2, some (.int x)] (st) h Q = Go d 171 339 [o0, o1, o2, some (.int x)] (.int x :: st) h Q := go_lo (E := (.iload_n 3, 0, 0, 0)) rfl rfl rfl
set_option maxRecDepth 30000 in
theorem s_171_339 : Go d 171 339 L (st) h Q = Go d 171 340 L (.int (nI 1) :: st) h Q := go_ic rfl ci_i1
set_option maxRecDepth 30000 in
theorem s_171_340 : Go d 171 340 L (.int y :: .int x :: st) h Q = Go d 171 341 L (.int (x + y) :: st) h Q := go_op (E := (.iadd, 0, 0, 0)) rfl rfl
set_option maxRecDepth 30000 in
theorem s_171_341 : Go d 171 341 L (.int x :: .ref 0 :: st) (HP lx xs M) Q = (ex_in x lx = true ∧ Go d 171 342 L (.int (xs x.toNatClampNeg) :: st) (HP lx xs M) Q) := go_al rfl rfl
set_option maxRecDepth 30000 in
theorem s_171_342 : Go d 171 342 [some (.ref r), o1, o2, o3] (st) h Q = Go d 171 343 [some (.ref r), o1, o2, o3] (.ref r :: st) h Q := go_lo (E := (.aload_n 0, 0, 0, 0)) rfl rfl rfl
set_option maxRecDepth 30000 in
theorem s_171_343 : Go d 171 343 [o0, o1, o2, some (.int x)] (st) h Q = Go d 171 344 [o0, o1, o2, some (.int x)] (.int x :: st) h Q := go_lo (E := (.iload_n 3, 0, 0, 0)) rfl rfl rfl
set_option maxRecDepth 30000 in
theorem s_171_344 : Go d 171 344 L (st) h Q = Go d 171 345 L (.int (nI 2) :: st) h Q := go_ic rfl ci_i2
set_option maxRecDepth 30000 in
theorem s_171_345 : Go d 171 345 L (.int y :: .int x :: st) h Q = Go d 171 346 L (.int (x + y) :: st) h Q := go_op (E := (.iadd, 0, 0, 0)) rfl rfl
set_option maxRecDepth 30000 in
theorem s_171_346 : Go d 171 346 L (.int x :: .ref 0 :: st) (HP lx xs M) Q = (ex_in x lx = true ∧ Go d 171 347 L (.int (xs x.toNatClampNeg) :: st) (HP lx xs M) Q) := go_al rfl rfl
set_option maxRecDepth 30000 in
theorem s_171_347 {a1 : Int32} {a2 : Int32} {z0 : Int32} : Go (d + 1) 171 347 L [.int a2, .int a1, .ref 53, .int z0] (HP lx xs M) Q = Go d 125 0 [some (.ref 53), some (.int a1), some (.int a2)] [] (HP lx xs M) (fun v h2 => Go (d + 1) 171 350 L (ap v [.int z0]) h2 Q) := go_cx (E := (.invokevirtual 36, 125, 0, 7)) (k' := 125) (as := [.ref 53, .int a1, .int a2]) rfl rfl rfl rfl rfl rfl rfl rfl
set_option maxRecDepth 30000 in
theorem s_171_350 : Go d 171 350 L (.int y :: .int x :: st) h Q = (if x = y then Go d 171 1117 L st h Q else Go d 171 353 L st h Q) := go_iceq rfl
set_option maxRecDepth 30000 in
theorem s_171_353 : Go d 171 353 L (st) h Q = Go d 171 354 L (.int (nI 0) :: st) h Q := go_ic rfl ci_i0
set_option maxRecDepth 30000 in
theorem s_171_354_0 : Go d 171 354 L [.int (nI 0)] h Q = Q (some (.int (nI 0))) h := go_rz rfl rfl (by decide)
set_option maxRecDepth 30000 in
theorem s_171_354_1 : Go d 171 354 L [.int (nI 1)] h Q = Q (some (.int (nI 1))) h := go_rz rfl rfl (by decide)
set_option maxRecDepth 30000 in
theorem s_171_355 : Go d 171 355 [o0, some (.ref r), o2, o3] (st) h Q = Go d 171 356 [o0, some (.ref r), o2, o3] (.ref r :: st) h Q := go_lo (E := (.aload_n 1, 0, 0, 0)) rfl rfl rfl
set_option maxRecDepth 30000 in
theorem s_171_356 : Go d 171 356 [some (.ref r), o1, o2, o3] (st) h Q = Go d 171 357 [some (.ref r), o1, o2, o3] (.ref r :: st) h Q := go_lo (E := (.aload_n 0, 0, 0, 0)) rfl rfl rfl
set_option maxRecDepth 30000 in
theorem s_171_357 : Go d 171 357 [o0, o1, o2, some (.int x)] (st) h Q = Go d 171 358 [o0, o1, o2, some (.int x)] (.int x :: st) h Q := go_lo (E := (.iload_n 3, 0, 0, 0)) rfl rfl rfl
set_option maxRecDepth 30000 in
theorem s_171_358 : Go d 171 358 L (st) h Q = Go d 171 359 L (.int (nI 1) :: st) h Q := go_ic rfl ci_i1
set_option maxRecDepth 30000 in
theorem s_171_359 : Go d 171 359 L (.int y :: .int x :: st) h Q = Go d 171 360 L (.int (x + y) :: st) h Q := go_op (E := (.iadd, 0, 0, 0)) rfl rfl
set_option maxRecDepth 30000 in
theorem s_171_360 : Go d 171 360 L (.int x :: .ref 0 :: st) (HP lx xs M) Q = (ex_in x lx = true ∧ Go d 171 361 L (.int (xs x.toNatClampNeg) :: st) (HP lx xs M) Q) := go_al rfl rfl
set_option maxRecDepth 30000 in
theorem s_171_361 : Go d 171 361 [some (.ref r), o1, o2, o3] (st) h Q = Go d 171 362 [some (.ref r), o1, o2, o3] (.ref r :: st) h Q := go_lo (E := (.aload_n 0, 0, 0, 0)) rfl rfl rfl
set_option maxRecDepth 30000 in
theorem s_171_362 : Go d 171 362 [o0, o1, o2, some (.int x)] (st) h Q = Go d 171 363 [o0, o1, o2, some (.int x)] (.int x :: st) h Q := go_lo (E := (.iload_n 3, 0, 0, 0)) rfl rfl rfl
set_option maxRecDepth 30000 in
theorem s_171_363 : Go d 171 363 L (st) h Q = Go d 171 364 L (.int (nI 2) :: st) h Q := go_ic rfl ci_i2
set_option maxRecDepth 30000 in
theorem s_171_364 : Go d 171 364 L (.int y :: .int x :: st) h Q = Go d 171 365 L (.int (x + y) :: st) h Q := go_op (E := (.iadd, 0, 0, 0)) rfl rfl
set_option maxRecDepth 30000 in
theorem s_171_365 : Go d 171 365 L (.int x :: .ref 0 :: st) (HP lx xs M) Q = (ex_in x lx = true ∧ Go d 171 366 L (.int (xs x.toNatClampNeg) :: st) (HP lx xs M) Q) := go_al rfl rfl
set_option maxRecDepth 30000 in
theorem s_171_366 {a1 : Int32} {a2 : Int32} : Go (d + 1) 171 366 L [.int a2, .int a1, .ref 1] (HP lx xs M) Q = Go d 21 0 [some (.ref 1), some (.int a1), some (.int a2)] [] (HP lx xs M) (fun v h2 => Go (d + 1) 171 369 L (ap v []) h2 Q) := go_cx (E := (.invokevirtual 37, 21, 0, 6)) (k' := 21) (as := [.ref 1, .int a1, .int a2]) rfl rfl rfl rfl rfl rfl rfl rfl
set_option maxRecDepth 30000 in
theorem s_171_369 : Go d 171 369 [o0, o1, some (.ref r), o3] (st) h Q = Go d 171 370 [o0, o1, some (.ref r), o3] (.ref r :: st) h Q := go_lo (E := (.aload_n 2, 0, 0, 0)) rfl rfl rfl
set_option maxRecDepth 30000 in
theorem s_171_370 : Go d 171 370 [some (.ref r), o1, o2, o3] (st) h Q = Go d 171 371 [some (.ref r), o1, o2, o3] (.ref r :: st) h Q := go_lo (E := (.aload_n 0, 0, 0, 0)) rfl rfl rfl
set_option maxRecDepth 30000 in
theorem s_171_371 : Go d 171 371 [o0, o1, o2, some (.int x)] (st) h Q = Go d 171 372 [o0, o1, o2, some (.int x)] (.int x :: st) h Q := go_lo (E := (.iload_n 3, 0, 0, 0)) rfl rfl rfl
set_option maxRecDepth 30000 in
theorem s_171_372 : Go d 171 372 L (st) h Q = Go d 171 373 L (.int (nI 1) :: st) h Q := go_ic rfl ci_i1
set_option maxRecDepth 30000 in
theorem s_171_373 : Go d 171 373 L (.int y :: .int x :: st) h Q = Go d 171 374 L (.int (x + y) :: st) h Q := go_op (E := (.iadd, 0, 0, 0)) rfl rfl
set_option maxRecDepth 30000 in
theorem s_171_374 : Go d 171 374 L (.int x :: .ref 0 :: st) (HP lx xs M) Q = (ex_in x lx = true ∧ Go d 171 375 L (.int (xs x.toNatClampNeg) :: st) (HP lx xs M) Q) := go_al rfl rfl
set_option maxRecDepth 30000 in
theorem s_171_375 : Go d 171 375 [some (.ref r), o1, o2, o3] (st) h Q = Go d 171 376 [some (.ref r), o1, o2, o3] (.ref r :: st) h Q := go_lo (E := (.aload_n 0, 0, 0, 0)) rfl rfl rfl
set_option maxRecDepth 30000 in
theorem s_171_376 : Go d 171 376 [o0, o1, o2, some (.int x)] (st) h Q = Go d 171 377 [o0, o1, o2, some (.int x)] (.int x :: st) h Q := go_lo (E := (.iload_n 3, 0, 0, 0)) rfl rfl rfl
set_option maxRecDepth 30000 in
theorem s_171_377 : Go d 171 377 L (st) h Q = Go d 171 378 L (.int (nI 2) :: st) h Q := go_ic rfl ci_i2
set_option maxRecDepth 30000 in
theorem s_171_378 : Go d 171 378 L (.int y :: .int x :: st) h Q = Go d 171 379 L (.int (x + y) :: st) h Q := go_op (E := (.iadd, 0, 0, 0)) rfl rfl
set_option maxRecDepth 30000 in
theorem s_171_379 : Go d 171 379 L (.int x :: .ref 0 :: st) (HP lx xs M) Q = (ex_in x lx = true ∧ Go d 171 380 L (.int (xs x.toNatClampNeg) :: st) (HP lx xs M) Q) := go_al rfl rfl
set_option maxRecDepth 30000 in
theorem s_171_380 {a1 : Int32} {a2 : Int32} {z0 : Int32} : Go (d + 1) 171 380 L [.int a2, .int a1, .ref 53, .int z0] (HP lx xs M) Q = Go d 127 0 [some (.ref 53), some (.int a1), some (.int a2)] [] (HP lx xs M) (fun v h2 => Go (d + 1) 171 383 L (ap v [.int z0]) h2 Q) := go_cx (E := (.invokevirtual 40, 127, 0, 7)) (k' := 127) (as := [.ref 53, .int a1, .int a2]) rfl rfl rfl rfl rfl rfl rfl rfl
set_option maxRecDepth 30000 in
theorem s_171_383 : Go d 171 383 L (.int y :: .int x :: st) h Q = (if x = y then Go d 171 1117 L st h Q else Go d 171 386 L st h Q) := go_iceq rfl
set_option maxRecDepth 30000 in
theorem s_171_386 : Go d 171 386 L (st) h Q = Go d 171 387 L (.int (nI 0) :: st) h Q := go_ic rfl ci_i0
set_option maxRecDepth 30000 in
theorem s_171_387_0 : Go d 171 387 L [.int (nI 0)] h Q = Q (some (.int (nI 0))) h := go_rz rfl rfl (by decide)
set_option maxRecDepth 30000 in
theorem s_171_387_1 : Go d 171 387 L [.int (nI 1)] h Q = Q (some (.int (nI 1))) h := go_rz rfl rfl (by decide)
set_option maxRecDepth 30000 in
theorem s_171_388 : Go d 171 388 [o0, some (.ref r), o2, o3] (st) h Q = Go d 171 389 [o0, some (.ref r), o2, o3] (.ref r :: st) h Q := go_lo (E := (.aload_n 1, 0, 0, 0)) rfl rfl rfl
set_option maxRecDepth 30000 in
theorem s_171_389 : Go d 171 389 [some (.ref r), o1, o2, o3] (st) h Q = Go d 171 390 [some (.ref r), o1, o2, o3] (.ref r :: st) h Q := go_lo (E := (.aload_n 0, 0, 0, 0)) rfl rfl rfl
set_option maxRecDepth 30000 in
theorem s_171_390 : Go d 171 390 [o0, o1, o2, some (.int x)] (st) h Q = Go d 171 391 [o0, o1, o2, some (.int x)] (.int x :: st) h Q := go_lo (E := (.iload_n 3, 0, 0, 0)) rfl rfl rfl
set_option maxRecDepth 30000 in
theorem s_171_391 : Go d 171 391 L (st) h Q = Go d 171 392 L (.int (nI 1) :: st) h Q := go_ic rfl ci_i1
set_option maxRecDepth 30000 in
theorem s_171_392 : Go d 171 392 L (.int y :: .int x :: st) h Q = Go d 171 393 L (.int (x + y) :: st) h Q := go_op (E := (.iadd, 0, 0, 0)) rfl rfl
set_option maxRecDepth 30000 in
theorem s_171_393 : Go d 171 393 L (.int x :: .ref 0 :: st) (HP lx xs M) Q = (ex_in x lx = true ∧ Go d 171 394 L (.int (xs x.toNatClampNeg) :: st) (HP lx xs M) Q) := go_al rfl rfl
set_option maxRecDepth 30000 in
theorem s_171_394 : Go d 171 394 L (.int x :: st) h Q = Go d 171 395 L (.long (x.toInt64) :: st) h Q := go_op (E := (.i2l, 0, 0, 0)) rfl rfl
set_option maxRecDepth 30000 in
theorem s_171_395 : Go d 171 395 L (st) h Q = Go d 171 397 L (.int (nI 32) :: st) h Q := go_bi rfl ci_b32
set_option maxRecDepth 30000 in
theorem s_171_397 : Go d 171 397 L (.int y :: .long u :: st) h Q = Go d 171 398 L (.long (u <<< (y.toInt64 &&& 63)) :: st) h Q := go_op (E := (.lshl, 0, 0, 0)) rfl rfl
set_option maxRecDepth 30000 in
theorem s_171_398 : Go d 171 398 [some (.ref r), o1, o2, o3] (st) h Q = Go d 171 399 [some (.ref r), o1, o2, o3] (.ref r :: st) h Q := go_lo (E := (.aload_n 0, 0, 0, 0)) rfl rfl rfl
set_option maxRecDepth 30000 in
theorem s_171_399 : Go d 171 399 [o0, o1, o2, some (.int x)] (st) h Q = Go d 171 400 [o0, o1, o2, some (.int x)] (.int x :: st) h Q := go_lo (E := (.iload_n 3, 0, 0, 0)) rfl rfl rfl
set_option maxRecDepth 30000 in
theorem s_171_400 : Go d 171 400 L (st) h Q = Go d 171 401 L (.int (nI 2) :: st) h Q := go_ic rfl ci_i2
set_option maxRecDepth 30000 in
theorem s_171_401 : Go d 171 401 L (.int y :: .int x :: st) h Q = Go d 171 402 L (.int (x + y) :: st) h Q := go_op (E := (.iadd, 0, 0, 0)) rfl rfl
set_option maxRecDepth 30000 in
theorem s_171_402 : Go d 171 402 L (.int x :: .ref 0 :: st) (HP lx xs M) Q = (ex_in x lx = true ∧ Go d 171 403 L (.int (xs x.toNatClampNeg) :: st) (HP lx xs M) Q) := go_al rfl rfl
set_option maxRecDepth 30000 in
theorem s_171_403 : Go d 171 403 L (.int x :: st) h Q = Go d 171 404 L (.long (x.toInt64) :: st) h Q := go_op (E := (.i2l, 0, 0, 0)) rfl rfl
set_option maxRecDepth 30000 in
theorem s_171_404 : Go d 171 404 L (st) h Q = Go d 171 407 L (.long (lN 4294967295) :: st) h Q := go_ld2 rfl ci_l4294967295
set_option maxRecDepth 30000 in
theorem s_171_407 : Go d 171 407 L (.long w :: .long u :: st) h Q = Go d 171 408 L (.long (u &&& w) :: st) h Q := go_op (E := (.land, 0, 0, 0)) rfl rfl
set_option maxRecDepth 30000 in
theorem s_171_408 : Go d 171 408 L (.long w :: .long u :: st) h Q = Go d 171 409 L (.long (u ||| w) :: st) h Q := go_op (E := (.lor, 0, 0, 0)) rfl rfl
set_option maxRecDepth 30000 in
theorem s_171_409 : Go d 171 409 [some (.ref r), o1, o2, o3] (st) h Q = Go d 171 410 [some (.ref r), o1, o2, o3] (.ref r :: st) h Q := go_lo (E := (.aload_n 0, 0, 0, 0)) rfl rfl rfl
set_option maxRecDepth 30000 in
theorem s_171_410 : Go d 171 410 [o0, o1, o2, some (.int x)] (st) h Q = Go d 171 411 [o0, o1, o2, some (.int x)] (.int x :: st) h Q := go_lo (E := (.iload_n 3, 0, 0, 0)) rfl rfl rfl
set_option maxRecDepth 30000 in
theorem s_171_411 : Go d 171 411 L (st) h Q = Go d 171 412 L (.int (nI 3) :: st) h Q := go_ic rfl ci_i3
set_option maxRecDepth 30000 in
theorem s_171_412 : Go d 171 412 L (.int y :: .int x :: st) h Q = Go d 171 413 L (.int (x + y) :: st) h Q := go_op (E := (.iadd, 0, 0, 0)) rfl rfl
set_option maxRecDepth 30000 in
theorem s_171_413 : Go d 171 413 L (.int x :: .ref 0 :: st) (HP lx xs M) Q = (ex_in x lx = true ∧ Go d 171 414 L (.int (xs x.toNatClampNeg) :: st) (HP lx xs M) Q) := go_al rfl rfl
set_option maxRecDepth 30000 in
theorem s_171_414 {a2 : Int32} {al1 : Int64} : Go (d + 1) 171 414 L [.int a2, .long al1, .ref 1] (HP lx xs M) Q = Go d 22 0 [some (.ref 1), some (.long al1), none, some (.int a2)] [] (HP lx xs M) (fun v h2 => Go (d + 1) 171 417 L (ap v []) h2 Q) := go_cx (E := (.invokevirtual 43, 22, 0, 6)) (k' := 22) (as := [.ref 1, .long al1, .int a2]) rfl rfl rfl rfl rfl rfl rfl rfl
set_option maxRecDepth 30000 in
theorem s_171_417 : Go d 171 417 [o0, o1, some (.ref r), o3] (st) h Q = Go d 171 418 [o0, o1, some (.ref r), o3] (.ref r :: st) h Q := go_lo (E := (.aload_n 2, 0, 0, 0)) rfl rfl rfl
set_option maxRecDepth 30000 in
theorem s_171_418 : Go d 171 418 [some (.ref r), o1, o2, o3] (st) h Q = Go d 171 419 [some (.ref r), o1, o2, o3] (.ref r :: st) h Q := go_lo (E := (.aload_n 0, 0, 0, 0)) rfl rfl rfl
set_option maxRecDepth 30000 in
theorem s_171_419 : Go d 171 419 [o0, o1, o2, some (.int x)] (st) h Q = Go d 171 420 [o0, o1, o2, some (.int x)] (.int x :: st) h Q := go_lo (E := (.iload_n 3, 0, 0, 0)) rfl rfl rfl
set_option maxRecDepth 30000 in
theorem s_171_420 : Go d 171 420 L (st) h Q = Go d 171 421 L (.int (nI 1) :: st) h Q := go_ic rfl ci_i1
set_option maxRecDepth 30000 in
theorem s_171_421 : Go d 171 421 L (.int y :: .int x :: st) h Q = Go d 171 422 L (.int (x + y) :: st) h Q := go_op (E := (.iadd, 0, 0, 0)) rfl rfl
set_option maxRecDepth 30000 in
theorem s_171_422 : Go d 171 422 L (.int x :: .ref 0 :: st) (HP lx xs M) Q = (ex_in x lx = true ∧ Go d 171 423 L (.int (xs x.toNatClampNeg) :: st) (HP lx xs M) Q) := go_al rfl rfl
set_option maxRecDepth 30000 in
theorem s_171_423 : Go d 171 423 L (.int x :: st) h Q = Go d 171 424 L (.long (x.toInt64) :: st) h Q := go_op (E := (.i2l, 0, 0, 0)) rfl rfl
set_option maxRecDepth 30000 in
theorem s_171_424 : Go d 171 424 L (st) h Q = Go d 171 426 L (.int (nI 32) :: st) h Q := go_bi rfl ci_b32
set_option maxRecDepth 30000 in
theorem s_171_426 : Go d 171 426 L (.int y :: .long u :: st) h Q = Go d 171 427 L (.long (u <<< (y.toInt64 &&& 63)) :: st) h Q := go_op (E := (.lshl, 0, 0, 0)) rfl rfl
set_option maxRecDepth 30000 in
theorem s_171_427 : Go d 171 427 [some (.ref r), o1, o2, o3] (st) h Q = Go d 171 428 [some (.ref r), o1, o2, o3] (.ref r :: st) h Q := go_lo (E := (.aload_n 0, 0, 0, 0)) rfl rfl rfl
set_option maxRecDepth 30000 in
theorem s_171_428 : Go d 171 428 [o0, o1, o2, some (.int x)] (st) h Q = Go d 171 429 [o0, o1, o2, some (.int x)] (.int x :: st) h Q := go_lo (E := (.iload_n 3, 0, 0, 0)) rfl rfl rfl
set_option maxRecDepth 30000 in
theorem s_171_429 : Go d 171 429 L (st) h Q = Go d 171 430 L (.int (nI 2) :: st) h Q := go_ic rfl ci_i2
set_option maxRecDepth 30000 in
theorem s_171_430 : Go d 171 430 L (.int y :: .int x :: st) h Q = Go d 171 431 L (.int (x + y) :: st) h Q := go_op (E := (.iadd, 0, 0, 0)) rfl rfl
set_option maxRecDepth 30000 in
theorem s_171_431 : Go d 171 431 L (.int x :: .ref 0 :: st) (HP lx xs M) Q = (ex_in x lx = true ∧ Go d 171 432 L (.int (xs x.toNatClampNeg) :: st) (HP lx xs M) Q) := go_al rfl rfl
set_option maxRecDepth 30000 in
theorem s_171_432 : Go d 171 432 L (.int x :: st) h Q = Go d 171 433 L (.long (x.toInt64) :: st) h Q := go_op (E := (.i2l, 0, 0, 0)) rfl rfl
set_option maxRecDepth 30000 in
theorem s_171_433 : Go d 171 433 L (st) h Q = Go d 171 436 L (.long (lN 4294967295) :: st) h Q := go_ld2 rfl ci_l4294967295
set_option maxRecDepth 30000 in
theorem s_171_436 : Go d 171 436 L (.long w :: .long u :: st) h Q = Go d 171 437 L (.long (u &&& w) :: st) h Q := go_op (E := (.land, 0, 0, 0)) rfl rfl
set_option maxRecDepth 30000 in
theorem s_171_437 : Go d 171 437 L (.long w :: .long u :: st) h Q = Go d 171 438 L (.long (u ||| w) :: st) h Q := go_op (E := (.lor, 0, 0, 0)) rfl rfl
set_option maxRecDepth 30000 in
theorem s_171_438 : Go d 171 438 [some (.ref r), o1, o2, o3] (st) h Q = Go d 171 439 [some (.ref r), o1, o2, o3] (.ref r :: st) h Q := go_lo (E := (.aload_n 0, 0, 0, 0)) rfl rfl rfl
set_option maxRecDepth 30000 in
theorem s_171_439 : Go d 171 439 [o0, o1, o2, some (.int x)] (st) h Q = Go d 171 440 [o0, o1, o2, some (.int x)] (.int x :: st) h Q := go_lo (E := (.iload_n 3, 0, 0, 0)) rfl rfl rfl
set_option maxRecDepth 30000 in
theorem s_171_440 : Go d 171 440 L (st) h Q = Go d 171 441 L (.int (nI 3) :: st) h Q := go_ic rfl ci_i3
set_option maxRecDepth 30000 in
theorem s_171_441 : Go d 171 441 L (.int y :: .int x :: st) h Q = Go d 171 442 L (.int (x + y) :: st) h Q := go_op (E := (.iadd, 0, 0, 0)) rfl rfl
set_option maxRecDepth 30000 in
theorem s_171_442 : Go d 171 442 L (.int x :: .ref 0 :: st) (HP lx xs M) Q = (ex_in x lx = true ∧ Go d 171 443 L (.int (xs x.toNatClampNeg) :: st) (HP lx xs M) Q) := go_al rfl rfl
set_option maxRecDepth 30000 in
theorem s_171_443 {a2 : Int32} {al1 : Int64} {z0 : Int32} : Go (d + 1) 171 443 L [.int a2, .long al1, .ref 53, .int z0] (HP lx xs M) Q = Go d 129 0 [some (.ref 53), some (.long al1), none, some (.int a2), none] [] (HP lx xs M) (fun v h2 => Go (d + 1) 171 446 L (ap v [.int z0]) h2 Q) := go_cx (E := (.invokevirtual 47, 129, 0, 7)) (k' := 129) (as := [.ref 53, .long al1, .int a2]) rfl rfl rfl rfl rfl rfl rfl rfl
set_option maxRecDepth 30000 in
theorem s_171_446 : Go d 171 446 L (.int y :: .int x :: st) h Q = (if x = y then Go d 171 1117 L st h Q else Go d 171 449 L st h Q) := go_iceq rfl
set_option maxRecDepth 30000 in
theorem s_171_449 : Go d 171 449 L (st) h Q = Go d 171 450 L (.int (nI 0) :: st) h Q := go_ic rfl ci_i0
set_option maxRecDepth 30000 in
theorem s_171_450_0 : Go d 171 450 L [.int (nI 0)] h Q = Q (some (.int (nI 0))) h := go_rz rfl rfl (by decide)
set_option maxRecDepth 30000 in
theorem s_171_450_1 : Go d 171 450 L [.int (nI 1)] h Q = Q (some (.int (nI 1))) h := go_rz rfl rfl (by decide)
set_option maxRecDepth 30000 in
theorem s_171_451 : Go d 171 451 [o0, some (.ref r), o2, o3] (st) h Q = Go d 171 452 [o0, some (.ref r), o2, o3] (.ref r :: st) h Q := go_lo (E := (.aload_n 1, 0, 0, 0)) rfl rfl rfl
set_option maxRecDepth 30000 in
theorem s_171_452  : Go (d + 1) 171 452 L [.ref 1] (HP lx xs M) Q = Go d 23 0 [some (.ref 1), none, none] [] (HP lx xs M) (fun v h2 => Go (d + 1) 171 455 L (ap v []) h2 Q) := go_cx (E := (.invokevirtual 48, 23, 0, 6)) (k' := 23) (as := [.ref 1]) rfl rfl rfl rfl rfl rfl rfl rfl
set_option maxRecDepth 30000 in
theorem s_171_455 : Go d 171 455 [o0, o1, some (.ref r), o3] (st) h Q = Go d 171 456 [o0, o1, some (.ref r), o3] (.ref r :: st) h Q := go_lo (E := (.aload_n 2, 0, 0, 0)) rfl rfl rfl
set_option maxRecDepth 30000 in
theorem s_171_456 {z0 : Int32} : Go (d + 1) 171 456 L [.ref 53, .int z0] (HP lx xs M) Q = Go d 133 0 [some (.ref 53), none, none, none] [] (HP lx xs M) (fun v h2 => Go (d + 1) 171 459 L (ap v [.int z0]) h2 Q) := go_cx (E := (.invokevirtual 52, 133, 0, 7)) (k' := 133) (as := [.ref 53]) rfl rfl rfl rfl rfl rfl rfl rfl
set_option maxRecDepth 30000 in
theorem s_171_459 : Go d 171 459 L (.int y :: .int x :: st) h Q = (if x = y then Go d 171 1117 L st h Q else Go d 171 462 L st h Q) := go_iceq rfl
set_option maxRecDepth 30000 in
theorem s_171_462 : Go d 171 462 L (st) h Q = Go d 171 463 L (.int (nI 0) :: st) h Q := go_ic rfl ci_i0
set_option maxRecDepth 30000 in
theorem s_171_463_0 : Go d 171 463 L [.int (nI 0)] h Q = Q (some (.int (nI 0))) h := go_rz rfl rfl (by decide)
set_option maxRecDepth 30000 in
theorem s_171_463_1 : Go d 171 463 L [.int (nI 1)] h Q = Q (some (.int (nI 1))) h := go_rz rfl rfl (by decide)
set_option maxRecDepth 30000 in
theorem s_171_464 : Go d 171 464 [o0, some (.ref r), o2, o3] (st) h Q = Go d 171 465 [o0, some (.ref r), o2, o3] (.ref r :: st) h Q := go_lo (E := (.aload_n 1, 0, 0, 0)) rfl rfl rfl
set_option maxRecDepth 30000 in
theorem s_171_465  : Go (d + 1) 171 465 L [.ref 1] (HP lx xs M) Q = Go d 24 0 [some (.ref 1), none] [] (HP lx xs M) (fun v h2 => Go (d + 1) 171 468 L (ap v []) h2 Q) := go_cx (E := (.invokevirtual 53, 24, 0, 6)) (k' := 24) (as := [.ref 1]) rfl rfl rfl rfl rfl rfl rfl rfl
set_option maxRecDepth 30000 in
theorem s_171_468 : Go d 171 468 [o0, o1, some (.ref r), o3] (st) h Q = Go d 171 469 [o0, o1, some (.ref r), o3] (.ref r :: st) h Q := go_lo (E := (.aload_n 2, 0, 0, 0)) rfl rfl rfl
set_option maxRecDepth 30000 in
theorem s_171_469 {z0 : Int32} : Go (d + 1) 171 469 L [.ref 53, .int z0] (HP lx xs M) Q = Go d 136 0 [some (.ref 53), none, none] [] (HP lx xs M) (fun v h2 => Go (d + 1) 171 472 L (ap v [.int z0]) h2 Q) := go_cx (E := (.invokevirtual 56, 136, 0, 7)) (k' := 136) (as := [.ref 53]) rfl rfl rfl rfl rfl rfl rfl rfl
set_option maxRecDepth 30000 in
theorem s_171_472 : Go d 171 472 L (.int y :: .int x :: st) h Q = (if x = y then Go d 171 1117 L st h Q else Go d 171 475 L st h Q) := go_iceq rfl
set_option maxRecDepth 30000 in
theorem s_171_475 : Go d 171 475 L (st) h Q = Go d 171 476 L (.int (nI 0) :: st) h Q := go_ic rfl ci_i0
set_option maxRecDepth 30000 in
theorem s_171_476_0 : Go d 171 476 L [.int (nI 0)] h Q = Q (some (.int (nI 0))) h := go_rz rfl rfl (by decide)
set_option maxRecDepth 30000 in
theorem s_171_476_1 : Go d 171 476 L [.int (nI 1)] h Q = Q (some (.int (nI 1))) h := go_rz rfl rfl (by decide)
set_option maxRecDepth 30000 in
theorem s_171_477 : Go d 171 477 [o0, some (.ref r), o2, o3] (st) h Q = Go d 171 478 [o0, some (.ref r), o2, o3] (.ref r :: st) h Q := go_lo (E := (.aload_n 1, 0, 0, 0)) rfl rfl rfl
set_option maxRecDepth 30000 in
theorem s_171_478 : Go d 171 478 [some (.ref r), o1, o2, o3] (st) h Q = Go d 171 479 [some (.ref r), o1, o2, o3] (.ref r :: st) h Q := go_lo (E := (.aload_n 0, 0, 0, 0)) rfl rfl rfl
set_option maxRecDepth 30000 in
theorem s_171_479 : Go d 171 479 [o0, o1, o2, some (.int x)] (st) h Q = Go d 171 480 [o0, o1, o2, some (.int x)] (.int x :: st) h Q := go_lo (E := (.iload_n 3, 0, 0, 0)) rfl rfl rfl
set_option maxRecDepth 30000 in
theorem s_171_480 : Go d 171 480 L (st) h Q = Go d 171 481 L (.int (nI 1) :: st) h Q := go_ic rfl ci_i1
set_option maxRecDepth 30000 in
theorem s_171_481 : Go d 171 481 L (.int y :: .int x :: st) h Q = Go d 171 482 L (.int (x + y) :: st) h Q := go_op (E := (.iadd, 0, 0, 0)) rfl rfl
set_option maxRecDepth 30000 in
theorem s_171_482 : Go d 171 482 L (.int x :: .ref 0 :: st) (HP lx xs M) Q = (ex_in x lx = true ∧ Go d 171 483 L (.int (xs x.toNatClampNeg) :: st) (HP lx xs M) Q) := go_al rfl rfl
set_option maxRecDepth 30000 in
theorem s_171_483 {a1 : Int32} : Go (d + 1) 171 483 L [.int a1, .ref 1] (HP lx xs M) Q = Go d 25 0 [some (.ref 1), some (.int a1)] [] (HP lx xs M) (fun v h2 => Go (d + 1) 171 486 L (ap v []) h2 Q) := go_cx (E := (.invokevirtual 57, 25, 0, 6)) (k' := 25) (as := [.ref 1, .int a1]) rfl rfl rfl rfl rfl rfl rfl rfl
set_option maxRecDepth 30000 in
theorem s_171_486 : Go d 171 486 [o0, o1, some (.ref r), o3] (st) h Q = Go d 171 487 [o0, o1, some (.ref r), o3] (.ref r :: st) h Q := go_lo (E := (.aload_n 2, 0, 0, 0)) rfl rfl rfl
set_option maxRecDepth 30000 in
theorem s_171_487 : Go d 171 487 [some (.ref r), o1, o2, o3] (st) h Q = Go d 171 488 [some (.ref r), o1, o2, o3] (.ref r :: st) h Q := go_lo (E := (.aload_n 0, 0, 0, 0)) rfl rfl rfl
set_option maxRecDepth 30000 in
theorem s_171_488 : Go d 171 488 [o0, o1, o2, some (.int x)] (st) h Q = Go d 171 489 [o0, o1, o2, some (.int x)] (.int x :: st) h Q := go_lo (E := (.iload_n 3, 0, 0, 0)) rfl rfl rfl
set_option maxRecDepth 30000 in
theorem s_171_489 : Go d 171 489 L (st) h Q = Go d 171 490 L (.int (nI 1) :: st) h Q := go_ic rfl ci_i1
set_option maxRecDepth 30000 in
theorem s_171_490 : Go d 171 490 L (.int y :: .int x :: st) h Q = Go d 171 491 L (.int (x + y) :: st) h Q := go_op (E := (.iadd, 0, 0, 0)) rfl rfl
set_option maxRecDepth 30000 in
theorem s_171_491 : Go d 171 491 L (.int x :: .ref 0 :: st) (HP lx xs M) Q = (ex_in x lx = true ∧ Go d 171 492 L (.int (xs x.toNatClampNeg) :: st) (HP lx xs M) Q) := go_al rfl rfl
set_option maxRecDepth 30000 in
theorem s_171_492 {a1 : Int32} {z0 : Int32} : Go (d + 1) 171 492 L [.int a1, .ref 53, .int z0] (HP lx xs M) Q = Go d 128 0 [some (.ref 53), some (.int a1), none, none, none] [] (HP lx xs M) (fun v h2 => Go (d + 1) 171 495 L (ap v [.int z0]) h2 Q) := go_cx (E := (.invokevirtual 60, 128, 0, 7)) (k' := 128) (as := [.ref 53, .int a1]) rfl rfl rfl rfl rfl rfl rfl rfl
set_option maxRecDepth 30000 in
theorem s_171_495 : Go d 171 495 L (.int y :: .int x :: st) h Q = (if x = y then Go d 171 1117 L st h Q else Go d 171 498 L st h Q) := go_iceq rfl
set_option maxRecDepth 30000 in
theorem s_171_498 : Go d 171 498 L (st) h Q = Go d 171 499 L (.int (nI 0) :: st) h Q := go_ic rfl ci_i0
set_option maxRecDepth 30000 in
theorem s_171_499_0 : Go d 171 499 L [.int (nI 0)] h Q = Q (some (.int (nI 0))) h := go_rz rfl rfl (by decide)
set_option maxRecDepth 30000 in
theorem s_171_499_1 : Go d 171 499 L [.int (nI 1)] h Q = Q (some (.int (nI 1))) h := go_rz rfl rfl (by decide)
set_option maxRecDepth 30000 in
theorem s_171_500 : Go d 171 500 [o0, some (.ref r), o2, o3] (st) h Q = Go d 171 501 [o0, some (.ref r), o2, o3] (.ref r :: st) h Q := go_lo (E := (.aload_n 1, 0, 0, 0)) rfl rfl rfl
set_option maxRecDepth 30000 in
theorem s_171_501 : Go d 171 501 [some (.ref r), o1, o2, o3] (st) h Q = Go d 171 502 [some (.ref r), o1, o2, o3] (.ref r :: st) h Q := go_lo (E := (.aload_n 0, 0, 0, 0)) rfl rfl rfl
set_option maxRecDepth 30000 in
theorem s_171_502 : Go d 171 502 [o0, o1, o2, some (.int x)] (st) h Q = Go d 171 503 [o0, o1, o2, some (.int x)] (.int x :: st) h Q := go_lo (E := (.iload_n 3, 0, 0, 0)) rfl rfl rfl
set_option maxRecDepth 30000 in
theorem s_171_503 : Go d 171 503 L (st) h Q = Go d 171 504 L (.int (nI 1) :: st) h Q := go_ic rfl ci_i1
set_option maxRecDepth 30000 in
theorem s_171_504 : Go d 171 504 L (.int y :: .int x :: st) h Q = Go d 171 505 L (.int (x + y) :: st) h Q := go_op (E := (.iadd, 0, 0, 0)) rfl rfl
set_option maxRecDepth 30000 in
theorem s_171_505 : Go d 171 505 L (.int x :: .ref 0 :: st) (HP lx xs M) Q = (ex_in x lx = true ∧ Go d 171 506 L (.int (xs x.toNatClampNeg) :: st) (HP lx xs M) Q) := go_al rfl rfl
set_option maxRecDepth 30000 in
theorem s_171_506 : Go d 171 506 [some (.ref r), o1, o2, o3] (st) h Q = Go d 171 507 [some (.ref r), o1, o2, o3] (.ref r :: st) h Q := go_lo (E := (.aload_n 0, 0, 0, 0)) rfl rfl rfl
set_option maxRecDepth 30000 in
theorem s_171_507 : Go d 171 507 [o0, o1, o2, some (.int x)] (st) h Q = Go d 171 508 [o0, o1, o2, some (.int x)] (.int x :: st) h Q := go_lo (E := (.iload_n 3, 0, 0, 0)) rfl rfl rfl
set_option maxRecDepth 30000 in
theorem s_171_508 : Go d 171 508 L (st) h Q = Go d 171 509 L (.int (nI 2) :: st) h Q := go_ic rfl ci_i2
set_option maxRecDepth 30000 in
theorem s_171_509 : Go d 171 509 L (.int y :: .int x :: st) h Q = Go d 171 510 L (.int (x + y) :: st) h Q := go_op (E := (.iadd, 0, 0, 0)) rfl rfl
set_option maxRecDepth 30000 in
theorem s_171_510 : Go d 171 510 L (.int x :: .ref 0 :: st) (HP lx xs M) Q = (ex_in x lx = true ∧ Go d 171 511 L (.int (xs x.toNatClampNeg) :: st) (HP lx xs M) Q) := go_al rfl rfl
set_option maxRecDepth 30000 in
theorem s_171_511 : Go d 171 511 [some (.ref r), o1, o2, o3] (st) h Q = Go d 171 512 [some (.ref r), o1, o2, o3] (.ref r :: st) h Q := go_lo (E := (.aload_n 0, 0, 0, 0)) rfl rfl rfl
set_option maxRecDepth 30000 in
theorem s_171_512 : Go d 171 512 [o0, o1, o2, some (.int x)] (st) h Q = Go d 171 513 [o0, o1, o2, some (.int x)] (.int x :: st) h Q := go_lo (E := (.iload_n 3, 0, 0, 0)) rfl rfl rfl
set_option maxRecDepth 30000 in
theorem s_171_513 : Go d 171 513 L (st) h Q = Go d 171 514 L (.int (nI 3) :: st) h Q := go_ic rfl ci_i3
set_option maxRecDepth 30000 in
theorem s_171_514 : Go d 171 514 L (.int y :: .int x :: st) h Q = Go d 171 515 L (.int (x + y) :: st) h Q := go_op (E := (.iadd, 0, 0, 0)) rfl rfl
set_option maxRecDepth 30000 in
theorem s_171_515 : Go d 171 515 L (.int x :: .ref 0 :: st) (HP lx xs M) Q = (ex_in x lx = true ∧ Go d 171 516 L (.int (xs x.toNatClampNeg) :: st) (HP lx xs M) Q) := go_al rfl rfl
set_option maxRecDepth 30000 in
theorem s_171_516 {a1 : Int32} {a2 : Int32} {a3 : Int32} : Go (d + 1) 171 516 L [.int a3, .int a2, .int a1, .ref 1] (HP lx xs M) Q = Go d 26 0 [some (.ref 1), some (.int a1), some (.int a2), some (.int a3)] [] (HP lx xs M) (fun v h2 => Go (d + 1) 171 519 L (ap v []) h2 Q) := go_cx (E := (.invokevirtual 61, 26, 0, 6)) (k' := 26) (as := [.ref 1, .int a1, .int a2, .int a3]) rfl rfl rfl rfl rfl rfl rfl rfl
set_option maxRecDepth 30000 in
theorem s_171_519 : Go d 171 519 [o0, o1, some (.ref r), o3] (st) h Q = Go d 171 520 [o0, o1, some (.ref r), o3] (.ref r :: st) h Q := go_lo (E := (.aload_n 2, 0, 0, 0)) rfl rfl rfl
set_option maxRecDepth 30000 in
theorem s_171_520 : Go d 171 520 [some (.ref r), o1, o2, o3] (st) h Q = Go d 171 521 [some (.ref r), o1, o2, o3] (.ref r :: st) h Q := go_lo (E := (.aload_n 0, 0, 0, 0)) rfl rfl rfl
set_option maxRecDepth 30000 in
theorem s_171_521 : Go d 171 521 [o0, o1, o2, some (.int x)] (st) h Q = Go d 171 522 [o0, o1, o2, some (.int x)] (.int x :: st) h Q := go_lo (E := (.iload_n 3, 0, 0, 0)) rfl rfl rfl
set_option maxRecDepth 30000 in
theorem s_171_522 : Go d 171 522 L (st) h Q = Go d 171 523 L (.int (nI 1) :: st) h Q := go_ic rfl ci_i1
set_option maxRecDepth 30000 in
theorem s_171_523 : Go d 171 523 L (.int y :: .int x :: st) h Q = Go d 171 524 L (.int (x + y) :: st) h Q := go_op (E := (.iadd, 0, 0, 0)) rfl rfl
set_option maxRecDepth 30000 in
theorem s_171_524 : Go d 171 524 L (.int x :: .ref 0 :: st) (HP lx xs M) Q = (ex_in x lx = true ∧ Go d 171 525 L (.int (xs x.toNatClampNeg) :: st) (HP lx xs M) Q) := go_al rfl rfl
set_option maxRecDepth 30000 in
theorem s_171_525 : Go d 171 525 [some (.ref r), o1, o2, o3] (st) h Q = Go d 171 526 [some (.ref r), o1, o2, o3] (.ref r :: st) h Q := go_lo (E := (.aload_n 0, 0, 0, 0)) rfl rfl rfl
set_option maxRecDepth 30000 in
theorem s_171_526 : Go d 171 526 [o0, o1, o2, some (.int x)] (st) h Q = Go d 171 527 [o0, o1, o2, some (.int x)] (.int x :: st) h Q := go_lo (E := (.iload_n 3, 0, 0, 0)) rfl rfl rfl
set_option maxRecDepth 30000 in
theorem s_171_527 : Go d 171 527 L (st) h Q = Go d 171 528 L (.int (nI 2) :: st) h Q := go_ic rfl ci_i2
set_option maxRecDepth 30000 in
theorem s_171_528 : Go d 171 528 L (.int y :: .int x :: st) h Q = Go d 171 529 L (.int (x + y) :: st) h Q := go_op (E := (.iadd, 0, 0, 0)) rfl rfl
set_option maxRecDepth 30000 in
theorem s_171_529 : Go d 171 529 L (.int x :: .ref 0 :: st) (HP lx xs M) Q = (ex_in x lx = true ∧ Go d 171 530 L (.int (xs x.toNatClampNeg) :: st) (HP lx xs M) Q) := go_al rfl rfl
set_option maxRecDepth 30000 in
theorem s_171_530 : Go d 171 530 [some (.ref r), o1, o2, o3] (st) h Q = Go d 171 531 [some (.ref r), o1, o2, o3] (.ref r :: st) h Q := go_lo (E := (.aload_n 0, 0, 0, 0)) rfl rfl rfl
set_option maxRecDepth 30000 in
theorem s_171_531 : Go d 171 531 [o0, o1, o2, some (.int x)] (st) h Q = Go d 171 532 [o0, o1, o2, some (.int x)] (.int x :: st) h Q := go_lo (E := (.iload_n 3, 0, 0, 0)) rfl rfl rfl
set_option maxRecDepth 30000 in
theorem s_171_532 : Go d 171 532 L (st) h Q = Go d 171 533 L (.int (nI 3) :: st) h Q := go_ic rfl ci_i3
set_option maxRecDepth 30000 in
theorem s_171_533 : Go d 171 533 L (.int y :: .int x :: st) h Q = Go d 171 534 L (.int (x + y) :: st) h Q := go_op (E := (.iadd, 0, 0, 0)) rfl rfl
set_option maxRecDepth 30000 in
theorem s_171_534 : Go d 171 534 L (.int x :: .ref 0 :: st) (HP lx xs M) Q = (ex_in x lx = true ∧ Go d 171 535 L (.int (xs x.toNatClampNeg) :: st) (HP lx xs M) Q) := go_al rfl rfl
set_option maxRecDepth 30000 in
theorem s_171_535 {a1 : Int32} {a2 : Int32} {a3 : Int32} {z0 : Int32} : Go (d + 1) 171 535 L [.int a3, .int a2, .int a1, .ref 53, .int z0] (HP lx xs M) Q = Go d 139 0 [some (.ref 53), some (.int a1), some (.int a2), some (.int a3)] [] (HP lx xs M) (fun v h2 => Go (d + 1) 171 538 L (ap v [.int z0]) h2 Q) := go_cx (E := (.invokevirtual 64, 139, 0, 7)) (k' := 139) (as := [.ref 53, .int a1, .int a2, .int a3]) rfl rfl rfl rfl rfl rfl rfl rfl
set_option maxRecDepth 30000 in
theorem s_171_538 : Go d 171 538 L (.int y :: .int x :: st) h Q = (if x = y then Go d 171 1117 L st h Q else Go d 171 541 L st h Q) := go_iceq rfl
set_option maxRecDepth 30000 in
theorem s_171_541 : Go d 171 541 L (st) h Q = Go d 171 542 L (.int (nI 0) :: st) h Q := go_ic rfl ci_i0
set_option maxRecDepth 30000 in
theorem s_171_542_0 : Go d 171 542 L [.int (nI 0)] h Q = Q (some (.int (nI 0))) h := go_rz rfl rfl (by decide)
set_option maxRecDepth 30000 in
theorem s_171_542_1 : Go d 171 542 L [.int (nI 1)] h Q = Q (some (.int (nI 1))) h := go_rz rfl rfl (by decide)
set_option maxRecDepth 30000 in
theorem s_171_543 : Go d 171 543 [o0, some (.ref r), o2, o3] (st) h Q = Go d 171 544 [o0, some (.ref r), o2, o3] (.ref r :: st) h Q := go_lo (E := (.aload_n 1, 0, 0, 0)) rfl rfl rfl
set_option maxRecDepth 30000 in
theorem s_171_544 : Go d 171 544 [some (.ref r), o1, o2, o3] (st) h Q = Go d 171 545 [some (.ref r), o1, o2, o3] (.ref r :: st) h Q := go_lo (E := (.aload_n 0, 0, 0, 0)) rfl rfl rfl
set_option maxRecDepth 30000 in
theorem s_171_545 : Go d 171 545 [o0, o1, o2, some (.int x)] (st) h Q = Go d 171 546 [o0, o1, o2, some (.int x)] (.int x :: st) h Q := go_lo (E := (.iload_n 3, 0, 0, 0)) rfl rfl rfl
set_option maxRecDepth 30000 in
theorem s_171_546 : Go d 171 546 L (st) h Q = Go d 171 547 L (.int (nI 1) :: st) h Q := go_ic rfl ci_i1
set_option maxRecDepth 30000 in
theorem s_171_547 : Go d 171 547 L (.int y :: .int x :: st) h Q = Go d 171 548 L (.int (x + y) :: st) h Q := go_op (E := (.iadd, 0, 0, 0)) rfl rfl
set_option maxRecDepth 30000 in
theorem s_171_548 : Go d 171 548 L (.int x :: .ref 0 :: st) (HP lx xs M) Q = (ex_in x lx = true ∧ Go d 171 549 L (.int (xs x.toNatClampNeg) :: st) (HP lx xs M) Q) := go_al rfl rfl
set_option maxRecDepth 30000 in
theorem s_171_549 : Go d 171 549 [some (.ref r), o1, o2, o3] (st) h Q = Go d 171 550 [some (.ref r), o1, o2, o3] (.ref r :: st) h Q := go_lo (E := (.aload_n 0, 0, 0, 0)) rfl rfl rfl
set_option maxRecDepth 30000 in
theorem s_171_550 : Go d 171 550 [o0, o1, o2, some (.int x)] (st) h Q = Go d 171 551 [o0, o1, o2, some (.int x)] (.int x :: st) h Q := go_lo (E := (.iload_n 3, 0, 0, 0)) rfl rfl rfl
set_option maxRecDepth 30000 in
theorem s_171_551 : Go d 171 551 L (st) h Q = Go d 171 552 L (.int (nI 2) :: st) h Q := go_ic rfl ci_i2
set_option maxRecDepth 30000 in
theorem s_171_552 : Go d 171 552 L (.int y :: .int x :: st) h Q = Go d 171 553 L (.int (x + y) :: st) h Q := go_op (E := (.iadd, 0, 0, 0)) rfl rfl
set_option maxRecDepth 30000 in
theorem s_171_553 : Go d 171 553 L (.int x :: .ref 0 :: st) (HP lx xs M) Q = (ex_in x lx = true ∧ Go d 171 554 L (.int (xs x.toNatClampNeg) :: st) (HP lx xs M) Q) := go_al rfl rfl
set_option maxRecDepth 30000 in
theorem s_171_554 : Go d 171 554 [some (.ref r), o1, o2, o3] (st) h Q = Go d 171 555 [some (.ref r), o1, o2, o3] (.ref r :: st) h Q := go_lo (E := (.aload_n 0, 0, 0, 0)) rfl rfl rfl
set_option maxRecDepth 30000 in
theorem s_171_555 : Go d 171 555 [o0, o1, o2, some (.int x)] (st) h Q = Go d 171 556 [o0, o1, o2, some (.int x)] (.int x :: st) h Q := go_lo (E := (.iload_n 3, 0, 0, 0)) rfl rfl rfl
set_option maxRecDepth 30000 in
theorem s_171_556 : Go d 171 556 L (st) h Q = Go d 171 557 L (.int (nI 3) :: st) h Q := go_ic rfl ci_i3
set_option maxRecDepth 30000 in
theorem s_171_557 : Go d 171 557 L (.int y :: .int x :: st) h Q = Go d 171 558 L (.int (x + y) :: st) h Q := go_op (E := (.iadd, 0, 0, 0)) rfl rfl
set_option maxRecDepth 30000 in
theorem s_171_558 : Go d 171 558 L (.int x :: .ref 0 :: st) (HP lx xs M) Q = (ex_in x lx = true ∧ Go d 171 559 L (.int (xs x.toNatClampNeg) :: st) (HP lx xs M) Q) := go_al rfl rfl
set_option maxRecDepth 30000 in
theorem s_171_559 {a1 : Int32} {a2 : Int32} {a3 : Int32} : Go (d + 1) 171 559 L [.int a3, .int a2, .int a1, .ref 1] (HP lx xs M) Q = Go d 27 0 [some (.ref 1), some (.int a1), some (.int a2), some (.int a3), none] [] (HP lx xs M) (fun v h2 => Go (d + 1) 171 562 L (ap v []) h2 Q) := go_cx (E := (.invokevirtual 65, 27, 0, 6)) (k' := 27) (as := [.ref 1, .int a1, .int a2, .int a3]) rfl rfl rfl rfl rfl rfl rfl rfl
set_option maxRecDepth 30000 in
theorem s_171_562 : Go d 171 562 [o0, o1, some (.ref r), o3] (st) h Q = Go d 171 563 [o0, o1, some (.ref r), o3] (.ref r :: st) h Q := go_lo (E := (.aload_n 2, 0, 0, 0)) rfl rfl rfl
set_option maxRecDepth 30000 in
theorem s_171_563 : Go d 171 563 [some (.ref r), o1, o2, o3] (st) h Q = Go d 171 564 [some (.ref r), o1, o2, o3] (.ref r :: st) h Q := go_lo (E := (.aload_n 0, 0, 0, 0)) rfl rfl rfl
set_option maxRecDepth 30000 in
theorem s_171_564 : Go d 171 564 [o0, o1, o2, some (.int x)] (st) h Q = Go d 171 565 [o0, o1, o2, some (.int x)] (.int x :: st) h Q := go_lo (E := (.iload_n 3, 0, 0, 0)) rfl rfl rfl
set_option maxRecDepth 30000 in
theorem s_171_565 : Go d 171 565 L (st) h Q = Go d 171 566 L (.int (nI 1) :: st) h Q := go_ic rfl ci_i1
set_option maxRecDepth 30000 in
theorem s_171_566 : Go d 171 566 L (.int y :: .int x :: st) h Q = Go d 171 567 L (.int (x + y) :: st) h Q := go_op (E := (.iadd, 0, 0, 0)) rfl rfl
set_option maxRecDepth 30000 in
theorem s_171_567 : Go d 171 567 L (.int x :: .ref 0 :: st) (HP lx xs M) Q = (ex_in x lx = true ∧ Go d 171 568 L (.int (xs x.toNatClampNeg) :: st) (HP lx xs M) Q) := go_al rfl rfl
set_option maxRecDepth 30000 in
theorem s_171_568 : Go d 171 568 [some (.ref r), o1, o2, o3] (st) h Q = Go d 171 569 [some (.ref r), o1, o2, o3] (.ref r :: st) h Q := go_lo (E := (.aload_n 0, 0, 0, 0)) rfl rfl rfl
set_option maxRecDepth 30000 in
theorem s_171_569 : Go d 171 569 [o0, o1, o2, some (.int x)] (st) h Q = Go d 171 570 [o0, o1, o2, some (.int x)] (.int x :: st) h Q := go_lo (E := (.iload_n 3, 0, 0, 0)) rfl rfl rfl
set_option maxRecDepth 30000 in
theorem s_171_570 : Go d 171 570 L (st) h Q = Go d 171 571 L (.int (nI 2) :: st) h Q := go_ic rfl ci_i2
set_option maxRecDepth 30000 in
theorem s_171_571 : Go d 171 571 L (.int y :: .int x :: st) h Q = Go d 171 572 L (.int (x + y) :: st) h Q := go_op (E := (.iadd, 0, 0, 0)) rfl rfl
set_option maxRecDepth 30000 in
theorem s_171_572 : Go d 171 572 L (.int x :: .ref 0 :: st) (HP lx xs M) Q = (ex_in x lx = true ∧ Go d 171 573 L (.int (xs x.toNatClampNeg) :: st) (HP lx xs M) Q) := go_al rfl rfl
set_option maxRecDepth 30000 in
theorem s_171_573 : Go d 171 573 [some (.ref r), o1, o2, o3] (st) h Q = Go d 171 574 [some (.ref r), o1, o2, o3] (.ref r :: st) h Q := go_lo (E := (.aload_n 0, 0, 0, 0)) rfl rfl rfl
set_option maxRecDepth 30000 in
theorem s_171_574 : Go d 171 574 [o0, o1, o2, some (.int x)] (st) h Q = Go d 171 575 [o0, o1, o2, some (.int x)] (.int x :: st) h Q := go_lo (E := (.iload_n 3, 0, 0, 0)) rfl rfl rfl
set_option maxRecDepth 30000 in
theorem s_171_575 : Go d 171 575 L (st) h Q = Go d 171 576 L (.int (nI 3) :: st) h Q := go_ic rfl ci_i3
set_option maxRecDepth 30000 in
theorem s_171_576 : Go d 171 576 L (.int y :: .int x :: st) h Q = Go d 171 577 L (.int (x + y) :: st) h Q := go_op (E := (.iadd, 0, 0, 0)) rfl rfl
set_option maxRecDepth 30000 in
theorem s_171_577 : Go d 171 577 L (.int x :: .ref 0 :: st) (HP lx xs M) Q = (ex_in x lx = true ∧ Go d 171 578 L (.int (xs x.toNatClampNeg) :: st) (HP lx xs M) Q) := go_al rfl rfl
set_option maxRecDepth 30000 in
theorem s_171_578 {a1 : Int32} {a2 : Int32} {a3 : Int32} {z0 : Int32} : Go (d + 1) 171 578 L [.int a3, .int a2, .int a1, .ref 53, .int z0] (HP lx xs M) Q = Go d 140 0 [some (.ref 53), some (.int a1), some (.int a2), some (.int a3)] [] (HP lx xs M) (fun v h2 => Go (d + 1) 171 581 L (ap v [.int z0]) h2 Q) := go_cx (E := (.invokevirtual 68, 140, 0, 7)) (k' := 140) (as := [.ref 53, .int a1, .int a2, .int a3]) rfl rfl rfl rfl rfl rfl rfl rfl
set_option maxRecDepth 30000 in
theorem s_171_581 : Go d 171 581 L (.int y :: .int x :: st) h Q = (if x = y then Go d 171 1117 L st h Q else Go d 171 584 L st h Q) := go_iceq rfl
set_option maxRecDepth 30000 in
theorem s_171_584 : Go d 171 584 L (st) h Q = Go d 171 585 L (.int (nI 0) :: st) h Q := go_ic rfl ci_i0
set_option maxRecDepth 30000 in
theorem s_171_585_0 : Go d 171 585 L [.int (nI 0)] h Q = Q (some (.int (nI 0))) h := go_rz rfl rfl (by decide)
set_option maxRecDepth 30000 in
theorem s_171_585_1 : Go d 171 585 L [.int (nI 1)] h Q = Q (some (.int (nI 1))) h := go_rz rfl rfl (by decide)
set_option maxRecDepth 30000 in
theorem s_171_586 : Go d 171 586 [o0, some (.ref r), o2, o3] (st) h Q = Go d 171 587 [o0, some (.ref r), o2, o3] (.ref r :: st) h Q := go_lo (E := (.aload_n 1, 0, 0, 0)) rfl rfl rfl
set_option maxRecDepth 30000 in
theorem s_171_587  : Go (d + 1) 171 587 L [.ref 1] (HP lx xs M) Q = Go d 28 0 [some (.ref 1)] [] (HP lx xs M) (fun v h2 => Go (d + 1) 171 590 L (ap v []) h2 Q) := go_cx (E := (.invokevirtual 69, 28, 0, 6)) (k' := 28) (as := [.ref 1]) rfl rfl rfl rfl rfl rfl rfl rfl
set_option maxRecDepth 30000 in
theorem s_171_590 : Go d 171 590 [o0, o1, some (.ref r), o3] (st) h Q = Go d 171 591 [o0, o1, some (.ref r), o3] (.ref r :: st) h Q := go_lo (E := (.aload_n 2, 0, 0, 0)) rfl rfl rfl
set_option maxRecDepth 30000 in
theorem s_171_591 {z0 : Int32} : Go (d + 1) 171 591 L [.ref 53, .int z0] (HP lx xs M) Q = Go d 141 0 [some (.ref 53), none, none, none] [] (HP lx xs M) (fun v h2 => Go (d + 1) 171 594 L (ap v [.int z0]) h2 Q) := go_cx (E := (.invokevirtual 72, 141, 0, 7)) (k' := 141) (as := [.ref 53]) rfl rfl rfl rfl rfl rfl rfl rfl
set_option maxRecDepth 30000 in
theorem s_171_594 : Go d 171 594 L (.int y :: .int x :: st) h Q = (if x = y then Go d 171 1117 L st h Q else Go d 171 597 L st h Q) := go_iceq rfl
set_option maxRecDepth 30000 in
theorem s_171_597 : Go d 171 597 L (st) h Q = Go d 171 598 L (.int (nI 0) :: st) h Q := go_ic rfl ci_i0
set_option maxRecDepth 30000 in
theorem s_171_598_0 : Go d 171 598 L [.int (nI 0)] h Q = Q (some (.int (nI 0))) h := go_rz rfl rfl (by decide)
set_option maxRecDepth 30000 in
theorem s_171_598_1 : Go d 171 598 L [.int (nI 1)] h Q = Q (some (.int (nI 1))) h := go_rz rfl rfl (by decide)
set_option maxRecDepth 30000 in
theorem s_171_599 : Go d 171 599 [o0, some (.ref r), o2, o3] (st) h Q = Go d 171 600 [o0, some (.ref r), o2, o3] (.ref r :: st) h Q := go_lo (E := (.aload_n 1, 0, 0, 0)) rfl rfl rfl
set_option maxRecDepth 30000 in
theorem s_171_600 : Go d 171 600 [some (.ref r), o1, o2, o3] (st) h Q = Go d 171 601 [some (.ref r), o1, o2, o3] (.ref r :: st) h Q := go_lo (E := (.aload_n 0, 0, 0, 0)) rfl rfl rfl
set_option maxRecDepth 30000 in
theorem s_171_601 : Go d 171 601 [o0, o1, o2, some (.int x)] (st) h Q = Go d 171 602 [o0, o1, o2, some (.int x)] (.int x :: st) h Q := go_lo (E := (.iload_n 3, 0, 0, 0)) rfl rfl rfl
set_option maxRecDepth 30000 in
theorem s_171_602 : Go d 171 602 L (st) h Q = Go d 171 603 L (.int (nI 1) :: st) h Q := go_ic rfl ci_i1
set_option maxRecDepth 30000 in
theorem s_171_603 : Go d 171 603 L (.int y :: .int x :: st) h Q = Go d 171 604 L (.int (x + y) :: st) h Q := go_op (E := (.iadd, 0, 0, 0)) rfl rfl
set_option maxRecDepth 30000 in
theorem s_171_604 : Go d 171 604 L (.int x :: .ref 0 :: st) (HP lx xs M) Q = (ex_in x lx = true ∧ Go d 171 605 L (.int (xs x.toNatClampNeg) :: st) (HP lx xs M) Q) := go_al rfl rfl
set_option maxRecDepth 30000 in
theorem s_171_605 {a1 : Int32} : Go (d + 1) 171 605 L [.int a1, .ref 1] (HP lx xs M) Q = Go d 29 0 [some (.ref 1), some (.int a1)] [] (HP lx xs M) (fun v h2 => Go (d + 1) 171 608 L (ap v []) h2 Q) := go_cx (E := (.invokevirtual 73, 29, 0, 6)) (k' := 29) (as := [.ref 1, .int a1]) rfl rfl rfl rfl rfl rfl rfl rfl
set_option maxRecDepth 30000 in
theorem s_171_608 : Go d 171 608 [o0, o1, some (.ref r), o3] (st) h Q = Go d 171 609 [o0, o1, some (.ref r), o3] (.ref r :: st) h Q := go_lo (E := (.aload_n 2, 0, 0, 0)) rfl rfl rfl
set_option maxRecDepth 30000 in
theorem s_171_609 : Go d 171 609 [some (.ref r), o1, o2, o3] (st) h Q = Go d 171 610 [some (.ref r), o1, o2, o3] (.ref r :: st) h Q := go_lo (E := (.aload_n 0, 0, 0, 0)) rfl rfl rfl
set_option maxRecDepth 30000 in
theorem s_171_610 : Go d 171 610 [o0, o1, o2, some (.int x)] (st) h Q = Go d 171 611 [o0, o1, o2, some (.int x)] (.int x :: st) h Q := go_lo (E := (.iload_n 3, 0, 0, 0)) rfl rfl rfl
set_option maxRecDepth 30000 in
theorem s_171_611 : Go d 171 611 L (st) h Q = Go d 171 612 L (.int (nI 1) :: st) h Q := go_ic rfl ci_i1
set_option maxRecDepth 30000 in
theorem s_171_612 : Go d 171 612 L (.int y :: .int x :: st) h Q = Go d 171 613 L (.int (x + y) :: st) h Q := go_op (E := (.iadd, 0, 0, 0)) rfl rfl
set_option maxRecDepth 30000 in
theorem s_171_613 : Go d 171 613 L (.int x :: .ref 0 :: st) (HP lx xs M) Q = (ex_in x lx = true ∧ Go d 171 614 L (.int (xs x.toNatClampNeg) :: st) (HP lx xs M) Q) := go_al rfl rfl
set_option maxRecDepth 30000 in
theorem s_171_614 {a1 : Int32} {z0 : Int32} : Go (d + 1) 171 614 L [.int a1, .ref 53, .int z0] (HP lx xs M) Q = Go d 145 0 [some (.ref 53), some (.int a1), none, none, none, none, none] [] (HP lx xs M) (fun v h2 => Go (d + 1) 171 617 L (ap v [.int z0]) h2 Q) := go_cx (E := (.invokevirtual 76, 145, 0, 7)) (k' := 145) (as := [.ref 53, .int a1]) rfl rfl rfl rfl rfl rfl rfl rfl
set_option maxRecDepth 30000 in
theorem s_171_617 : Go d 171 617 L (.int y :: .int x :: st) h Q = (if x = y then Go d 171 1117 L st h Q else Go d 171 620 L st h Q) := go_iceq rfl
set_option maxRecDepth 30000 in
theorem s_171_620 : Go d 171 620 L (st) h Q = Go d 171 621 L (.int (nI 0) :: st) h Q := go_ic rfl ci_i0
set_option maxRecDepth 30000 in
theorem s_171_621_0 : Go d 171 621 L [.int (nI 0)] h Q = Q (some (.int (nI 0))) h := go_rz rfl rfl (by decide)
set_option maxRecDepth 30000 in
theorem s_171_621_1 : Go d 171 621 L [.int (nI 1)] h Q = Q (some (.int (nI 1))) h := go_rz rfl rfl (by decide)
set_option maxRecDepth 30000 in
theorem s_171_622 : Go d 171 622 [o0, some (.ref r), o2, o3] (st) h Q = Go d 171 623 [o0, some (.ref r), o2, o3] (.ref r :: st) h Q := go_lo (E := (.aload_n 1, 0, 0, 0)) rfl rfl rfl
set_option maxRecDepth 30000 in
theorem s_171_623 : Go d 171 623 [some (.ref r), o1, o2, o3] (st) h Q = Go d 171 624 [some (.ref r), o1, o2, o3] (.ref r :: st) h Q := go_lo (E := (.aload_n 0, 0, 0, 0)) rfl rfl rfl
set_option maxRecDepth 30000 in
theorem s_171_624 : Go d 171 624 [o0, o1, o2, some (.int x)] (st) h Q = Go d 171 625 [o0, o1, o2, some (.int x)] (.int x :: st) h Q := go_lo (E := (.iload_n 3, 0, 0, 0)) rfl rfl rfl
set_option maxRecDepth 30000 in
theorem s_171_625 : Go d 171 625 L (st) h Q = Go d 171 626 L (.int (nI 1) :: st) h Q := go_ic rfl ci_i1
set_option maxRecDepth 30000 in
theorem s_171_626 : Go d 171 626 L (.int y :: .int x :: st) h Q = Go d 171 627 L (.int (x + y) :: st) h Q := go_op (E := (.iadd, 0, 0, 0)) rfl rfl
set_option maxRecDepth 30000 in
theorem s_171_627 : Go d 171 627 L (.int x :: .ref 0 :: st) (HP lx xs M) Q = (ex_in x lx = true ∧ Go d 171 628 L (.int (xs x.toNatClampNeg) :: st) (HP lx xs M) Q) := go_al rfl rfl
set_option maxRecDepth 30000 in
theorem s_171_628 {a1 : Int32} : Go (d + 1) 171 628 L [.int a1, .ref 1] (HP lx xs M) Q = Go d 30 0 [some (.ref 1), some (.int a1), none, none] [] (HP lx xs M) (fun v h2 => Go (d + 1) 171 631 L (ap v []) h2 Q) := go_cx (E := (.invokevirtual 77, 30, 0, 6)) (k' := 30) (as := [.ref 1, .int a1]) rfl rfl rfl rfl rfl rfl rfl rfl
set_option maxRecDepth 30000 in
theorem s_171_631 : Go d 171 631 [o0, o1, some (.ref r), o3] (st) h Q = Go d 171 632 [o0, o1, some (.ref r), o3] (.ref r :: st) h Q := go_lo (E := (.aload_n 2, 0, 0, 0)) rfl rfl rfl
set_option maxRecDepth 30000 in
theorem s_171_632 : Go d 171 632 [some (.ref r), o1, o2, o3] (st) h Q = Go d 171 633 [some (.ref r), o1, o2, o3] (.ref r :: st) h Q := go_lo (E := (.aload_n 0, 0, 0, 0)) rfl rfl rfl
set_option maxRecDepth 30000 in
theorem s_171_633 : Go d 171 633 [o0, o1, o2, some (.int x)] (st) h Q = Go d 171 634 [o0, o1, o2, some (.int x)] (.int x :: st) h Q := go_lo (E := (.iload_n 3, 0, 0, 0)) rfl rfl rfl
set_option maxRecDepth 30000 in
theorem s_171_634 : Go d 171 634 L (st) h Q = Go d 171 635 L (.int (nI 1) :: st) h Q := go_ic rfl ci_i1
set_option maxRecDepth 30000 in
theorem s_171_635 : Go d 171 635 L (.int y :: .int x :: st) h Q = Go d 171 636 L (.int (x + y) :: st) h Q := go_op (E := (.iadd, 0, 0, 0)) rfl rfl
set_option maxRecDepth 30000 in
theorem s_171_636 : Go d 171 636 L (.int x :: .ref 0 :: st) (HP lx xs M) Q = (ex_in x lx = true ∧ Go d 171 637 L (.int (xs x.toNatClampNeg) :: st) (HP lx xs M) Q) := go_al rfl rfl
set_option maxRecDepth 30000 in
theorem s_171_637 {a1 : Int32} {z0 : Int32} : Go (d + 1) 171 637 L [.int a1, .ref 53, .int z0] (HP lx xs M) Q = Go d 146 0 [some (.ref 53), some (.int a1), none, none] [] (HP lx xs M) (fun v h2 => Go (d + 1) 171 640 L (ap v [.int z0]) h2 Q) := go_cx (E := (.invokevirtual 80, 146, 0, 7)) (k' := 146) (as := [.ref 53, .int a1]) rfl rfl rfl rfl rfl rfl rfl rfl
set_option maxRecDepth 30000 in
theorem s_171_640 : Go d 171 640 L (.int y :: .int x :: st) h Q = (if x = y then Go d 171 1117 L st h Q else Go d 171 643 L st h Q) := go_iceq rfl
set_option maxRecDepth 30000 in
theorem s_171_643 : Go d 171 643 L (st) h Q = Go d 171 644 L (.int (nI 0) :: st) h Q := go_ic rfl ci_i0
set_option maxRecDepth 30000 in
theorem s_171_644_0 : Go d 171 644 L [.int (nI 0)] h Q = Q (some (.int (nI 0))) h := go_rz rfl rfl (by decide)
set_option maxRecDepth 30000 in
theorem s_171_644_1 : Go d 171 644 L [.int (nI 1)] h Q = Q (some (.int (nI 1))) h := go_rz rfl rfl (by decide)
set_option maxRecDepth 30000 in
theorem s_171_645 : Go d 171 645 [o0, some (.ref r), o2, o3] (st) h Q = Go d 171 646 [o0, some (.ref r), o2, o3] (.ref r :: st) h Q := go_lo (E := (.aload_n 1, 0, 0, 0)) rfl rfl rfl
set_option maxRecDepth 30000 in
theorem s_171_646  : Go (d + 1) 171 646 L [.ref 1] (HP lx xs M) Q = Go d 31 0 [some (.ref 1)] [] (HP lx xs M) (fun v h2 => Go (d + 1) 171 649 L (ap v []) h2 Q) := go_cx (E := (.invokevirtual 81, 31, 0, 6)) (k' := 31) (as := [.ref 1]) rfl rfl rfl rfl rfl rfl rfl rfl
set_option maxRecDepth 30000 in
theorem s_171_649 : Go d 171 649 [o0, o1, some (.ref r), o3] (st) h Q = Go d 171 650 [o0, o1, some (.ref r), o3] (.ref r :: st) h Q := go_lo (E := (.aload_n 2, 0, 0, 0)) rfl rfl rfl
set_option maxRecDepth 30000 in
theorem s_171_650 {z0 : Int32} : Go (d + 1) 171 650 L [.ref 53, .int z0] (HP lx xs M) Q = Go d 149 0 [some (.ref 53), none, none, none, none] [] (HP lx xs M) (fun v h2 => Go (d + 1) 171 653 L (ap v [.int z0]) h2 Q) := go_cx (E := (.invokevirtual 84, 149, 0, 7)) (k' := 149) (as := [.ref 53]) rfl rfl rfl rfl rfl rfl rfl rfl
set_option maxRecDepth 30000 in
theorem s_171_653 : Go d 171 653 L (.int y :: .int x :: st) h Q = (if x = y then Go d 171 1117 L st h Q else Go d 171 656 L st h Q) := go_iceq rfl
set_option maxRecDepth 30000 in
theorem s_171_656 : Go d 171 656 L (st) h Q = Go d 171 657 L (.int (nI 0) :: st) h Q := go_ic rfl ci_i0
set_option maxRecDepth 30000 in
theorem s_171_657_0 : Go d 171 657 L [.int (nI 0)] h Q = Q (some (.int (nI 0))) h := go_rz rfl rfl (by decide)
set_option maxRecDepth 30000 in
theorem s_171_657_1 : Go d 171 657 L [.int (nI 1)] h Q = Q (some (.int (nI 1))) h := go_rz rfl rfl (by decide)
set_option maxRecDepth 30000 in
theorem s_171_658 : Go d 171 658 [o0, some (.ref r), o2, o3] (st) h Q = Go d 171 659 [o0, some (.ref r), o2, o3] (.ref r :: st) h Q := go_lo (E := (.aload_n 1, 0, 0, 0)) rfl rfl rfl
set_option maxRecDepth 30000 in
theorem s_171_659 : Go d 171 659 [some (.ref r), o1, o2, o3] (st) h Q = Go d 171 660 [some (.ref r), o1, o2, o3] (.ref r :: st) h Q := go_lo (E := (.aload_n 0, 0, 0, 0)) rfl rfl rfl
set_option maxRecDepth 30000 in
theorem s_171_660 : Go d 171 660 [o0, o1, o2, some (.int x)] (st) h Q = Go d 171 661 [o0, o1, o2, some (.int x)] (.int x :: st) h Q := go_lo (E := (.iload_n 3, 0, 0, 0)) rfl rfl rfl
set_option maxRecDepth 30000 in
theorem s_171_661 : Go d 171 661 L (st) h Q = Go d 171 662 L (.int (nI 1) :: st) h Q := go_ic rfl ci_i1
set_option maxRecDepth 30000 in
theorem s_171_662 : Go d 171 662 L (.int y :: .int x :: st) h Q = Go d 171 663 L (.int (x + y) :: st) h Q := go_op (E := (.iadd, 0, 0, 0)) rfl rfl
set_option maxRecDepth 30000 in
theorem s_171_663 : Go d 171 663 L (.int x :: .ref 0 :: st) (HP lx xs M) Q = (ex_in x lx = true ∧ Go d 171 664 L (.int (xs x.toNatClampNeg) :: st) (HP lx xs M) Q) := go_al rfl rfl
set_option maxRecDepth 30000 in
theorem s_171_664 : Go d 171 664 [some (.ref r), o1, o2, o3] (st) h Q = Go d 171 665 [some (.ref r), o1, o2, o3] (.ref r :: st) h Q := go_lo (E := (.aload_n 0, 0, 0, 0)) rfl rfl rfl
set_option maxRecDepth 30000 in
theorem s_171_665 : Go d 171 665 [o0, o1, o2, some (.int x)] (st) h Q = Go d 171 666 [o0, o1, o2, some (.int x)] (.int x :: st) h Q := go_lo (E := (.iload_n 3, 0, 0, 0)) rfl rfl rfl
set_option maxRecDepth 30000 in
theorem s_171_666 : Go d 171 666 L (st) h Q = Go d 171 667 L (.int (nI 2) :: st) h Q := go_ic rfl ci_i2
set_option maxRecDepth 30000 in
theorem s_171_667 : Go d 171 667 L (.int y :: .int x :: st) h Q = Go d 171 668 L (.int (x + y) :: st) h Q := go_op (E := (.iadd, 0, 0, 0)) rfl rfl
set_option maxRecDepth 30000 in
theorem s_171_668 : Go d 171 668 L (.int x :: .ref 0 :: st) (HP lx xs M) Q = (ex_in x lx = true ∧ Go d 171 669 L (.int (xs x.toNatClampNeg) :: st) (HP lx xs M) Q) := go_al rfl rfl
set_option maxRecDepth 30000 in
theorem s_171_669 {a1 : Int32} {a2 : Int32} : Go (d + 1) 171 669 L [.int a2, .int a1, .ref 1] (HP lx xs M) Q = Go d 32 0 [some (.ref 1), some (.int a1), some (.int a2), none, none, none, none] [] (HP lx xs M) (fun v h2 => Go (d + 1) 171 672 L (ap v []) h2 Q) := go_cx (E := (.invokevirtual 85, 32, 0, 6)) (k' := 32) (as := [.ref 1, .int a1, .int a2]) rfl rfl rfl rfl rfl rfl rfl rfl
set_option maxRecDepth 30000 in
theorem s_171_672 : Go d 171 672 [o0, o1, some (.ref r), o3] (st) h Q = Go d 171 673 [o0, o1, some (.ref r), o3] (.ref r :: st) h Q := go_lo (E := (.aload_n 2, 0, 0, 0)) rfl rfl rfl
set_option maxRecDepth 30000 in
theorem s_171_673 : Go d 171 673 [some (.ref r), o1, o2, o3] (st) h Q = Go d 171 674 [some (.ref r), o1, o2, o3] (.ref r :: st) h Q := go_lo (E := (.aload_n 0, 0, 0, 0)) rfl rfl rfl
set_option maxRecDepth 30000 in
theorem s_171_674 : Go d 171 674 [o0, o1, o2, some (.int x)] (st) h Q = Go d 171 675 [o0, o1, o2, some (.int x)] (.int x :: st) h Q := go_lo (E := (.iload_n 3, 0, 0, 0)) rfl rfl rfl
set_option maxRecDepth 30000 in
theorem s_171_675 : Go d 171 675 L (st) h Q = Go d 171 676 L (.int (nI 1) :: st) h Q := go_ic rfl ci_i1
set_option maxRecDepth 30000 in
theorem s_171_676 : Go d 171 676 L (.int y :: .int x :: st) h Q = Go d 171 677 L (.int (x + y) :: st) h Q := go_op (E := (.iadd, 0, 0, 0)) rfl rfl
set_option maxRecDepth 30000 in
theorem s_171_677 : Go d 171 677 L (.int x :: .ref 0 :: st) (HP lx xs M) Q = (ex_in x lx = true ∧ Go d 171 678 L (.int (xs x.toNatClampNeg) :: st) (HP lx xs M) Q) := go_al rfl rfl
set_option maxRecDepth 30000 in
theorem s_171_678 : Go d 171 678 [some (.ref r), o1, o2, o3] (st) h Q = Go d 171 679 [some (.ref r), o1, o2, o3] (.ref r :: st) h Q := go_lo (E := (.aload_n 0, 0, 0, 0)) rfl rfl rfl
set_option maxRecDepth 30000 in
theorem s_171_679 : Go d 171 679 [o0, o1, o2, some (.int x)] (st) h Q = Go d 171 680 [o0, o1, o2, some (.int x)] (.int x :: st) h Q := go_lo (E := (.iload_n 3, 0, 0, 0)) rfl rfl rfl
set_option maxRecDepth 30000 in
theorem s_171_680 : Go d 171 680 L (st) h Q = Go d 171 681 L (.int (nI 2) :: st) h Q := go_ic rfl ci_i2
set_option maxRecDepth 30000 in
theorem s_171_681 : Go d 171 681 L (.int y :: .int x :: st) h Q = Go d 171 682 L (.int (x + y) :: st) h Q := go_op (E := (.iadd, 0, 0, 0)) rfl rfl
set_option maxRecDepth 30000 in
theorem s_171_682 : Go d 171 682 L (.int x :: .ref 0 :: st) (HP lx xs M) Q = (ex_in x lx = true ∧ Go d 171 683 L (.int (xs x.toNatClampNeg) :: st) (HP lx xs M) Q) := go_al rfl rfl
set_option maxRecDepth 30000 in
theorem s_171_683 {a1 : Int32} {a2 : Int32} {z0 : Int32} : Go (d + 1) 171 683 L [.int a2, .int a1, .ref 53, .int z0] (HP lx xs M) Q = Go d 150 0 [some (.ref 53), some (.int a1), some (.int a2), none, none, none, none] [] (HP lx xs M) (fun v h2 => Go (d + 1) 171 686 L (ap v [.int z0]) h2 Q) := go_cx (E := (.invokevirtual 88, 150, 0, 7)) (k' := 150) (as := [.ref 53, .int a1, .int a2]) rfl rfl rfl rfl rfl rfl rfl rfl
set_option maxRecDepth 30000 in
theorem s_171_686 : Go d 171 686 L (.int y :: .int x :: st) h Q = (if x = y then Go d 171 1117 L st h Q else Go d 171 689 L st h Q) := go_iceq rfl
set_option maxRecDepth 30000 in
theorem s_171_689 : Go d 171 689 L (st) h Q = Go d 171 690 L (.int (nI 0) :: st) h Q := go_ic rfl ci_i0
set_option maxRecDepth 30000 in
theorem s_171_690_0 : Go d 171 690 L [.int (nI 0)] h Q = Q (some (.int (nI 0))) h := go_rz rfl rfl (by decide)
set_option maxRecDepth 30000 in
theorem s_171_690_1 : Go d 171 690 L [.int (nI 1)] h Q = Q (some (.int (nI 1))) h := go_rz rfl rfl (by decide)
set_option maxRecDepth 30000 in
theorem s_171_691 : Go d 171 691 [o0, some (.ref r), o2, o3] (st) h Q = Go d 171 692 [o0, some (.ref r), o2, o3] (.ref r :: st) h Q := go_lo (E := (.aload_n 1, 0, 0, 0)) rfl rfl rfl
set_option maxRecDepth 30000 in
theorem s_171_692 : Go d 171 692 [some (.ref r), o1, o2, o3] (st) h Q = Go d 171 693 [some (.ref r), o1, o2, o3] (.ref r :: st) h Q := go_lo (E := (.aload_n 0, 0, 0, 0)) rfl rfl rfl
set_option maxRecDepth 30000 in
theorem s_171_693 : Go d 171 693 [o0, o1, o2, some (.int x)] (st) h Q = Go d 171 694 [o0, o1, o2, some (.int x)] (.int x :: st) h Q := go_lo (E := (.iload_n 3, 0, 0, 0)) rfl rfl rfl
set_option maxRecDepth 30000 in
theorem s_171_694 : Go d 171 694 L (st) h Q = Go d 171 695 L (.int (nI 1) :: st) h Q := go_ic rfl ci_i1
set_option maxRecDepth 30000 in
theorem s_171_695 : Go d 171 695 L (.int y :: .int x :: st) h Q = Go d 171 696 L (.int (x + y) :: st) h Q := go_op (E := (.iadd, 0, 0, 0)) rfl rfl
set_option maxRecDepth 30000 in
theorem s_171_696 : Go d 171 696 L (.int x :: .ref 0 :: st) (HP lx xs M) Q = (ex_in x lx = true ∧ Go d 171 697 L (.int (xs x.toNatClampNeg) :: st) (HP lx xs M) Q) := go_al rfl rfl
set_option maxRecDepth 30000 in
theorem s_171_697 : Go d 171 697 [some (.ref r), o1, o2, o3] (st) h Q = Go d 171 698 [some (.ref r), o1, o2, o3] (.ref r :: st) h Q := go_lo (E := (.aload_n 0, 0, 0, 0)) rfl rfl rfl
set_option maxRecDepth 30000 in
theorem s_171_698 : Go d 171 698 [o0, o1, o2, some (.int x)] (st) h Q = Go d 171 699 [o0, o1, o2, some (.int x)] (.int x :: st) h Q := go_lo (E := (.iload_n 3, 0, 0, 0)) rfl rfl rfl
set_option maxRecDepth 30000 in
theorem s_171_699 : Go d 171 699 L (st) h Q = Go d 171 700 L (.int (nI 2) :: st) h Q := go_ic rfl ci_i2
set_option maxRecDepth 30000 in
theorem s_171_700 : Go d 171 700 L (.int y :: .int x :: st) h Q = Go d 171 701 L (.int (x + y) :: st) h Q := go_op (E := (.iadd, 0, 0, 0)) rfl rfl
set_option maxRecDepth 30000 in
theorem s_171_701 : Go d 171 701 L (.int x :: .ref 0 :: st) (HP lx xs M) Q = (ex_in x lx = true ∧ Go d 171 702 L (.int (xs x.toNatClampNeg) :: st) (HP lx xs M) Q) := go_al rfl rfl
set_option maxRecDepth 30000 in
theorem s_171_702 {a1 : Int32} {a2 : Int32} : Go (d + 1) 171 702 L [.int a2, .int a1, .ref 1] (HP lx xs M) Q = Go d 33 0 [some (.ref 1), some (.int a1), some (.int a2)] [] (HP lx xs M) (fun v h2 => Go (d + 1) 171 705 L (ap v []) h2 Q) := go_cx (E := (.invokevirtual 89, 33, 0, 6)) (k' := 33) (as := [.ref 1, .int a1, .int a2]) rfl rfl rfl rfl rfl rfl rfl rfl
set_option maxRecDepth 30000 in
theorem s_171_705 : Go d 171 705 [o0, o1, some (.ref r), o3] (st) h Q = Go d 171 706 [o0, o1, some (.ref r), o3] (.ref r :: st) h Q := go_lo (E := (.aload_n 2, 0, 0, 0)) rfl rfl rfl
set_option maxRecDepth 30000 in
theorem s_171_706 : Go d 171 706 [some (.ref r), o1, o2, o3] (st) h Q = Go d 171 707 [some (.ref r), o1, o2, o3] (.ref r :: st) h Q := go_lo (E := (.aload_n 0, 0, 0, 0)) rfl rfl rfl
set_option maxRecDepth 30000 in
theorem s_171_707 : Go d 171 707 [o0, o1, o2, some (.int x)] (st) h Q = Go d 171 708 [o0, o1, o2, some (.int x)] (.int x :: st) h Q := go_lo (E := (.iload_n 3, 0, 0, 0)) rfl rfl rfl
set_option maxRecDepth 30000 in
theorem s_171_708 : Go d 171 708 L (st) h Q = Go d 171 709 L (.int (nI 1) :: st) h Q := go_ic rfl ci_i1
set_option maxRecDepth 30000 in
theorem s_171_709 : Go d 171 709 L (.int y :: .int x :: st) h Q = Go d 171 710 L (.int (x + y) :: st) h Q := go_op (E := (.iadd, 0, 0, 0)) rfl rfl
set_option maxRecDepth 30000 in
theorem s_171_710 : Go d 171 710 L (.int x :: .ref 0 :: st) (HP lx xs M) Q = (ex_in x lx = true ∧ Go d 171 711 L (.int (xs x.toNatClampNeg) :: st) (HP lx xs M) Q) := go_al rfl rfl
set_option maxRecDepth 30000 in
theorem s_171_711 : Go d 171 711 [some (.ref r), o1, o2, o3] (st) h Q = Go d 171 712 [some (.ref r), o1, o2, o3] (.ref r :: st) h Q := go_lo (E := (.aload_n 0, 0, 0, 0)) rfl rfl rfl
set_option maxRecDepth 30000 in
theorem s_171_712 : Go d 171 712 [o0, o1, o2, some (.int x)] (st) h Q = Go d 171 713 [o0, o1, o2, some (.int x)] (.int x :: st) h Q := go_lo (E := (.iload_n 3, 0, 0, 0)) rfl rfl rfl
set_option maxRecDepth 30000 in
theorem s_171_713 : Go d 171 713 L (st) h Q = Go d 171 714 L (.int (nI 2) :: st) h Q := go_ic rfl ci_i2
set_option maxRecDepth 30000 in
theorem s_171_714 : Go d 171 714 L (.int y :: .int x :: st) h Q = Go d 171 715 L (.int (x + y) :: st) h Q := go_op (E := (.iadd, 0, 0, 0)) rfl rfl
set_option maxRecDepth 30000 in
theorem s_171_715 : Go d 171 715 L (.int x :: .ref 0 :: st) (HP lx xs M) Q = (ex_in x lx = true ∧ Go d 171 716 L (.int (xs x.toNatClampNeg) :: st) (HP lx xs M) Q) := go_al rfl rfl
set_option maxRecDepth 30000 in
theorem s_171_716 {a1 : Int32} {a2 : Int32} {z0 : Int32} : Go (d + 1) 171 716 L [.int a2, .int a1, .ref 53, .int z0] (HP lx xs M) Q = Go d 155 0 [some (.ref 53), some (.int a1), some (.int a2)] [] (HP lx xs M) (fun v h2 => Go (d + 1) 171 719 L (ap v [.int z0]) h2 Q) := go_cx (E := (.invokevirtual 92, 155, 0, 7)) (k' := 155) (as := [.ref 53, .int a1, .int a2]) rfl rfl rfl rfl rfl rfl rfl rfl
set_option maxRecDepth 30000 in
theorem s_171_719 : Go d 171 719 L (.int y :: .int x :: st) h Q = (if x = y then Go d 171 1117 L st h Q else Go d 171 722 L st h Q) := go_iceq rfl
set_option maxRecDepth 30000 in
theorem s_171_722 : Go d 171 722 L (st) h Q = Go d 171 723 L (.int (nI 0) :: st) h Q := go_ic rfl ci_i0
set_option maxRecDepth 30000 in
theorem s_171_723_0 : Go d 171 723 L [.int (nI 0)] h Q = Q (some (.int (nI 0))) h := go_rz rfl rfl (by decide)
set_option maxRecDepth 30000 in
theorem s_171_723_1 : Go d 171 723 L [.int (nI 1)] h Q = Q (some (.int (nI 1))) h := go_rz rfl rfl (by decide)
set_option maxRecDepth 30000 in
theorem s_171_724 : Go d 171 724 [o0, some (.ref r), o2, o3] (st) h Q = Go d 171 725 [o0, some (.ref r), o2, o3] (.ref r :: st) h Q := go_lo (E := (.aload_n 1, 0, 0, 0)) rfl rfl rfl
set_option maxRecDepth 30000 in
theorem s_171_725 : Go d 171 725 [some (.ref r), o1, o2, o3] (st) h Q = Go d 171 726 [some (.ref r), o1, o2, o3] (.ref r :: st) h Q := go_lo (E := (.aload_n 0, 0, 0, 0)) rfl rfl rfl
set_option maxRecDepth 30000 in
theorem s_171_726 : Go d 171 726 [o0, o1, o2, some (.int x)] (st) h Q = Go d 171 727 [o0, o1, o2, some (.int x)] (.int x :: st) h Q := go_lo (E := (.iload_n 3, 0, 0, 0)) rfl rfl rfl
set_option maxRecDepth 30000 in
theorem s_171_727 : Go d 171 727 L (st) h Q = Go d 171 728 L (.int (nI 1) :: st) h Q := go_ic rfl ci_i1
set_option maxRecDepth 30000 in
theorem s_171_728 : Go d 171 728 L (.int y :: .int x :: st) h Q = Go d 171 729 L (.int (x + y) :: st) h Q := go_op (E := (.iadd, 0, 0, 0)) rfl rfl
set_option maxRecDepth 30000 in
theorem s_171_729 : Go d 171 729 L (.int x :: .ref 0 :: st) (HP lx xs M) Q = (ex_in x lx = true ∧ Go d 171 730 L (.int (xs x.toNatClampNeg) :: st) (HP lx xs M) Q) := go_al rfl rfl
set_option maxRecDepth 30000 in
theorem s_171_730 : Go d 171 730 [some (.ref r), o1, o2, o3] (st) h Q = Go d 171 731 [some (.ref r), o1, o2, o3] (.ref r :: st) h Q := go_lo (E := (.aload_n 0, 0, 0, 0)) rfl rfl rfl
set_option maxRecDepth 30000 in
theorem s_171_731 : Go d 171 731 [o0, o1, o2, some (.int x)] (st) h Q = Go d 171 732 [o0, o1, o2, some (.int x)] (.int x :: st) h Q := go_lo (E := (.iload_n 3, 0, 0, 0)) rfl rfl rfl
set_option maxRecDepth 30000 in
theorem s_171_732 : Go d 171 732 L (st) h Q = Go d 171 733 L (.int (nI 2) :: st) h Q := go_ic rfl ci_i2
set_option maxRecDepth 30000 in
theorem s_171_733 : Go d 171 733 L (.int y :: .int x :: st) h Q = Go d 171 734 L (.int (x + y) :: st) h Q := go_op (E := (.iadd, 0, 0, 0)) rfl rfl
set_option maxRecDepth 30000 in
theorem s_171_734 : Go d 171 734 L (.int x :: .ref 0 :: st) (HP lx xs M) Q = (ex_in x lx = true ∧ Go d 171 735 L (.int (xs x.toNatClampNeg) :: st) (HP lx xs M) Q) := go_al rfl rfl
set_option maxRecDepth 30000 in
theorem s_171_735 {a1 : Int32} {a2 : Int32} : Go (d + 1) 171 735 L [.int a2, .int a1, .ref 1] (HP lx xs M) Q = Go d 34 0 [some (.ref 1), some (.int a1), some (.int a2)] [] (HP lx xs M) (fun v h2 => Go (d + 1) 171 738 L (ap v []) h2 Q) := go_cx (E := (.invokevirtual 93, 34, 0, 6)) (k' := 34) (as := [.ref 1, .int a1, .int a2]) rfl rfl rfl rfl rfl rfl rfl rfl
set_option maxRecDepth 30000 in
theorem s_171_738 : Go d 171 738 [o0, o1, some (.ref r), o3] (st) h Q = Go d 171 739 [o0, o1, some (.ref r), o3] (.ref r :: st) h Q := go_lo (E := (.aload_n 2, 0, 0, 0)) rfl rfl rfl
set_option maxRecDepth 30000 in
theorem s_171_739 : Go d 171 739 [some (.ref r), o1, o2, o3] (st) h Q = Go d 171 740 [some (.ref r), o1, o2, o3] (.ref r :: st) h Q := go_lo (E := (.aload_n 0, 0, 0, 0)) rfl rfl rfl
set_option maxRecDepth 30000 in
theorem s_171_740 : Go d 171 740 [o0, o1, o2, some (.int x)] (st) h Q = Go d 171 741 [o0, o1, o2, some (.int x)] (.int x :: st) h Q := go_lo (E := (.iload_n 3, 0, 0, 0)) rfl rfl rfl
set_option maxRecDepth 30000 in
theorem s_171_741 : Go d 171 741 L (st) h Q = Go d 171 742 L (.int (nI 1) :: st) h Q := go_ic rfl ci_i1
set_option maxRecDepth 30000 in
theorem s_171_742 : Go d 171 742 L (.int y :: .int x :: st) h Q = Go d 171 743 L (.int (x + y) :: st) h Q := go_op (E := (.iadd, 0, 0, 0)) rfl rfl
set_option maxRecDepth 30000 in
theorem s_171_743 : Go d 171 743 L (.int x :: .ref 0 :: st) (HP lx xs M) Q = (ex_in x lx = true ∧ Go d 171 744 L (.int (xs x.toNatClampNeg) :: st) (HP lx xs M) Q) := go_al rfl rfl
set_option maxRecDepth 30000 in
theorem s_171_744 : Go d 171 744 [some (.ref r), o1, o2, o3] (st) h Q = Go d 171 745 [some (.ref r), o1, o2, o3] (.ref r :: st) h Q := go_lo (E := (.aload_n 0, 0, 0, 0)) rfl rfl rfl
set_option maxRecDepth 30000 in
theorem s_171_745 : Go d 171 745 [o0, o1, o2, some (.int x)] (st) h Q = Go d 171 746 [o0, o1, o2, some (.int x)] (.int x :: st) h Q := go_lo (E := (.iload_n 3, 0, 0, 0)) rfl rfl rfl
set_option maxRecDepth 30000 in
theorem s_171_746 : Go d 171 746 L (st) h Q = Go d 171 747 L (.int (nI 2) :: st) h Q := go_ic rfl ci_i2
set_option maxRecDepth 30000 in
theorem s_171_747 : Go d 171 747 L (.int y :: .int x :: st) h Q = Go d 171 748 L (.int (x + y) :: st) h Q := go_op (E := (.iadd, 0, 0, 0)) rfl rfl
set_option maxRecDepth 30000 in
theorem s_171_748 : Go d 171 748 L (.int x :: .ref 0 :: st) (HP lx xs M) Q = (ex_in x lx = true ∧ Go d 171 749 L (.int (xs x.toNatClampNeg) :: st) (HP lx xs M) Q) := go_al rfl rfl
set_option maxRecDepth 30000 in
theorem s_171_749 {a1 : Int32} {a2 : Int32} {z0 : Int32} : Go (d + 1) 171 749 L [.int a2, .int a1, .ref 53, .int z0] (HP lx xs M) Q = Go d 156 0 [some (.ref 53), some (.int a1), some (.int a2), none] [] (HP lx xs M) (fun v h2 => Go (d + 1) 171 752 L (ap v [.int z0]) h2 Q) := go_cx (E := (.invokevirtual 96, 156, 0, 7)) (k' := 156) (as := [.ref 53, .int a1, .int a2]) rfl rfl rfl rfl rfl rfl rfl rfl
set_option maxRecDepth 30000 in
theorem s_171_752 : Go d 171 752 L (.int y :: .int x :: st) h Q = (if x = y then Go d 171 1117 L st h Q else Go d 171 755 L st h Q) := go_iceq rfl
set_option maxRecDepth 30000 in
theorem s_171_755 : Go d 171 755 L (st) h Q = Go d 171 756 L (.int (nI 0) :: st) h Q := go_ic rfl ci_i0
set_option maxRecDepth 30000 in
theorem s_171_756_0 : Go d 171 756 L [.int (nI 0)] h Q = Q (some (.int (nI 0))) h := go_rz rfl rfl (by decide)
set_option maxRecDepth 30000 in
theorem s_171_756_1 : Go d 171 756 L [.int (nI 1)] h Q = Q (some (.int (nI 1))) h := go_rz rfl rfl (by decide)
set_option maxRecDepth 30000 in
theorem s_171_757 : Go d 171 757 [o0, some (.ref r), o2, o3] (st) h Q = Go d 171 758 [o0, some (.ref r), o2, o3] (.ref r :: st) h Q := go_lo (E := (.aload_n 1, 0, 0, 0)) rfl rfl rfl
set_option maxRecDepth 30000 in
theorem s_171_758 : Go d 171 758 [some (.ref r), o1, o2, o3] (st) h Q = Go d 171 759 [some (.ref r), o1, o2, o3] (.ref r :: st) h Q := go_lo (E := (.aload_n 0, 0, 0, 0)) rfl rfl rfl
set_option maxRecDepth 30000 in
theorem s_171_759 : Go d 171 759 [o0, o1, o2, some (.int x)] (st) h Q = Go d 171 760 [o0, o1, o2, some (.int x)] (.int x :: st) h Q := go_lo (E := (.iload_n 3, 0, 0, 0)) rfl rfl rfl
set_option maxRecDepth 30000 in
theorem s_171_760 : Go d 171 760 L (st) h Q = Go d 171 761 L (.int (nI 1) :: st) h Q := go_ic rfl ci_i1
set_option maxRecDepth 30000 in
theorem s_171_761 : Go d 171 761 L (.int y :: .int x :: st) h Q = Go d 171 762 L (.int (x + y) :: st) h Q := go_op (E := (.iadd, 0, 0, 0)) rfl rfl
set_option maxRecDepth 30000 in
theorem s_171_762 : Go d 171 762 L (.int x :: .ref 0 :: st) (HP lx xs M) Q = (ex_in x lx = true ∧ Go d 171 763 L (.int (xs x.toNatClampNeg) :: st) (HP lx xs M) Q) := go_al rfl rfl
set_option maxRecDepth 30000 in
theorem s_171_763 {a1 : Int32} : Go (d + 1) 171 763 L [.int a1, .ref 1] (HP lx xs M) Q = Go d 35 0 [some (.ref 1), some (.int a1), none] [] (HP lx xs M) (fun v h2 => Go (d + 1) 171 766 L (ap v []) h2 Q) := go_cx (E := (.invokevirtual 97, 35, 0, 6)) (k' := 35) (as := [.ref 1, .int a1]) rfl rfl rfl rfl rfl rfl rfl rfl
set_option maxRecDepth 30000 in
theorem s_171_766 : Go d 171 766 [o0, o1, some (.ref r), o3] (st) h Q = Go d 171 767 [o0, o1, some (.ref r), o3] (.ref r :: st) h Q := go_lo (E := (.aload_n 2, 0, 0, 0)) rfl rfl rfl
set_option maxRecDepth 30000 in
theorem s_171_767 : Go d 171 767 [some (.ref r), o1, o2, o3] (st) h Q = Go d 171 768 [some (.ref r), o1, o2, o3] (.ref r :: st) h Q := go_lo (E := (.aload_n 0, 0, 0, 0)) rfl rfl rfl
set_option maxRecDepth 30000 in
theorem s_171_768 : Go d 171 768 [o0, o1, o2, some (.int x)] (st) h Q = Go d 171 769 [o0, o1, o2, some (.int x)] (.int x :: st) h Q := go_lo (E := (.iload_n 3, 0, 0, 0)) rfl rfl rfl
set_option maxRecDepth 30000 in
theorem s_171_769 : Go d 171 769 L (st) h Q = Go d 171 770 L (.int (nI 1) :: st) h Q := go_ic rfl ci_i1
set_option maxRecDepth 30000 in
theorem s_171_770 : Go d 171 770 L (.int y :: .int x :: st) h Q = Go d 171 771 L (.int (x + y) :: st) h Q := go_op (E := (.iadd, 0, 0, 0)) rfl rfl
set_option maxRecDepth 30000 in
theorem s_171_771 : Go d 171 771 L (.int x :: .ref 0 :: st) (HP lx xs M) Q = (ex_in x lx = true ∧ Go d 171 772 L (.int (xs x.toNatClampNeg) :: st) (HP lx xs M) Q) := go_al rfl rfl
set_option maxRecDepth 30000 in
theorem s_171_772 {a1 : Int32} {z0 : Int32} : Go (d + 1) 171 772 L [.int a1, .ref 53, .int z0] (HP lx xs M) Q = Go d 158 0 [some (.ref 53), some (.int a1), none, none] [] (HP lx xs M) (fun v h2 => Go (d + 1) 171 775 L (ap v [.int z0]) h2 Q) := go_cx (E := (.invokevirtual 100, 158, 0, 7)) (k' := 158) (as := [.ref 53, .int a1]) rfl rfl rfl rfl rfl rfl rfl rfl
set_option maxRecDepth 30000 in
theorem s_171_775 : Go d 171 775 L (.int y :: .int x :: st) h Q = (if x = y then Go d 171 1117 L st h Q else Go d 171 778 L st h Q) := go_iceq rfl
set_option maxRecDepth 30000 in
theorem s_171_778 : Go d 171 778 L (st) h Q = Go d 171 779 L (.int (nI 0) :: st) h Q := go_ic rfl ci_i0
set_option maxRecDepth 30000 in
theorem s_171_779_0 : Go d 171 779 L [.int (nI 0)] h Q = Q (some (.int (nI 0))) h := go_rz rfl rfl (by decide)
set_option maxRecDepth 30000 in
theorem s_171_779_1 : Go d 171 779 L [.int (nI 1)] h Q = Q (some (.int (nI 1))) h := go_rz rfl rfl (by decide)
set_option maxRecDepth 30000 in
theorem s_171_780 : Go d 171 780 [o0, some (.ref r), o2, o3] (st) h Q = Go d 171 781 [o0, some (.ref r), o2, o3] (.ref r :: st) h Q := go_lo (E := (.aload_n 1, 0, 0, 0)) rfl rfl rfl
set_option maxRecDepth 30000 in
theorem s_171_781 : Go d 171 781 [some (.ref r), o1, o2, o3] (st) h Q = Go d 171 782 [some (.ref r), o1, o2, o3] (.ref r :: st) h Q := go_lo (E := (.aload_n 0, 0, 0, 0)) rfl rfl rfl
set_option maxRecDepth 30000 in
theorem s_171_782 : Go d 171 782 [o0, o1, o2, some (.int x)] (st) h Q = Go d 171 783 [o0, o1, o2, some (.int x)] (.int x :: st) h Q := go_lo (E := (.iload_n 3, 0, 0, 0)) rfl rfl rfl
set_option maxRecDepth 30000 in
theorem s_171_783 : Go d 171 783 L (st) h Q = Go d 171 784 L (.int (nI 1) :: st) h Q := go_ic rfl ci_i1
set_option maxRecDepth 30000 in
theorem s_171_784 : Go d 171 784 L (.int y :: .int x :: st) h Q = Go d 171 785 L (.int (x + y) :: st) h Q := go_op (E := (.iadd, 0, 0, 0)) rfl rfl
set_option maxRecDepth 30000 in
theorem s_171_785 : Go d 171 785 L (.int x :: .ref 0 :: st) (HP lx xs M) Q = (ex_in x lx = true ∧ Go d 171 786 L (.int (xs x.toNatClampNeg) :: st) (HP lx xs M) Q) := go_al rfl rfl
set_option maxRecDepth 30000 in
theorem s_171_786 {a1 : Int32} : Go (d + 1) 171 786 L [.int a1, .ref 1] (HP lx xs M) Q = Go d 36 0 [some (.ref 1), some (.int a1), none] [] (HP lx xs M) (fun v h2 => Go (d + 1) 171 789 L (ap v []) h2 Q) := go_cx (E := (.invokevirtual 101, 36, 0, 6)) (k' := 36) (as := [.ref 1, .int a1]) rfl rfl rfl rfl rfl rfl rfl rfl
set_option maxRecDepth 30000 in
theorem s_171_789 : Go d 171 789 [o0, o1, some (.ref r), o3] (st) h Q = Go d 171 790 [o0, o1, some (.ref r), o3] (.ref r :: st) h Q := go_lo (E := (.aload_n 2, 0, 0, 0)) rfl rfl rfl
set_option maxRecDepth 30000 in
theorem s_171_790 : Go d 171 790 [some (.ref r), o1, o2, o3] (st) h Q = Go d 171 791 [some (.ref r), o1, o2, o3] (.ref r :: st) h Q := go_lo (E := (.aload_n 0, 0, 0, 0)) rfl rfl rfl
set_option maxRecDepth 30000 in
theorem s_171_791 : Go d 171 791 [o0, o1, o2, some (.int x)] (st) h Q = Go d 171 792 [o0, o1, o2, some (.int x)] (.int x :: st) h Q := go_lo (E := (.iload_n 3, 0, 0, 0)) rfl rfl rfl
set_option maxRecDepth 30000 in
theorem s_171_792 : Go d 171 792 L (st) h Q = Go d 171 793 L (.int (nI 1) :: st) h Q := go_ic rfl ci_i1
set_option maxRecDepth 30000 in
theorem s_171_793 : Go d 171 793 L (.int y :: .int x :: st) h Q = Go d 171 794 L (.int (x + y) :: st) h Q := go_op (E := (.iadd, 0, 0, 0)) rfl rfl
set_option maxRecDepth 30000 in
theorem s_171_794 : Go d 171 794 L (.int x :: .ref 0 :: st) (HP lx xs M) Q = (ex_in x lx = true ∧ Go d 171 795 L (.int (xs x.toNatClampNeg) :: st) (HP lx xs M) Q) := go_al rfl rfl
set_option maxRecDepth 30000 in
theorem s_171_795 {a1 : Int32} {z0 : Int32} : Go (d + 1) 171 795 L [.int a1, .ref 53, .int z0] (HP lx xs M) Q = Go d 159 0 [some (.ref 53), some (.int a1), none] [] (HP lx xs M) (fun v h2 => Go (d + 1) 171 798 L (ap v [.int z0]) h2 Q) := go_cx (E := (.invokevirtual 104, 159, 0, 7)) (k' := 159) (as := [.ref 53, .int a1]) rfl rfl rfl rfl rfl rfl rfl rfl
set_option maxRecDepth 30000 in
theorem s_171_798 : Go d 171 798 L (.int y :: .int x :: st) h Q = (if x = y then Go d 171 1117 L st h Q else Go d 171 801 L st h Q) := go_iceq rfl
set_option maxRecDepth 30000 in
theorem s_171_801 : Go d 171 801 L (st) h Q = Go d 171 802 L (.int (nI 0) :: st) h Q := go_ic rfl ci_i0
set_option maxRecDepth 30000 in
theorem s_171_802_0 : Go d 171 802 L [.int (nI 0)] h Q = Q (some (.int (nI 0))) h := go_rz rfl rfl (by decide)
set_option maxRecDepth 30000 in
theorem s_171_802_1 : Go d 171 802 L [.int (nI 1)] h Q = Q (some (.int (nI 1))) h := go_rz rfl rfl (by decide)
set_option maxRecDepth 30000 in
theorem s_171_803 : Go d 171 803 [o0, some (.ref r), o2, o3] (st) h Q = Go d 171 804 [o0, some (.ref r), o2, o3] (.ref r :: st) h Q := go_lo (E := (.aload_n 1, 0, 0, 0)) rfl rfl rfl
set_option maxRecDepth 30000 in
theorem s_171_804  : Go (d + 1) 171 804 L [.ref 1] (HP lx xs M) Q = Go d 37 0 [some (.ref 1)] [] (HP lx xs M) (fun v h2 => Go (d + 1) 171 807 L (ap v []) h2 Q) := go_cx (E := (.invokevirtual 105, 37, 0, 6)) (k' := 37) (as := [.ref 1]) rfl rfl rfl rfl rfl rfl rfl rfl
set_option maxRecDepth 30000 in
theorem s_171_807 : Go d 171 807 [o0, o1, some (.ref r), o3] (st) h Q = Go d 171 808 [o0, o1, some (.ref r), o3] (.ref r :: st) h Q := go_lo (E := (.aload_n 2, 0, 0, 0)) rfl rfl rfl
set_option maxRecDepth 30000 in
theorem s_171_808 {z0 : Int32} : Go (d + 1) 171 808 L [.ref 53, .int z0] (HP lx xs M) Q = Go d 161 0 [some (.ref 53), none] [] (HP lx xs M) (fun v h2 => Go (d + 1) 171 811 L (ap v [.int z0]) h2 Q) := go_cx (E := (.invokevirtual 108, 161, 0, 7)) (k' := 161) (as := [.ref 53]) rfl rfl rfl rfl rfl rfl rfl rfl
set_option maxRecDepth 30000 in
theorem s_171_811 : Go d 171 811 L (.int y :: .int x :: st) h Q = (if x = y then Go d 171 1117 L st h Q else Go d 171 814 L st h Q) := go_iceq rfl
set_option maxRecDepth 30000 in
theorem s_171_814 : Go d 171 814 L (st) h Q = Go d 171 815 L (.int (nI 0) :: st) h Q := go_ic rfl ci_i0
set_option maxRecDepth 30000 in
theorem s_171_815_0 : Go d 171 815 L [.int (nI 0)] h Q = Q (some (.int (nI 0))) h := go_rz rfl rfl (by decide)
set_option maxRecDepth 30000 in
theorem s_171_815_1 : Go d 171 815 L [.int (nI 1)] h Q = Q (some (.int (nI 1))) h := go_rz rfl rfl (by decide)
set_option maxRecDepth 30000 in
theorem s_171_816 : Go d 171 816 [o0, some (.ref r), o2, o3] (st) h Q = Go d 171 817 [o0, some (.ref r), o2, o3] (.ref r :: st) h Q := go_lo (E := (.aload_n 1, 0, 0, 0)) rfl rfl rfl
set_option maxRecDepth 30000 in
theorem s_171_817  : Go (d + 1) 171 817 L [.ref 1] (HP lx xs M) Q = Go d 38 0 [some (.ref 1)] [] (HP lx xs M) (fun v h2 => Go (d + 1) 171 820 L (ap v []) h2 Q) := go_cx (E := (.invokevirtual 109, 38, 0, 6)) (k' := 38) (as := [.ref 1]) rfl rfl rfl rfl rfl rfl rfl rfl
set_option maxRecDepth 30000 in
theorem s_171_820 : Go d 171 820 [o0, o1, some (.ref r), o3] (st) h Q = Go d 171 821 [o0, o1, some (.ref r), o3] (.ref r :: st) h Q := go_lo (E := (.aload_n 2, 0, 0, 0)) rfl rfl rfl
set_option maxRecDepth 30000 in
theorem s_171_821 {z0 : Int32} : Go (d + 1) 171 821 L [.ref 53, .int z0] (HP lx xs M) Q = Go d 162 0 [some (.ref 53), none] [] (HP lx xs M) (fun v h2 => Go (d + 1) 171 824 L (ap v [.int z0]) h2 Q) := go_cx (E := (.invokevirtual 112, 162, 0, 7)) (k' := 162) (as := [.ref 53]) rfl rfl rfl rfl rfl rfl rfl rfl
set_option maxRecDepth 30000 in
theorem s_171_824 : Go d 171 824 L (.int y :: .int x :: st) h Q = (if x = y then Go d 171 1117 L st h Q else Go d 171 827 L st h Q) := go_iceq rfl
set_option maxRecDepth 30000 in
theorem s_171_827 : Go d 171 827 L (st) h Q = Go d 171 828 L (.int (nI 0) :: st) h Q := go_ic rfl ci_i0
set_option maxRecDepth 30000 in
theorem s_171_828_0 : Go d 171 828 L [.int (nI 0)] h Q = Q (some (.int (nI 0))) h := go_rz rfl rfl (by decide)
set_option maxRecDepth 30000 in
theorem s_171_828_1 : Go d 171 828 L [.int (nI 1)] h Q = Q (some (.int (nI 1))) h := go_rz rfl rfl (by decide)
set_option maxRecDepth 30000 in
theorem s_171_829 : Go d 171 829 [o0, some (.ref r), o2, o3] (st) h Q = Go d 171 830 [o0, some (.ref r), o2, o3] (.ref r :: st) h Q := go_lo (E := (.aload_n 1, 0, 0, 0)) rfl rfl rfl
set_option maxRecDepth 30000 in
theorem s_171_830 : Go d 171 830 [some (.ref r), o1, o2, o3] (st) h Q = Go d 171 831 [some (.ref r), o1, o2, o3] (.ref r :: st) h Q := go_lo (E := (.aload_n 0, 0, 0, 0)) rfl rfl rfl
set_option maxRecDepth 30000 in
theorem s_171_831 : Go d 171 831 [o0, o1, o2, some (.int x)] (st) h Q = Go d 171 832 [o0, o1, o2, some (.int x)] (.int x :: st) h Q := go_lo (E := (.iload_n 3, 0, 0, 0)) rfl rfl rfl
set_option maxRecDepth 30000 in
theorem s_171_832 : Go d 171 832 L (st) h Q = Go d 171 833 L (.int (nI 1) :: st) h Q := go_ic rfl ci_i1
set_option maxRecDepth 30000 in
theorem s_171_833 : Go d 171 833 L (.int y :: .int x :: st) h Q = Go d 171 834 L (.int (x + y) :: st) h Q := go_op (E := (.iadd, 0, 0, 0)) rfl rfl
set_option maxRecDepth 30000 in
theorem s_171_834 : Go d 171 834 L (.int x :: .ref 0 :: st) (HP lx xs M) Q = (ex_in x lx = true ∧ Go d 171 835 L (.int (xs x.toNatClampNeg) :: st) (HP lx xs M) Q) := go_al rfl rfl
set_option maxRecDepth 30000 in
theorem s_171_835 : Go d 171 835 [some (.ref r), o1, o2, o3] (st) h Q = Go d 171 836 [some (.ref r), o1, o2, o3] (.ref r :: st) h Q := go_lo (E := (.aload_n 0, 0, 0, 0)) rfl rfl rfl
set_option maxRecDepth 30000 in
theorem s_171_836 : Go d 171 836 [o0, o1, o2, some (.int x)] (st) h Q = Go d 171 837 [o0, o1, o2, some (.int x)] (.int x :: st) h Q := go_lo (E := (.iload_n 3, 0, 0, 0)) rfl rfl rfl
set_option maxRecDepth 30000 in
theorem s_171_837 : Go d 171 837 L (st) h Q = Go d 171 838 L (.int (nI 2) :: st) h Q := go_ic rfl ci_i2
set_option maxRecDepth 30000 in
theorem s_171_838 : Go d 171 838 L (.int y :: .int x :: st) h Q = Go d 171 839 L (.int (x + y) :: st) h Q := go_op (E := (.iadd, 0, 0, 0)) rfl rfl
set_option maxRecDepth 30000 in
theorem s_171_839 : Go d 171 839 L (.int x :: .ref 0 :: st) (HP lx xs M) Q = (ex_in x lx = true ∧ Go d 171 840 L (.int (xs x.toNatClampNeg) :: st) (HP lx xs M) Q) := go_al rfl rfl
set_option maxRecDepth 30000 in
theorem s_171_840 : Go d 171 840 [some (.ref r), o1, o2, o3] (st) h Q = Go d 171 841 [some (.ref r), o1, o2, o3] (.ref r :: st) h Q := go_lo (E := (.aload_n 0, 0, 0, 0)) rfl rfl rfl
set_option maxRecDepth 30000 in
theorem s_171_841 : Go d 171 841 [o0, o1, o2, some (.int x)] (st) h Q = Go d 171 842 [o0, o1, o2, some (.int x)] (.int x :: st) h Q := go_lo (E := (.iload_n 3, 0, 0, 0)) rfl rfl rfl
set_option maxRecDepth 30000 in
theorem s_171_842 : Go d 171 842 L (st) h Q = Go d 171 843 L (.int (nI 3) :: st) h Q := go_ic rfl ci_i3
set_option maxRecDepth 30000 in
theorem s_171_843 : Go d 171 843 L (.int y :: .int x :: st) h Q = Go d 171 844 L (.int (x + y) :: st) h Q := go_op (E := (.iadd, 0, 0, 0)) rfl rfl
set_option maxRecDepth 30000 in
theorem s_171_844 : Go d 171 844 L (.int x :: .ref 0 :: st) (HP lx xs M) Q = (ex_in x lx = true ∧ Go d 171 845 L (.int (xs x.toNatClampNeg) :: st) (HP lx xs M) Q) := go_al rfl rfl
set_option maxRecDepth 30000 in
theorem s_171_845 : Go d 171 845 [some (.ref r), o1, o2, o3] (st) h Q = Go d 171 846 [some (.ref r), o1, o2, o3] (.ref r :: st) h Q := go_lo (E := (.aload_n 0, 0, 0, 0)) rfl rfl rfl
set_option maxRecDepth 30000 in
theorem s_171_846 : Go d 171 846 [o0, o1, o2, some (.int x)] (st) h Q = Go d 171 847 [o0, o1, o2, some (.int x)] (.int x :: st) h Q := go_lo (E := (.iload_n 3, 0, 0, 0)) rfl rfl rfl
set_option maxRecDepth 30000 in
theorem s_171_847 : Go d 171 847 L (st) h Q = Go d 171 848 L (.int (nI 4) :: st) h Q := go_ic rfl ci_i4
set_option maxRecDepth 30000 in
theorem s_171_848 : Go d 171 848 L (.int y :: .int x :: st) h Q = Go d 171 849 L (.int (x + y) :: st) h Q := go_op (E := (.iadd, 0, 0, 0)) rfl rfl
set_option maxRecDepth 30000 in
theorem s_171_849 : Go d 171 849 L (.int x :: .ref 0 :: st) (HP lx xs M) Q = (ex_in x lx = true ∧ Go d 171 850 L (.int (xs x.toNatClampNeg) :: st) (HP lx xs M) Q) := go_al rfl rfl
set_option maxRecDepth 30000 in
theorem s_171_850 {a1 : Int32} {a2 : Int32} {a3 : Int32} {a4 : Int32} : Go (d + 1) 171 850 L [.int a4, .int a3, .int a2, .int a1, .ref 1] (HP lx xs M) Q = Go d 39 0 [some (.ref 1), some (.int a1), some (.int a2), some (.int a3), some (.int a4), none, none] [] (HP lx xs M) (fun v h2 => Go (d + 1) 171 853 L (ap v []) h2 Q) := go_cx (E := (.invokevirtual 113, 39, 0, 6)) (k' := 39) (as := [.ref 1, .int a1, .int a2, .int a3, .int a4]) rfl rfl rfl rfl rfl rfl rfl rfl
set_option maxRecDepth 30000 in
theorem s_171_853 : Go d 171 853 [o0, o1, some (.ref r), o3] (st) h Q = Go d 171 854 [o0, o1, some (.ref r), o3] (.ref r :: st) h Q := go_lo (E := (.aload_n 2, 0, 0, 0)) rfl rfl rfl
set_option maxRecDepth 30000 in
theorem s_171_854 : Go d 171 854 [some (.ref r), o1, o2, o3] (st) h Q = Go d 171 855 [some (.ref r), o1, o2, o3] (.ref r :: st) h Q := go_lo (E := (.aload_n 0, 0, 0, 0)) rfl rfl rfl
set_option maxRecDepth 30000 in
theorem s_171_855 : Go d 171 855 [o0, o1, o2, some (.int x)] (st) h Q = Go d 171 856 [o0, o1, o2, some (.int x)] (.int x :: st) h Q := go_lo (E := (.iload_n 3, 0, 0, 0)) rfl rfl rfl
set_option maxRecDepth 30000 in
theorem s_171_856 : Go d 171 856 L (st) h Q = Go d 171 857 L (.int (nI 1) :: st) h Q := go_ic rfl ci_i1
set_option maxRecDepth 30000 in
theorem s_171_857 : Go d 171 857 L (.int y :: .int x :: st) h Q = Go d 171 858 L (.int (x + y) :: st) h Q := go_op (E := (.iadd, 0, 0, 0)) rfl rfl
set_option maxRecDepth 30000 in
theorem s_171_858 : Go d 171 858 L (.int x :: .ref 0 :: st) (HP lx xs M) Q = (ex_in x lx = true ∧ Go d 171 859 L (.int (xs x.toNatClampNeg) :: st) (HP lx xs M) Q) := go_al rfl rfl
set_option maxRecDepth 30000 in
theorem s_171_859 : Go d 171 859 [some (.ref r), o1, o2, o3] (st) h Q = Go d 171 860 [some (.ref r), o1, o2, o3] (.ref r :: st) h Q := go_lo (E := (.aload_n 0, 0, 0, 0)) rfl rfl rfl
set_option maxRecDepth 30000 in
theorem s_171_860 : Go d 171 860 [o0, o1, o2, some (.int x)] (st) h Q = Go d 171 861 [o0, o1, o2, some (.int x)] (.int x :: st) h Q := go_lo (E := (.iload_n 3, 0, 0, 0)) rfl rfl rfl
set_option maxRecDepth 30000 in
theorem s_171_861 : Go d 171 861 L (st) h Q = Go d 171 862 L (.int (nI 2) :: st) h Q := go_ic rfl ci_i2
set_option maxRecDepth 30000 in
theorem s_171_862 : Go d 171 862 L (.int y :: .int x :: st) h Q = Go d 171 863 L (.int (x + y) :: st) h Q := go_op (E := (.iadd, 0, 0, 0)) rfl rfl
set_option maxRecDepth 30000 in
theorem s_171_863 : Go d 171 863 L (.int x :: .ref 0 :: st) (HP lx xs M) Q = (ex_in x lx = true ∧ Go d 171 864 L (.int (xs x.toNatClampNeg) :: st) (HP lx xs M) Q) := go_al rfl rfl
set_option maxRecDepth 30000 in
theorem s_171_864 : Go d 171 864 [some (.ref r), o1, o2, o3] (st) h Q = Go d 171 865 [some (.ref r), o1, o2, o3] (.ref r :: st) h Q := go_lo (E := (.aload_n 0, 0, 0, 0)) rfl rfl rfl
set_option maxRecDepth 30000 in
theorem s_171_865 : Go d 171 865 [o0, o1, o2, some (.int x)] (st) h Q = Go d 171 866 [o0, o1, o2, some (.int x)] (.int x :: st) h Q := go_lo (E := (.iload_n 3, 0, 0, 0)) rfl rfl rfl
set_option maxRecDepth 30000 in
theorem s_171_866 : Go d 171 866 L (st) h Q = Go d 171 867 L (.int (nI 3) :: st) h Q := go_ic rfl ci_i3
set_option maxRecDepth 30000 in
theorem s_171_867 : Go d 171 867 L (.int y :: .int x :: st) h Q = Go d 171 868 L (.int (x + y) :: st) h Q := go_op (E := (.iadd, 0, 0, 0)) rfl rfl
set_option maxRecDepth 30000 in
theorem s_171_868 : Go d 171 868 L (.int x :: .ref 0 :: st) (HP lx xs M) Q = (ex_in x lx = true ∧ Go d 171 869 L (.int (xs x.toNatClampNeg) :: st) (HP lx xs M) Q) := go_al rfl rfl
set_option maxRecDepth 30000 in
theorem s_171_869 : Go d 171 869 [some (.ref r), o1, o2, o3] (st) h Q = Go d 171 870 [some (.ref r), o1, o2, o3] (.ref r :: st) h Q := go_lo (E := (.aload_n 0, 0, 0, 0)) rfl rfl rfl
set_option maxRecDepth 30000 in
theorem s_171_870 : Go d 171 870 [o0, o1, o2, some (.int x)] (st) h Q = Go d 171 871 [o0, o1, o2, some (.int x)] (.int x :: st) h Q := go_lo (E := (.iload_n 3, 0, 0, 0)) rfl rfl rfl
set_option maxRecDepth 30000 in
theorem s_171_871 : Go d 171 871 L (st) h Q = Go d 171 872 L (.int (nI 4) :: st) h Q := go_ic rfl ci_i4
set_option maxRecDepth 30000 in
theorem s_171_872 : Go d 171 872 L (.int y :: .int x :: st) h Q = Go d 171 873 L (.int (x + y) :: st) h Q := go_op (E := (.iadd, 0, 0, 0)) rfl rfl
set_option maxRecDepth 30000 in
theorem s_171_873 : Go d 171 873 L (.int x :: .ref 0 :: st) (HP lx xs M) Q = (ex_in x lx = true ∧ Go d 171 874 L (.int (xs x.toNatClampNeg) :: st) (HP lx xs M) Q) := go_al rfl rfl
set_option maxRecDepth 30000 in
theorem s_171_874 {a1 : Int32} {a2 : Int32} {a3 : Int32} {a4 : Int32} {z0 : Int32} : Go (d + 1) 171 874 L [.int a4, .int a3, .int a2, .int a1, .ref 53, .int z0] (HP lx xs M) Q = Go d 168 0 [some (.ref 53), some (.int a1), some (.int a2), some (.int a3), some (.int a4), none, none, none, none, none, none, none] [] (HP lx xs M) (fun v h2 => Go (d + 1) 171 877 L (ap v [.int z0]) h2 Q) := go_cx (E := (.invokevirtual 117, 168, 0, 7)) (k' := 168) (as := [.ref 53, .int a1, .int a2, .int a3, .int a4]) rfl rfl rfl rfl rfl rfl rfl rfl
set_option maxRecDepth 30000 in
theorem s_171_877 : Go d 171 877 L (.int y :: .int x :: st) h Q = (if x = y then Go d 171 1117 L st h Q else Go d 171 880 L st h Q) := go_iceq rfl
set_option maxRecDepth 30000 in
theorem s_171_880 : Go d 171 880 L (st) h Q = Go d 171 881 L (.int (nI 0) :: st) h Q := go_ic rfl ci_i0
set_option maxRecDepth 30000 in
theorem s_171_881_0 : Go d 171 881 L [.int (nI 0)] h Q = Q (some (.int (nI 0))) h := go_rz rfl rfl (by decide)
set_option maxRecDepth 30000 in
theorem s_171_881_1 : Go d 171 881 L [.int (nI 1)] h Q = Q (some (.int (nI 1))) h := go_rz rfl rfl (by decide)
set_option maxRecDepth 30000 in
theorem s_171_882 : Go d 171 882 [o0, some (.ref r), o2, o3] (st) h Q = Go d 171 883 [o0, some (.ref r), o2, o3] (.ref r :: st) h Q := go_lo (E := (.aload_n 1, 0, 0, 0)) rfl rfl rfl
set_option maxRecDepth 30000 in
theorem s_171_883 : Go d 171 883 [some (.ref r), o1, o2, o3] (st) h Q = Go d 171 884 [some (.ref r), o1, o2, o3] (.ref r :: st) h Q := go_lo (E := (.aload_n 0, 0, 0, 0)) rfl rfl rfl
set_option maxRecDepth 30000 in
theorem s_171_884 : Go d 171 884 [o0, o1, o2, some (.int x)] (st) h Q = Go d 171 885 [o0, o1, o2, some (.int x)] (.int x :: st) h Q := go_lo (E := (.iload_n 3, 0, 0, 0)) rfl rfl rfl
set_option maxRecDepth 30000 in
theorem s_171_885 : Go d 171 885 L (st) h Q = Go d 171 886 L (.int (nI 1) :: st) h Q := go_ic rfl ci_i1
set_option maxRecDepth 30000 in
theorem s_171_886 : Go d 171 886 L (.int y :: .int x :: st) h Q = Go d 171 887 L (.int (x + y) :: st) h Q := go_op (E := (.iadd, 0, 0, 0)) rfl rfl
set_option maxRecDepth 30000 in
theorem s_171_887 : Go d 171 887 L (.int x :: .ref 0 :: st) (HP lx xs M) Q = (ex_in x lx = true ∧ Go d 171 888 L (.int (xs x.toNatClampNeg) :: st) (HP lx xs M) Q) := go_al rfl rfl
set_option maxRecDepth 30000 in
theorem s_171_888 : Go d 171 888 [some (.ref r), o1, o2, o3] (st) h Q = Go d 171 889 [some (.ref r), o1, o2, o3] (.ref r :: st) h Q := go_lo (E := (.aload_n 0, 0, 0, 0)) rfl rfl rfl
set_option maxRecDepth 30000 in
theorem s_171_889 : Go d 171 889 [o0, o1, o2, some (.int x)] (st) h Q = Go d 171 890 [o0, o1, o2, some (.int x)] (.int x :: st) h Q := go_lo (E := (.iload_n 3, 0, 0, 0)) rfl rfl rfl
set_option maxRecDepth 30000 in
theorem s_171_890 : Go d 171 890 L (st) h Q = Go d 171 891 L (.int (nI 2) :: st) h Q := go_ic rfl ci_i2
set_option maxRecDepth 30000 in
theorem s_171_891 : Go d 171 891 L (.int y :: .int x :: st) h Q = Go d 171 892 L (.int (x + y) :: st) h Q := go_op (E := (.iadd, 0, 0, 0)) rfl rfl
set_option maxRecDepth 30000 in
theorem s_171_892 : Go d 171 892 L (.int x :: .ref 0 :: st) (HP lx xs M) Q = (ex_in x lx = true ∧ Go d 171 893 L (.int (xs x.toNatClampNeg) :: st) (HP lx xs M) Q) := go_al rfl rfl
set_option maxRecDepth 30000 in
theorem s_171_893 : Go d 171 893 [some (.ref r), o1, o2, o3] (st) h Q = Go d 171 894 [some (.ref r), o1, o2, o3] (.ref r :: st) h Q := go_lo (E := (.aload_n 0, 0, 0, 0)) rfl rfl rfl
set_option maxRecDepth 30000 in
theorem s_171_894 : Go d 171 894 [o0, o1, o2, some (.int x)] (st) h Q = Go d 171 895 [o0, o1, o2, some (.int x)] (.int x :: st) h Q := go_lo (E := (.iload_n 3, 0, 0, 0)) rfl rfl rfl
set_option maxRecDepth 30000 in
theorem s_171_895 : Go d 171 895 L (st) h Q = Go d 171 896 L (.int (nI 3) :: st) h Q := go_ic rfl ci_i3
set_option maxRecDepth 30000 in
theorem s_171_896 : Go d 171 896 L (.int y :: .int x :: st) h Q = Go d 171 897 L (.int (x + y) :: st) h Q := go_op (E := (.iadd, 0, 0, 0)) rfl rfl
set_option maxRecDepth 30000 in
theorem s_171_897 : Go d 171 897 L (.int x :: .ref 0 :: st) (HP lx xs M) Q = (ex_in x lx = true ∧ Go d 171 898 L (.int (xs x.toNatClampNeg) :: st) (HP lx xs M) Q) := go_al rfl rfl
set_option maxRecDepth 30000 in
theorem s_171_898 : Go d 171 898 [some (.ref r), o1, o2, o3] (st) h Q = Go d 171 899 [some (.ref r), o1, o2, o3] (.ref r :: st) h Q := go_lo (E := (.aload_n 0, 0, 0, 0)) rfl rfl rfl
set_option maxRecDepth 30000 in
theorem s_171_899 : Go d 171 899 [o0, o1, o2, some (.int x)] (st) h Q = Go d 171 900 [o0, o1, o2, some (.int x)] (.int x :: st) h Q := go_lo (E := (.iload_n 3, 0, 0, 0)) rfl rfl rfl
set_option maxRecDepth 30000 in
theorem s_171_900 : Go d 171 900 L (st) h Q = Go d 171 901 L (.int (nI 4) :: st) h Q := go_ic rfl ci_i4
set_option maxRecDepth 30000 in
theorem s_171_901 : Go d 171 901 L (.int y :: .int x :: st) h Q = Go d 171 902 L (.int (x + y) :: st) h Q := go_op (E := (.iadd, 0, 0, 0)) rfl rfl
set_option maxRecDepth 30000 in
theorem s_171_902 : Go d 171 902 L (.int x :: .ref 0 :: st) (HP lx xs M) Q = (ex_in x lx = true ∧ Go d 171 903 L (.int (xs x.toNatClampNeg) :: st) (HP lx xs M) Q) := go_al rfl rfl
set_option maxRecDepth 30000 in
theorem s_171_903 {a1 : Int32} {a2 : Int32} {a3 : Int32} {a4 : Int32} : Go (d + 1) 171 903 L [.int a4, .int a3, .int a2, .int a1, .ref 1] (HP lx xs M) Q = Go d 40 0 [some (.ref 1), some (.int a1), some (.int a2), some (.int a3), some (.int a4), none, none, none] [] (HP lx xs M) (fun v h2 => Go (d + 1) 171 906 L (ap v []) h2 Q) := go_cx (E := (.invokevirtual 118, 40, 0, 6)) (k' := 40) (as := [.ref 1, .int a1, .int a2, .int a3, .int a4]) rfl rfl rfl rfl rfl rfl rfl rfl
set_option maxRecDepth 30000 in
theorem s_171_906 : Go d 171 906 [o0, o1, some (.ref r), o3] (st) h Q = Go d 171 907 [o0, o1, some (.ref r), o3] (.ref r :: st) h Q := go_lo (E := (.aload_n 2, 0, 0, 0)) rfl rfl rfl
set_option maxRecDepth 30000 in
theorem s_171_907 : Go d 171 907 [some (.ref r), o1, o2, o3] (st) h Q = Go d 171 908 [some (.ref r), o1, o2, o3] (.ref r :: st) h Q := go_lo (E := (.aload_n 0, 0, 0, 0)) rfl rfl rfl
set_option maxRecDepth 30000 in
theorem s_171_908 : Go d 171 908 [o0, o1, o2, some (.int x)] (st) h Q = Go d 171 909 [o0, o1, o2, some (.int x)] (.int x :: st) h Q := go_lo (E := (.iload_n 3, 0, 0, 0)) rfl rfl rfl
set_option maxRecDepth 30000 in
theorem s_171_909 : Go d 171 909 L (st) h Q = Go d 171 910 L (.int (nI 1) :: st) h Q := go_ic rfl ci_i1
set_option maxRecDepth 30000 in
theorem s_171_910 : Go d 171 910 L (.int y :: .int x :: st) h Q = Go d 171 911 L (.int (x + y) :: st) h Q := go_op (E := (.iadd, 0, 0, 0)) rfl rfl
set_option maxRecDepth 30000 in
theorem s_171_911 : Go d 171 911 L (.int x :: .ref 0 :: st) (HP lx xs M) Q = (ex_in x lx = true ∧ Go d 171 912 L (.int (xs x.toNatClampNeg) :: st) (HP lx xs M) Q) := go_al rfl rfl
set_option maxRecDepth 30000 in
theorem s_171_912 : Go d 171 912 [some (.ref r), o1, o2, o3] (st) h Q = Go d 171 913 [some (.ref r), o1, o2, o3] (.ref r :: st) h Q := go_lo (E := (.aload_n 0, 0, 0, 0)) rfl rfl rfl
set_option maxRecDepth 30000 in
theorem s_171_913 : Go d 171 913 [o0, o1, o2, some (.int x)] (st) h Q = Go d 171 914 [o0, o1, o2, some (.int x)] (.int x :: st) h Q := go_lo (E := (.iload_n 3, 0, 0, 0)) rfl rfl rfl
set_option maxRecDepth 30000 in
theorem s_171_914 : Go d 171 914 L (st) h Q = Go d 171 915 L (.int (nI 2) :: st) h Q := go_ic rfl ci_i2
set_option maxRecDepth 30000 in
theorem s_171_915 : Go d 171 915 L (.int y :: .int x :: st) h Q = Go d 171 916 L (.int (x + y) :: st) h Q := go_op (E := (.iadd, 0, 0, 0)) rfl rfl
set_option maxRecDepth 30000 in
theorem s_171_916 : Go d 171 916 L (.int x :: .ref 0 :: st) (HP lx xs M) Q = (ex_in x lx = true ∧ Go d 171 917 L (.int (xs x.toNatClampNeg) :: st) (HP lx xs M) Q) := go_al rfl rfl
set_option maxRecDepth 30000 in
theorem s_171_917 : Go d 171 917 [some (.ref r), o1, o2, o3] (st) h Q = Go d 171 918 [some (.ref r), o1, o2, o3] (.ref r :: st) h Q := go_lo (E := (.aload_n 0, 0, 0, 0)) rfl rfl rfl
set_option maxRecDepth 30000 in
theorem s_171_918 : Go d 171 918 [o0, o1, o2, some (.int x)] (st) h Q = Go d 171 919 [o0, o1, o2, some (.int x)] (.int x :: st) h Q := go_lo (E := (.iload_n 3, 0, 0, 0)) rfl rfl rfl
set_option maxRecDepth 30000 in
theorem s_171_919 : Go d 171 919 L (st) h Q = Go d 171 920 L (.int (nI 3) :: st) h Q := go_ic rfl ci_i3
set_option maxRecDepth 30000 in
theorem s_171_920 : Go d 171 920 L (.int y :: .int x :: st) h Q = Go d 171 921 L (.int (x + y) :: st) h Q := go_op (E := (.iadd, 0, 0, 0)) rfl rfl
set_option maxRecDepth 30000 in
theorem s_171_921 : Go d 171 921 L (.int x :: .ref 0 :: st) (HP lx xs M) Q = (ex_in x lx = true ∧ Go d 171 922 L (.int (xs x.toNatClampNeg) :: st) (HP lx xs M) Q) := go_al rfl rfl
set_option maxRecDepth 30000 in
theorem s_171_922 : Go d 171 922 [some (.ref r), o1, o2, o3] (st) h Q = Go d 171 923 [some (.ref r), o1, o2, o3] (.ref r :: st) h Q := go_lo (E := (.aload_n 0, 0, 0, 0)) rfl rfl rfl
set_option maxRecDepth 30000 in
theorem s_171_923 : Go d 171 923 [o0, o1, o2, some (.int x)] (st) h Q = Go d 171 924 [o0, o1, o2, some (.int x)] (.int x :: st) h Q := go_lo (E := (.iload_n 3, 0, 0, 0)) rfl rfl rfl
set_option maxRecDepth 30000 in
theorem s_171_924 : Go d 171 924 L (st) h Q = Go d 171 925 L (.int (nI 4) :: st) h Q := go_ic rfl ci_i4
set_option maxRecDepth 30000 in
theorem s_171_925 : Go d 171 925 L (.int y :: .int x :: st) h Q = Go d 171 926 L (.int (x + y) :: st) h Q := go_op (E := (.iadd, 0, 0, 0)) rfl rfl
set_option maxRecDepth 30000 in
theorem s_171_926 : Go d 171 926 L (.int x :: .ref 0 :: st) (HP lx xs M) Q = (ex_in x lx = true ∧ Go d 171 927 L (.int (xs x.toNatClampNeg) :: st) (HP lx xs M) Q) := go_al rfl rfl
set_option maxRecDepth 30000 in
theorem s_171_927 {a1 : Int32} {a2 : Int32} {a3 : Int32} {a4 : Int32} {z0 : Int32} : Go (d + 1) 171 927 L [.int a4, .int a3, .int a2, .int a1, .ref 53, .int z0] (HP lx xs M) Q = Go d 169 0 [some (.ref 53), some (.int a1), some (.int a2), some (.int a3), some (.int a4), none, none] [] (HP lx xs M) (fun v h2 => Go (d + 1) 171 930 L (ap v [.int z0]) h2 Q) := go_cx (E := (.invokevirtual 121, 169, 0, 7)) (k' := 169) (as := [.ref 53, .int a1, .int a2, .int a3, .int a4]) rfl rfl rfl rfl rfl rfl rfl rfl
set_option maxRecDepth 30000 in
theorem s_171_930 : Go d 171 930 L (.int y :: .int x :: st) h Q = (if x = y then Go d 171 1117 L st h Q else Go d 171 933 L st h Q) := go_iceq rfl
set_option maxRecDepth 30000 in
theorem s_171_933 : Go d 171 933 L (st) h Q = Go d 171 934 L (.int (nI 0) :: st) h Q := go_ic rfl ci_i0
set_option maxRecDepth 30000 in
theorem s_171_934_0 : Go d 171 934 L [.int (nI 0)] h Q = Q (some (.int (nI 0))) h := go_rz rfl rfl (by decide)
set_option maxRecDepth 30000 in
theorem s_171_934_1 : Go d 171 934 L [.int (nI 1)] h Q = Q (some (.int (nI 1))) h := go_rz rfl rfl (by decide)
set_option maxRecDepth 30000 in
theorem s_171_935 : Go d 171 935 [o0, some (.ref r), o2, o3] (st) h Q = Go d 171 936 [o0, some (.ref r), o2, o3] (.ref r :: st) h Q := go_lo (E := (.aload_n 1, 0, 0, 0)) rfl rfl rfl
set_option maxRecDepth 30000 in
theorem s_171_936 : Go d 171 936 [some (.ref r), o1, o2, o3] (st) h Q = Go d 171 937 [some (.ref r), o1, o2, o3] (.ref r :: st) h Q := go_lo (E := (.aload_n 0, 0, 0, 0)) rfl rfl rfl
set_option maxRecDepth 30000 in
theorem s_171_937 : Go d 171 937 [o0, o1, o2, some (.int x)] (st) h Q = Go d 171 938 [o0, o1, o2, some (.int x)] (.int x :: st) h Q := go_lo (E := (.iload_n 3, 0, 0, 0)) rfl rfl rfl
set_option maxRecDepth 30000 in
theorem s_171_938 : Go d 171 938 L (st) h Q = Go d 171 939 L (.int (nI 1) :: st) h Q := go_ic rfl ci_i1
set_option maxRecDepth 30000 in
theorem s_171_939 : Go d 171 939 L (.int y :: .int x :: st) h Q = Go d 171 940 L (.int (x + y) :: st) h Q := go_op (E := (.iadd, 0, 0, 0)) rfl rfl
set_option maxRecDepth 30000 in
theorem s_171_940 : Go d 171 940 L (.int x :: .ref 0 :: st) (HP lx xs M) Q = (ex_in x lx = true ∧ Go d 171 941 L (.int (xs x.toNatClampNeg) :: st) (HP lx xs M) Q) := go_al rfl rfl
set_option maxRecDepth 30000 in
theorem s_171_941 : Go d 171 941 [some (.ref r), o1, o2, o3] (st) h Q = Go d 171 942 [some (.ref r), o1, o2, o3] (.ref r :: st) h Q := go_lo (E := (.aload_n 0, 0, 0, 0)) rfl rfl rfl
set_option maxRecDepth 30000 in
theorem s_171_942 : Go d 171 942 [o0, o1, o2, some (.int x)] (st) h Q = Go d 171 943 [o0, o1, o2, some (.int x)] (.int x :: st) h Q := go_lo (E := (.iload_n 3, 0, 0, 0)) rfl rfl rfl
set_option maxRecDepth 30000 in
theorem s_171_943 : Go d 171 943 L (st) h Q = Go d 171 944 L (.int (nI 2) :: st) h Q := go_ic rfl ci_i2
set_option maxRecDepth 30000 in
theorem s_171_944 : Go d 171 944 L (.int y :: .int x :: st) h Q = Go d 171 945 L (.int (x + y) :: st) h Q := go_op (E := (.iadd, 0, 0, 0)) rfl rfl
set_option maxRecDepth 30000 in
theorem s_171_945 : Go d 171 945 L (.int x :: .ref 0 :: st) (HP lx xs M) Q = (ex_in x lx = true ∧ Go d 171 946 L (.int (xs x.toNatClampNeg) :: st) (HP lx xs M) Q) := go_al rfl rfl
set_option maxRecDepth 30000 in
theorem s_171_946 : Go d 171 946 [some (.ref r), o1, o2, o3] (st) h Q = Go d 171 947 [some (.ref r), o1, o2, o3] (.ref r :: st) h Q := go_lo (E := (.aload_n 0, 0, 0, 0)) rfl rfl rfl
set_option maxRecDepth 30000 in
theorem s_171_947 : Go d 171 947 [o0, o1, o2, some (.int x)] (st) h Q = Go d 171 948 [o0, o1, o2, some (.int x)] (.int x :: st) h Q := go_lo (E := (.iload_n 3, 0, 0, 0)) rfl rfl rfl
set_option maxRecDepth 30000 in
theorem s_171_948 : Go d 171 948 L (st) h Q = Go d 171 949 L (.int (nI 3) :: st) h Q := go_ic rfl ci_i3
set_option maxRecDepth 30000 in
theorem s_171_949 : Go d 171 949 L (.int y :: .int x :: st) h Q = Go d 171 950 L (.int (x + y) :: st) h Q := go_op (E := (.iadd, 0, 0, 0)) rfl rfl
set_option maxRecDepth 30000 in
theorem s_171_950 : Go d 171 950 L (.int x :: .ref 0 :: st) (HP lx xs M) Q = (ex_in x lx = true ∧ Go d 171 951 L (.int (xs x.toNatClampNeg) :: st) (HP lx xs M) Q) := go_al rfl rfl
set_option maxRecDepth 30000 in
theorem s_171_951 {a1 : Int32} {a2 : Int32} {a3 : Int32} : Go (d + 1) 171 951 L [.int a3, .int a2, .int a1, .ref 1] (HP lx xs M) Q = Go d 41 0 [some (.ref 1), some (.int a1), some (.int a2), some (.int a3)] [] (HP lx xs M) (fun v h2 => Go (d + 1) 171 954 L (ap v []) h2 Q) := go_cx (E := (.invokevirtual 122, 41, 0, 6)) (k' := 41) (as := [.ref 1, .int a1, .int a2, .int a3]) rfl rfl rfl rfl rfl rfl rfl rfl
set_option maxRecDepth 30000 in
theorem s_171_954 : Go d 171 954 [o0, o1, some (.ref r), o3] (st) h Q = Go d 171 955 [o0, o1, some (.ref r), o3] (.ref r :: st) h Q := go_lo (E := (.aload_n 2, 0, 0, 0)) rfl rfl rfl
set_option maxRecDepth 30000 in
theorem s_171_955 : Go d 171 955 [some (.ref r), o1, o2, o3] (st) h Q = Go d 171 956 [some (.ref r), o1, o2, o3] (.ref r :: st) h Q := go_lo (E := (.aload_n 0, 0, 0, 0)) rfl rfl rfl
set_option maxRecDepth 30000 in
theorem s_171_956 : Go d 171 956 [o0, o1, o2, some (.int x)] (st) h Q = Go d 171 957 [o0, o1, o2, some (.int x)] (.int x :: st) h Q := go_lo (E := (.iload_n 3, 0, 0, 0)) rfl rfl rfl
set_option maxRecDepth 30000 in
theorem s_171_957 : Go d 171 957 L (st) h Q = Go d 171 958 L (.int (nI 1) :: st) h Q := go_ic rfl ci_i1
set_option maxRecDepth 30000 in
theorem s_171_958 : Go d 171 958 L (.int y :: .int x :: st) h Q = Go d 171 959 L (.int (x + y) :: st) h Q := go_op (E := (.iadd, 0, 0, 0)) rfl rfl
set_option maxRecDepth 30000 in
theorem s_171_959 : Go d 171 959 L (.int x :: .ref 0 :: st) (HP lx xs M) Q = (ex_in x lx = true ∧ Go d 171 960 L (.int (xs x.toNatClampNeg) :: st) (HP lx xs M) Q) := go_al rfl rfl
set_option maxRecDepth 30000 in
theorem s_171_960 : Go d 171 960 [some (.ref r), o1, o2, o3] (st) h Q = Go d 171 961 [some (.ref r), o1, o2, o3] (.ref r :: st) h Q := go_lo (E := (.aload_n 0, 0, 0, 0)) rfl rfl rfl
set_option maxRecDepth 30000 in
theorem s_171_961 : Go d 171 961 [o0, o1, o2, some (.int x)] (st) h Q = Go d 171 962 [o0, o1, o2, some (.int x)] (.int x :: st) h Q := go_lo (E := (.iload_n 3, 0, 0, 0)) rfl rfl rfl
set_option maxRecDepth 30000 in
theorem s_171_962 : Go d 171 962 L (st) h Q = Go d 171 963 L (.int (nI 2) :: st) h Q := go_ic rfl ci_i2
set_option maxRecDepth 30000 in
theorem s_171_963 : Go d 171 963 L (.int y :: .int x :: st) h Q = Go d 171 964 L (.int (x + y) :: st) h Q := go_op (E := (.iadd, 0, 0, 0)) rfl rfl
set_option maxRecDepth 30000 in
theorem s_171_964 : Go d 171 964 L (.int x :: .ref 0 :: st) (HP lx xs M) Q = (ex_in x lx = true ∧ Go d 171 965 L (.int (xs x.toNatClampNeg) :: st) (HP lx xs M) Q) := go_al rfl rfl
set_option maxRecDepth 30000 in
theorem s_171_965 : Go d 171 965 [some (.ref r), o1, o2, o3] (st) h Q = Go d 171 966 [some (.ref r), o1, o2, o3] (.ref r :: st) h Q := go_lo (E := (.aload_n 0, 0, 0, 0)) rfl rfl rfl
set_option maxRecDepth 30000 in
theorem s_171_966 : Go d 171 966 [o0, o1, o2, some (.int x)] (st) h Q = Go d 171 967 [o0, o1, o2, some (.int x)] (.int x :: st) h Q := go_lo (E := (.iload_n 3, 0, 0, 0)) rfl rfl rfl
set_option maxRecDepth 30000 in
theorem s_171_967 : Go d 171 967 L (st) h Q = Go d 171 968 L (.int (nI 3) :: st) h Q := go_ic rfl ci_i3
set_option maxRecDepth 30000 in
theorem s_171_968 : Go d 171 968 L (.int y :: .int x :: st) h Q = Go d 171 969 L (.int (x + y) :: st) h Q := go_op (E := (.iadd, 0, 0, 0)) rfl rfl
set_option maxRecDepth 30000 in
theorem s_171_969 : Go d 171 969 L (.int x :: .ref 0 :: st) (HP lx xs M) Q = (ex_in x lx = true ∧ Go d 171 970 L (.int (xs x.toNatClampNeg) :: st) (HP lx xs M) Q) := go_al rfl rfl
set_option maxRecDepth 30000 in
theorem s_171_970 {a1 : Int32} {a2 : Int32} {a3 : Int32} {z0 : Int32} : Go (d + 1) 171 970 L [.int a3, .int a2, .int a1, .ref 53, .int z0] (HP lx xs M) Q = Go d 164 0 [some (.ref 53), some (.int a1), some (.int a2), some (.int a3), none] [] (HP lx xs M) (fun v h2 => Go (d + 1) 171 973 L (ap v [.int z0]) h2 Q) := go_cx (E := (.invokevirtual 125, 164, 0, 7)) (k' := 164) (as := [.ref 53, .int a1, .int a2, .int a3]) rfl rfl rfl rfl rfl rfl rfl rfl
set_option maxRecDepth 30000 in
theorem s_171_973 : Go d 171 973 L (.int y :: .int x :: st) h Q = (if x = y then Go d 171 1117 L st h Q else Go d 171 976 L st h Q) := go_iceq rfl
set_option maxRecDepth 30000 in
theorem s_171_976 : Go d 171 976 L (st) h Q = Go d 171 977 L (.int (nI 0) :: st) h Q := go_ic rfl ci_i0
set_option maxRecDepth 30000 in
theorem s_171_977_0 : Go d 171 977 L [.int (nI 0)] h Q = Q (some (.int (nI 0))) h := go_rz rfl rfl (by decide)
set_option maxRecDepth 30000 in
theorem s_171_977_1 : Go d 171 977 L [.int (nI 1)] h Q = Q (some (.int (nI 1))) h := go_rz rfl rfl (by decide)
set_option maxRecDepth 30000 in
theorem s_171_978 : Go d 171 978 [o0, some (.ref r), o2, o3] (st) h Q = Go d 171 979 [o0, some (.ref r), o2, o3] (.ref r :: st) h Q := go_lo (E := (.aload_n 1, 0, 0, 0)) rfl rfl rfl
set_option maxRecDepth 30000 in
theorem s_171_979 : Go d 171 979 [some (.ref r), o1, o2, o3] (st) h Q = Go d 171 980 [some (.ref r), o1, o2, o3] (.ref r :: st) h Q := go_lo (E := (.aload_n 0, 0, 0, 0)) rfl rfl rfl
set_option maxRecDepth 30000 in
theorem s_171_980 : Go d 171 980 [o0, o1, o2, some (.int x)] (st) h Q = Go d 171 981 [o0, o1, o2, some (.int x)] (.int x :: st) h Q := go_lo (E := (.iload_n 3, 0, 0, 0)) rfl rfl rfl
set_option maxRecDepth 30000 in
theorem s_171_981 : Go d 171 981 L (st) h Q = Go d 171 982 L (.int (nI 1) :: st) h Q := go_ic rfl ci_i1
set_option maxRecDepth 30000 in
theorem s_171_982 : Go d 171 982 L (.int y :: .int x :: st) h Q = Go d 171 983 L (.int (x + y) :: st) h Q := go_op (E := (.iadd, 0, 0, 0)) rfl rfl
set_option maxRecDepth 30000 in
theorem s_171_983 : Go d 171 983 L (.int x :: .ref 0 :: st) (HP lx xs M) Q = (ex_in x lx = true ∧ Go d 171 984 L (.int (xs x.toNatClampNeg) :: st) (HP lx xs M) Q) := go_al rfl rfl
set_option maxRecDepth 30000 in
theorem s_171_984 {a1 : Int32} : Go (d + 1) 171 984 L [.int a1, .ref 1] (HP lx xs M) Q = Go d 42 0 [some (.ref 1), some (.int a1), none, none] [] (HP lx xs M) (fun v h2 => Go (d + 1) 171 987 L (ap v []) h2 Q) := go_cx (E := (.invokevirtual 126, 42, 0, 6)) (k' := 42) (as := [.ref 1, .int a1]) rfl rfl rfl rfl rfl rfl rfl rfl
set_option maxRecDepth 30000 in
theorem s_171_987 : Go d 171 987 [o0, o1, some (.ref r), o3] (st) h Q = Go d 171 988 [o0, o1, some (.ref r), o3] (.ref r :: st) h Q := go_lo (E := (.aload_n 2, 0, 0, 0)) rfl rfl rfl
set_option maxRecDepth 30000 in
theorem s_171_988 : Go d 171 988 [some (.ref r), o1, o2, o3] (st) h Q = Go d 171 989 [some (.ref r), o1, o2, o3] (.ref r :: st) h Q := go_lo (E := (.aload_n 0, 0, 0, 0)) rfl rfl rfl
set_option maxRecDepth 30000 in
theorem s_171_989 : Go d 171 989 [o0, o1, o2, some (.int x)] (st) h Q = Go d 171 990 [o0, o1, o2, some (.int x)] (.int x :: st) h Q := go_lo (E := (.iload_n 3, 0, 0, 0)) rfl rfl rfl
set_option maxRecDepth 30000 in
theorem s_171_990 : Go d 171 990 L (st) h Q = Go d 171 991 L (.int (nI 1) :: st) h Q := go_ic rfl ci_i1
set_option maxRecDepth 30000 in
theorem s_171_991 : Go d 171 991 L (.int y :: .int x :: st) h Q = Go d 171 992 L (.int (x + y) :: st) h Q := go_op (E := (.iadd, 0, 0, 0)) rfl rfl
set_option maxRecDepth 30000 in
theorem s_171_992 : Go d 171 992 L (.int x :: .ref 0 :: st) (HP lx xs M) Q = (ex_in x lx = true ∧ Go d 171 993 L (.int (xs x.toNatClampNeg) :: st) (HP lx xs M) Q) := go_al rfl rfl
set_option maxRecDepth 30000 in
theorem s_171_993 {a1 : Int32} {z0 : Int32} : Go (d + 1) 171 993 L [.int a1, .ref 53, .int z0] (HP lx xs M) Q = Go d 165 0 [some (.ref 53), some (.int a1)] [] (HP lx xs M) (fun v h2 => Go (d + 1) 171 996 L (ap v [.int z0]) h2 Q) := go_cx (E := (.invokevirtual 129, 165, 0, 7)) (k' := 165) (as := [.ref 53, .int a1]) rfl rfl rfl rfl rfl rfl rfl rfl
set_option maxRecDepth 30000 in
theorem s_171_996 : Go d 171 996 L (.int y :: .int x :: st) h Q = (if x = y then Go d 171 1117 L st h Q else Go d 171 999 L st h Q) := go_iceq rfl
set_option maxRecDepth 30000 in
theorem s_171_999 : Go d 171 999 L (st) h Q = Go d 171 1000 L (.int (nI 0) :: st) h Q := go_ic rfl ci_i0
set_option maxRecDepth 30000 in
theorem s_171_1000_0 : Go d 171 1000 L [.int (nI 0)] h Q = Q (some (.int (nI 0))) h := go_rz rfl rfl (by decide)
set_option maxRecDepth 30000 in
theorem s_171_1000_1 : Go d 171 1000 L [.int (nI 1)] h Q = Q (some (.int (nI 1))) h := go_rz rfl rfl (by decide)
set_option maxRecDepth 30000 in
theorem s_171_1001 : Go d 171 1001 [o0, some (.ref r), o2, o3] (st) h Q = Go d 171 1002 [o0, some (.ref r), o2, o3] (.ref r :: st) h Q := go_lo (E := (.aload_n 1, 0, 0, 0)) rfl rfl rfl
set_option maxRecDepth 30000 in
theorem s_171_1002 : Go d 171 1002 [some (.ref r), o1, o2, o3] (st) h Q = Go d 171 1003 [some (.ref r), o1, o2, o3] (.ref r :: st) h Q := go_lo (E := (.aload_n 0, 0, 0, 0)) rfl rfl rfl
set_option maxRecDepth 30000 in
theorem s_171_1003 : Go d 171 1003 [o0, o1, o2, some (.int x)] (st) h Q = Go d 171 1004 [o0, o1, o2, some (.int x)] (.int x :: st) h Q := go_lo (E := (.iload_n 3, 0, 0, 0)) rfl rfl rfl
set_option maxRecDepth 30000 in
theorem s_171_1004 : Go d 171 1004 L (st) h Q = Go d 171 1005 L (.int (nI 1) :: st) h Q := go_ic rfl ci_i1
set_option maxRecDepth 30000 in
theorem s_171_1005 : Go d 171 1005 L (.int y :: .int x :: st) h Q = Go d 171 1006 L (.int (x + y) :: st) h Q := go_op (E := (.iadd, 0, 0, 0)) rfl rfl
set_option maxRecDepth 30000 in
theorem s_171_1006 : Go d 171 1006 L (.int x :: .ref 0 :: st) (HP lx xs M) Q = (ex_in x lx = true ∧ Go d 171 1007 L (.int (xs x.toNatClampNeg) :: st) (HP lx xs M) Q) := go_al rfl rfl
set_option maxRecDepth 30000 in
theorem s_171_1007 : Go d 171 1007 [some (.ref r), o1, o2, o3] (st) h Q = Go d 171 1008 [some (.ref r), o1, o2, o3] (.ref r :: st) h Q := go_lo (E := (.aload_n 0, 0, 0, 0)) rfl rfl rfl
set_option maxRecDepth 30000 in
theorem s_171_1008 : Go d 171 1008 [o0, o1, o2, some (.int x)] (st) h Q = Go d 171 1009 [o0, o1, o2, some (.int x)] (.int x :: st) h Q := go_lo (E := (.iload_n 3, 0, 0, 0)) rfl rfl rfl
set_option maxRecDepth 30000 in
theorem s_171_1009 : Go d 171 1009 L (st) h Q = Go d 171 1010 L (.int (nI 2) :: st) h Q := go_ic rfl ci_i2
set_option maxRecDepth 30000 in
theorem s_171_1010 : Go d 171 1010 L (.int y :: .int x :: st) h Q = Go d 171 1011 L (.int (x + y) :: st) h Q := go_op (E := (.iadd, 0, 0, 0)) rfl rfl
set_option maxRecDepth 30000 in
theorem s_171_1011 : Go d 171 1011 L (.int x :: .ref 0 :: st) (HP lx xs M) Q = (ex_in x lx = true ∧ Go d 171 1012 L (.int (xs x.toNatClampNeg) :: st) (HP lx xs M) Q) := go_al rfl rfl
set_option maxRecDepth 30000 in
theorem s_171_1012 : Go d 171 1012 [some (.ref r), o1, o2, o3] (st) h Q = Go d 171 1013 [some (.ref r), o1, o2, o3] (.ref r :: st) h Q := go_lo (E := (.aload_n 0, 0, 0, 0)) rfl rfl rfl
set_option maxRecDepth 30000 in
theorem s_171_1013 : Go d 171 1013 [o0, o1, o2, some (.int x)] (st) h Q = Go d 171 1014 [o0, o1, o2, some (.int x)] (.int x :: st) h Q := go_lo (E := (.iload_n 3, 0, 0, 0)) rfl rfl rfl
set_option maxRecDepth 30000 in
theorem s_171_1014 : Go d 171 1014 L (st) h Q = Go d 171 1015 L (.int (nI 3) :: st) h Q := go_ic rfl ci_i3
set_option maxRecDepth 30000 in
theorem s_171_1015 : Go d 171 1015 L (.int y :: .int x :: st) h Q = Go d 171 1016 L (.int (x + y) :: st) h Q := go_op (E := (.iadd, 0, 0, 0)) rfl rfl
set_option maxRecDepth 30000 in
theorem s_171_1016 : Go d 171 1016 L (.int x :: .ref 0 :: st) (HP lx xs M) Q = (ex_in x lx = true ∧ Go d 171 1017 L (.int (xs x.toNatClampNeg) :: st) (HP lx xs M) Q) := go_al rfl rfl
set_option maxRecDepth 30000 in
theorem s_171_1017 : Go d 171 1017 [some (.ref r), o1, o2, o3] (st) h Q = Go d 171 1018 [some (.ref r), o1, o2, o3] (.ref r :: st) h Q := go_lo (E := (.aload_n 0, 0, 0, 0)) rfl rfl rfl
set_option maxRecDepth 30000 in
theorem s_171_1018 : Go d 171 1018 [o0, o1, o2, some (.int x)] (st) h Q = Go d 171 1019 [o0, o1, o2, some (.int x)] (.int x :: st) h Q := go_lo (E := (.iload_n 3, 0, 0, 0)) rfl rfl rfl
set_option maxRecDepth 30000 in
theorem s_171_1019 : Go d 171 1019 L (st) h Q = Go d 171 1020 L (.int (nI 4) :: st) h Q := go_ic rfl ci_i4
set_option maxRecDepth 30000 in
theorem s_171_1020 : Go d 171 1020 L (.int y :: .int x :: st) h Q = Go d 171 1021 L (.int (x + y) :: st) h Q := go_op (E := (.iadd, 0, 0, 0)) rfl rfl
set_option maxRecDepth 30000 in
theorem s_171_1021 : Go d 171 1021 L (.int x :: .ref 0 :: st) (HP lx xs M) Q = (ex_in x lx = true ∧ Go d 171 1022 L (.int (xs x.toNatClampNeg) :: st) (HP lx xs M) Q) := go_al rfl rfl
set_option maxRecDepth 30000 in
theorem s_171_1022 {a1 : Int32} {a2 : Int32} {a3 : Int32} {a4 : Int32} : Go (d + 1) 171 1022 L [.int a4, .int a3, .int a2, .int a1, .ref 1] (HP lx xs M) Q = Go d 43 0 [some (.ref 1), some (.int a1), some (.int a2), some (.int a3), some (.int a4), none, none] [] (HP lx xs M) (fun v h2 => Go (d + 1) 171 1025 L (ap v []) h2 Q) := go_cx (E := (.invokevirtual 130, 43, 0, 6)) (k' := 43) (as := [.ref 1, .int a1, .int a2, .int a3, .int a4]) rfl rfl rfl rfl rfl rfl rfl rfl
set_option maxRecDepth 30000 in
theorem s_171_1025 : Go d 171 1025 [o0, o1, some (.ref r), o3] (st) h Q = Go d 171 1026 [o0, o1, some (.ref r), o3] (.ref r :: st) h Q := go_lo (E := (.aload_n 2, 0, 0, 0)) rfl rfl rfl
set_option maxRecDepth 30000 in
theorem s_171_1026 : Go d 171 1026 [some (.ref r), o1, o2, o3] (st) h Q = Go d 171 1027 [some (.ref r), o1, o2, o3] (.ref r :: st) h Q := go_lo (E := (.aload_n 0, 0, 0, 0)) rfl rfl rfl
set_option maxRecDepth 30000 in
theorem s_171_1027 : Go d 171 1027 [o0, o1, o2, some (.int x)] (st) h Q = Go d 171 1028 [o0, o1, o2, some (.int x)] (.int x :: st) h Q := go_lo (E := (.iload_n 3, 0, 0, 0)) rfl rfl rfl
set_option maxRecDepth 30000 in
theorem s_171_1028 : Go d 171 1028 L (st) h Q = Go d 171 1029 L (.int (nI 1) :: st) h Q := go_ic rfl ci_i1
set_option maxRecDepth 30000 in
theorem s_171_1029 : Go d 171 1029 L (.int y :: .int x :: st) h Q = Go d 171 1030 L (.int (x + y) :: st) h Q := go_op (E := (.iadd, 0, 0, 0)) rfl rfl
set_option maxRecDepth 30000 in
theorem s_171_1030 : Go d 171 1030 L (.int x :: .ref 0 :: st) (HP lx xs M) Q = (ex_in x lx = true ∧ Go d 171 1031 L (.int (xs x.toNatClampNeg) :: st) (HP lx xs M) Q) := go_al rfl rfl
set_option maxRecDepth 30000 in
theorem s_171_1031 : Go d 171 1031 [some (.ref r), o1, o2, o3] (st) h Q = Go d 171 1032 [some (.ref r), o1, o2, o3] (.ref r :: st) h Q := go_lo (E := (.aload_n 0, 0, 0, 0)) rfl rfl rfl
set_option maxRecDepth 30000 in
theorem s_171_1032 : Go d 171 1032 [o0, o1, o2, some (.int x)] (st) h Q = Go d 171 1033 [o0, o1, o2, some (.int x)] (.int x :: st) h Q := go_lo (E := (.iload_n 3, 0, 0, 0)) rfl rfl rfl
set_option maxRecDepth 30000 in
theorem s_171_1033 : Go d 171 1033 L (st) h Q = Go d 171 1034 L (.int (nI 2) :: st) h Q := go_ic rfl ci_i2
set_option maxRecDepth 30000 in
theorem s_171_1034 : Go d 171 1034 L (.int y :: .int x :: st) h Q = Go d 171 1035 L (.int (x + y) :: st) h Q := go_op (E := (.iadd, 0, 0, 0)) rfl rfl
set_option maxRecDepth 30000 in
theorem s_171_1035 : Go d 171 1035 L (.int x :: .ref 0 :: st) (HP lx xs M) Q = (ex_in x lx = true ∧ Go d 171 1036 L (.int (xs x.toNatClampNeg) :: st) (HP lx xs M) Q) := go_al rfl rfl
set_option maxRecDepth 30000 in
theorem s_171_1036 : Go d 171 1036 [some (.ref r), o1, o2, o3] (st) h Q = Go d 171 1037 [some (.ref r), o1, o2, o3] (.ref r :: st) h Q := go_lo (E := (.aload_n 0, 0, 0, 0)) rfl rfl rfl
set_option maxRecDepth 30000 in
theorem s_171_1037 : Go d 171 1037 [o0, o1, o2, some (.int x)] (st) h Q = Go d 171 1038 [o0, o1, o2, some (.int x)] (.int x :: st) h Q := go_lo (E := (.iload_n 3, 0, 0, 0)) rfl rfl rfl
set_option maxRecDepth 30000 in
theorem s_171_1038 : Go d 171 1038 L (st) h Q = Go d 171 1039 L (.int (nI 3) :: st) h Q := go_ic rfl ci_i3
set_option maxRecDepth 30000 in
theorem s_171_1039 : Go d 171 1039 L (.int y :: .int x :: st) h Q = Go d 171 1040 L (.int (x + y) :: st) h Q := go_op (E := (.iadd, 0, 0, 0)) rfl rfl
set_option maxRecDepth 30000 in
theorem s_171_1040 : Go d 171 1040 L (.int x :: .ref 0 :: st) (HP lx xs M) Q = (ex_in x lx = true ∧ Go d 171 1041 L (.int (xs x.toNatClampNeg) :: st) (HP lx xs M) Q) := go_al rfl rfl
set_option maxRecDepth 30000 in
theorem s_171_1041 : Go d 171 1041 [some (.ref r), o1, o2, o3] (st) h Q = Go d 171 1042 [some (.ref r), o1, o2, o3] (.ref r :: st) h Q := go_lo (E := (.aload_n 0, 0, 0, 0)) rfl rfl rfl
set_option maxRecDepth 30000 in
theorem s_171_1042 : Go d 171 1042 [o0, o1, o2, some (.int x)] (st) h Q = Go d 171 1043 [o0, o1, o2, some (.int x)] (.int x :: st) h Q := go_lo (E := (.iload_n 3, 0, 0, 0)) rfl rfl rfl
set_option maxRecDepth 30000 in
theorem s_171_1043 : Go d 171 1043 L (st) h Q = Go d 171 1044 L (.int (nI 4) :: st) h Q := go_ic rfl ci_i4
set_option maxRecDepth 30000 in
theorem s_171_1044 : Go d 171 1044 L (.int y :: .int x :: st) h Q = Go d 171 1045 L (.int (x + y) :: st) h Q := go_op (E := (.iadd, 0, 0, 0)) rfl rfl
set_option maxRecDepth 30000 in
theorem s_171_1045 : Go d 171 1045 L (.int x :: .ref 0 :: st) (HP lx xs M) Q = (ex_in x lx = true ∧ Go d 171 1046 L (.int (xs x.toNatClampNeg) :: st) (HP lx xs M) Q) := go_al rfl rfl
set_option maxRecDepth 30000 in
theorem s_171_1046 {a1 : Int32} {a2 : Int32} {a3 : Int32} {a4 : Int32} {z0 : Int32} : Go (d + 1) 171 1046 L [.int a4, .int a3, .int a2, .int a1, .ref 53, .int z0] (HP lx xs M) Q = Go d 167 0 [some (.ref 53), some (.int a1), some (.int a2), some (.int a3), some (.int a4), none] [] (HP lx xs M) (fun v h2 => Go (d + 1) 171 1049 L (ap v [.int z0]) h2 Q) := go_cx (E := (.invokevirtual 133, 167, 0, 7)) (k' := 167) (as := [.ref 53, .int a1, .int a2, .int a3, .int a4]) rfl rfl rfl rfl rfl rfl rfl rfl
set_option maxRecDepth 30000 in
theorem s_171_1049 : Go d 171 1049 L (.int y :: .int x :: st) h Q = (if x = y then Go d 171 1117 L st h Q else Go d 171 1052 L st h Q) := go_iceq rfl
set_option maxRecDepth 30000 in
theorem s_171_1052 : Go d 171 1052 L (st) h Q = Go d 171 1053 L (.int (nI 0) :: st) h Q := go_ic rfl ci_i0
set_option maxRecDepth 30000 in
theorem s_171_1053_0 : Go d 171 1053 L [.int (nI 0)] h Q = Q (some (.int (nI 0))) h := go_rz rfl rfl (by decide)
set_option maxRecDepth 30000 in
theorem s_171_1053_1 : Go d 171 1053 L [.int (nI 1)] h Q = Q (some (.int (nI 1))) h := go_rz rfl rfl (by decide)
set_option maxRecDepth 30000 in
theorem s_171_1054 : Go d 171 1054 [o0, some (.ref r), o2, o3] (st) h Q = Go d 171 1055 [o0, some (.ref r), o2, o3] (.ref r :: st) h Q := go_lo (E := (.aload_n 1, 0, 0, 0)) rfl rfl rfl
set_option maxRecDepth 30000 in
theorem s_171_1055 : Go d 171 1055 [some (.ref r), o1, o2, o3] (st) h Q = Go d 171 1056 [some (.ref r), o1, o2, o3] (.ref r :: st) h Q := go_lo (E := (.aload_n 0, 0, 0, 0)) rfl rfl rfl
set_option maxRecDepth 30000 in
theorem s_171_1056 : Go d 171 1056 [o0, o1, o2, some (.int x)] (st) h Q = Go d 171 1057 [o0, o1, o2, some (.int x)] (.int x :: st) h Q := go_lo (E := (.iload_n 3, 0, 0, 0)) rfl rfl rfl
set_option maxRecDepth 30000 in
theorem s_171_1057 : Go d 171 1057 L (st) h Q = Go d 171 1058 L (.int (nI 1) :: st) h Q := go_ic rfl ci_i1
set_option maxRecDepth 30000 in
theorem s_171_1058 : Go d 171 1058 L (.int y :: .int x :: st) h Q = Go d 171 1059 L (.int (x + y) :: st) h Q := go_op (E := (.iadd, 0, 0, 0)) rfl rfl
set_option maxRecDepth 30000 in
theorem s_171_1059 : Go d 171 1059 L (.int x :: .ref 0 :: st) (HP lx xs M) Q = (ex_in x lx = true ∧ Go d 171 1060 L (.int (xs x.toNatClampNeg) :: st) (HP lx xs M) Q) := go_al rfl rfl
set_option maxRecDepth 30000 in
theorem s_171_1060 : Go d 171 1060 [some (.ref r), o1, o2, o3] (st) h Q = Go d 171 1061 [some (.ref r), o1, o2, o3] (.ref r :: st) h Q := go_lo (E := (.aload_n 0, 0, 0, 0)) rfl rfl rfl
set_option maxRecDepth 30000 in
theorem s_171_1061 : Go d 171 1061 [o0, o1, o2, some (.int x)] (st) h Q = Go d 171 1062 [o0, o1, o2, some (.int x)] (.int x :: st) h Q := go_lo (E := (.iload_n 3, 0, 0, 0)) rfl rfl rfl
set_option maxRecDepth 30000 in
theorem s_171_1062 : Go d 171 1062 L (st) h Q = Go d 171 1063 L (.int (nI 2) :: st) h Q := go_ic rfl ci_i2
set_option maxRecDepth 30000 in
theorem s_171_1063 : Go d 171 1063 L (.int y :: .int x :: st) h Q = Go d 171 1064 L (.int (x + y) :: st) h Q := go_op (E := (.iadd, 0, 0, 0)) rfl rfl
set_option maxRecDepth 30000 in
theorem s_171_1064 : Go d 171 1064 L (.int x :: .ref 0 :: st) (HP lx xs M) Q = (ex_in x lx = true ∧ Go d 171 1065 L (.int (xs x.toNatClampNeg) :: st) (HP lx xs M) Q) := go_al rfl rfl
set_option maxRecDepth 30000 in
theorem s_171_1065 : Go d 171 1065 [some (.ref r), o1, o2, o3] (st) h Q = Go d 171 1066 [some (.ref r), o1, o2, o3] (.ref r :: st) h Q := go_lo (E := (.aload_n 0, 0, 0, 0)) rfl rfl rfl
set_option maxRecDepth 30000 in
theorem s_171_1066 : Go d 171 1066 [o0, o1, o2, some (.int x)] (st) h Q = Go d 171 1067 [o0, o1, o2, some (.int x)] (.int x :: st) h Q := go_lo (E := (.iload_n 3, 0, 0, 0)) rfl rfl rfl
set_option maxRecDepth 30000 in
theorem s_171_1067 : Go d 171 1067 L (st) h Q = Go d 171 1068 L (.int (nI 3) :: st) h Q := go_ic rfl ci_i3
set_option maxRecDepth 30000 in
theorem s_171_1068 : Go d 171 1068 L (.int y :: .int x :: st) h Q = Go d 171 1069 L (.int (x + y) :: st) h Q := go_op (E := (.iadd, 0, 0, 0)) rfl rfl
set_option maxRecDepth 30000 in
theorem s_171_1069 : Go d 171 1069 L (.int x :: .ref 0 :: st) (HP lx xs M) Q = (ex_in x lx = true ∧ Go d 171 1070 L (.int (xs x.toNatClampNeg) :: st) (HP lx xs M) Q) := go_al rfl rfl
set_option maxRecDepth 30000 in
theorem s_171_1070 : Go d 171 1070 [some (.ref r), o1, o2, o3] (st) h Q = Go d 171 1071 [some (.ref r), o1, o2, o3] (.ref r :: st) h Q := go_lo (E := (.aload_n 0, 0, 0, 0)) rfl rfl rfl
set_option maxRecDepth 30000 in
theorem s_171_1071 : Go d 171 1071 [o0, o1, o2, some (.int x)] (st) h Q = Go d 171 1072 [o0, o1, o2, some (.int x)] (.int x :: st) h Q := go_lo (E := (.iload_n 3, 0, 0, 0)) rfl rfl rfl
set_option maxRecDepth 30000 in
theorem s_171_1072 : Go d 171 1072 L (st) h Q = Go d 171 1073 L (.int (nI 4) :: st) h Q := go_ic rfl ci_i4
set_option maxRecDepth 30000 in
theorem s_171_1073 : Go d 171 1073 L (.int y :: .int x :: st) h Q = Go d 171 1074 L (.int (x + y) :: st) h Q := go_op (E := (.iadd, 0, 0, 0)) rfl rfl
set_option maxRecDepth 30000 in
theorem s_171_1074 : Go d 171 1074 L (.int x :: .ref 0 :: st) (HP lx xs M) Q = (ex_in x lx = true ∧ Go d 171 1075 L (.int (xs x.toNatClampNeg) :: st) (HP lx xs M) Q) := go_al rfl rfl
set_option maxRecDepth 30000 in
theorem s_171_1075 : Go d 171 1075 [some (.ref r), o1, o2, o3] (st) h Q = Go d 171 1076 [some (.ref r), o1, o2, o3] (.ref r :: st) h Q := go_lo (E := (.aload_n 0, 0, 0, 0)) rfl rfl rfl
set_option maxRecDepth 30000 in
theorem s_171_1076 : Go d 171 1076 [o0, o1, o2, some (.int x)] (st) h Q = Go d 171 1077 [o0, o1, o2, some (.int x)] (.int x :: st) h Q := go_lo (E := (.iload_n 3, 0, 0, 0)) rfl rfl rfl
set_option maxRecDepth 30000 in
theorem s_171_1077 : Go d 171 1077 L (st) h Q = Go d 171 1078 L (.int (nI 5) :: st) h Q := go_ic rfl ci_i5
set_option maxRecDepth 30000 in
theorem s_171_1078 : Go d 171 1078 L (.int y :: .int x :: st) h Q = Go d 171 1079 L (.int (x + y) :: st) h Q := go_op (E := (.iadd, 0, 0, 0)) rfl rfl
set_option maxRecDepth 30000 in
theorem s_171_1079 : Go d 171 1079 L (.int x :: .ref 0 :: st) (HP lx xs M) Q = (ex_in x lx = true ∧ Go d 171 1080 L (.int (xs x.toNatClampNeg) :: st) (HP lx xs M) Q) := go_al rfl rfl
set_option maxRecDepth 30000 in
theorem s_171_1080 {a1 : Int32} {a2 : Int32} {a3 : Int32} {a4 : Int32} {a5 : Int32} : Go (d + 1) 171 1080 L [.int a5, .int a4, .int a3, .int a2, .int a1, .ref 1] (HP lx xs M) Q = Go d 44 0 [some (.ref 1), some (.int a1), some (.int a2), some (.int a3), some (.int a4), some (.int a5), none, none] [] (HP lx xs M) (fun v h2 => Go (d + 1) 171 1083 L (ap v []) h2 Q) := go_cx (E := (.invokevirtual 134, 44, 0, 6)) (k' := 44) (as := [.ref 1, .int a1, .int a2, .int a3, .int a4, .int a5]) rfl rfl rfl rfl rfl rfl rfl rfl
set_option maxRecDepth 30000 in
theorem s_171_1083 : Go d 171 1083 [o0, o1, some (.ref r), o3] (st) h Q = Go d 171 1084 [o0, o1, some (.ref r), o3] (.ref r :: st) h Q := go_lo (E := (.aload_n 2, 0, 0, 0)) rfl rfl rfl
set_option maxRecDepth 30000 in
theorem s_171_1084 : Go d 171 1084 [some (.ref r), o1, o2, o3] (st) h Q = Go d 171 1085 [some (.ref r), o1, o2, o3] (.ref r :: st) h Q := go_lo (E := (.aload_n 0, 0, 0, 0)) rfl rfl rfl
set_option maxRecDepth 30000 in
theorem s_171_1085 : Go d 171 1085 [o0, o1, o2, some (.int x)] (st) h Q = Go d 171 1086 [o0, o1, o2, some (.int x)] (.int x :: st) h Q := go_lo (E := (.iload_n 3, 0, 0, 0)) rfl rfl rfl
set_option maxRecDepth 30000 in
theorem s_171_1086 : Go d 171 1086 L (st) h Q = Go d 171 1087 L (.int (nI 1) :: st) h Q := go_ic rfl ci_i1
set_option maxRecDepth 30000 in
theorem s_171_1087 : Go d 171 1087 L (.int y :: .int x :: st) h Q = Go d 171 1088 L (.int (x + y) :: st) h Q := go_op (E := (.iadd, 0, 0, 0)) rfl rfl
set_option maxRecDepth 30000 in
theorem s_171_1088 : Go d 171 1088 L (.int x :: .ref 0 :: st) (HP lx xs M) Q = (ex_in x lx = true ∧ Go d 171 1089 L (.int (xs x.toNatClampNeg) :: st) (HP lx xs M) Q) := go_al rfl rfl
set_option maxRecDepth 30000 in
theorem s_171_1089 : Go d 171 1089 [some (.ref r), o1, o2, o3] (st) h Q = Go d 171 1090 [some (.ref r), o1, o2, o3] (.ref r :: st) h Q := go_lo (E := (.aload_n 0, 0, 0, 0)) rfl rfl rfl
set_option maxRecDepth 30000 in
theorem s_171_1090 : Go d 171 1090 [o0, o1, o2, some (.int x)] (st) h Q = Go d 171 1091 [o0, o1, o2, some (.int x)] (.int x :: st) h Q := go_lo (E := (.iload_n 3, 0, 0, 0)) rfl rfl rfl
set_option maxRecDepth 30000 in
theorem s_171_1091 : Go d 171 1091 L (st) h Q = Go d 171 1092 L (.int (nI 2) :: st) h Q := go_ic rfl ci_i2
set_option maxRecDepth 30000 in
theorem s_171_1092 : Go d 171 1092 L (.int y :: .int x :: st) h Q = Go d 171 1093 L (.int (x + y) :: st) h Q := go_op (E := (.iadd, 0, 0, 0)) rfl rfl
set_option maxRecDepth 30000 in
theorem s_171_1093 : Go d 171 1093 L (.int x :: .ref 0 :: st) (HP lx xs M) Q = (ex_in x lx = true ∧ Go d 171 1094 L (.int (xs x.toNatClampNeg) :: st) (HP lx xs M) Q) := go_al rfl rfl
set_option maxRecDepth 30000 in
theorem s_171_1094 : Go d 171 1094 [some (.ref r), o1, o2, o3] (st) h Q = Go d 171 1095 [some (.ref r), o1, o2, o3] (.ref r :: st) h Q := go_lo (E := (.aload_n 0, 0, 0, 0)) rfl rfl rfl
set_option maxRecDepth 30000 in
theorem s_171_1095 : Go d 171 1095 [o0, o1, o2, some (.int x)] (st) h Q = Go d 171 1096 [o0, o1, o2, some (.int x)] (.int x :: st) h Q := go_lo (E := (.iload_n 3, 0, 0, 0)) rfl rfl rfl
set_option maxRecDepth 30000 in
theorem s_171_1096 : Go d 171 1096 L (st) h Q = Go d 171 1097 L (.int (nI 3) :: st) h Q := go_ic rfl ci_i3
set_option maxRecDepth 30000 in
theorem s_171_1097 : Go d 171 1097 L (.int y :: .int x :: st) h Q = Go d 171 1098 L (.int (x + y) :: st) h Q := go_op (E := (.iadd, 0, 0, 0)) rfl rfl
set_option maxRecDepth 30000 in
theorem s_171_1098 : Go d 171 1098 L (.int x :: .ref 0 :: st) (HP lx xs M) Q = (ex_in x lx = true ∧ Go d 171 1099 L (.int (xs x.toNatClampNeg) :: st) (HP lx xs M) Q) := go_al rfl rfl
set_option maxRecDepth 30000 in
theorem s_171_1099 : Go d 171 1099 [some (.ref r), o1, o2, o3] (st) h Q = Go d 171 1100 [some (.ref r), o1, o2, o3] (.ref r :: st) h Q := go_lo (E := (.aload_n 0, 0, 0, 0)) rfl rfl rfl
set_option maxRecDepth 30000 in
theorem s_171_1100 : Go d 171 1100 [o0, o1, o2, some (.int x)] (st) h Q = Go d 171 1101 [o0, o1, o2, some (.int x)] (.int x :: st) h Q := go_lo (E := (.iload_n 3, 0, 0, 0)) rfl rfl rfl
set_option maxRecDepth 30000 in
theorem s_171_1101 : Go d 171 1101 L (st) h Q = Go d 171 1102 L (.int (nI 4) :: st) h Q := go_ic rfl ci_i4
set_option maxRecDepth 30000 in
theorem s_171_1102 : Go d 171 1102 L (.int y :: .int x :: st) h Q = Go d 171 1103 L (.int (x + y) :: st) h Q := go_op (E := (.iadd, 0, 0, 0)) rfl rfl
set_option maxRecDepth 30000 in
theorem s_171_1103 : Go d 171 1103 L (.int x :: .ref 0 :: st) (HP lx xs M) Q = (ex_in x lx = true ∧ Go d 171 1104 L (.int (xs x.toNatClampNeg) :: st) (HP lx xs M) Q) := go_al rfl rfl
set_option maxRecDepth 30000 in
theorem s_171_1104 : Go d 171 1104 [some (.ref r), o1, o2, o3] (st) h Q = Go d 171 1105 [some (.ref r), o1, o2, o3] (.ref r :: st) h Q := go_lo (E := (.aload_n 0, 0, 0, 0)) rfl rfl rfl
set_option maxRecDepth 30000 in
theorem s_171_1105 : Go d 171 1105 [o0, o1, o2, some (.int x)] (st) h Q = Go d 171 1106 [o0, o1, o2, some (.int x)] (.int x :: st) h Q := go_lo (E := (.iload_n 3, 0, 0, 0)) rfl rfl rfl
set_option maxRecDepth 30000 in
theorem s_171_1106 : Go d 171 1106 L (st) h Q = Go d 171 1107 L (.int (nI 5) :: st) h Q := go_ic rfl ci_i5
set_option maxRecDepth 30000 in
theorem s_171_1107 : Go d 171 1107 L (.int y :: .int x :: st) h Q = Go d 171 1108 L (.int (x + y) :: st) h Q := go_op (E := (.iadd, 0, 0, 0)) rfl rfl
set_option maxRecDepth 30000 in
theorem s_171_1108 : Go d 171 1108 L (.int x :: .ref 0 :: st) (HP lx xs M) Q = (ex_in x lx = true ∧ Go d 171 1109 L (.int (xs x.toNatClampNeg) :: st) (HP lx xs M) Q) := go_al rfl rfl
set_option maxRecDepth 30000 in
theorem s_171_1109 {a1 : Int32} {a2 : Int32} {a3 : Int32} {a4 : Int32} {a5 : Int32} {z0 : Int32} : Go (d + 1) 171 1109 L [.int a5, .int a4, .int a3, .int a2, .int a1, .ref 53, .int z0] (HP lx xs M) Q = Go d 170 0 [some (.ref 53), some (.int a1), some (.int a2), some (.int a3), some (.int a4), some (.int a5), none] [] (HP lx xs M) (fun v h2 => Go (d + 1) 171 1112 L (ap v [.int z0]) h2 Q) := go_cx (E := (.invokevirtual 138, 170, 0, 7)) (k' := 170) (as := [.ref 53, .int a1, .int a2, .int a3, .int a4, .int a5]) rfl rfl rfl rfl rfl rfl rfl rfl
set_option maxRecDepth 30000 in
theorem s_171_1112 : Go d 171 1112 L (.int y :: .int x :: st) h Q = (if x = y then Go d 171 1117 L st h Q else Go d 171 1115 L st h Q) := go_iceq rfl
set_option maxRecDepth 30000 in
theorem s_171_1115 : Go d 171 1115 L (st) h Q = Go d 171 1116 L (.int (nI 0) :: st) h Q := go_ic rfl ci_i0
set_option maxRecDepth 30000 in
theorem s_171_1116_0 : Go d 171 1116 L [.int (nI 0)] h Q = Q (some (.int (nI 0))) h := go_rz rfl rfl (by decide)
set_option maxRecDepth 30000 in
theorem s_171_1116_1 : Go d 171 1116 L [.int (nI 1)] h Q = Q (some (.int (nI 1))) h := go_rz rfl rfl (by decide)
set_option maxRecDepth 30000 in
theorem s_171_1117 : Go d 171 1117 [o0, o1, o2, some (.int x)] (st) h Q = Go d 171 1120 [o0, o1, o2, some (.int (x + nI 6))] (st) h Q := (ci_i6 ▸ go_lo (E := (.iinc 3 6, 0, 0, 0)) rfl rfl rfl : _ = Go d 171 1120 [o0, o1, o2, some (.int (x + nI 6))] (st) h Q)
set_option maxRecDepth 30000 in
theorem s_171_1120 : Go d 171 1120 L (st) h Q = Go d 171 18 L (st) h Q := go_goto rfl
set_option maxRecDepth 30000 in
theorem s_171_1123 : Go d 171 1123 L (st) h Q = Go d 171 1124 L (.int (nI 1) :: st) h Q := go_ic rfl ci_i1
set_option maxRecDepth 30000 in
theorem s_171_1124_0 : Go d 171 1124 L [.int (nI 0)] h Q = Q (some (.int (nI 0))) h := go_rz rfl rfl (by decide)
set_option maxRecDepth 30000 in
theorem s_171_1124_1 : Go d 171 1124 L [.int (nI 1)] h Q = Q (some (.int (nI 1))) h := go_rz rfl rfl (by decide)
end SL

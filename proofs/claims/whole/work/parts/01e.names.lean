theorem dX4_init_161 : decode cX4_init 161 = .ok (.bipush 8, 2) := by decide +kernel
theorem dX4_init_163 : decode cX4_init 163 = .ok (.newarray .int, 2) := by decide +kernel
theorem dX4_init_165 : decode cX4_init 165 = .ok (.putfield 67, 3) := by decide +kernel
theorem dX4_init_168 : decode cX4_init 168 = .ok (.aload_n 0, 1) := by decide +kernel
theorem dX4_init_169 : decode cX4_init 169 = .ok (.sipush 128, 3) := by decide +kernel
theorem dX4_init_172 : decode cX4_init 172 = .ok (.newarray .int, 2) := by decide +kernel
theorem dX4_init_174 : decode cX4_init 174 = .ok (.putfield 70, 3) := by decide +kernel
theorem dX4_init_177 : decode cX4_init 177 = .ok (.aload_n 0, 1) := by decide +kernel
theorem dX4_init_178 : decode cX4_init 178 = .ok (.iconst 4, 1) := by decide +kernel
theorem dX4_init_179 : decode cX4_init 179 = .ok (.newarray .boolean, 2) := by decide +kernel
theorem dX4_init_181 : decode cX4_init 181 = .ok (.putfield 73, 3) := by decide +kernel
theorem dX4_init_184 : decode cX4_init 184 = .ok (.aload_n 0, 1) := by decide +kernel
theorem dX4_init_185 : decode cX4_init 185 = .ok (.iconst 4, 1) := by decide +kernel
theorem dX4_init_186 : decode cX4_init 186 = .ok (.newarray .int, 2) := by decide +kernel
theorem dX4_init_188 : decode cX4_init 188 = .ok (.putfield 77, 3) := by decide +kernel
theorem dX4_init_191 : decode cX4_init 191 = .ok (.aload_n 0, 1) := by decide +kernel
theorem dX4_init_192 : decode cX4_init 192 = .ok (.iconst 4, 1) := by decide +kernel
theorem dX4_init_193 : decode cX4_init 193 = .ok (.newarray .int, 2) := by decide +kernel
theorem dX4_init_195 : decode cX4_init 195 = .ok (.putfield 80, 3) := by decide +kernel
theorem dX4_init_198 : decode cX4_init 198 = .ok (.aload_n 0, 1) := by decide +kernel
theorem dX4_init_199 : decode cX4_init 199 = .ok (.sipush 240, 3) := by decide +kernel
theorem dX4_init_202 : decode cX4_init 202 = .ok (.newarray .int, 2) := by decide +kernel
theorem dX4_init_204 : decode cX4_init 204 = .ok (.putfield 83, 3) := by decide +kernel
theorem dX4_init_207 : decode cX4_init 207 = .ok (.aload_n 0, 1) := by decide +kernel
theorem dX4_init_208 : decode cX4_init 208 = .ok (.bipush 60, 2) := by decide +kernel
theorem dX4_init_210 : decode cX4_init 210 = .ok (.newarray .int, 2) := by decide +kernel
theorem dX4_init_212 : decode cX4_init 212 = .ok (.putfield 86, 3) := by decide +kernel
theorem dX4_init_215 : decode cX4_init 215 = .ok (.aload_n 0, 1) := by decide +kernel
theorem dX4_init_216 : decode cX4_init 216 = .ok (.getfield 13, 3) := by decide +kernel
theorem dX4_init_219 : decode cX4_init 219 = .ok (.iconst 0, 1) := by decide +kernel
theorem dX4_init_220 : decode cX4_init 220 = .ok (.iconst 4, 1) := by decide +kernel
theorem dX4_init_221 : decode cX4_init 221 = .ok (.iastore, 1) := by decide +kernel
theorem dX4_init_222 : decode cX4_init 222 = .ok (.aload_n 0, 1) := by decide +kernel
theorem dX4_init_223 : decode cX4_init 223 = .ok (.getfield 13, 3) := by decide +kernel
theorem dX4_init_226 : decode cX4_init 226 = .ok (.iconst 1, 1) := by decide +kernel
theorem dX4_init_227 : decode cX4_init 227 = .ok (.iconst 3, 1) := by decide +kernel
theorem dX4_init_228 : decode cX4_init 228 = .ok (.iastore, 1) := by decide +kernel
theorem dX4_init_229 : decode cX4_init 229 = .ok (.aload_n 0, 1) := by decide +kernel
theorem dX4_init_230 : decode cX4_init 230 = .ok (.getfield 13, 3) := by decide +kernel
theorem dX4_init_233 : decode cX4_init 233 = .ok (.iconst 2, 1) := by decide +kernel
theorem dX4_init_234 : decode cX4_init 234 = .ok (.iconst 4, 1) := by decide +kernel
theorem dX4_init_235 : decode cX4_init 235 = .ok (.iastore, 1) := by decide +kernel
theorem dX4_init_236 : decode cX4_init 236 = .ok (.aload_n 0, 1) := by decide +kernel
theorem dX4_init_237 : decode cX4_init 237 = .ok (.getfield 13, 3) := by decide +kernel
theorem dX4_init_240 : decode cX4_init 240 = .ok (.iconst 3, 1) := by decide +kernel
theorem dX4_init_241 : decode cX4_init 241 = .ok (.bipush 8, 2) := by decide +kernel
theorem dX4_init_243 : decode cX4_init 243 = .ok (.iastore, 1) := by decide +kernel
theorem dX4_init_244 : decode cX4_init 244 = .ok (.aload_n 0, 1) := by decide +kernel
theorem dX4_init_245 : decode cX4_init 245 = .ok (.getfield 13, 3) := by decide +kernel
theorem dX4_init_248 : decode cX4_init 248 = .ok (.iconst 4, 1) := by decide +kernel
theorem dX4_init_249 : decode cX4_init 249 = .ok (.bipush (-9), 2) := by decide +kernel
theorem dX4_init_251 : decode cX4_init 251 = .ok (.iastore, 1) := by decide +kernel
theorem dX4_init_252 : decode cX4_init 252 = .ok (.aload_n 0, 1) := by decide +kernel
theorem dX4_init_253 : decode cX4_init 253 = .ok (.getfield 13, 3) := by decide +kernel
theorem dX4_init_256 : decode cX4_init 256 = .ok (.iconst 5, 1) := by decide +kernel
theorem dX4_init_257 : decode cX4_init 257 = .ok (.bipush 8, 2) := by decide +kernel
theorem dX4_init_259 : decode cX4_init 259 = .ok (.iastore, 1) := by decide +kernel
theorem dX4_init_260 : decode cX4_init 260 = .ok (.aload_n 0, 1) := by decide +kernel
theorem dX4_init_261 : decode cX4_init 261 = .ok (.getfield 13, 3) := by decide +kernel
theorem dX4_init_264 : decode cX4_init 264 = .ok (.bipush 6, 2) := by decide +kernel
theorem dX4_init_266 : decode cX4_init 266 = .ok (.iconst 3, 1) := by decide +kernel
theorem dX4_init_267 : decode cX4_init 267 = .ok (.iastore, 1) := by decide +kernel
theorem dX4_init_268 : decode cX4_init 268 = .ok (.return_, 1) := by decide +kernel
theorem dX4_in_0 : decode cX4_in 0 = .ok (.iload_n 0, 1) := by decide +kernel
theorem dX4_in_1 : decode cX4_in 1 = .ok (.iload_n 1, 1) := by decide +kernel
theorem dX4_in_2 : decode cX4_in 2 = .ok (.if_icmp .lt 12, 3) := by decide +kernel
theorem dX4_in_5 : decode cX4_in 5 = .ok (.iload_n 0, 1) := by decide +kernel
theorem dX4_in_6 : decode cX4_in 6 = .ok (.iload_n 2, 1) := by decide +kernel
theorem dX4_in_7 : decode cX4_in 7 = .ok (.if_icmp .gt 7, 3) := by decide +kernel
theorem dX4_in_10 : decode cX4_in 10 = .ok (.iconst 1, 1) := by decide +kernel
theorem dX4_in_11 : decode cX4_in 11 = .ok (.goto 4, 3) := by decide +kernel
theorem dX4_in_14 : decode cX4_in 14 = .ok (.iconst 0, 1) := by decide +kernel
theorem dX4_in_15 : decode cX4_in 15 = .ok (.ireturn, 1) := by decide +kernel
theorem dX4_isIn_0 : decode cX4_isIn 0 = .ok (.iload_n 0, 1) := by decide +kernel
theorem dX4_isIn_1 : decode cX4_isIn 1 = .ok (.iload_n 1, 1) := by decide +kernel
theorem dX4_isIn_2 : decode cX4_isIn 2 = .ok (.ishr, 1) := by decide +kernel
theorem dX4_isIn_3 : decode cX4_isIn 3 = .ok (.iconst 1, 1) := by decide +kernel
theorem dX4_isIn_4 : decode cX4_isIn 4 = .ok (.iand, 1) := by decide +kernel
theorem dX4_isIn_5 : decode cX4_isIn 5 = .ok (.iconst 1, 1) := by decide +kernel
theorem dX4_isIn_6 : decode cX4_isIn 6 = .ok (.if_icmp .ne 7, 3) := by decide +kernel
theorem dX4_isIn_9 : decode cX4_isIn 9 = .ok (.iconst 1, 1) := by decide +kernel
theorem dX4_isIn_10 : decode cX4_isIn 10 = .ok (.goto 4, 3) := by decide +kernel
theorem dX4_isIn_13 : decode cX4_isIn 13 = .ok (.iconst 0, 1) := by decide +kernel
theorem dX4_isIn_14 : decode cX4_isIn 14 = .ok (.ireturn, 1) := by decide +kernel
theorem dX4_no_0 : decode cX4_no 0 = .ok (.ldc2_w 89, 3) := by decide +kernel
theorem dX4_no_3 : decode cX4_no 3 = .ok (.iload_n 0, 1) := by decide +kernel
theorem dX4_no_4 : decode cX4_no 4 = .ok (.i2l, 1) := by decide +kernel
theorem dX4_no_5 : decode cX4_no 5 = .ok (.lsub, 1) := by decide +kernel
theorem dX4_no_6 : decode cX4_no 6 = .ok (.lreturn, 1) := by decide +kernel
theorem qq_X4_many_0 {c : Cond} (j : Nat) (h : ([.methodLink RX4 91 yX4_isIn, .static yX4_isIn, .initialized RX4, .code yX4_isIn cX4_isIn 2 (some .boolean)] : List Cond)[j]? = some c) : c ∈ wsX4_many := List.mem_cons_of_mem _ (List.mem_of_getElem? h)
set_option maxRecDepth 20000 in
theorem gw_X4_isIn : wsX4_isIn.all goodWord = true := by decide +kernel
set_option maxRecDepth 20000 in
theorem ggX4_many_X4_isIn : GoodIn wsX4_many wsX4_isIn := goodIn_sub (sb_c (qq_X4_many_0 3 rfl) (sb_n)) gw_X4_isIn
set_option maxRecDepth 20000 in
theorem gX4_many_X4_isIn : GoodIn wsX4_many (va_wsS RX4 91 yX4_isIn wsX4_isIn) := goodIn_app (goodIn_sub (sb_c (qq_X4_many_0 0 rfl) (sb_c (qq_X4_many_0 1 rfl) (sb_c (qq_X4_many_0 2 rfl) sb_n))) (by decide +kernel)) ggX4_many_X4_isIn
theorem dX4_many_0 : decode cX4_many 0 = .ok (.iconst 0, 1) := by decide +kernel
theorem dX4_many_1 : decode cX4_many 1 = .ok (.istore_n 1, 1) := by decide +kernel
theorem dX4_many_2 : decode cX4_many 2 = .ok (.iconst 0, 1) := by decide +kernel
theorem dX4_many_3 : decode cX4_many 3 = .ok (.istore_n 2, 1) := by decide +kernel
theorem dX4_many_4 : decode cX4_many 4 = .ok (.iload_n 2, 1) := by decide +kernel
theorem dX4_many_5 : decode cX4_many 5 = .ok (.bipush 12, 2) := by decide +kernel
theorem dX4_many_7 : decode cX4_many 7 = .ok (.if_icmp .ge 25, 3) := by decide +kernel
theorem dX4_many_10 : decode cX4_many 10 = .ok (.iload_n 1, 1) := by decide +kernel
theorem dX4_many_11 : decode cX4_many 11 = .ok (.iload_n 0, 1) := by decide +kernel
theorem dX4_many_12 : decode cX4_many 12 = .ok (.iload_n 2, 1) := by decide +kernel
theorem dX4_many_13 : decode cX4_many 13 = .ok (.invokestatic 91, 3) := by decide +kernel
theorem dX4_many_16 : decode cX4_many 16 = .ok (.ifCond .eq 7, 3) := by decide +kernel
theorem dX4_many_19 : decode cX4_many 19 = .ok (.iconst 1, 1) := by decide +kernel
theorem dX4_many_20 : decode cX4_many 20 = .ok (.goto 4, 3) := by decide +kernel
theorem dX4_many_23 : decode cX4_many 23 = .ok (.iconst 0, 1) := by decide +kernel
theorem dX4_many_24 : decode cX4_many 24 = .ok (.iadd, 1) := by decide +kernel
theorem dX4_many_25 : decode cX4_many 25 = .ok (.istore_n 1, 1) := by decide +kernel
theorem dX4_many_26 : decode cX4_many 26 = .ok (.iinc 2 1, 3) := by decide +kernel
theorem dX4_many_29 : decode cX4_many 29 = .ok (.goto (-25), 3) := by decide +kernel
theorem dX4_many_32 : decode cX4_many 32 = .ok (.iload_n 1, 1) := by decide +kernel
theorem dX4_many_33 : decode cX4_many 33 = .ok (.ireturn, 1) := by decide +kernel
theorem dX4_lowest_0 : decode cX4_lowest 0 = .ok (.lload_n 0, 1) := by decide +kernel
theorem dX4_lowest_1 : decode cX4_lowest 1 = .ok (.lstore 5, 2) := by decide +kernel
theorem dX4_lowest_3 : decode cX4_lowest 3 = .ok (.lload_n 2, 1) := by decide +kernel
theorem dX4_lowest_4 : decode cX4_lowest 4 = .ok (.lstore 7, 2) := by decide +kernel
theorem dX4_lowest_6 : decode cX4_lowest 6 = .ok (.lload 7, 2) := by decide +kernel
theorem dX4_lowest_8 : decode cX4_lowest 8 = .ok (.lconst 0, 1) := by decide +kernel
theorem dX4_lowest_9 : decode cX4_lowest 9 = .ok (.lcmp, 1) := by decide +kernel
theorem dX4_lowest_10 : decode cX4_lowest 10 = .ok (.ifCond .eq 21, 3) := by decide +kernel
theorem dX4_lowest_13 : decode cX4_lowest 13 = .ok (.lload 5, 2) := by decide +kernel
theorem dX4_lowest_15 : decode cX4_lowest 15 = .ok (.lload 7, 2) := by decide +kernel
theorem dX4_lowest_17 : decode cX4_lowest 17 = .ok (.lrem, 1) := by decide +kernel
theorem dX4_lowest_18 : decode cX4_lowest 18 = .ok (.lstore 9, 2) := by decide +kernel
theorem dX4_lowest_20 : decode cX4_lowest 20 = .ok (.lload 7, 2) := by decide +kernel
theorem dX4_lowest_22 : decode cX4_lowest 22 = .ok (.lstore 5, 2) := by decide +kernel
theorem dX4_lowest_24 : decode cX4_lowest 24 = .ok (.lload 9, 2) := by decide +kernel
theorem dX4_lowest_26 : decode cX4_lowest 26 = .ok (.lstore 7, 2) := by decide +kernel
theorem dX4_lowest_28 : decode cX4_lowest 28 = .ok (.goto (-22), 3) := by decide +kernel
theorem dX4_lowest_31 : decode cX4_lowest 31 = .ok (.iload 4, 2) := by decide +kernel
theorem dX4_lowest_33 : decode cX4_lowest 33 = .ok (.ifCond .ne 10, 3) := by decide +kernel
theorem dX4_lowest_36 : decode cX4_lowest 36 = .ok (.lload_n 0, 1) := by decide +kernel
theorem dX4_lowest_37 : decode cX4_lowest 37 = .ok (.lload 5, 2) := by decide +kernel
theorem dX4_lowest_39 : decode cX4_lowest 39 = .ok (.ldiv, 1) := by decide +kernel
theorem dX4_lowest_40 : decode cX4_lowest 40 = .ok (.goto 7, 3) := by decide +kernel
theorem dX4_lowest_43 : decode cX4_lowest 43 = .ok (.lload_n 2, 1) := by decide +kernel
theorem dX4_lowest_44 : decode cX4_lowest 44 = .ok (.lload 5, 2) := by decide +kernel
theorem dX4_lowest_46 : decode cX4_lowest 46 = .ok (.ldiv, 1) := by decide +kernel
theorem dX4_lowest_47 : decode cX4_lowest 47 = .ok (.lreturn, 1) := by decide +kernel
theorem qq_X4_isTwo_0 {c : Cond} (j : Nat) (h : ([.methodLink RX4 95 yX4_in, .static yX4_in, .initialized RX4, .code yX4_in cX4_in 3 (some .boolean)] : List Cond)[j]? = some c) : c ∈ wsX4_isTwo := List.mem_cons_of_mem _ (List.mem_of_getElem? h)
set_option maxRecDepth 20000 in
theorem gw_X4_in : wsX4_in.all goodWord = true := by decide +kernel
set_option maxRecDepth 20000 in
theorem ggX4_isTwo_X4_in : GoodIn wsX4_isTwo wsX4_in := goodIn_sub (sb_c (qq_X4_isTwo_0 3 rfl) (sb_n)) gw_X4_in
set_option maxRecDepth 20000 in
theorem gX4_isTwo_X4_in : GoodIn wsX4_isTwo (va_wsS RX4 95 yX4_in wsX4_in) := goodIn_app (goodIn_sub (sb_c (qq_X4_isTwo_0 0 rfl) (sb_c (qq_X4_isTwo_0 1 rfl) (sb_c (qq_X4_isTwo_0 2 rfl) sb_n))) (by decide +kernel)) ggX4_isTwo_X4_in
theorem dX4_isTwo_0 : decode cX4_isTwo 0 = .ok (.iload_n 0, 1) := by decide +kernel
theorem dX4_isTwo_1 : decode cX4_isTwo 1 = .ok (.iconst 0, 1) := by decide +kernel
theorem dX4_isTwo_2 : decode cX4_isTwo 2 = .ok (.iconst 1, 1) := by decide +kernel
theorem dX4_isTwo_3 : decode cX4_isTwo 3 = .ok (.invokestatic 95, 3) := by decide +kernel
theorem dX4_isTwo_6 : decode cX4_isTwo 6 = .ok (.ireturn, 1) := by decide +kernel
theorem qq_X4_isThree_0 {c : Cond} (j : Nat) (h : ([.methodLink RX4 95 yX4_in, .static yX4_in, .initialized RX4, .code yX4_in cX4_in 3 (some .boolean)] : List Cond)[j]? = some c) : c ∈ wsX4_isThree := List.mem_cons_of_mem _ (List.mem_of_getElem? h)
set_option maxRecDepth 20000 in
theorem ggX4_isThree_X4_in : GoodIn wsX4_isThree wsX4_in := goodIn_sub (sb_c (qq_X4_isThree_0 3 rfl) (sb_n)) gw_X4_in
set_option maxRecDepth 20000 in
theorem gX4_isThree_X4_in : GoodIn wsX4_isThree (va_wsS RX4 95 yX4_in wsX4_in) := goodIn_app (goodIn_sub (sb_c (qq_X4_isThree_0 0 rfl) (sb_c (qq_X4_isThree_0 1 rfl) (sb_c (qq_X4_isThree_0 2 rfl) sb_n))) (by decide +kernel)) ggX4_isThree_X4_in
theorem dX4_isThree_0 : decode cX4_isThree 0 = .ok (.iload_n 0, 1) := by decide +kernel
theorem dX4_isThree_1 : decode cX4_isThree 1 = .ok (.iconst 0, 1) := by decide +kernel
theorem dX4_isThree_2 : decode cX4_isThree 2 = .ok (.iconst 2, 1) := by decide +kernel
theorem dX4_isThree_3 : decode cX4_isThree 3 = .ok (.invokestatic 95, 3) := by decide +kernel
theorem dX4_isThree_6 : decode cX4_isThree 6 = .ok (.ireturn, 1) := by decide +kernel
theorem qq_X4_isLine_0 {c : Cond} (j : Nat) (h : ([.methodLink RX4 95 yX4_in, .static yX4_in, .initialized RX4, .code yX4_in cX4_in 3 (some .boolean)] : List Cond)[j]? = some c) : c ∈ wsX4_isLine := List.mem_cons_of_mem _ (List.mem_of_getElem? h)
set_option maxRecDepth 20000 in
theorem ggX4_isLine_X4_in : GoodIn wsX4_isLine wsX4_in := goodIn_sub (sb_c (qq_X4_isLine_0 3 rfl) (sb_n)) gw_X4_in
set_option maxRecDepth 20000 in
theorem gX4_isLine_X4_in : GoodIn wsX4_isLine (va_wsS RX4 95 yX4_in wsX4_in) := goodIn_app (goodIn_sub (sb_c (qq_X4_isLine_0 0 rfl) (sb_c (qq_X4_isLine_0 1 rfl) (sb_c (qq_X4_isLine_0 2 rfl) sb_n))) (by decide +kernel)) ggX4_isLine_X4_in
theorem dX4_isLine_0 : decode cX4_isLine 0 = .ok (.iload_n 0, 1) := by decide +kernel
theorem dX4_isLine_1 : decode cX4_isLine 1 = .ok (.iconst 0, 1) := by decide +kernel
theorem dX4_isLine_2 : decode cX4_isLine 2 = .ok (.bipush 15, 2) := by decide +kernel
theorem dX4_isLine_4 : decode cX4_isLine 4 = .ok (.invokestatic 95, 3) := by decide +kernel
theorem dX4_isLine_7 : decode cX4_isLine 7 = .ok (.ireturn, 1) := by decide +kernel
theorem qq_X4_isColumn_0 {c : Cond} (j : Nat) (h : ([.methodLink RX4 95 yX4_in, .static yX4_in, .initialized RX4, .code yX4_in cX4_in 3 (some .boolean)] : List Cond)[j]? = some c) : c ∈ wsX4_isColumn := List.mem_cons_of_mem _ (List.mem_of_getElem? h)
set_option maxRecDepth 20000 in
theorem ggX4_isColumn_X4_in : GoodIn wsX4_isColumn wsX4_in := goodIn_sub (sb_c (qq_X4_isColumn_0 3 rfl) (sb_n)) gw_X4_in
set_option maxRecDepth 20000 in
theorem gX4_isColumn_X4_in : GoodIn wsX4_isColumn (va_wsS RX4 95 yX4_in wsX4_in) := goodIn_app (goodIn_sub (sb_c (qq_X4_isColumn_0 0 rfl) (sb_c (qq_X4_isColumn_0 1 rfl) (sb_c (qq_X4_isColumn_0 2 rfl) sb_n))) (by decide +kernel)) ggX4_isColumn_X4_in
theorem dX4_isColumn_0 : decode cX4_isColumn 0 = .ok (.iload_n 0, 1) := by decide +kernel
theorem dX4_isColumn_1 : decode cX4_isColumn 1 = .ok (.iconst 0, 1) := by decide +kernel
theorem dX4_isColumn_2 : decode cX4_isColumn 2 = .ok (.bipush 7, 2) := by decide +kernel
theorem dX4_isColumn_4 : decode cX4_isColumn 4 = .ok (.invokestatic 95, 3) := by decide +kernel
theorem dX4_isColumn_7 : decode cX4_isColumn 7 = .ok (.ireturn, 1) := by decide +kernel
theorem qq_X4_line_0 {c : Cond} (j : Nat) (h : ([.fieldLink RX4 7 "InkSwathsModel" "told" "[I", .methodLink RX4 99 yX4_isLine, .static yX4_isLine, .initialized RX4, .code yX4_isLine cX4_isLine 1 (some .boolean), .methodLink RX4 95 yX4_in, .static yX4_in, .code yX4_in cX4_in 3 (some .boolean)] : List Cond)[j]? = some c) : c ∈ wsX4_line := List.mem_cons_of_mem _ (List.mem_append_left _ (List.mem_of_getElem? h))
theorem uq_X4_line_X4 : wsub wsX40 wsX4_line := fun _ h => List.mem_cons_of_mem _ (List.mem_append_right _ (h))
set_option maxRecDepth 20000 in
theorem gw_X4_isLine : wsX4_isLine.all goodWord = true := by decide +kernel
set_option maxRecDepth 20000 in
theorem ggX4_line_X4_isLine : GoodIn wsX4_line wsX4_isLine := goodIn_sub (sb_c (qq_X4_line_0 4 rfl) (sb_c (qq_X4_line_0 5 rfl) (sb_c (qq_X4_line_0 6 rfl) (sb_c (qq_X4_line_0 3 rfl) (sb_c (qq_X4_line_0 7 rfl) sb_n))))) gw_X4_isLine
set_option maxRecDepth 20000 in
theorem gX4_line_X4_isLine : GoodIn wsX4_line (va_wsS RX4 99 yX4_isLine wsX4_isLine) := goodIn_app (goodIn_sub (sb_c (qq_X4_line_0 1 rfl) (sb_c (qq_X4_line_0 2 rfl) (sb_c (qq_X4_line_0 3 rfl) sb_n))) (by decide +kernel)) ggX4_line_X4_isLine
set_option maxRecDepth 20000 in
theorem ggX4_line_X4_in : GoodIn wsX4_line wsX4_in := goodIn_sub (sb_c (qq_X4_line_0 7 rfl) (sb_n)) gw_X4_in
set_option maxRecDepth 20000 in
theorem gX4_line_X4_in : GoodIn wsX4_line (va_wsS RX4 95 yX4_in wsX4_in) := goodIn_app (goodIn_sub (sb_c (qq_X4_line_0 5 rfl) (sb_c (qq_X4_line_0 6 rfl) (sb_c (qq_X4_line_0 3 rfl) sb_n))) (by decide +kernel)) ggX4_line_X4_in
theorem dX4_line_0 : decode cX4_line 0 = .ok (.iload_n 1, 1) := by decide +kernel
theorem dX4_line_1 : decode cX4_line 1 = .ok (.invokestatic 99, 3) := by decide +kernel
theorem dX4_line_4 : decode cX4_line 4 = .ok (.ifCond .eq 14, 3) := by decide +kernel
theorem dX4_line_7 : decode cX4_line 7 = .ok (.iload_n 2, 1) := by decide +kernel
theorem dX4_line_8 : decode cX4_line 8 = .ok (.iconst 0, 1) := by decide +kernel
theorem dX4_line_9 : decode cX4_line 9 = .ok (.sipush 255, 3) := by decide +kernel
theorem dX4_line_12 : decode cX4_line 12 = .ok (.invokestatic 95, 3) := by decide +kernel
theorem dX4_line_15 : decode cX4_line 15 = .ok (.ifCond .ne 6, 3) := by decide +kernel
theorem dX4_line_18 : decode cX4_line 18 = .ok (.bipush (-2), 2) := by decide +kernel
theorem dX4_line_20 : decode cX4_line 20 = .ok (.ireturn, 1) := by decide +kernel
theorem dX4_line_21 : decode cX4_line 21 = .ok (.aload_n 0, 1) := by decide +kernel
theorem dX4_line_22 : decode cX4_line 22 = .ok (.getfield 7, 3) := by decide +kernel
theorem dX4_line_25 : decode cX4_line 25 = .ok (.iload_n 1, 1) := by decide +kernel
theorem dX4_line_26 : decode cX4_line 26 = .ok (.iaload, 1) := by decide +kernel
theorem dX4_line_27 : decode cX4_line 27 = .ok (.istore_n 3, 1) := by decide +kernel
theorem dX4_line_28 : decode cX4_line 28 = .ok (.aload_n 0, 1) := by decide +kernel
theorem dX4_line_29 : decode cX4_line 29 = .ok (.getfield 7, 3) := by decide +kernel
theorem dX4_line_32 : decode cX4_line 32 = .ok (.iload_n 1, 1) := by decide +kernel
theorem dX4_line_33 : decode cX4_line 33 = .ok (.iload_n 2, 1) := by decide +kernel
theorem dX4_line_34 : decode cX4_line 34 = .ok (.iastore, 1) := by decide +kernel
theorem dX4_line_35 : decode cX4_line 35 = .ok (.iload_n 3, 1) := by decide +kernel
theorem dX4_line_36 : decode cX4_line 36 = .ok (.ireturn, 1) := by decide +kernel
theorem qq_X4_isSetting_0 {c : Cond} (j : Nat) (h : ([.methodLink RX4 95 yX4_in, .static yX4_in, .initialized RX4, .code yX4_in cX4_in 3 (some .boolean)] : List Cond)[j]? = some c) : c ∈ wsX4_isSetting := List.mem_cons_of_mem _ (List.mem_of_getElem? h)
set_option maxRecDepth 20000 in
theorem ggX4_isSetting_X4_in : GoodIn wsX4_isSetting wsX4_in := goodIn_sub (sb_c (qq_X4_isSetting_0 3 rfl) (sb_n)) gw_X4_in
set_option maxRecDepth 20000 in
theorem gX4_isSetting_X4_in : GoodIn wsX4_isSetting (va_wsS RX4 95 yX4_in wsX4_in) := goodIn_app (goodIn_sub (sb_c (qq_X4_isSetting_0 0 rfl) (sb_c (qq_X4_isSetting_0 1 rfl) (sb_c (qq_X4_isSetting_0 2 rfl) sb_n))) (by decide +kernel)) ggX4_isSetting_X4_in
theorem dX4_isSetting_0 : decode cX4_isSetting 0 = .ok (.iload_n 0, 1) := by decide +kernel
theorem dX4_isSetting_1 : decode cX4_isSetting 1 = .ok (.tableswitch 97 0 8 #[51, 59, 66, 66, 74, 51, 82, 90, 90], 51) := by decide +kernel
theorem dX4_isSetting_52 : decode cX4_isSetting 52 = .ok (.iload_n 1, 1) := by decide +kernel
theorem dX4_isSetting_53 : decode cX4_isSetting 53 = .ok (.iconst 1, 1) := by decide +kernel
theorem dX4_isSetting_54 : decode cX4_isSetting 54 = .ok (.bipush 8, 2) := by decide +kernel
theorem dX4_isSetting_56 : decode cX4_isSetting 56 = .ok (.invokestatic 95, 3) := by decide +kernel
theorem dX4_isSetting_59 : decode cX4_isSetting 59 = .ok (.ireturn, 1) := by decide +kernel
theorem dX4_isSetting_60 : decode cX4_isSetting 60 = .ok (.iload_n 1, 1) := by decide +kernel
theorem dX4_isSetting_61 : decode cX4_isSetting 61 = .ok (.iconst 1, 1) := by decide +kernel
theorem dX4_isSetting_62 : decode cX4_isSetting 62 = .ok (.iconst 5, 1) := by decide +kernel
theorem dX4_isSetting_63 : decode cX4_isSetting 63 = .ok (.invokestatic 95, 3) := by decide +kernel
theorem dX4_isSetting_66 : decode cX4_isSetting 66 = .ok (.ireturn, 1) := by decide +kernel
theorem dX4_isSetting_67 : decode cX4_isSetting 67 = .ok (.iload_n 1, 1) := by decide +kernel
theorem dX4_isSetting_68 : decode cX4_isSetting 68 = .ok (.iconst 1, 1) := by decide +kernel
theorem dX4_isSetting_69 : decode cX4_isSetting 69 = .ok (.bipush 12, 2) := by decide +kernel
theorem dX4_isSetting_71 : decode cX4_isSetting 71 = .ok (.invokestatic 95, 3) := by decide +kernel
theorem dX4_isSetting_74 : decode cX4_isSetting 74 = .ok (.ireturn, 1) := by decide +kernel
theorem dX4_isSetting_75 : decode cX4_isSetting 75 = .ok (.iload_n 1, 1) := by decide +kernel
theorem dX4_isSetting_76 : decode cX4_isSetting 76 = .ok (.bipush (-20), 2) := by decide +kernel
theorem dX4_isSetting_78 : decode cX4_isSetting 78 = .ok (.iconst 0, 1) := by decide +kernel
theorem dX4_isSetting_79 : decode cX4_isSetting 79 = .ok (.invokestatic 95, 3) := by decide +kernel
theorem dX4_isSetting_82 : decode cX4_isSetting 82 = .ok (.ireturn, 1) := by decide +kernel
theorem dX4_isSetting_83 : decode cX4_isSetting 83 = .ok (.iload_n 1, 1) := by decide +kernel
theorem dX4_isSetting_84 : decode cX4_isSetting 84 = .ok (.iconst 1, 1) := by decide +kernel
theorem dX4_isSetting_85 : decode cX4_isSetting 85 = .ok (.bipush 6, 2) := by decide +kernel
theorem dX4_isSetting_87 : decode cX4_isSetting 87 = .ok (.invokestatic 95, 3) := by decide +kernel
theorem dX4_isSetting_90 : decode cX4_isSetting 90 = .ok (.ireturn, 1) := by decide +kernel
theorem dX4_isSetting_91 : decode cX4_isSetting 91 = .ok (.iload_n 1, 1) := by decide +kernel
theorem dX4_isSetting_92 : decode cX4_isSetting 92 = .ok (.iconst 0, 1) := by decide +kernel
theorem dX4_isSetting_93 : decode cX4_isSetting 93 = .ok (.iconst 3, 1) := by decide +kernel
theorem dX4_isSetting_94 : decode cX4_isSetting 94 = .ok (.invokestatic 95, 3) := by decide +kernel
theorem dX4_isSetting_97 : decode cX4_isSetting 97 = .ok (.ireturn, 1) := by decide +kernel
theorem dX4_isSetting_98 : decode cX4_isSetting 98 = .ok (.iconst 0, 1) := by decide +kernel
theorem dX4_isSetting_99 : decode cX4_isSetting 99 = .ok (.ireturn, 1) := by decide +kernel
theorem qq_X4_set_0 {c : Cond} (j : Nat) (h : ([.constant RX4 106 (-2147483648), .fieldLink RX4 13 "InkSwathsModel" "head" "[I", .methodLink RX4 103 yX4_isSetting, .static yX4_isSetting, .initialized RX4, .code yX4_isSetting cX4_isSetting 2 (some .boolean), .methodLink RX4 95 yX4_in, .static yX4_in, .code yX4_in cX4_in 3 (some .boolean)] : List Cond)[j]? = some c) : c ∈ wsX4_set := List.mem_cons_of_mem _ (List.mem_append_left _ (List.mem_of_getElem? h))
theorem uq_X4_set_X4 : wsub wsX40 wsX4_set := fun _ h => List.mem_cons_of_mem _ (List.mem_append_right _ (h))
set_option maxRecDepth 20000 in
theorem gw_X4_isSetting : wsX4_isSetting.all goodWord = true := by decide +kernel
set_option maxRecDepth 20000 in
theorem ggX4_set_X4_isSetting : GoodIn wsX4_set wsX4_isSetting := goodIn_sub (sb_c (qq_X4_set_0 5 rfl) (sb_c (qq_X4_set_0 6 rfl) (sb_c (qq_X4_set_0 7 rfl) (sb_c (qq_X4_set_0 4 rfl) (sb_c (qq_X4_set_0 8 rfl) sb_n))))) gw_X4_isSetting
set_option maxRecDepth 20000 in
theorem gX4_set_X4_isSetting : GoodIn wsX4_set (va_wsS RX4 103 yX4_isSetting wsX4_isSetting) := goodIn_app (goodIn_sub (sb_c (qq_X4_set_0 2 rfl) (sb_c (qq_X4_set_0 3 rfl) (sb_c (qq_X4_set_0 4 rfl) sb_n))) (by decide +kernel)) ggX4_set_X4_isSetting
theorem dX4_set_0 : decode cX4_set 0 = .ok (.iload_n 1, 1) := by decide +kernel
theorem dX4_set_1 : decode cX4_set 1 = .ok (.iload_n 2, 1) := by decide +kernel
theorem dX4_set_2 : decode cX4_set 2 = .ok (.invokestatic 103, 3) := by decide +kernel
theorem dX4_set_5 : decode cX4_set 5 = .ok (.ifCond .ne 6, 3) := by decide +kernel
theorem dX4_set_8 : decode cX4_set 8 = .ok (.ldc 106, 2) := by decide +kernel
theorem dX4_set_10 : decode cX4_set 10 = .ok (.ireturn, 1) := by decide +kernel
theorem dX4_set_11 : decode cX4_set 11 = .ok (.aload_n 0, 1) := by decide +kernel
theorem dX4_set_12 : decode cX4_set 12 = .ok (.getfield 13, 3) := by decide +kernel
theorem dX4_set_15 : decode cX4_set 15 = .ok (.iload_n 1, 1) := by decide +kernel
theorem dX4_set_16 : decode cX4_set 16 = .ok (.iaload, 1) := by decide +kernel
theorem dX4_set_17 : decode cX4_set 17 = .ok (.istore_n 3, 1) := by decide +kernel
theorem dX4_set_18 : decode cX4_set 18 = .ok (.aload_n 0, 1) := by decide +kernel
theorem dX4_set_19 : decode cX4_set 19 = .ok (.getfield 13, 3) := by decide +kernel
theorem dX4_set_22 : decode cX4_set 22 = .ok (.iload_n 1, 1) := by decide +kernel
theorem dX4_set_23 : decode cX4_set 23 = .ok (.iload_n 2, 1) := by decide +kernel
theorem dX4_set_24 : decode cX4_set 24 = .ok (.iastore, 1) := by decide +kernel
theorem dX4_set_25 : decode cX4_set 25 = .ok (.iload_n 3, 1) := by decide +kernel
theorem dX4_set_26 : decode cX4_set 26 = .ok (.ireturn, 1) := by decide +kernel
theorem qq_X4_event_0 {c : Cond} (j : Nat) (h : ([.fieldLink RX4 110 "InkSwathsModel" "events" "I", .fieldLink RX4 16 "InkSwathsModel" "eventKind" "[I", .fieldLink RX4 19 "InkSwathsModel" "eventAt" "[I", .fieldLink RX4 22 "InkSwathsModel" "eventNozzle" "[I", .methodLink RX4 107 yX4_isTwo, .static yX4_isTwo, .initialized RX4, .code yX4_isTwo cX4_isTwo 1 (some .boolean), .methodLink RX4 95 yX4_in, .static yX4_in, .code yX4_in cX4_in 3 (some .boolean)] : List Cond)[j]? = some c) : c ∈ wsX4_event := List.mem_cons_of_mem _ (List.mem_append_left _ (List.mem_of_getElem? h))
theorem uq_X4_event_X4 : wsub wsX40 wsX4_event := fun _ h => List.mem_cons_of_mem _ (List.mem_append_right _ (h))
set_option maxRecDepth 20000 in
theorem gw_X4_isTwo : wsX4_isTwo.all goodWord = true := by decide +kernel
set_option maxRecDepth 20000 in
theorem ggX4_event_X4_isTwo : GoodIn wsX4_event wsX4_isTwo := goodIn_sub (sb_c (qq_X4_event_0 7 rfl) (sb_c (qq_X4_event_0 8 rfl) (sb_c (qq_X4_event_0 9 rfl) (sb_c (qq_X4_event_0 6 rfl) (sb_c (qq_X4_event_0 10 rfl) sb_n))))) gw_X4_isTwo
set_option maxRecDepth 20000 in
theorem gX4_event_X4_isTwo : GoodIn wsX4_event (va_wsS RX4 107 yX4_isTwo wsX4_isTwo) := goodIn_app (goodIn_sub (sb_c (qq_X4_event_0 4 rfl) (sb_c (qq_X4_event_0 5 rfl) (sb_c (qq_X4_event_0 6 rfl) sb_n))) (by decide +kernel)) ggX4_event_X4_isTwo
set_option maxRecDepth 20000 in
theorem ggX4_event_X4_in : GoodIn wsX4_event wsX4_in := goodIn_sub (sb_c (qq_X4_event_0 10 rfl) (sb_n)) gw_X4_in
set_option maxRecDepth 20000 in
theorem gX4_event_X4_in : GoodIn wsX4_event (va_wsS RX4 95 yX4_in wsX4_in) := goodIn_app (goodIn_sub (sb_c (qq_X4_event_0 8 rfl) (sb_c (qq_X4_event_0 9 rfl) (sb_c (qq_X4_event_0 6 rfl) sb_n))) (by decide +kernel)) ggX4_event_X4_in
theorem dX4_event_0 : decode cX4_event 0 = .ok (.iload_n 1, 1) := by decide +kernel
theorem dX4_event_1 : decode cX4_event 1 = .ok (.invokestatic 107, 3) := by decide +kernel
theorem dX4_event_4 : decode cX4_event 4 = .ok (.ifCond .eq 23, 3) := by decide +kernel
theorem dX4_event_7 : decode cX4_event 7 = .ok (.iload_n 2, 1) := by decide +kernel
theorem dX4_event_8 : decode cX4_event 8 = .ok (.iconst 0, 1) := by decide +kernel
theorem dX4_event_9 : decode cX4_event 9 = .ok (.bipush 11, 2) := by decide +kernel
theorem dX4_event_11 : decode cX4_event 11 = .ok (.invokestatic 95, 3) := by decide +kernel
theorem dX4_event_14 : decode cX4_event 14 = .ok (.ifCond .eq 13, 3) := by decide +kernel
theorem dX4_event_17 : decode cX4_event 17 = .ok (.iload_n 3, 1) := by decide +kernel
theorem dX4_event_18 : decode cX4_event 18 = .ok (.iconst 0, 1) := by decide +kernel
theorem dX4_event_19 : decode cX4_event 19 = .ok (.bipush 7, 2) := by decide +kernel
theorem dX4_event_21 : decode cX4_event 21 = .ok (.invokestatic 95, 3) := by decide +kernel
theorem dX4_event_24 : decode cX4_event 24 = .ok (.ifCond .ne 6, 3) := by decide +kernel
theorem dX4_event_27 : decode cX4_event 27 = .ok (.bipush (-2), 2) := by decide +kernel
theorem dX4_event_29 : decode cX4_event 29 = .ok (.ireturn, 1) := by decide +kernel
theorem dX4_event_30 : decode cX4_event 30 = .ok (.aload_n 0, 1) := by decide +kernel
theorem dX4_event_31 : decode cX4_event 31 = .ok (.getfield 110, 3) := by decide +kernel
theorem dX4_event_34 : decode cX4_event 34 = .ok (.bipush 8, 2) := by decide +kernel
theorem dX4_event_36 : decode cX4_event 36 = .ok (.if_icmp .ne 6, 3) := by decide +kernel
theorem dX4_event_39 : decode cX4_event 39 = .ok (.bipush (-4), 2) := by decide +kernel
theorem dX4_event_41 : decode cX4_event 41 = .ok (.ireturn, 1) := by decide +kernel
theorem dX4_event_42 : decode cX4_event 42 = .ok (.aload_n 0, 1) := by decide +kernel
theorem dX4_event_43 : decode cX4_event 43 = .ok (.getfield 16, 3) := by decide +kernel
theorem dX4_event_46 : decode cX4_event 46 = .ok (.aload_n 0, 1) := by decide +kernel
theorem dX4_event_47 : decode cX4_event 47 = .ok (.getfield 110, 3) := by decide +kernel
theorem dX4_event_50 : decode cX4_event 50 = .ok (.iload_n 1, 1) := by decide +kernel
theorem dX4_event_51 : decode cX4_event 51 = .ok (.iastore, 1) := by decide +kernel
theorem dX4_event_52 : decode cX4_event 52 = .ok (.aload_n 0, 1) := by decide +kernel
theorem dX4_event_53 : decode cX4_event 53 = .ok (.getfield 19, 3) := by decide +kernel
theorem dX4_event_56 : decode cX4_event 56 = .ok (.aload_n 0, 1) := by decide +kernel
theorem dX4_event_57 : decode cX4_event 57 = .ok (.getfield 110, 3) := by decide +kernel
theorem dX4_event_60 : decode cX4_event 60 = .ok (.iload_n 2, 1) := by decide +kernel
theorem dX4_event_61 : decode cX4_event 61 = .ok (.iastore, 1) := by decide +kernel
theorem dX4_event_62 : decode cX4_event 62 = .ok (.aload_n 0, 1) := by decide +kernel
theorem dX4_event_63 : decode cX4_event 63 = .ok (.getfield 22, 3) := by decide +kernel
theorem dX4_event_66 : decode cX4_event 66 = .ok (.aload_n 0, 1) := by decide +kernel
theorem dX4_event_67 : decode cX4_event 67 = .ok (.getfield 110, 3) := by decide +kernel
theorem dX4_event_70 : decode cX4_event 70 = .ok (.iload_n 3, 1) := by decide +kernel
theorem dX4_event_71 : decode cX4_event 71 = .ok (.iastore, 1) := by decide +kernel
theorem dX4_event_72 : decode cX4_event 72 = .ok (.aload_n 0, 1) := by decide +kernel
theorem dX4_event_73 : decode cX4_event 73 = .ok (.dup, 1) := by decide +kernel
theorem dX4_event_74 : decode cX4_event 74 = .ok (.getfield 110, 3) := by decide +kernel
theorem dX4_event_77 : decode cX4_event 77 = .ok (.iconst 1, 1) := by decide +kernel
theorem dX4_event_78 : decode cX4_event 78 = .ok (.iadd, 1) := by decide +kernel
theorem dX4_event_79 : decode cX4_event 79 = .ok (.putfield 110, 3) := by decide +kernel
theorem dX4_event_82 : decode cX4_event 82 = .ok (.aload_n 0, 1) := by decide +kernel
theorem dX4_event_83 : decode cX4_event 83 = .ok (.getfield 110, 3) := by decide +kernel
theorem dX4_event_86 : decode cX4_event 86 = .ok (.ireturn, 1) := by decide +kernel
theorem dX4_back_0 : decode cX4_back 0 = .ok (.aload_n 0, 1) := by decide +kernel
theorem dX4_back_1 : decode cX4_back 1 = .ok (.getfield 110, 3) := by decide +kernel
theorem dX4_back_4 : decode cX4_back 4 = .ok (.ifCond .ne 6, 3) := by decide +kernel
theorem dX4_back_7 : decode cX4_back 7 = .ok (.bipush (-3), 2) := by decide +kernel
theorem dX4_back_9 : decode cX4_back 9 = .ok (.ireturn, 1) := by decide +kernel
theorem dX4_back_10 : decode cX4_back 10 = .ok (.aload_n 0, 1) := by decide +kernel
theorem dX4_back_11 : decode cX4_back 11 = .ok (.dup, 1) := by decide +kernel
theorem dX4_back_12 : decode cX4_back 12 = .ok (.getfield 110, 3) := by decide +kernel
theorem dX4_back_15 : decode cX4_back 15 = .ok (.iconst 1, 1) := by decide +kernel
theorem dX4_back_16 : decode cX4_back 16 = .ok (.isub, 1) := by decide +kernel
theorem dX4_back_17 : decode cX4_back 17 = .ok (.putfield 110, 3) := by decide +kernel
theorem dX4_back_20 : decode cX4_back 20 = .ok (.aload_n 0, 1) := by decide +kernel
theorem dX4_back_21 : decode cX4_back 21 = .ok (.getfield 110, 3) := by decide +kernel
theorem dX4_back_24 : decode cX4_back 24 = .ok (.ireturn, 1) := by decide +kernel
theorem qq_X4_read_0 {c : Cond} (j : Nat) (h : ([.fieldLink RX4 73 "InkSwathsModel" "isThere" "[Z", .fieldLink RX4 80 "InkSwathsModel" "sizes" "[I", .fieldLink RX4 83 "InkSwathsModel" "items" "[I", .fieldLink RX4 7 "InkSwathsModel" "told" "[I", .methodLink RX4 114 yX4_isSheet, .static yX4_isSheet, .initialized RX4, .code yX4_isSheet cX4_isSheet 1 (some .boolean), .methodLink RX4 95 yX4_in, .static yX4_in, .code yX4_in cX4_in 3 (some .boolean), .methodLink RX4 117 yX4_meets, .instanceMethod yX4_meets, .selects RX4 yX4_meets yX4_meets, .code yX4_meets cX4_meets 2 (some .int), .fieldLink RX4 278 "InkSwathsModel" "finding" "I"] : List Cond)[j]? = some c) : c ∈ wsX4_read := List.mem_cons_of_mem _ (List.mem_append_left _ (List.mem_of_getElem? h))
theorem uq_X4_read_X4 : wsub wsX40 wsX4_read := fun _ h => List.mem_cons_of_mem _ (List.mem_append_right _ (h))
set_option maxRecDepth 20000 in
theorem gw_X4_isSheet : wsX4_isSheet.all goodWord = true := by decide +kernel
set_option maxRecDepth 20000 in
theorem ggX4_read_X4_isSheet : GoodIn wsX4_read wsX4_isSheet := goodIn_sub (sb_c (qq_X4_read_0 7 rfl) (sb_c (qq_X4_read_0 8 rfl) (sb_c (qq_X4_read_0 9 rfl) (sb_c (qq_X4_read_0 6 rfl) (sb_c (qq_X4_read_0 10 rfl) sb_n))))) gw_X4_isSheet
set_option maxRecDepth 20000 in
theorem gX4_read_X4_isSheet : GoodIn wsX4_read (va_wsS RX4 114 yX4_isSheet wsX4_isSheet) := goodIn_app (goodIn_sub (sb_c (qq_X4_read_0 4 rfl) (sb_c (qq_X4_read_0 5 rfl) (sb_c (qq_X4_read_0 6 rfl) sb_n))) (by decide +kernel)) ggX4_read_X4_isSheet
set_option maxRecDepth 20000 in
theorem gw_X4_meets : wsX4_meets.all goodWord = true := by decide +kernel
set_option maxRecDepth 20000 in
theorem ggX4_read_X4_meets : GoodIn wsX4_read wsX4_meets := goodIn_sub (sb_c (qq_X4_read_0 14 rfl) (sb_a (sb_c (qq_X4_read_0 15 rfl) sb_n) (uq_X4_read_X4))) gw_X4_meets
set_option maxRecDepth 20000 in
theorem gX4_read_X4_meets : GoodIn wsX4_read (wsV RX4 117 RX4 yX4_meets wsX4_meets) := goodIn_app (goodIn_sub (sb_c (qq_X4_read_0 11 rfl) (sb_c (qq_X4_read_0 12 rfl) (sb_c (qq_X4_read_0 13 rfl) (sb_c (qq_X4_read_0 6 rfl) sb_n)))) (by decide +kernel)) ggX4_read_X4_meets
set_option maxRecDepth 20000 in
theorem ggX4_read_X4_in : GoodIn wsX4_read wsX4_in := goodIn_sub (sb_c (qq_X4_read_0 10 rfl) (sb_n)) gw_X4_in
set_option maxRecDepth 20000 in
theorem gX4_read_X4_in : GoodIn wsX4_read (va_wsS RX4 95 yX4_in wsX4_in) := goodIn_app (goodIn_sub (sb_c (qq_X4_read_0 8 rfl) (sb_c (qq_X4_read_0 9 rfl) (sb_c (qq_X4_read_0 6 rfl) sb_n))) (by decide +kernel)) ggX4_read_X4_in
theorem dX4_read_0 : decode cX4_read 0 = .ok (.iload_n 1, 1) := by decide +kernel
theorem dX4_read_1 : decode cX4_read 1 = .ok (.invokestatic 114, 3) := by decide +kernel
theorem dX4_read_4 : decode cX4_read 4 = .ok (.ifCond .ne 6, 3) := by decide +kernel
theorem dX4_read_7 : decode cX4_read 7 = .ok (.bipush (-2), 2) := by decide +kernel
theorem dX4_read_9 : decode cX4_read 9 = .ok (.ireturn, 1) := by decide +kernel
theorem dX4_read_10 : decode cX4_read 10 = .ok (.aload_n 0, 1) := by decide +kernel
theorem dX4_read_11 : decode cX4_read 11 = .ok (.getfield 73, 3) := by decide +kernel
theorem dX4_read_14 : decode cX4_read 14 = .ok (.iload_n 1, 1) := by decide +kernel
theorem dX4_read_15 : decode cX4_read 15 = .ok (.baload, 1) := by decide +kernel
theorem dX4_read_16 : decode cX4_read 16 = .ok (.ifCond .ne 9, 3) := by decide +kernel
theorem dX4_read_19 : decode cX4_read 19 = .ok (.aload_n 0, 1) := by decide +kernel
theorem dX4_read_20 : decode cX4_read 20 = .ok (.iconst 1, 1) := by decide +kernel
theorem dX4_read_21 : decode cX4_read 21 = .ok (.invokevirtual 117, 3) := by decide +kernel
theorem dX4_read_24 : decode cX4_read 24 = .ok (.ireturn, 1) := by decide +kernel
theorem dX4_read_25 : decode cX4_read 25 = .ok (.iconst 0, 1) := by decide +kernel
theorem dX4_read_26 : decode cX4_read 26 = .ok (.istore_n 2, 1) := by decide +kernel
theorem dX4_read_27 : decode cX4_read 27 = .ok (.iload_n 2, 1) := by decide +kernel
theorem dX4_read_28 : decode cX4_read 28 = .ok (.aload_n 0, 1) := by decide +kernel
theorem dX4_read_29 : decode cX4_read 29 = .ok (.getfield 80, 3) := by decide +kernel
theorem dX4_read_32 : decode cX4_read 32 = .ok (.iload_n 1, 1) := by decide +kernel
theorem dX4_read_33 : decode cX4_read 33 = .ok (.iaload, 1) := by decide +kernel
theorem dX4_read_34 : decode cX4_read 34 = .ok (.if_icmp .ge 53, 3) := by decide +kernel
theorem dX4_read_37 : decode cX4_read 37 = .ok (.iload_n 2, 1) := by decide +kernel
theorem dX4_read_38 : decode cX4_read 38 = .ok (.bipush 16, 2) := by decide +kernel
theorem dX4_read_40 : decode cX4_read 40 = .ok (.if_icmp .ge 47, 3) := by decide +kernel
theorem dX4_read_43 : decode cX4_read 43 = .ok (.aload_n 0, 1) := by decide +kernel
theorem dX4_read_44 : decode cX4_read 44 = .ok (.getfield 83, 3) := by decide +kernel
theorem dX4_read_47 : decode cX4_read 47 = .ok (.bipush 60, 2) := by decide +kernel
theorem dX4_read_49 : decode cX4_read 49 = .ok (.iload_n 1, 1) := by decide +kernel
theorem dX4_read_50 : decode cX4_read 50 = .ok (.imul, 1) := by decide +kernel
theorem dX4_read_51 : decode cX4_read 51 = .ok (.iload_n 2, 1) := by decide +kernel
theorem dX4_read_52 : decode cX4_read 52 = .ok (.iadd, 1) := by decide +kernel
theorem dX4_read_53 : decode cX4_read 53 = .ok (.iaload, 1) := by decide +kernel
theorem dX4_read_54 : decode cX4_read 54 = .ok (.iconst 0, 1) := by decide +kernel
theorem dX4_read_55 : decode cX4_read 55 = .ok (.sipush 255, 3) := by decide +kernel
theorem dX4_read_58 : decode cX4_read 58 = .ok (.invokestatic 95, 3) := by decide +kernel
theorem dX4_read_61 : decode cX4_read 61 = .ok (.ifCond .eq 26, 3) := by decide +kernel
theorem dX4_read_64 : decode cX4_read 64 = .ok (.aload_n 0, 1) := by decide +kernel
theorem dX4_read_65 : decode cX4_read 65 = .ok (.getfield 7, 3) := by decide +kernel
theorem dX4_read_68 : decode cX4_read 68 = .ok (.iload_n 2, 1) := by decide +kernel
theorem dX4_read_69 : decode cX4_read 69 = .ok (.aload_n 0, 1) := by decide +kernel
theorem dX4_read_70 : decode cX4_read 70 = .ok (.getfield 83, 3) := by decide +kernel
theorem dX4_read_73 : decode cX4_read 73 = .ok (.bipush 60, 2) := by decide +kernel
theorem dX4_read_75 : decode cX4_read 75 = .ok (.iload_n 1, 1) := by decide +kernel
theorem dX4_read_76 : decode cX4_read 76 = .ok (.imul, 1) := by decide +kernel
theorem dX4_read_77 : decode cX4_read 77 = .ok (.iload_n 2, 1) := by decide +kernel
theorem dX4_read_78 : decode cX4_read 78 = .ok (.iadd, 1) := by decide +kernel
theorem dX4_read_79 : decode cX4_read 79 = .ok (.iaload, 1) := by decide +kernel
theorem dX4_read_80 : decode cX4_read 80 = .ok (.iastore, 1) := by decide +kernel
theorem dX4_read_81 : decode cX4_read 81 = .ok (.iinc 2 1, 3) := by decide +kernel
theorem dX4_read_84 : decode cX4_read 84 = .ok (.goto (-57), 3) := by decide +kernel
theorem dX4_read_87 : decode cX4_read 87 = .ok (.iload_n 2, 1) := by decide +kernel
theorem dX4_read_88 : decode cX4_read 88 = .ok (.ireturn, 1) := by decide +kernel
theorem dX4_asTold_0 : decode cX4_asTold 0 = .ok (.iconst 0, 1) := by decide +kernel
theorem dX4_asTold_1 : decode cX4_asTold 1 = .ok (.istore_n 1, 1) := by decide +kernel
theorem dX4_asTold_2 : decode cX4_asTold 2 = .ok (.iload_n 1, 1) := by decide +kernel
theorem dX4_asTold_3 : decode cX4_asTold 3 = .ok (.bipush 16, 2) := by decide +kernel
theorem dX4_asTold_5 : decode cX4_asTold 5 = .ok (.if_icmp .ge 21, 3) := by decide +kernel
theorem dX4_asTold_8 : decode cX4_asTold 8 = .ok (.aload_n 0, 1) := by decide +kernel
theorem dX4_asTold_9 : decode cX4_asTold 9 = .ok (.getfield 25, 3) := by decide +kernel
theorem dX4_asTold_12 : decode cX4_asTold 12 = .ok (.iload_n 1, 1) := by decide +kernel
theorem dX4_asTold_13 : decode cX4_asTold 13 = .ok (.aload_n 0, 1) := by decide +kernel
theorem dX4_asTold_14 : decode cX4_asTold 14 = .ok (.getfield 7, 3) := by decide +kernel
theorem dX4_asTold_17 : decode cX4_asTold 17 = .ok (.iload_n 1, 1) := by decide +kernel
theorem dX4_asTold_18 : decode cX4_asTold 18 = .ok (.iaload, 1) := by decide +kernel
theorem dX4_asTold_19 : decode cX4_asTold 19 = .ok (.iastore, 1) := by decide +kernel
theorem dX4_asTold_20 : decode cX4_asTold 20 = .ok (.iinc 1 1, 3) := by decide +kernel
theorem dX4_asTold_23 : decode cX4_asTold 23 = .ok (.goto (-21), 3) := by decide +kernel
theorem dX4_asTold_26 : decode cX4_asTold 26 = .ok (.iconst 0, 1) := by decide +kernel
theorem dX4_asTold_27 : decode cX4_asTold 27 = .ok (.istore_n 1, 1) := by decide +kernel
theorem dX4_asTold_28 : decode cX4_asTold 28 = .ok (.iload_n 1, 1) := by decide +kernel
theorem dX4_asTold_29 : decode cX4_asTold 29 = .ok (.bipush 9, 2) := by decide +kernel
theorem dX4_asTold_31 : decode cX4_asTold 31 = .ok (.if_icmp .ge 21, 3) := by decide +kernel
theorem dX4_asTold_34 : decode cX4_asTold 34 = .ok (.aload_n 0, 1) := by decide +kernel
theorem dX4_asTold_35 : decode cX4_asTold 35 = .ok (.getfield 28, 3) := by decide +kernel
theorem dX4_asTold_38 : decode cX4_asTold 38 = .ok (.iload_n 1, 1) := by decide +kernel
theorem dX4_asTold_39 : decode cX4_asTold 39 = .ok (.aload_n 0, 1) := by decide +kernel
theorem dX4_asTold_40 : decode cX4_asTold 40 = .ok (.getfield 13, 3) := by decide +kernel
theorem dX4_asTold_43 : decode cX4_asTold 43 = .ok (.iload_n 1, 1) := by decide +kernel
theorem dX4_asTold_44 : decode cX4_asTold 44 = .ok (.iaload, 1) := by decide +kernel
theorem dX4_asTold_45 : decode cX4_asTold 45 = .ok (.iastore, 1) := by decide +kernel
theorem dX4_asTold_46 : decode cX4_asTold 46 = .ok (.iinc 1 1, 3) := by decide +kernel
theorem dX4_asTold_49 : decode cX4_asTold 49 = .ok (.goto (-21), 3) := by decide +kernel
theorem dX4_asTold_52 : decode cX4_asTold 52 = .ok (.aload_n 0, 1) := by decide +kernel
theorem dX4_asTold_53 : decode cX4_asTold 53 = .ok (.iconst 0, 1) := by decide +kernel
theorem dX4_asTold_54 : decode cX4_asTold 54 = .ok (.putfield 121, 3) := by decide +kernel
theorem dX4_asTold_57 : decode cX4_asTold 57 = .ok (.aload_n 0, 1) := by decide +kernel
theorem dX4_asTold_58 : decode cX4_asTold 58 = .ok (.iconst (-1), 1) := by decide +kernel
theorem dX4_asTold_59 : decode cX4_asTold 59 = .ok (.putfield 124, 3) := by decide +kernel
theorem dX4_asTold_62 : decode cX4_asTold 62 = .ok (.return_, 1) := by decide +kernel
theorem qq_X4_isAlive_0 {c : Cond} (j : Nat) (h : ([.fieldLink RX4 110 "InkSwathsModel" "events" "I", .fieldLink RX4 22 "InkSwathsModel" "eventNozzle" "[I", .fieldLink RX4 19 "InkSwathsModel" "eventAt" "[I", .fieldLink RX4 121 "InkSwathsModel" "notEvents" "I", .fieldLink RX4 124 "InkSwathsModel" "deadNow" "I", .fieldLink RX4 16 "InkSwathsModel" "eventKind" "[I", .methodLink RX4 91 yX4_isIn, .static yX4_isIn, .initialized RX4, .code yX4_isIn cX4_isIn 2 (some .boolean)] : List Cond)[j]? = some c) : c ∈ wsX4_isAlive := List.mem_cons_of_mem _ (List.mem_append_left _ (List.mem_of_getElem? h))
theorem uq_X4_isAlive_X4 : wsub wsX40 wsX4_isAlive := fun _ h => List.mem_cons_of_mem _ (List.mem_append_right _ (h))
set_option maxRecDepth 20000 in
theorem ggX4_isAlive_X4_isIn : GoodIn wsX4_isAlive wsX4_isIn := goodIn_sub (sb_c (qq_X4_isAlive_0 9 rfl) (sb_n)) gw_X4_isIn
set_option maxRecDepth 20000 in
theorem gX4_isAlive_X4_isIn : GoodIn wsX4_isAlive (va_wsS RX4 91 yX4_isIn wsX4_isIn) := goodIn_app (goodIn_sub (sb_c (qq_X4_isAlive_0 6 rfl) (sb_c (qq_X4_isAlive_0 7 rfl) (sb_c (qq_X4_isAlive_0 8 rfl) sb_n))) (by decide +kernel)) ggX4_isAlive_X4_isIn
theorem dX4_isAlive_0 : decode cX4_isAlive 0 = .ok (.iconst (-1), 1) := by decide +kernel
theorem dX4_isAlive_1 : decode cX4_isAlive 1 = .ok (.istore_n 3, 1) := by decide +kernel
theorem dX4_isAlive_2 : decode cX4_isAlive 2 = .ok (.iconst 0, 1) := by decide +kernel
theorem dX4_isAlive_3 : decode cX4_isAlive 3 = .ok (.istore 4, 2) := by decide +kernel
theorem dX4_isAlive_5 : decode cX4_isAlive 5 = .ok (.iload 4, 2) := by decide +kernel
theorem dX4_isAlive_7 : decode cX4_isAlive 7 = .ok (.aload_n 0, 1) := by decide +kernel
theorem dX4_isAlive_8 : decode cX4_isAlive 8 = .ok (.getfield 110, 3) := by decide +kernel
theorem dX4_isAlive_11 : decode cX4_isAlive 11 = .ok (.if_icmp .ge 83, 3) := by decide +kernel
theorem dX4_isAlive_14 : decode cX4_isAlive 14 = .ok (.aload_n 0, 1) := by decide +kernel
theorem dX4_isAlive_15 : decode cX4_isAlive 15 = .ok (.getfield 22, 3) := by decide +kernel
theorem dX4_isAlive_18 : decode cX4_isAlive 18 = .ok (.iload 4, 2) := by decide +kernel
theorem dX4_isAlive_20 : decode cX4_isAlive 20 = .ok (.iaload, 1) := by decide +kernel
theorem dX4_isAlive_21 : decode cX4_isAlive 21 = .ok (.iload_n 2, 1) := by decide +kernel
theorem dX4_isAlive_22 : decode cX4_isAlive 22 = .ok (.if_icmp .ne 30, 3) := by decide +kernel
theorem dX4_isAlive_25 : decode cX4_isAlive 25 = .ok (.aload_n 0, 1) := by decide +kernel
theorem dX4_isAlive_26 : decode cX4_isAlive 26 = .ok (.getfield 19, 3) := by decide +kernel
theorem dX4_isAlive_29 : decode cX4_isAlive 29 = .ok (.iload 4, 2) := by decide +kernel
theorem dX4_isAlive_31 : decode cX4_isAlive 31 = .ok (.iaload, 1) := by decide +kernel
theorem dX4_isAlive_32 : decode cX4_isAlive 32 = .ok (.iload_n 1, 1) := by decide +kernel
theorem dX4_isAlive_33 : decode cX4_isAlive 33 = .ok (.if_icmp .gt 19, 3) := by decide +kernel
theorem dX4_isAlive_36 : decode cX4_isAlive 36 = .ok (.aload_n 0, 1) := by decide +kernel
theorem dX4_isAlive_37 : decode cX4_isAlive 37 = .ok (.getfield 121, 3) := by decide +kernel
theorem dX4_isAlive_40 : decode cX4_isAlive 40 = .ok (.iload 4, 2) := by decide +kernel
theorem dX4_isAlive_42 : decode cX4_isAlive 42 = .ok (.invokestatic 91, 3) := by decide +kernel
theorem dX4_isAlive_45 : decode cX4_isAlive 45 = .ok (.ifCond .ne 7, 3) := by decide +kernel
theorem dX4_isAlive_48 : decode cX4_isAlive 48 = .ok (.iconst 1, 1) := by decide +kernel
theorem dX4_isAlive_49 : decode cX4_isAlive 49 = .ok (.goto 4, 3) := by decide +kernel
theorem dX4_isAlive_52 : decode cX4_isAlive 52 = .ok (.iconst 0, 1) := by decide +kernel
theorem dX4_isAlive_53 : decode cX4_isAlive 53 = .ok (.istore 5, 2) := by decide +kernel
theorem dX4_isAlive_55 : decode cX4_isAlive 55 = .ok (.iload 5, 2) := by decide +kernel
theorem dX4_isAlive_57 : decode cX4_isAlive 57 = .ok (.ifCond .eq 29, 3) := by decide +kernel
theorem dX4_isAlive_60 : decode cX4_isAlive 60 = .ok (.iload_n 3, 1) := by decide +kernel
theorem dX4_isAlive_61 : decode cX4_isAlive 61 = .ok (.iconst (-1), 1) := by decide +kernel
theorem dX4_isAlive_62 : decode cX4_isAlive 62 = .ok (.if_icmp .eq 19, 3) := by decide +kernel
theorem dX4_isAlive_65 : decode cX4_isAlive 65 = .ok (.aload_n 0, 1) := by decide +kernel
theorem dX4_isAlive_66 : decode cX4_isAlive 66 = .ok (.getfield 19, 3) := by decide +kernel
theorem dX4_isAlive_69 : decode cX4_isAlive 69 = .ok (.iload 4, 2) := by decide +kernel
theorem dX4_isAlive_71 : decode cX4_isAlive 71 = .ok (.iaload, 1) := by decide +kernel
theorem dX4_isAlive_72 : decode cX4_isAlive 72 = .ok (.aload_n 0, 1) := by decide +kernel
theorem dX4_isAlive_73 : decode cX4_isAlive 73 = .ok (.getfield 19, 3) := by decide +kernel
theorem dX4_isAlive_76 : decode cX4_isAlive 76 = .ok (.iload_n 3, 1) := by decide +kernel
theorem dX4_isAlive_77 : decode cX4_isAlive 77 = .ok (.iaload, 1) := by decide +kernel
theorem dX4_isAlive_78 : decode cX4_isAlive 78 = .ok (.if_icmp .lt 8, 3) := by decide +kernel
theorem dX4_isAlive_81 : decode cX4_isAlive 81 = .ok (.iload 4, 2) := by decide +kernel
theorem dX4_isAlive_83 : decode cX4_isAlive 83 = .ok (.goto 4, 3) := by decide +kernel
theorem dX4_isAlive_86 : decode cX4_isAlive 86 = .ok (.iload_n 3, 1) := by decide +kernel
theorem dX4_isAlive_87 : decode cX4_isAlive 87 = .ok (.istore_n 3, 1) := by decide +kernel
theorem dX4_isAlive_88 : decode cX4_isAlive 88 = .ok (.iinc 4 1, 3) := by decide +kernel
theorem dX4_isAlive_91 : decode cX4_isAlive 91 = .ok (.goto (-86), 3) := by decide +kernel
theorem dX4_isAlive_94 : decode cX4_isAlive 94 = .ok (.iload_n 2, 1) := by decide +kernel
theorem dX4_isAlive_95 : decode cX4_isAlive 95 = .ok (.aload_n 0, 1) := by decide +kernel
theorem dX4_isAlive_96 : decode cX4_isAlive 96 = .ok (.getfield 124, 3) := by decide +kernel
theorem dX4_isAlive_99 : decode cX4_isAlive 99 = .ok (.if_icmp .eq 22, 3) := by decide +kernel
theorem dX4_isAlive_102 : decode cX4_isAlive 102 = .ok (.iload_n 3, 1) := by decide +kernel
theorem dX4_isAlive_103 : decode cX4_isAlive 103 = .ok (.iconst (-1), 1) := by decide +kernel
theorem dX4_isAlive_104 : decode cX4_isAlive 104 = .ok (.if_icmp .eq 13, 3) := by decide +kernel
theorem dX4_isAlive_107 : decode cX4_isAlive 107 = .ok (.aload_n 0, 1) := by decide +kernel
theorem dX4_isAlive_108 : decode cX4_isAlive 108 = .ok (.getfield 16, 3) := by decide +kernel
theorem dX4_isAlive_111 : decode cX4_isAlive 111 = .ok (.iload_n 3, 1) := by decide +kernel
theorem dX4_isAlive_112 : decode cX4_isAlive 112 = .ok (.iaload, 1) := by decide +kernel
theorem dX4_isAlive_113 : decode cX4_isAlive 113 = .ok (.iconst 1, 1) := by decide +kernel
theorem dX4_isAlive_114 : decode cX4_isAlive 114 = .ok (.if_icmp .ne 7, 3) := by decide +kernel
theorem dX4_isAlive_117 : decode cX4_isAlive 117 = .ok (.iconst 1, 1) := by decide +kernel
theorem dX4_isAlive_118 : decode cX4_isAlive 118 = .ok (.goto 4, 3) := by decide +kernel
theorem dX4_isAlive_121 : decode cX4_isAlive 121 = .ok (.iconst 0, 1) := by decide +kernel
theorem dX4_isAlive_122 : decode cX4_isAlive 122 = .ok (.ireturn, 1) := by decide +kernel
theorem dX4_reaches_0 : decode cX4_reaches 0 = .ok (.iload_n 1, 1) := by decide +kernel
theorem dX4_reaches_1 : decode cX4_reaches 1 = .ok (.iconst 2, 1) := by decide +kernel
theorem dX4_reaches_2 : decode cX4_reaches 2 = .ok (.irem, 1) := by decide +kernel
theorem dX4_reaches_3 : decode cX4_reaches 3 = .ok (.ifCond .ne 25, 3) := by decide +kernel
theorem dX4_reaches_6 : decode cX4_reaches 6 = .ok (.iload_n 2, 1) := by decide +kernel
theorem dX4_reaches_7 : decode cX4_reaches 7 = .ok (.bipush 8, 2) := by decide +kernel
theorem dX4_reaches_9 : decode cX4_reaches 9 = .ok (.aload_n 0, 1) := by decide +kernel
theorem dX4_reaches_10 : decode cX4_reaches 10 = .ok (.getfield 28, 3) := by decide +kernel
theorem dX4_reaches_13 : decode cX4_reaches 13 = .ok (.bipush 7, 2) := by decide +kernel
theorem dX4_reaches_15 : decode cX4_reaches 15 = .ok (.iaload, 1) := by decide +kernel
theorem dX4_reaches_16 : decode cX4_reaches 16 = .ok (.isub, 1) := by decide +kernel
theorem dX4_reaches_17 : decode cX4_reaches 17 = .ok (.if_icmp .ge 7, 3) := by decide +kernel
theorem dX4_reaches_20 : decode cX4_reaches 20 = .ok (.iconst 1, 1) := by decide +kernel
theorem dX4_reaches_21 : decode cX4_reaches 21 = .ok (.goto 23, 3) := by decide +kernel
theorem dX4_reaches_24 : decode cX4_reaches 24 = .ok (.iconst 0, 1) := by decide +kernel
theorem dX4_reaches_25 : decode cX4_reaches 25 = .ok (.goto 19, 3) := by decide +kernel
theorem dX4_reaches_28 : decode cX4_reaches 28 = .ok (.iload_n 2, 1) := by decide +kernel
theorem dX4_reaches_29 : decode cX4_reaches 29 = .ok (.aload_n 0, 1) := by decide +kernel
theorem dX4_reaches_30 : decode cX4_reaches 30 = .ok (.getfield 28, 3) := by decide +kernel
theorem dX4_reaches_33 : decode cX4_reaches 33 = .ok (.bipush 7, 2) := by decide +kernel
theorem dX4_reaches_35 : decode cX4_reaches 35 = .ok (.iaload, 1) := by decide +kernel
theorem dX4_reaches_36 : decode cX4_reaches 36 = .ok (.if_icmp .lt 7, 3) := by decide +kernel
theorem dX4_reaches_39 : decode cX4_reaches 39 = .ok (.iconst 1, 1) := by decide +kernel
theorem dX4_reaches_40 : decode cX4_reaches 40 = .ok (.goto 4, 3) := by decide +kernel
theorem dX4_reaches_43 : decode cX4_reaches 43 = .ok (.iconst 0, 1) := by decide +kernel
theorem dX4_reaches_44 : decode cX4_reaches 44 = .ok (.ireturn, 1) := by decide +kernel
theorem qq_X4_isAble_0 {c : Cond} (j : Nat) (h : ([.fieldLink RX4 34 "InkSwathsModel" "hitPass" "[I", .fieldLink RX4 37 "InkSwathsModel" "hitNozzle" "[I", .methodLink RX4 127 yX4_isAlive, .instanceMethod yX4_isAlive, .selects RX4 yX4_isAlive yX4_isAlive, .initialized RX4, .code yX4_isAlive cX4_isAlive 6 (some .boolean), .fieldLink RX4 110 "InkSwathsModel" "events" "I", .fieldLink RX4 22 "InkSwathsModel" "eventNozzle" "[I", .fieldLink RX4 19 "InkSwathsModel" "eventAt" "[I", .fieldLink RX4 121 "InkSwathsModel" "notEvents" "I", .fieldLink RX4 124 "InkSwathsModel" "deadNow" "I", .fieldLink RX4 16 "InkSwathsModel" "eventKind" "[I", .methodLink RX4 91 yX4_isIn, .static yX4_isIn, .code yX4_isIn cX4_isIn 2 (some .boolean), .methodLink RX4 130 yX4_reaches, .instanceMethod yX4_reaches, .selects RX4 yX4_reaches yX4_reaches, .code yX4_reaches cX4_reaches 3 (some .boolean), .fieldLink RX4 28 "InkSwathsModel" "now" "[I"] : List Cond)[j]? = some c) : c ∈ wsX4_isAble := List.mem_cons_of_mem _ (List.mem_append_left _ (List.mem_of_getElem? h))
theorem uq_X4_isAble_X4 : wsub wsX40 wsX4_isAble := fun _ h => List.mem_cons_of_mem _ (List.mem_append_right _ (h))
set_option maxRecDepth 20000 in
theorem gw_X4_isAlive : wsX4_isAlive.all goodWord = true := by decide +kernel
set_option maxRecDepth 20000 in
theorem ggX4_isAble_X4_isAlive : GoodIn wsX4_isAble wsX4_isAlive := goodIn_sub (sb_c (qq_X4_isAble_0 6 rfl) (sb_a (sb_c (qq_X4_isAble_0 7 rfl) (sb_c (qq_X4_isAble_0 8 rfl) (sb_c (qq_X4_isAble_0 9 rfl) (sb_c (qq_X4_isAble_0 10 rfl) (sb_c (qq_X4_isAble_0 11 rfl) (sb_c (qq_X4_isAble_0 12 rfl) (sb_c (qq_X4_isAble_0 13 rfl) (sb_c (qq_X4_isAble_0 14 rfl) (sb_c (qq_X4_isAble_0 5 rfl) (sb_c (qq_X4_isAble_0 15 rfl) sb_n)))))))))) (uq_X4_isAble_X4))) gw_X4_isAlive
set_option maxRecDepth 20000 in
theorem gX4_isAble_X4_isAlive : GoodIn wsX4_isAble (wsV RX4 127 RX4 yX4_isAlive wsX4_isAlive) := goodIn_app (goodIn_sub (sb_c (qq_X4_isAble_0 2 rfl) (sb_c (qq_X4_isAble_0 3 rfl) (sb_c (qq_X4_isAble_0 4 rfl) (sb_c (qq_X4_isAble_0 5 rfl) sb_n)))) (by decide +kernel)) ggX4_isAble_X4_isAlive
set_option maxRecDepth 20000 in
theorem gw_X4_reaches : wsX4_reaches.all goodWord = true := by decide +kernel
set_option maxRecDepth 20000 in
theorem ggX4_isAble_X4_reaches : GoodIn wsX4_isAble wsX4_reaches := goodIn_sub (sb_c (qq_X4_isAble_0 19 rfl) (sb_a (sb_c (qq_X4_isAble_0 20 rfl) sb_n) (uq_X4_isAble_X4))) gw_X4_reaches
set_option maxRecDepth 20000 in
theorem gX4_isAble_X4_reaches : GoodIn wsX4_isAble (wsV RX4 130 RX4 yX4_reaches wsX4_reaches) := goodIn_app (goodIn_sub (sb_c (qq_X4_isAble_0 16 rfl) (sb_c (qq_X4_isAble_0 17 rfl) (sb_c (qq_X4_isAble_0 18 rfl) (sb_c (qq_X4_isAble_0 5 rfl) sb_n)))) (by decide +kernel)) ggX4_isAble_X4_reaches
theorem dX4_isAble_0 : decode cX4_isAble 0 = .ok (.bipush 12, 2) := by decide +kernel
theorem dX4_isAble_2 : decode cX4_isAble 2 = .ok (.iload_n 1, 1) := by decide +kernel
theorem dX4_isAble_3 : decode cX4_isAble 3 = .ok (.imul, 1) := by decide +kernel
theorem dX4_isAble_4 : decode cX4_isAble 4 = .ok (.iload_n 2, 1) := by decide +kernel
theorem dX4_isAble_5 : decode cX4_isAble 5 = .ok (.iadd, 1) := by decide +kernel
theorem dX4_isAble_6 : decode cX4_isAble 6 = .ok (.istore 4, 2) := by decide +kernel
theorem dX4_isAble_8 : decode cX4_isAble 8 = .ok (.aload_n 0, 1) := by decide +kernel
theorem dX4_isAble_9 : decode cX4_isAble 9 = .ok (.aload_n 0, 1) := by decide +kernel
theorem dX4_isAble_10 : decode cX4_isAble 10 = .ok (.getfield 34, 3) := by decide +kernel
theorem dX4_isAble_13 : decode cX4_isAble 13 = .ok (.iload 4, 2) := by decide +kernel
theorem dX4_isAble_15 : decode cX4_isAble 15 = .ok (.iaload, 1) := by decide +kernel
theorem dX4_isAble_16 : decode cX4_isAble 16 = .ok (.aload_n 0, 1) := by decide +kernel
theorem dX4_isAble_17 : decode cX4_isAble 17 = .ok (.getfield 37, 3) := by decide +kernel
theorem dX4_isAble_20 : decode cX4_isAble 20 = .ok (.iload 4, 2) := by decide +kernel
theorem dX4_isAble_22 : decode cX4_isAble 22 = .ok (.iaload, 1) := by decide +kernel
theorem dX4_isAble_23 : decode cX4_isAble 23 = .ok (.invokevirtual 127, 3) := by decide +kernel
theorem dX4_isAble_26 : decode cX4_isAble 26 = .ok (.ifCond .eq 22, 3) := by decide +kernel
theorem dX4_isAble_29 : decode cX4_isAble 29 = .ok (.aload_n 0, 1) := by decide +kernel
theorem dX4_isAble_30 : decode cX4_isAble 30 = .ok (.aload_n 0, 1) := by decide +kernel
theorem dX4_isAble_31 : decode cX4_isAble 31 = .ok (.getfield 34, 3) := by decide +kernel
theorem dX4_isAble_34 : decode cX4_isAble 34 = .ok (.iload 4, 2) := by decide +kernel
theorem dX4_isAble_36 : decode cX4_isAble 36 = .ok (.iaload, 1) := by decide +kernel
theorem dX4_isAble_37 : decode cX4_isAble 37 = .ok (.iload_n 3, 1) := by decide +kernel
theorem dX4_isAble_38 : decode cX4_isAble 38 = .ok (.invokevirtual 130, 3) := by decide +kernel
theorem dX4_isAble_41 : decode cX4_isAble 41 = .ok (.ifCond .eq 7, 3) := by decide +kernel
theorem dX4_isAble_44 : decode cX4_isAble 44 = .ok (.iconst 1, 1) := by decide +kernel
theorem dX4_isAble_45 : decode cX4_isAble 45 = .ok (.goto 4, 3) := by decide +kernel
theorem dX4_isAble_48 : decode cX4_isAble 48 = .ok (.iconst 0, 1) := by decide +kernel
theorem dX4_isAble_49 : decode cX4_isAble 49 = .ok (.ireturn, 1) := by decide +kernel
theorem qq_X4_findsHits_0 {c : Cond} (j : Nat) (h : ([.fieldLink RX4 31 "InkSwathsModel" "hitMany" "[I", .fieldLink RX4 28 "InkSwathsModel" "now" "[I", .fieldLink RX4 34 "InkSwathsModel" "hitPass" "[I", .fieldLink RX4 37 "InkSwathsModel" "hitNozzle" "[I", .fieldLink RX4 40 "InkSwathsModel" "hitPrints" "[I", .methodLink RX4 99 yX4_isLine, .static yX4_isLine, .initialized RX4, .code yX4_isLine cX4_isLine 1 (some .boolean), .methodLink RX4 95 yX4_in, .static yX4_in, .code yX4_in cX4_in 3 (some .boolean)] : List Cond)[j]? = some c) : c ∈ wsX4_findsHits := List.mem_cons_of_mem _ (List.mem_append_left _ (List.mem_of_getElem? h))
theorem uq_X4_findsHits_X4 : wsub wsX40 wsX4_findsHits := fun _ h => List.mem_cons_of_mem _ (List.mem_append_right _ (h))
set_option maxRecDepth 20000 in
theorem ggX4_findsHits_X4_isLine : GoodIn wsX4_findsHits wsX4_isLine := goodIn_sub (sb_c (qq_X4_findsHits_0 8 rfl) (sb_c (qq_X4_findsHits_0 9 rfl) (sb_c (qq_X4_findsHits_0 10 rfl) (sb_c (qq_X4_findsHits_0 7 rfl) (sb_c (qq_X4_findsHits_0 11 rfl) sb_n))))) gw_X4_isLine
set_option maxRecDepth 20000 in
theorem gX4_findsHits_X4_isLine : GoodIn wsX4_findsHits (va_wsS RX4 99 yX4_isLine wsX4_isLine) := goodIn_app (goodIn_sub (sb_c (qq_X4_findsHits_0 5 rfl) (sb_c (qq_X4_findsHits_0 6 rfl) (sb_c (qq_X4_findsHits_0 7 rfl) sb_n))) (by decide +kernel)) ggX4_findsHits_X4_isLine
theorem dX4_findsHits_0 : decode cX4_findsHits 0 = .ok (.iconst 0, 1) := by decide +kernel
theorem dX4_findsHits_1 : decode cX4_findsHits 1 = .ok (.istore_n 1, 1) := by decide +kernel
theorem dX4_findsHits_2 : decode cX4_findsHits 2 = .ok (.iload_n 1, 1) := by decide +kernel
theorem dX4_findsHits_3 : decode cX4_findsHits 3 = .ok (.bipush 16, 2) := by decide +kernel
theorem dX4_findsHits_5 : decode cX4_findsHits 5 = .ok (.if_icmp .ge 16, 3) := by decide +kernel
theorem dX4_findsHits_8 : decode cX4_findsHits 8 = .ok (.aload_n 0, 1) := by decide +kernel
theorem dX4_findsHits_9 : decode cX4_findsHits 9 = .ok (.getfield 31, 3) := by decide +kernel
theorem dX4_findsHits_12 : decode cX4_findsHits 12 = .ok (.iload_n 1, 1) := by decide +kernel
theorem dX4_findsHits_13 : decode cX4_findsHits 13 = .ok (.iconst 0, 1) := by decide +kernel
theorem dX4_findsHits_14 : decode cX4_findsHits 14 = .ok (.iastore, 1) := by decide +kernel
theorem dX4_findsHits_15 : decode cX4_findsHits 15 = .ok (.iinc 1 1, 3) := by decide +kernel
theorem dX4_findsHits_18 : decode cX4_findsHits 18 = .ok (.goto (-16), 3) := by decide +kernel
theorem dX4_findsHits_21 : decode cX4_findsHits 21 = .ok (.iconst 0, 1) := by decide +kernel
theorem dX4_findsHits_22 : decode cX4_findsHits 22 = .ok (.istore_n 1, 1) := by decide +kernel
theorem dX4_findsHits_23 : decode cX4_findsHits 23 = .ok (.iload_n 1, 1) := by decide +kernel
theorem dX4_findsHits_24 : decode cX4_findsHits 24 = .ok (.aload_n 0, 1) := by decide +kernel
theorem dX4_findsHits_25 : decode cX4_findsHits 25 = .ok (.getfield 28, 3) := by decide +kernel
theorem dX4_findsHits_28 : decode cX4_findsHits 28 = .ok (.iconst 3, 1) := by decide +kernel
theorem dX4_findsHits_29 : decode cX4_findsHits 29 = .ok (.iaload, 1) := by decide +kernel
theorem dX4_findsHits_30 : decode cX4_findsHits 30 = .ok (.if_icmp .ge 106, 3) := by decide +kernel
theorem dX4_findsHits_33 : decode cX4_findsHits 33 = .ok (.iconst 0, 1) := by decide +kernel
theorem dX4_findsHits_34 : decode cX4_findsHits 34 = .ok (.istore_n 2, 1) := by decide +kernel
theorem dX4_findsHits_35 : decode cX4_findsHits 35 = .ok (.iload_n 2, 1) := by decide +kernel
theorem dX4_findsHits_36 : decode cX4_findsHits 36 = .ok (.aload_n 0, 1) := by decide +kernel
theorem dX4_findsHits_37 : decode cX4_findsHits 37 = .ok (.getfield 28, 3) := by decide +kernel
theorem dX4_findsHits_40 : decode cX4_findsHits 40 = .ok (.iconst 0, 1) := by decide +kernel
theorem dX4_findsHits_41 : decode cX4_findsHits 41 = .ok (.iaload, 1) := by decide +kernel
theorem dX4_findsHits_42 : decode cX4_findsHits 42 = .ok (.if_icmp .ge 88, 3) := by decide +kernel
theorem dX4_findsHits_45 : decode cX4_findsHits 45 = .ok (.aload_n 0, 1) := by decide +kernel
theorem dX4_findsHits_46 : decode cX4_findsHits 46 = .ok (.getfield 28, 3) := by decide +kernel
theorem dX4_findsHits_49 : decode cX4_findsHits 49 = .ok (.iconst 4, 1) := by decide +kernel
theorem dX4_findsHits_50 : decode cX4_findsHits 50 = .ok (.iaload, 1) := by decide +kernel
theorem dX4_findsHits_51 : decode cX4_findsHits 51 = .ok (.iload_n 1, 1) := by decide +kernel
theorem dX4_findsHits_52 : decode cX4_findsHits 52 = .ok (.aload_n 0, 1) := by decide +kernel
theorem dX4_findsHits_53 : decode cX4_findsHits 53 = .ok (.getfield 28, 3) := by decide +kernel
theorem dX4_findsHits_56 : decode cX4_findsHits 56 = .ok (.iconst 2, 1) := by decide +kernel
theorem dX4_findsHits_57 : decode cX4_findsHits 57 = .ok (.iaload, 1) := by decide +kernel
theorem dX4_findsHits_58 : decode cX4_findsHits 58 = .ok (.imul, 1) := by decide +kernel
theorem dX4_findsHits_59 : decode cX4_findsHits 59 = .ok (.iadd, 1) := by decide +kernel
theorem dX4_findsHits_60 : decode cX4_findsHits 60 = .ok (.iload_n 2, 1) := by decide +kernel
theorem dX4_findsHits_61 : decode cX4_findsHits 61 = .ok (.aload_n 0, 1) := by decide +kernel
theorem dX4_findsHits_62 : decode cX4_findsHits 62 = .ok (.getfield 28, 3) := by decide +kernel
theorem dX4_findsHits_65 : decode cX4_findsHits 65 = .ok (.iconst 1, 1) := by decide +kernel
theorem dX4_findsHits_66 : decode cX4_findsHits 66 = .ok (.iaload, 1) := by decide +kernel
theorem dX4_findsHits_67 : decode cX4_findsHits 67 = .ok (.imul, 1) := by decide +kernel
theorem dX4_findsHits_68 : decode cX4_findsHits 68 = .ok (.iadd, 1) := by decide +kernel
theorem dX4_findsHits_69 : decode cX4_findsHits 69 = .ok (.istore_n 3, 1) := by decide +kernel
theorem dX4_findsHits_70 : decode cX4_findsHits 70 = .ok (.iload_n 3, 1) := by decide +kernel
theorem dX4_findsHits_71 : decode cX4_findsHits 71 = .ok (.invokestatic 99, 3) := by decide +kernel
theorem dX4_findsHits_74 : decode cX4_findsHits 74 = .ok (.ifCond .eq 50, 3) := by decide +kernel
theorem dX4_findsHits_77 : decode cX4_findsHits 77 = .ok (.bipush 12, 2) := by decide +kernel
theorem dX4_findsHits_79 : decode cX4_findsHits 79 = .ok (.iload_n 3, 1) := by decide +kernel
theorem dX4_findsHits_80 : decode cX4_findsHits 80 = .ok (.imul, 1) := by decide +kernel
theorem dX4_findsHits_81 : decode cX4_findsHits 81 = .ok (.aload_n 0, 1) := by decide +kernel
theorem dX4_findsHits_82 : decode cX4_findsHits 82 = .ok (.getfield 31, 3) := by decide +kernel
theorem dX4_findsHits_85 : decode cX4_findsHits 85 = .ok (.iload_n 3, 1) := by decide +kernel
theorem dX4_findsHits_86 : decode cX4_findsHits 86 = .ok (.iaload, 1) := by decide +kernel
theorem dX4_findsHits_87 : decode cX4_findsHits 87 = .ok (.iadd, 1) := by decide +kernel
theorem dX4_findsHits_88 : decode cX4_findsHits 88 = .ok (.istore 4, 2) := by decide +kernel
theorem dX4_findsHits_90 : decode cX4_findsHits 90 = .ok (.aload_n 0, 1) := by decide +kernel
theorem dX4_findsHits_91 : decode cX4_findsHits 91 = .ok (.getfield 34, 3) := by decide +kernel
theorem dX4_findsHits_94 : decode cX4_findsHits 94 = .ok (.iload 4, 2) := by decide +kernel
theorem dX4_findsHits_96 : decode cX4_findsHits 96 = .ok (.iload_n 1, 1) := by decide +kernel
theorem dX4_findsHits_97 : decode cX4_findsHits 97 = .ok (.iastore, 1) := by decide +kernel
theorem dX4_findsHits_98 : decode cX4_findsHits 98 = .ok (.aload_n 0, 1) := by decide +kernel
theorem dX4_findsHits_99 : decode cX4_findsHits 99 = .ok (.getfield 37, 3) := by decide +kernel
theorem dX4_findsHits_102 : decode cX4_findsHits 102 = .ok (.iload 4, 2) := by decide +kernel
theorem dX4_findsHits_104 : decode cX4_findsHits 104 = .ok (.iload_n 2, 1) := by decide +kernel
theorem dX4_findsHits_105 : decode cX4_findsHits 105 = .ok (.iastore, 1) := by decide +kernel
theorem dX4_findsHits_106 : decode cX4_findsHits 106 = .ok (.aload_n 0, 1) := by decide +kernel
theorem dX4_findsHits_107 : decode cX4_findsHits 107 = .ok (.getfield 40, 3) := by decide +kernel
theorem dX4_findsHits_110 : decode cX4_findsHits 110 = .ok (.iload 4, 2) := by decide +kernel
theorem dX4_findsHits_112 : decode cX4_findsHits 112 = .ok (.iconst 0, 1) := by decide +kernel
theorem dX4_findsHits_113 : decode cX4_findsHits 113 = .ok (.iastore, 1) := by decide +kernel
theorem dX4_findsHits_114 : decode cX4_findsHits 114 = .ok (.aload_n 0, 1) := by decide +kernel
theorem dX4_findsHits_115 : decode cX4_findsHits 115 = .ok (.getfield 31, 3) := by decide +kernel
theorem dX4_findsHits_118 : decode cX4_findsHits 118 = .ok (.iload_n 3, 1) := by decide +kernel
theorem dX4_findsHits_119 : decode cX4_findsHits 119 = .ok (.dup2, 1) := by decide +kernel
theorem dX4_findsHits_120 : decode cX4_findsHits 120 = .ok (.iaload, 1) := by decide +kernel
theorem dX4_findsHits_121 : decode cX4_findsHits 121 = .ok (.iconst 1, 1) := by decide +kernel
theorem dX4_findsHits_122 : decode cX4_findsHits 122 = .ok (.iadd, 1) := by decide +kernel
theorem dX4_findsHits_123 : decode cX4_findsHits 123 = .ok (.iastore, 1) := by decide +kernel
theorem dX4_findsHits_124 : decode cX4_findsHits 124 = .ok (.iinc 2 1, 3) := by decide +kernel
theorem dX4_findsHits_127 : decode cX4_findsHits 127 = .ok (.goto (-92), 3) := by decide +kernel
theorem dX4_findsHits_130 : decode cX4_findsHits 130 = .ok (.iinc 1 1, 3) := by decide +kernel
theorem dX4_findsHits_133 : decode cX4_findsHits 133 = .ok (.goto (-110), 3) := by decide +kernel
theorem dX4_findsHits_136 : decode cX4_findsHits 136 = .ok (.return_, 1) := by decide +kernel
theorem qq_X4_wants_0 {c : Cond} (j : Nat) (h : ([.fieldLink RX4 28 "InkSwathsModel" "now" "[I", .fieldLink RX4 31 "InkSwathsModel" "hitMany" "[I", .fieldLink RX4 25 "InkSwathsModel" "dots" "[I", .methodLink RX4 91 yX4_isIn, .static yX4_isIn, .initialized RX4, .code yX4_isIn cX4_isIn 2 (some .boolean)] : List Cond)[j]? = some c) : c ∈ wsX4_wants := List.mem_cons_of_mem _ (List.mem_append_left _ (List.mem_of_getElem? h))
theorem uq_X4_wants_X4 : wsub wsX40 wsX4_wants := fun _ h => List.mem_cons_of_mem _ (List.mem_append_right _ (h))
set_option maxRecDepth 20000 in
theorem ggX4_wants_X4_isIn : GoodIn wsX4_wants wsX4_isIn := goodIn_sub (sb_c (qq_X4_wants_0 6 rfl) (sb_n)) gw_X4_isIn
set_option maxRecDepth 20000 in
theorem gX4_wants_X4_isIn : GoodIn wsX4_wants (va_wsS RX4 91 yX4_isIn wsX4_isIn) := goodIn_app (goodIn_sub (sb_c (qq_X4_wants_0 3 rfl) (sb_c (qq_X4_wants_0 4 rfl) (sb_c (qq_X4_wants_0 5 rfl) sb_n))) (by decide +kernel)) ggX4_wants_X4_isIn
theorem dX4_wants_0 : decode cX4_wants 0 = .ok (.aload_n 0, 1) := by decide +kernel
theorem dX4_wants_1 : decode cX4_wants 1 = .ok (.getfield 28, 3) := by decide +kernel
theorem dX4_wants_4 : decode cX4_wants 4 = .ok (.bipush 8, 2) := by decide +kernel
theorem dX4_wants_6 : decode cX4_wants 6 = .ok (.iaload, 1) := by decide +kernel
theorem dX4_wants_7 : decode cX4_wants 7 = .ok (.ifCond .ne 9, 3) := by decide +kernel
theorem dX4_wants_10 : decode cX4_wants 10 = .ok (.iload_n 1, 1) := by decide +kernel
theorem dX4_wants_11 : decode cX4_wants 11 = .ok (.iload_n 2, 1) := by decide +kernel
theorem dX4_wants_12 : decode cX4_wants 12 = .ok (.iadd, 1) := by decide +kernel
theorem dX4_wants_13 : decode cX4_wants 13 = .ok (.goto 38, 3) := by decide +kernel
theorem dX4_wants_16 : decode cX4_wants 16 = .ok (.aload_n 0, 1) := by decide +kernel
theorem dX4_wants_17 : decode cX4_wants 17 = .ok (.getfield 28, 3) := by decide +kernel
theorem dX4_wants_20 : decode cX4_wants 20 = .ok (.bipush 8, 2) := by decide +kernel
theorem dX4_wants_22 : decode cX4_wants 22 = .ok (.iaload, 1) := by decide +kernel
theorem dX4_wants_23 : decode cX4_wants 23 = .ok (.iconst 1, 1) := by decide +kernel
theorem dX4_wants_24 : decode cX4_wants 24 = .ok (.if_icmp .ne 7, 3) := by decide +kernel
theorem dX4_wants_27 : decode cX4_wants 27 = .ok (.iload_n 2, 1) := by decide +kernel
theorem dX4_wants_28 : decode cX4_wants 28 = .ok (.goto 23, 3) := by decide +kernel
theorem dX4_wants_31 : decode cX4_wants 31 = .ok (.aload_n 0, 1) := by decide +kernel
theorem dX4_wants_32 : decode cX4_wants 32 = .ok (.getfield 28, 3) := by decide +kernel
theorem dX4_wants_35 : decode cX4_wants 35 = .ok (.bipush 8, 2) := by decide +kernel
theorem dX4_wants_37 : decode cX4_wants 37 = .ok (.iaload, 1) := by decide +kernel
theorem dX4_wants_38 : decode cX4_wants 38 = .ok (.iconst 2, 1) := by decide +kernel
theorem dX4_wants_39 : decode cX4_wants 39 = .ok (.if_icmp .ne 7, 3) := by decide +kernel
theorem dX4_wants_42 : decode cX4_wants 42 = .ok (.iload_n 1, 1) := by decide +kernel
theorem dX4_wants_43 : decode cX4_wants 43 = .ok (.goto 8, 3) := by decide +kernel
theorem dX4_wants_46 : decode cX4_wants 46 = .ok (.iload_n 2, 1) := by decide +kernel
theorem dX4_wants_47 : decode cX4_wants 47 = .ok (.iconst 2, 1) := by decide +kernel
theorem dX4_wants_48 : decode cX4_wants 48 = .ok (.idiv, 1) := by decide +kernel
theorem dX4_wants_49 : decode cX4_wants 49 = .ok (.iload_n 1, 1) := by decide +kernel
theorem dX4_wants_50 : decode cX4_wants 50 = .ok (.iadd, 1) := by decide +kernel
theorem dX4_wants_51 : decode cX4_wants 51 = .ok (.istore_n 3, 1) := by decide +kernel
theorem dX4_wants_52 : decode cX4_wants 52 = .ok (.aload_n 0, 1) := by decide +kernel
theorem dX4_wants_53 : decode cX4_wants 53 = .ok (.getfield 31, 3) := by decide +kernel
theorem dX4_wants_56 : decode cX4_wants 56 = .ok (.iload_n 1, 1) := by decide +kernel
theorem dX4_wants_57 : decode cX4_wants 57 = .ok (.iaload, 1) := by decide +kernel
theorem dX4_wants_58 : decode cX4_wants 58 = .ok (.ifCond .eq 16, 3) := by decide +kernel
theorem dX4_wants_61 : decode cX4_wants 61 = .ok (.aload_n 0, 1) := by decide +kernel
theorem dX4_wants_62 : decode cX4_wants 62 = .ok (.getfield 25, 3) := by decide +kernel
theorem dX4_wants_65 : decode cX4_wants 65 = .ok (.iload_n 1, 1) := by decide +kernel
theorem dX4_wants_66 : decode cX4_wants 66 = .ok (.iaload, 1) := by decide +kernel
theorem dX4_wants_67 : decode cX4_wants 67 = .ok (.iload_n 2, 1) := by decide +kernel
theorem dX4_wants_68 : decode cX4_wants 68 = .ok (.invokestatic 91, 3) := by decide +kernel
theorem dX4_wants_71 : decode cX4_wants 71 = .ok (.ifCond .ne 7, 3) := by decide +kernel
theorem dX4_wants_74 : decode cX4_wants 74 = .ok (.iconst (-1), 1) := by decide +kernel
theorem dX4_wants_75 : decode cX4_wants 75 = .ok (.goto 11, 3) := by decide +kernel
theorem dX4_wants_78 : decode cX4_wants 78 = .ok (.iload_n 3, 1) := by decide +kernel
theorem dX4_wants_79 : decode cX4_wants 79 = .ok (.aload_n 0, 1) := by decide +kernel
theorem dX4_wants_80 : decode cX4_wants 80 = .ok (.getfield 31, 3) := by decide +kernel
theorem dX4_wants_83 : decode cX4_wants 83 = .ok (.iload_n 1, 1) := by decide +kernel
theorem dX4_wants_84 : decode cX4_wants 84 = .ok (.iaload, 1) := by decide +kernel
theorem dX4_wants_85 : decode cX4_wants 85 = .ok (.irem, 1) := by decide +kernel
theorem dX4_wants_86 : decode cX4_wants 86 = .ok (.ireturn, 1) := by decide +kernel
theorem qq_X4_findsAble_0 {c : Cond} (j : Nat) (h : wsX4_findsAble_r1[j]? = some c) : c ∈ wsX4_findsAble := List.mem_cons_of_mem _ (List.mem_append_left _ (List.mem_append_left _ (List.mem_of_getElem? h)))
theorem qq_X4_findsAble_1 {c : Cond} (j : Nat) (h : wsX4_findsAble_r2[j]? = some c) : c ∈ wsX4_findsAble := List.mem_cons_of_mem _ (List.mem_append_left _ (List.mem_append_right _ (List.mem_of_getElem? h)))
theorem uq_X4_findsAble_X4 : wsub wsX40 wsX4_findsAble := fun _ h => List.mem_cons_of_mem _ (List.mem_append_right _ (h))
set_option maxRecDepth 20000 in
theorem gw_X4_isAble : wsX4_isAble.all goodWord = true := by decide +kernel
set_option maxRecDepth 20000 in
theorem ggX4_findsAble_X4_isAble : GoodIn wsX4_findsAble wsX4_isAble := goodIn_sub (sb_c (qq_X4_findsAble_0 7 rfl) (sb_a (sb_c (qq_X4_findsAble_0 8 rfl) (sb_c (qq_X4_findsAble_0 9 rfl) (sb_c (qq_X4_findsAble_0 10 rfl) (sb_c (qq_X4_findsAble_0 11 rfl) (sb_c (qq_X4_findsAble_0 12 rfl) (sb_c (qq_X4_findsAble_0 6 rfl) (sb_c (qq_X4_findsAble_0 13 rfl) (sb_c (qq_X4_findsAble_0 14 rfl) (sb_c (qq_X4_findsAble_0 15 rfl) (sb_c (qq_X4_findsAble_0 16 rfl) (sb_c (qq_X4_findsAble_0 17 rfl) (sb_c (qq_X4_findsAble_0 18 rfl) (sb_c (qq_X4_findsAble_0 19 rfl) (sb_c (qq_X4_findsAble_0 20 rfl) (sb_c (qq_X4_findsAble_0 21 rfl) (sb_c (qq_X4_findsAble_0 22 rfl) (sb_c (qq_X4_findsAble_0 23 rfl) (sb_c (qq_X4_findsAble_1 0 rfl) (sb_c (qq_X4_findsAble_1 1 rfl) (sb_c (qq_X4_findsAble_1 2 rfl) (sb_c (qq_X4_findsAble_1 3 rfl) sb_n))))))))))))))))))))) (uq_X4_findsAble_X4))) gw_X4_isAble
set_option maxRecDepth 20000 in
theorem gX4_findsAble_X4_isAble : GoodIn wsX4_findsAble (wsV RX4 133 RX4 yX4_isAble wsX4_isAble) := goodIn_app (goodIn_sub (sb_c (qq_X4_findsAble_0 3 rfl) (sb_c (qq_X4_findsAble_0 4 rfl) (sb_c (qq_X4_findsAble_0 5 rfl) (sb_c (qq_X4_findsAble_0 6 rfl) sb_n)))) (by decide +kernel)) ggX4_findsAble_X4_isAble
theorem dX4_findsAble_0 : decode cX4_findsAble 0 = .ok (.iconst 0, 1) := by decide +kernel
theorem dX4_findsAble_1 : decode cX4_findsAble 1 = .ok (.istore_n 1, 1) := by decide +kernel
theorem dX4_findsAble_2 : decode cX4_findsAble 2 = .ok (.iload_n 1, 1) := by decide +kernel
theorem dX4_findsAble_3 : decode cX4_findsAble 3 = .ok (.bipush 16, 2) := by decide +kernel
theorem dX4_findsAble_5 : decode cX4_findsAble 5 = .ok (.if_icmp .ge 94, 3) := by decide +kernel
theorem dX4_findsAble_8 : decode cX4_findsAble 8 = .ok (.iconst 0, 1) := by decide +kernel
theorem dX4_findsAble_9 : decode cX4_findsAble 9 = .ok (.istore_n 2, 1) := by decide +kernel
theorem dX4_findsAble_10 : decode cX4_findsAble 10 = .ok (.iload_n 2, 1) := by decide +kernel
theorem dX4_findsAble_11 : decode cX4_findsAble 11 = .ok (.bipush 8, 2) := by decide +kernel
theorem dX4_findsAble_13 : decode cX4_findsAble 13 = .ok (.if_icmp .ge 80, 3) := by decide +kernel
theorem dX4_findsAble_16 : decode cX4_findsAble 16 = .ok (.aload_n 0, 1) := by decide +kernel
theorem dX4_findsAble_17 : decode cX4_findsAble 17 = .ok (.getfield 43, 3) := by decide +kernel
theorem dX4_findsAble_20 : decode cX4_findsAble 20 = .ok (.bipush 8, 2) := by decide +kernel
theorem dX4_findsAble_22 : decode cX4_findsAble 22 = .ok (.iload_n 1, 1) := by decide +kernel
theorem dX4_findsAble_23 : decode cX4_findsAble 23 = .ok (.imul, 1) := by decide +kernel
theorem dX4_findsAble_24 : decode cX4_findsAble 24 = .ok (.iload_n 2, 1) := by decide +kernel
theorem dX4_findsAble_25 : decode cX4_findsAble 25 = .ok (.iadd, 1) := by decide +kernel
theorem dX4_findsAble_26 : decode cX4_findsAble 26 = .ok (.iconst 0, 1) := by decide +kernel
theorem dX4_findsAble_27 : decode cX4_findsAble 27 = .ok (.iastore, 1) := by decide +kernel
theorem dX4_findsAble_28 : decode cX4_findsAble 28 = .ok (.aload_n 0, 1) := by decide +kernel
theorem dX4_findsAble_29 : decode cX4_findsAble 29 = .ok (.getfield 46, 3) := by decide +kernel
theorem dX4_findsAble_32 : decode cX4_findsAble 32 = .ok (.bipush 8, 2) := by decide +kernel
theorem dX4_findsAble_34 : decode cX4_findsAble 34 = .ok (.iload_n 1, 1) := by decide +kernel
theorem dX4_findsAble_35 : decode cX4_findsAble 35 = .ok (.imul, 1) := by decide +kernel
theorem dX4_findsAble_36 : decode cX4_findsAble 36 = .ok (.iload_n 2, 1) := by decide +kernel
theorem dX4_findsAble_37 : decode cX4_findsAble 37 = .ok (.iadd, 1) := by decide +kernel
theorem dX4_findsAble_38 : decode cX4_findsAble 38 = .ok (.iconst (-1), 1) := by decide +kernel
theorem dX4_findsAble_39 : decode cX4_findsAble 39 = .ok (.iastore, 1) := by decide +kernel
theorem dX4_findsAble_40 : decode cX4_findsAble 40 = .ok (.iconst 0, 1) := by decide +kernel
theorem dX4_findsAble_41 : decode cX4_findsAble 41 = .ok (.istore_n 3, 1) := by decide +kernel
theorem dX4_findsAble_42 : decode cX4_findsAble 42 = .ok (.iload_n 3, 1) := by decide +kernel
theorem dX4_findsAble_43 : decode cX4_findsAble 43 = .ok (.aload_n 0, 1) := by decide +kernel
theorem dX4_findsAble_44 : decode cX4_findsAble 44 = .ok (.getfield 31, 3) := by decide +kernel
theorem dX4_findsAble_47 : decode cX4_findsAble 47 = .ok (.iload_n 1, 1) := by decide +kernel
theorem dX4_findsAble_48 : decode cX4_findsAble 48 = .ok (.iaload, 1) := by decide +kernel
theorem dX4_findsAble_49 : decode cX4_findsAble 49 = .ok (.if_icmp .ge 38, 3) := by decide +kernel
theorem dX4_findsAble_52 : decode cX4_findsAble 52 = .ok (.aload_n 0, 1) := by decide +kernel
theorem dX4_findsAble_53 : decode cX4_findsAble 53 = .ok (.getfield 43, 3) := by decide +kernel
theorem dX4_findsAble_56 : decode cX4_findsAble 56 = .ok (.bipush 8, 2) := by decide +kernel
theorem dX4_findsAble_58 : decode cX4_findsAble 58 = .ok (.iload_n 1, 1) := by decide +kernel
theorem dX4_findsAble_59 : decode cX4_findsAble 59 = .ok (.imul, 1) := by decide +kernel
theorem dX4_findsAble_60 : decode cX4_findsAble 60 = .ok (.iload_n 2, 1) := by decide +kernel
theorem dX4_findsAble_61 : decode cX4_findsAble 61 = .ok (.iadd, 1) := by decide +kernel
theorem dX4_findsAble_62 : decode cX4_findsAble 62 = .ok (.dup2, 1) := by decide +kernel
theorem dX4_findsAble_63 : decode cX4_findsAble 63 = .ok (.iaload, 1) := by decide +kernel
theorem dX4_findsAble_64 : decode cX4_findsAble 64 = .ok (.aload_n 0, 1) := by decide +kernel
theorem dX4_findsAble_65 : decode cX4_findsAble 65 = .ok (.iload_n 1, 1) := by decide +kernel
theorem dX4_findsAble_66 : decode cX4_findsAble 66 = .ok (.iload_n 3, 1) := by decide +kernel
theorem dX4_findsAble_67 : decode cX4_findsAble 67 = .ok (.iload_n 2, 1) := by decide +kernel
theorem dX4_findsAble_68 : decode cX4_findsAble 68 = .ok (.invokevirtual 133, 3) := by decide +kernel
theorem dX4_findsAble_71 : decode cX4_findsAble 71 = .ok (.ifCond .eq 7, 3) := by decide +kernel
theorem dX4_findsAble_74 : decode cX4_findsAble 74 = .ok (.iconst 1, 1) := by decide +kernel
theorem dX4_findsAble_75 : decode cX4_findsAble 75 = .ok (.goto 4, 3) := by decide +kernel
theorem dX4_findsAble_78 : decode cX4_findsAble 78 = .ok (.iconst 0, 1) := by decide +kernel
theorem dX4_findsAble_79 : decode cX4_findsAble 79 = .ok (.iadd, 1) := by decide +kernel
theorem dX4_findsAble_80 : decode cX4_findsAble 80 = .ok (.iastore, 1) := by decide +kernel
theorem dX4_findsAble_81 : decode cX4_findsAble 81 = .ok (.iinc 3 1, 3) := by decide +kernel
theorem dX4_findsAble_84 : decode cX4_findsAble 84 = .ok (.goto (-42), 3) := by decide +kernel
theorem dX4_findsAble_87 : decode cX4_findsAble 87 = .ok (.iinc 2 1, 3) := by decide +kernel
theorem dX4_findsAble_90 : decode cX4_findsAble 90 = .ok (.goto (-80), 3) := by decide +kernel
theorem dX4_findsAble_93 : decode cX4_findsAble 93 = .ok (.iinc 1 1, 3) := by decide +kernel
theorem dX4_findsAble_96 : decode cX4_findsAble 96 = .ok (.goto (-94), 3) := by decide +kernel
theorem dX4_findsAble_99 : decode cX4_findsAble 99 = .ok (.return_, 1) := by decide +kernel
theorem qq_X4_printsOne_0 {c : Cond} (j : Nat) (h : wsX4_printsOne_r1[j]? = some c) : c ∈ wsX4_printsOne := List.mem_cons_of_mem _ (List.mem_append_left _ (List.mem_append_left _ (List.mem_of_getElem? h)))
theorem qq_X4_printsOne_1 {c : Cond} (j : Nat) (h : wsX4_printsOne_r2[j]? = some c) : c ∈ wsX4_printsOne := List.mem_cons_of_mem _ (List.mem_append_left _ (List.mem_append_right _ (List.mem_of_getElem? h)))
theorem uq_X4_printsOne_X4 : wsub wsX40 wsX4_printsOne := fun _ h => List.mem_cons_of_mem _ (List.mem_append_right _ (h))
set_option maxRecDepth 20000 in
theorem gw_X4_wants : wsX4_wants.all goodWord = true := by decide +kernel
set_option maxRecDepth 20000 in
theorem ggX4_printsOne_X4_wants : GoodIn wsX4_printsOne wsX4_wants := goodIn_sub (sb_c (qq_X4_printsOne_0 15 rfl) (sb_a (sb_c (qq_X4_printsOne_0 2 rfl) (sb_c (qq_X4_printsOne_0 0 rfl) (sb_c (qq_X4_printsOne_0 16 rfl) (sb_c (qq_X4_printsOne_0 17 rfl) (sb_c (qq_X4_printsOne_0 18 rfl) (sb_c (qq_X4_printsOne_0 14 rfl) (sb_c (qq_X4_printsOne_0 19 rfl) sb_n))))))) (uq_X4_printsOne_X4))) gw_X4_wants
set_option maxRecDepth 20000 in
theorem gX4_printsOne_X4_wants : GoodIn wsX4_printsOne (wsV RX4 136 RX4 yX4_wants wsX4_wants) := goodIn_app (goodIn_sub (sb_c (qq_X4_printsOne_0 11 rfl) (sb_c (qq_X4_printsOne_0 12 rfl) (sb_c (qq_X4_printsOne_0 13 rfl) (sb_c (qq_X4_printsOne_0 14 rfl) sb_n)))) (by decide +kernel)) ggX4_printsOne_X4_wants
set_option maxRecDepth 20000 in
theorem ggX4_printsOne_X4_isAble : GoodIn wsX4_printsOne wsX4_isAble := goodIn_sub (sb_c (qq_X4_printsOne_0 23 rfl) (sb_a (sb_c (qq_X4_printsOne_0 4 rfl) (sb_c (qq_X4_printsOne_0 5 rfl) (sb_c (qq_X4_printsOne_1 0 rfl) (sb_c (qq_X4_printsOne_1 1 rfl) (sb_c (qq_X4_printsOne_1 2 rfl) (sb_c (qq_X4_printsOne_0 14 rfl) (sb_c (qq_X4_printsOne_1 3 rfl) (sb_c (qq_X4_printsOne_1 4 rfl) (sb_c (qq_X4_printsOne_1 5 rfl) (sb_c (qq_X4_printsOne_1 6 rfl) (sb_c (qq_X4_printsOne_1 7 rfl) (sb_c (qq_X4_printsOne_1 8 rfl) (sb_c (qq_X4_printsOne_1 9 rfl) (sb_c (qq_X4_printsOne_0 17 rfl) (sb_c (qq_X4_printsOne_0 18 rfl) (sb_c (qq_X4_printsOne_0 19 rfl) (sb_c (qq_X4_printsOne_1 10 rfl) (sb_c (qq_X4_printsOne_1 11 rfl) (sb_c (qq_X4_printsOne_1 12 rfl) (sb_c (qq_X4_printsOne_1 13 rfl) (sb_c (qq_X4_printsOne_0 2 rfl) sb_n))))))))))))))))))))) (uq_X4_printsOne_X4))) gw_X4_isAble
set_option maxRecDepth 20000 in
theorem gX4_printsOne_X4_isAble : GoodIn wsX4_printsOne (wsV RX4 133 RX4 yX4_isAble wsX4_isAble) := goodIn_app (goodIn_sub (sb_c (qq_X4_printsOne_0 20 rfl) (sb_c (qq_X4_printsOne_0 21 rfl) (sb_c (qq_X4_printsOne_0 22 rfl) (sb_c (qq_X4_printsOne_0 14 rfl) sb_n)))) (by decide +kernel)) ggX4_printsOne_X4_isAble
theorem dX4_printsOne_0 : decode cX4_printsOne 0 = .ok (.aload_n 0, 1) := by decide +kernel
theorem dX4_printsOne_1 : decode cX4_printsOne 1 = .ok (.iload_n 1, 1) := by decide +kernel
theorem dX4_printsOne_2 : decode cX4_printsOne 2 = .ok (.iload_n 2, 1) := by decide +kernel
theorem dX4_printsOne_3 : decode cX4_printsOne 3 = .ok (.invokevirtual 136, 3) := by decide +kernel
theorem dX4_printsOne_6 : decode cX4_printsOne 6 = .ok (.istore_n 3, 1) := by decide +kernel
theorem dX4_printsOne_7 : decode cX4_printsOne 7 = .ok (.iconst 0, 1) := by decide +kernel
theorem dX4_printsOne_8 : decode cX4_printsOne 8 = .ok (.istore 4, 2) := by decide +kernel
theorem dX4_printsOne_10 : decode cX4_printsOne 10 = .ok (.iload 4, 2) := by decide +kernel
theorem dX4_printsOne_12 : decode cX4_printsOne 12 = .ok (.aload_n 0, 1) := by decide +kernel
theorem dX4_printsOne_13 : decode cX4_printsOne 13 = .ok (.getfield 31, 3) := by decide +kernel
theorem dX4_printsOne_16 : decode cX4_printsOne 16 = .ok (.iload_n 1, 1) := by decide +kernel
theorem dX4_printsOne_17 : decode cX4_printsOne 17 = .ok (.iaload, 1) := by decide +kernel
theorem dX4_printsOne_18 : decode cX4_printsOne 18 = .ok (.if_icmp .ge 140, 3) := by decide +kernel
theorem dX4_printsOne_21 : decode cX4_printsOne 21 = .ok (.iload_n 3, 1) := by decide +kernel
theorem dX4_printsOne_22 : decode cX4_printsOne 22 = .ok (.iload 4, 2) := by decide +kernel
theorem dX4_printsOne_24 : decode cX4_printsOne 24 = .ok (.iadd, 1) := by decide +kernel
theorem dX4_printsOne_25 : decode cX4_printsOne 25 = .ok (.aload_n 0, 1) := by decide +kernel
theorem dX4_printsOne_26 : decode cX4_printsOne 26 = .ok (.getfield 31, 3) := by decide +kernel
theorem dX4_printsOne_29 : decode cX4_printsOne 29 = .ok (.iload_n 1, 1) := by decide +kernel
theorem dX4_printsOne_30 : decode cX4_printsOne 30 = .ok (.iaload, 1) := by decide +kernel
theorem dX4_printsOne_31 : decode cX4_printsOne 31 = .ok (.irem, 1) := by decide +kernel
theorem dX4_printsOne_32 : decode cX4_printsOne 32 = .ok (.istore 5, 2) := by decide +kernel
theorem dX4_printsOne_34 : decode cX4_printsOne 34 = .ok (.bipush 12, 2) := by decide +kernel
theorem dX4_printsOne_36 : decode cX4_printsOne 36 = .ok (.iload_n 1, 1) := by decide +kernel
theorem dX4_printsOne_37 : decode cX4_printsOne 37 = .ok (.imul, 1) := by decide +kernel
theorem dX4_printsOne_38 : decode cX4_printsOne 38 = .ok (.iload 5, 2) := by decide +kernel
theorem dX4_printsOne_40 : decode cX4_printsOne 40 = .ok (.iadd, 1) := by decide +kernel
theorem dX4_printsOne_41 : decode cX4_printsOne 41 = .ok (.istore 6, 2) := by decide +kernel
theorem dX4_printsOne_43 : decode cX4_printsOne 43 = .ok (.aload_n 0, 1) := by decide +kernel
theorem dX4_printsOne_44 : decode cX4_printsOne 44 = .ok (.getfield 40, 3) := by decide +kernel
theorem dX4_printsOne_47 : decode cX4_printsOne 47 = .ok (.iload 6, 2) := by decide +kernel
theorem dX4_printsOne_49 : decode cX4_printsOne 49 = .ok (.iaload, 1) := by decide +kernel
theorem dX4_printsOne_50 : decode cX4_printsOne 50 = .ok (.aload_n 0, 1) := by decide +kernel
theorem dX4_printsOne_51 : decode cX4_printsOne 51 = .ok (.getfield 28, 3) := by decide +kernel
theorem dX4_printsOne_54 : decode cX4_printsOne 54 = .ok (.iconst 5, 1) := by decide +kernel
theorem dX4_printsOne_55 : decode cX4_printsOne 55 = .ok (.iaload, 1) := by decide +kernel
theorem dX4_printsOne_56 : decode cX4_printsOne 56 = .ok (.if_icmp .ge 96, 3) := by decide +kernel
theorem dX4_printsOne_59 : decode cX4_printsOne 59 = .ok (.aload_n 0, 1) := by decide +kernel
theorem dX4_printsOne_60 : decode cX4_printsOne 60 = .ok (.iload_n 1, 1) := by decide +kernel
theorem dX4_printsOne_61 : decode cX4_printsOne 61 = .ok (.iload 5, 2) := by decide +kernel
theorem dX4_printsOne_63 : decode cX4_printsOne 63 = .ok (.iload_n 2, 1) := by decide +kernel
theorem dX4_printsOne_64 : decode cX4_printsOne 64 = .ok (.invokevirtual 133, 3) := by decide +kernel
theorem dX4_printsOne_67 : decode cX4_printsOne 67 = .ok (.ifCond .eq 85, 3) := by decide +kernel
theorem dX4_printsOne_70 : decode cX4_printsOne 70 = .ok (.aload_n 0, 1) := by decide +kernel
theorem dX4_printsOne_71 : decode cX4_printsOne 71 = .ok (.getfield 40, 3) := by decide +kernel
theorem dX4_printsOne_74 : decode cX4_printsOne 74 = .ok (.iload 6, 2) := by decide +kernel
theorem dX4_printsOne_76 : decode cX4_printsOne 76 = .ok (.dup2, 1) := by decide +kernel
theorem dX4_printsOne_77 : decode cX4_printsOne 77 = .ok (.iaload, 1) := by decide +kernel
theorem dX4_printsOne_78 : decode cX4_printsOne 78 = .ok (.iconst 1, 1) := by decide +kernel
theorem dX4_printsOne_79 : decode cX4_printsOne 79 = .ok (.iadd, 1) := by decide +kernel
theorem dX4_printsOne_80 : decode cX4_printsOne 80 = .ok (.iastore, 1) := by decide +kernel
theorem dX4_printsOne_81 : decode cX4_printsOne 81 = .ok (.aload_n 0, 1) := by decide +kernel
theorem dX4_printsOne_82 : decode cX4_printsOne 82 = .ok (.getfield 52, 3) := by decide +kernel
theorem dX4_printsOne_85 : decode cX4_printsOne 85 = .ok (.bipush 8, 2) := by decide +kernel
theorem dX4_printsOne_87 : decode cX4_printsOne 87 = .ok (.aload_n 0, 1) := by decide +kernel
theorem dX4_printsOne_88 : decode cX4_printsOne 88 = .ok (.getfield 34, 3) := by decide +kernel
theorem dX4_printsOne_91 : decode cX4_printsOne 91 = .ok (.iload 6, 2) := by decide +kernel
theorem dX4_printsOne_93 : decode cX4_printsOne 93 = .ok (.iaload, 1) := by decide +kernel
theorem dX4_printsOne_94 : decode cX4_printsOne 94 = .ok (.imul, 1) := by decide +kernel
theorem dX4_printsOne_95 : decode cX4_printsOne 95 = .ok (.aload_n 0, 1) := by decide +kernel
theorem dX4_printsOne_96 : decode cX4_printsOne 96 = .ok (.getfield 37, 3) := by decide +kernel
theorem dX4_printsOne_99 : decode cX4_printsOne 99 = .ok (.iload 6, 2) := by decide +kernel
theorem dX4_printsOne_101 : decode cX4_printsOne 101 = .ok (.iaload, 1) := by decide +kernel
theorem dX4_printsOne_102 : decode cX4_printsOne 102 = .ok (.iadd, 1) := by decide +kernel
theorem dX4_printsOne_103 : decode cX4_printsOne 103 = .ok (.dup2, 1) := by decide +kernel
theorem dX4_printsOne_104 : decode cX4_printsOne 104 = .ok (.iaload, 1) := by decide +kernel
theorem dX4_printsOne_105 : decode cX4_printsOne 105 = .ok (.iconst 1, 1) := by decide +kernel
theorem dX4_printsOne_106 : decode cX4_printsOne 106 = .ok (.iadd, 1) := by decide +kernel
theorem dX4_printsOne_107 : decode cX4_printsOne 107 = .ok (.iastore, 1) := by decide +kernel
theorem dX4_printsOne_108 : decode cX4_printsOne 108 = .ok (.aload_n 0, 1) := by decide +kernel
theorem dX4_printsOne_109 : decode cX4_printsOne 109 = .ok (.getfield 46, 3) := by decide +kernel
theorem dX4_printsOne_112 : decode cX4_printsOne 112 = .ok (.bipush 8, 2) := by decide +kernel
theorem dX4_printsOne_114 : decode cX4_printsOne 114 = .ok (.iload_n 1, 1) := by decide +kernel
theorem dX4_printsOne_115 : decode cX4_printsOne 115 = .ok (.imul, 1) := by decide +kernel
theorem dX4_printsOne_116 : decode cX4_printsOne 116 = .ok (.iload_n 2, 1) := by decide +kernel
theorem dX4_printsOne_117 : decode cX4_printsOne 117 = .ok (.iadd, 1) := by decide +kernel
theorem dX4_printsOne_118 : decode cX4_printsOne 118 = .ok (.iload 5, 2) := by decide +kernel
theorem dX4_printsOne_120 : decode cX4_printsOne 120 = .ok (.iastore, 1) := by decide +kernel
theorem dX4_printsOne_121 : decode cX4_printsOne 121 = .ok (.aload_n 0, 1) := by decide +kernel
theorem dX4_printsOne_122 : decode cX4_printsOne 122 = .ok (.dup, 1) := by decide +kernel
theorem dX4_printsOne_123 : decode cX4_printsOne 123 = .ok (.getfield 140, 3) := by decide +kernel
theorem dX4_printsOne_126 : decode cX4_printsOne 126 = .ok (.iconst 1, 1) := by decide +kernel
theorem dX4_printsOne_127 : decode cX4_printsOne 127 = .ok (.iadd, 1) := by decide +kernel
theorem dX4_printsOne_128 : decode cX4_printsOne 128 = .ok (.putfield 140, 3) := by decide +kernel
theorem dX4_printsOne_131 : decode cX4_printsOne 131 = .ok (.aload_n 0, 1) := by decide +kernel
theorem dX4_printsOne_132 : decode cX4_printsOne 132 = .ok (.dup, 1) := by decide +kernel
theorem dX4_printsOne_133 : decode cX4_printsOne 133 = .ok (.getfield 143, 3) := by decide +kernel
theorem dX4_printsOne_136 : decode cX4_printsOne 136 = .ok (.iload 5, 2) := by decide +kernel
theorem dX4_printsOne_138 : decode cX4_printsOne 138 = .ok (.iload_n 3, 1) := by decide +kernel
theorem dX4_printsOne_139 : decode cX4_printsOne 139 = .ok (.if_icmp .ne 7, 3) := by decide +kernel
theorem dX4_printsOne_142 : decode cX4_printsOne 142 = .ok (.iconst 1, 1) := by decide +kernel
theorem dX4_printsOne_143 : decode cX4_printsOne 143 = .ok (.goto 4, 3) := by decide +kernel
theorem dX4_printsOne_146 : decode cX4_printsOne 146 = .ok (.iconst 0, 1) := by decide +kernel
theorem dX4_printsOne_147 : decode cX4_printsOne 147 = .ok (.iadd, 1) := by decide +kernel
theorem dX4_printsOne_148 : decode cX4_printsOne 148 = .ok (.putfield 143, 3) := by decide +kernel
theorem dX4_printsOne_151 : decode cX4_printsOne 151 = .ok (.return_, 1) := by decide +kernel
theorem dX4_printsOne_152 : decode cX4_printsOne 152 = .ok (.iinc 4 1, 3) := by decide +kernel
theorem dX4_printsOne_155 : decode cX4_printsOne 155 = .ok (.goto (-145), 3) := by decide +kernel
theorem dX4_printsOne_158 : decode cX4_printsOne 158 = .ok (.aload_n 0, 1) := by decide +kernel
theorem dX4_printsOne_159 : decode cX4_printsOne 159 = .ok (.getfield 49, 3) := by decide +kernel
theorem dX4_printsOne_162 : decode cX4_printsOne 162 = .ok (.iload_n 1, 1) := by decide +kernel
theorem dX4_printsOne_163 : decode cX4_printsOne 163 = .ok (.dup2, 1) := by decide +kernel
theorem dX4_printsOne_164 : decode cX4_printsOne 164 = .ok (.iaload, 1) := by decide +kernel
theorem dX4_printsOne_165 : decode cX4_printsOne 165 = .ok (.iconst 1, 1) := by decide +kernel
theorem dX4_printsOne_166 : decode cX4_printsOne 166 = .ok (.iload_n 2, 1) := by decide +kernel
theorem dX4_printsOne_167 : decode cX4_printsOne 167 = .ok (.ishl, 1) := by decide +kernel
theorem dX4_printsOne_168 : decode cX4_printsOne 168 = .ok (.ior, 1) := by decide +kernel
theorem dX4_printsOne_169 : decode cX4_printsOne 169 = .ok (.iastore, 1) := by decide +kernel
theorem dX4_printsOne_170 : decode cX4_printsOne 170 = .ok (.aload_n 0, 1) := by decide +kernel
theorem dX4_printsOne_171 : decode cX4_printsOne 171 = .ok (.dup, 1) := by decide +kernel
theorem dX4_printsOne_172 : decode cX4_printsOne 172 = .ok (.getfield 146, 3) := by decide +kernel
theorem dX4_printsOne_175 : decode cX4_printsOne 175 = .ok (.iconst 1, 1) := by decide +kernel
theorem dX4_printsOne_176 : decode cX4_printsOne 176 = .ok (.iadd, 1) := by decide +kernel
theorem dX4_printsOne_177 : decode cX4_printsOne 177 = .ok (.putfield 146, 3) := by decide +kernel
theorem dX4_printsOne_180 : decode cX4_printsOne 180 = .ok (.return_, 1) := by decide +kernel
theorem qq_X4_rests_0 {c : Cond} (j : Nat) (h : ([.fieldLink RX4 28 "InkSwathsModel" "now" "[I", .fieldLink RX4 52 "InkSwathsModel" "prints" "[I", .fieldLink RX4 55 "InkSwathsModel" "gutter" "[I", .methodLink RX4 127 yX4_isAlive, .instanceMethod yX4_isAlive, .selects RX4 yX4_isAlive yX4_isAlive, .initialized RX4, .code yX4_isAlive cX4_isAlive 6 (some .boolean), .fieldLink RX4 110 "InkSwathsModel" "events" "I", .fieldLink RX4 22 "InkSwathsModel" "eventNozzle" "[I", .fieldLink RX4 19 "InkSwathsModel" "eventAt" "[I", .fieldLink RX4 121 "InkSwathsModel" "notEvents" "I", .fieldLink RX4 124 "InkSwathsModel" "deadNow" "I", .fieldLink RX4 16 "InkSwathsModel" "eventKind" "[I", .methodLink RX4 91 yX4_isIn, .static yX4_isIn, .code yX4_isIn cX4_isIn 2 (some .boolean)] : List Cond)[j]? = some c) : c ∈ wsX4_rests := List.mem_cons_of_mem _ (List.mem_append_left _ (List.mem_of_getElem? h))
theorem uq_X4_rests_X4 : wsub wsX40 wsX4_rests := fun _ h => List.mem_cons_of_mem _ (List.mem_append_right _ (h))
set_option maxRecDepth 20000 in
theorem ggX4_rests_X4_isAlive : GoodIn wsX4_rests wsX4_isAlive := goodIn_sub (sb_c (qq_X4_rests_0 7 rfl) (sb_a (sb_c (qq_X4_rests_0 8 rfl) (sb_c (qq_X4_rests_0 9 rfl) (sb_c (qq_X4_rests_0 10 rfl) (sb_c (qq_X4_rests_0 11 rfl) (sb_c (qq_X4_rests_0 12 rfl) (sb_c (qq_X4_rests_0 13 rfl) (sb_c (qq_X4_rests_0 14 rfl) (sb_c (qq_X4_rests_0 15 rfl) (sb_c (qq_X4_rests_0 6 rfl) (sb_c (qq_X4_rests_0 16 rfl) sb_n)))))))))) (uq_X4_rests_X4))) gw_X4_isAlive
set_option maxRecDepth 20000 in
theorem gX4_rests_X4_isAlive : GoodIn wsX4_rests (wsV RX4 127 RX4 yX4_isAlive wsX4_isAlive) := goodIn_app (goodIn_sub (sb_c (qq_X4_rests_0 3 rfl) (sb_c (qq_X4_rests_0 4 rfl) (sb_c (qq_X4_rests_0 5 rfl) (sb_c (qq_X4_rests_0 6 rfl) sb_n)))) (by decide +kernel)) ggX4_rests_X4_isAlive
theorem dX4_rests_0 : decode cX4_rests 0 = .ok (.iconst 0, 1) := by decide +kernel
theorem dX4_rests_1 : decode cX4_rests 1 = .ok (.istore_n 1, 1) := by decide +kernel
theorem dX4_rests_2 : decode cX4_rests 2 = .ok (.iload_n 1, 1) := by decide +kernel
theorem dX4_rests_3 : decode cX4_rests 3 = .ok (.aload_n 0, 1) := by decide +kernel
theorem dX4_rests_4 : decode cX4_rests 4 = .ok (.getfield 28, 3) := by decide +kernel
theorem dX4_rests_7 : decode cX4_rests 7 = .ok (.iconst 0, 1) := by decide +kernel
theorem dX4_rests_8 : decode cX4_rests 8 = .ok (.iaload, 1) := by decide +kernel
theorem dX4_rests_9 : decode cX4_rests 9 = .ok (.if_icmp .ge 104, 3) := by decide +kernel
theorem dX4_rests_12 : decode cX4_rests 12 = .ok (.iconst 0, 1) := by decide +kernel
theorem dX4_rests_13 : decode cX4_rests 13 = .ok (.istore_n 2, 1) := by decide +kernel
theorem dX4_rests_14 : decode cX4_rests 14 = .ok (.iconst 0, 1) := by decide +kernel
theorem dX4_rests_15 : decode cX4_rests 15 = .ok (.istore_n 3, 1) := by decide +kernel
theorem dX4_rests_16 : decode cX4_rests 16 = .ok (.iload_n 3, 1) := by decide +kernel
theorem dX4_rests_17 : decode cX4_rests 17 = .ok (.aload_n 0, 1) := by decide +kernel
theorem dX4_rests_18 : decode cX4_rests 18 = .ok (.getfield 28, 3) := by decide +kernel
theorem dX4_rests_21 : decode cX4_rests 21 = .ok (.iconst 3, 1) := by decide +kernel
theorem dX4_rests_22 : decode cX4_rests 22 = .ok (.iaload, 1) := by decide +kernel
theorem dX4_rests_23 : decode cX4_rests 23 = .ok (.if_icmp .ge 84, 3) := by decide +kernel
theorem dX4_rests_26 : decode cX4_rests 26 = .ok (.bipush 8, 2) := by decide +kernel
theorem dX4_rests_28 : decode cX4_rests 28 = .ok (.iload_n 3, 1) := by decide +kernel
theorem dX4_rests_29 : decode cX4_rests 29 = .ok (.imul, 1) := by decide +kernel
theorem dX4_rests_30 : decode cX4_rests 30 = .ok (.iload_n 1, 1) := by decide +kernel
theorem dX4_rests_31 : decode cX4_rests 31 = .ok (.iadd, 1) := by decide +kernel
theorem dX4_rests_32 : decode cX4_rests 32 = .ok (.istore 4, 2) := by decide +kernel
theorem dX4_rests_34 : decode cX4_rests 34 = .ok (.aload_n 0, 1) := by decide +kernel
theorem dX4_rests_35 : decode cX4_rests 35 = .ok (.iload_n 3, 1) := by decide +kernel
theorem dX4_rests_36 : decode cX4_rests 36 = .ok (.iload_n 1, 1) := by decide +kernel
theorem dX4_rests_37 : decode cX4_rests 37 = .ok (.invokevirtual 127, 3) := by decide +kernel
theorem dX4_rests_40 : decode cX4_rests 40 = .ok (.ifCond .eq 13, 3) := by decide +kernel
theorem dX4_rests_43 : decode cX4_rests 43 = .ok (.aload_n 0, 1) := by decide +kernel
theorem dX4_rests_44 : decode cX4_rests 44 = .ok (.getfield 52, 3) := by decide +kernel
theorem dX4_rests_47 : decode cX4_rests 47 = .ok (.iload 4, 2) := by decide +kernel
theorem dX4_rests_49 : decode cX4_rests 49 = .ok (.iaload, 1) := by decide +kernel
theorem dX4_rests_50 : decode cX4_rests 50 = .ok (.ifCond .le 7, 3) := by decide +kernel
theorem dX4_rests_53 : decode cX4_rests 53 = .ok (.iconst 0, 1) := by decide +kernel
theorem dX4_rests_54 : decode cX4_rests 54 = .ok (.goto 6, 3) := by decide +kernel
theorem dX4_rests_57 : decode cX4_rests 57 = .ok (.iload_n 2, 1) := by decide +kernel
theorem dX4_rests_58 : decode cX4_rests 58 = .ok (.iconst 1, 1) := by decide +kernel
theorem dX4_rests_59 : decode cX4_rests 59 = .ok (.iadd, 1) := by decide +kernel
theorem dX4_rests_60 : decode cX4_rests 60 = .ok (.istore_n 2, 1) := by decide +kernel
theorem dX4_rests_61 : decode cX4_rests 61 = .ok (.aload_n 0, 1) := by decide +kernel
theorem dX4_rests_62 : decode cX4_rests 62 = .ok (.getfield 55, 3) := by decide +kernel
theorem dX4_rests_65 : decode cX4_rests 65 = .ok (.iload 4, 2) := by decide +kernel
theorem dX4_rests_67 : decode cX4_rests 67 = .ok (.iload_n 2, 1) := by decide +kernel
theorem dX4_rests_68 : decode cX4_rests 68 = .ok (.aload_n 0, 1) := by decide +kernel
theorem dX4_rests_69 : decode cX4_rests 69 = .ok (.getfield 28, 3) := by decide +kernel
theorem dX4_rests_72 : decode cX4_rests 72 = .ok (.bipush 6, 2) := by decide +kernel
theorem dX4_rests_74 : decode cX4_rests 74 = .ok (.iaload, 1) := by decide +kernel
theorem dX4_rests_75 : decode cX4_rests 75 = .ok (.if_icmp .ne 7, 3) := by decide +kernel
theorem dX4_rests_78 : decode cX4_rests 78 = .ok (.iconst 1, 1) := by decide +kernel
theorem dX4_rests_79 : decode cX4_rests 79 = .ok (.goto 4, 3) := by decide +kernel
theorem dX4_rests_82 : decode cX4_rests 82 = .ok (.iconst 0, 1) := by decide +kernel
theorem dX4_rests_83 : decode cX4_rests 83 = .ok (.iastore, 1) := by decide +kernel
theorem dX4_rests_84 : decode cX4_rests 84 = .ok (.iload_n 2, 1) := by decide +kernel
theorem dX4_rests_85 : decode cX4_rests 85 = .ok (.aload_n 0, 1) := by decide +kernel
theorem dX4_rests_86 : decode cX4_rests 86 = .ok (.getfield 28, 3) := by decide +kernel
theorem dX4_rests_89 : decode cX4_rests 89 = .ok (.bipush 6, 2) := by decide +kernel
theorem dX4_rests_91 : decode cX4_rests 91 = .ok (.iaload, 1) := by decide +kernel
theorem dX4_rests_92 : decode cX4_rests 92 = .ok (.if_icmp .ne 7, 3) := by decide +kernel
theorem dX4_rests_95 : decode cX4_rests 95 = .ok (.iconst 0, 1) := by decide +kernel
theorem dX4_rests_96 : decode cX4_rests 96 = .ok (.goto 4, 3) := by decide +kernel
theorem dX4_rests_99 : decode cX4_rests 99 = .ok (.iload_n 2, 1) := by decide +kernel
theorem dX4_rests_100 : decode cX4_rests 100 = .ok (.istore_n 2, 1) := by decide +kernel
theorem dX4_rests_101 : decode cX4_rests 101 = .ok (.iinc 3 1, 3) := by decide +kernel
theorem dX4_rests_104 : decode cX4_rests 104 = .ok (.goto (-88), 3) := by decide +kernel
theorem dX4_rests_107 : decode cX4_rests 107 = .ok (.iinc 1 1, 3) := by decide +kernel
theorem dX4_rests_110 : decode cX4_rests 110 = .ok (.goto (-108), 3) := by decide +kernel
theorem dX4_rests_113 : decode cX4_rests 113 = .ok (.return_, 1) := by decide +kernel
theorem qq_X4_runs_0 {c : Cond} (j : Nat) (h : wsX4_runs_r1[j]? = some c) : c ∈ wsX4_runs := List.mem_cons_of_mem _ (List.mem_append_left _ (List.mem_append_left _ (List.mem_of_getElem? h)))
theorem qq_X4_runs_1 {c : Cond} (j : Nat) (h : wsX4_runs_r2[j]? = some c) : c ∈ wsX4_runs := List.mem_cons_of_mem _ (List.mem_append_left _ (List.mem_append_right _ (List.mem_append_left _ (List.mem_of_getElem? h))))
theorem qq_X4_runs_2 {c : Cond} (j : Nat) (h : wsX4_runs_r3[j]? = some c) : c ∈ wsX4_runs := List.mem_cons_of_mem _ (List.mem_append_left _ (List.mem_append_right _ (List.mem_append_right _ (List.mem_of_getElem? h))))
theorem uq_X4_runs_X4 : wsub wsX40 wsX4_runs := fun _ h => List.mem_cons_of_mem _ (List.mem_append_right _ (h))
set_option maxRecDepth 20000 in
theorem gw_X4_findsHits : wsX4_findsHits.all goodWord = true := by decide +kernel
set_option maxRecDepth 20000 in
theorem ggX4_runs_X4_findsHits : GoodIn wsX4_runs wsX4_findsHits := goodIn_sub (sb_c (qq_X4_runs_0 12 rfl) (sb_a (sb_c (qq_X4_runs_0 13 rfl) (sb_c (qq_X4_runs_0 14 rfl) (sb_c (qq_X4_runs_0 15 rfl) (sb_c (qq_X4_runs_0 16 rfl) (sb_c (qq_X4_runs_0 17 rfl) (sb_c (qq_X4_runs_0 18 rfl) (sb_c (qq_X4_runs_0 19 rfl) (sb_c (qq_X4_runs_0 11 rfl) (sb_c (qq_X4_runs_0 20 rfl) (sb_c (qq_X4_runs_0 21 rfl) (sb_c (qq_X4_runs_0 22 rfl) (sb_c (qq_X4_runs_0 23 rfl) sb_n)))))))))))) (uq_X4_runs_X4))) gw_X4_findsHits
set_option maxRecDepth 20000 in
theorem gX4_runs_X4_findsHits : GoodIn wsX4_runs (wsV RX4 149 RX4 yX4_findsHits wsX4_findsHits) := goodIn_app (goodIn_sub (sb_c (qq_X4_runs_0 8 rfl) (sb_c (qq_X4_runs_0 9 rfl) (sb_c (qq_X4_runs_0 10 rfl) (sb_c (qq_X4_runs_0 11 rfl) sb_n)))) (by decide +kernel)) ggX4_runs_X4_findsHits
set_option maxRecDepth 20000 in
theorem gw_X4_findsAble : wsX4_findsAble.all goodWord = true := by decide +kernel
set_option maxRecDepth 20000 in
theorem ggX4_runs_X4_findsAble : GoodIn wsX4_runs wsX4_findsAble := goodIn_sub (sb_c (qq_X4_runs_1 3 rfl) (sb_a (sb_a (sb_c (qq_X4_runs_0 7 rfl) (sb_c (qq_X4_runs_1 4 rfl) (sb_c (qq_X4_runs_0 13 rfl) (sb_c (qq_X4_runs_1 5 rfl) (sb_c (qq_X4_runs_1 6 rfl) (sb_c (qq_X4_runs_1 7 rfl) (sb_c (qq_X4_runs_0 11 rfl) (sb_c (qq_X4_runs_1 8 rfl) (sb_c (qq_X4_runs_0 15 rfl) (sb_c (qq_X4_runs_0 16 rfl) (sb_c (qq_X4_runs_1 9 rfl) (sb_c (qq_X4_runs_1 10 rfl) (sb_c (qq_X4_runs_1 11 rfl) (sb_c (qq_X4_runs_1 12 rfl) (sb_c (qq_X4_runs_1 13 rfl) (sb_c (qq_X4_runs_1 14 rfl) (sb_c (qq_X4_runs_1 15 rfl) (sb_c (qq_X4_runs_1 16 rfl) (sb_c (qq_X4_runs_1 17 rfl) (sb_c (qq_X4_runs_1 18 rfl) (sb_c (qq_X4_runs_1 19 rfl) (sb_c (qq_X4_runs_1 20 rfl) (sb_c (qq_X4_runs_1 21 rfl) (sb_c (qq_X4_runs_1 22 rfl) sb_n)))))))))))))))))))))))) (sb_c (qq_X4_runs_1 23 rfl) (sb_c (qq_X4_runs_2 0 rfl) (sb_c (qq_X4_runs_2 1 rfl) (sb_c (qq_X4_runs_0 14 rfl) sb_n))))) (uq_X4_runs_X4))) gw_X4_findsAble
set_option maxRecDepth 20000 in
theorem gX4_runs_X4_findsAble : GoodIn wsX4_runs (wsV RX4 152 RX4 yX4_findsAble wsX4_findsAble) := goodIn_app (goodIn_sub (sb_c (qq_X4_runs_1 0 rfl) (sb_c (qq_X4_runs_1 1 rfl) (sb_c (qq_X4_runs_1 2 rfl) (sb_c (qq_X4_runs_0 11 rfl) sb_n)))) (by decide +kernel)) ggX4_runs_X4_findsAble
set_option maxRecDepth 20000 in
theorem ggX4_runs_X4_isIn : GoodIn wsX4_runs wsX4_isIn := goodIn_sub (sb_c (qq_X4_runs_1 21 rfl) (sb_n)) gw_X4_isIn
set_option maxRecDepth 20000 in
theorem gX4_runs_X4_isIn : GoodIn wsX4_runs (va_wsS RX4 91 yX4_isIn wsX4_isIn) := goodIn_app (goodIn_sub (sb_c (qq_X4_runs_1 19 rfl) (sb_c (qq_X4_runs_1 20 rfl) (sb_c (qq_X4_runs_0 11 rfl) sb_n))) (by decide +kernel)) ggX4_runs_X4_isIn
set_option maxRecDepth 20000 in
theorem gw_X4_printsOne : wsX4_printsOne.all goodWord = true := by decide +kernel
set_option maxRecDepth 20000 in
theorem ggX4_runs_X4_printsOne : GoodIn wsX4_runs wsX4_printsOne := goodIn_sub (sb_c (qq_X4_runs_2 5 rfl) (sb_a (sb_a (sb_c (qq_X4_runs_0 13 rfl) (sb_c (qq_X4_runs_0 17 rfl) (sb_c (qq_X4_runs_0 14 rfl) (sb_c (qq_X4_runs_0 4 rfl) (sb_c (qq_X4_runs_0 15 rfl) (sb_c (qq_X4_runs_0 16 rfl) (sb_c (qq_X4_runs_1 4 rfl) (sb_c (qq_X4_runs_0 2 rfl) (sb_c (qq_X4_runs_0 1 rfl) (sb_c (qq_X4_runs_0 3 rfl) (sb_c (qq_X4_runs_0 0 rfl) (sb_c (qq_X4_runs_2 6 rfl) (sb_c (qq_X4_runs_2 7 rfl) (sb_c (qq_X4_runs_2 8 rfl) (sb_c (qq_X4_runs_0 11 rfl) (sb_c (qq_X4_runs_2 9 rfl) (sb_c (qq_X4_runs_0 6 rfl) (sb_c (qq_X4_runs_1 19 rfl) (sb_c (qq_X4_runs_1 20 rfl) (sb_c (qq_X4_runs_1 21 rfl) (sb_c (qq_X4_runs_1 5 rfl) (sb_c (qq_X4_runs_1 6 rfl) (sb_c (qq_X4_runs_1 7 rfl) (sb_c (qq_X4_runs_1 8 rfl) sb_n)))))))))))))))))))))))) (sb_c (qq_X4_runs_1 9 rfl) (sb_c (qq_X4_runs_1 10 rfl) (sb_c (qq_X4_runs_1 11 rfl) (sb_c (qq_X4_runs_1 12 rfl) (sb_c (qq_X4_runs_1 13 rfl) (sb_c (qq_X4_runs_1 14 rfl) (sb_c (qq_X4_runs_1 15 rfl) (sb_c (qq_X4_runs_1 16 rfl) (sb_c (qq_X4_runs_1 17 rfl) (sb_c (qq_X4_runs_1 18 rfl) (sb_c (qq_X4_runs_1 22 rfl) (sb_c (qq_X4_runs_1 23 rfl) (sb_c (qq_X4_runs_2 0 rfl) (sb_c (qq_X4_runs_2 1 rfl) sb_n))))))))))))))) (uq_X4_runs_X4))) gw_X4_printsOne
set_option maxRecDepth 20000 in
theorem gX4_runs_X4_printsOne : GoodIn wsX4_runs (wsV RX4 155 RX4 yX4_printsOne wsX4_printsOne) := goodIn_app (goodIn_sub (sb_c (qq_X4_runs_2 2 rfl) (sb_c (qq_X4_runs_2 3 rfl) (sb_c (qq_X4_runs_2 4 rfl) (sb_c (qq_X4_runs_0 11 rfl) sb_n)))) (by decide +kernel)) ggX4_runs_X4_printsOne
set_option maxRecDepth 20000 in
theorem gw_X4_rests : wsX4_rests.all goodWord = true := by decide +kernel
set_option maxRecDepth 20000 in
theorem ggX4_runs_X4_rests : GoodIn wsX4_runs wsX4_rests := goodIn_sub (sb_c (qq_X4_runs_2 13 rfl) (sb_a (sb_c (qq_X4_runs_0 14 rfl) (sb_c (qq_X4_runs_0 4 rfl) (sb_c (qq_X4_runs_0 5 rfl) (sb_c (qq_X4_runs_1 9 rfl) (sb_c (qq_X4_runs_1 10 rfl) (sb_c (qq_X4_runs_1 11 rfl) (sb_c (qq_X4_runs_0 11 rfl) (sb_c (qq_X4_runs_1 12 rfl) (sb_c (qq_X4_runs_1 13 rfl) (sb_c (qq_X4_runs_1 14 rfl) (sb_c (qq_X4_runs_1 15 rfl) (sb_c (qq_X4_runs_1 16 rfl) (sb_c (qq_X4_runs_1 17 rfl) (sb_c (qq_X4_runs_1 18 rfl) (sb_c (qq_X4_runs_1 19 rfl) (sb_c (qq_X4_runs_1 20 rfl) (sb_c (qq_X4_runs_1 21 rfl) sb_n))))))))))))))))) (uq_X4_runs_X4))) gw_X4_rests
set_option maxRecDepth 20000 in
theorem gX4_runs_X4_rests : GoodIn wsX4_runs (wsV RX4 159 RX4 yX4_rests wsX4_rests) := goodIn_app (goodIn_sub (sb_c (qq_X4_runs_2 10 rfl) (sb_c (qq_X4_runs_2 11 rfl) (sb_c (qq_X4_runs_2 12 rfl) (sb_c (qq_X4_runs_0 11 rfl) sb_n)))) (by decide +kernel)) ggX4_runs_X4_rests
theorem dX4_runs_0 : decode cX4_runs 0 = .ok (.aload_n 0, 1) := by decide +kernel
theorem dX4_runs_1 : decode cX4_runs 1 = .ok (.invokevirtual 149, 3) := by decide +kernel
theorem dX4_runs_4 : decode cX4_runs 4 = .ok (.aload_n 0, 1) := by decide +kernel
theorem dX4_runs_5 : decode cX4_runs 5 = .ok (.invokevirtual 152, 3) := by decide +kernel
theorem dX4_runs_8 : decode cX4_runs 8 = .ok (.aload_n 0, 1) := by decide +kernel
theorem dX4_runs_9 : decode cX4_runs 9 = .ok (.iconst 0, 1) := by decide +kernel
theorem dX4_runs_10 : decode cX4_runs 10 = .ok (.putfield 146, 3) := by decide +kernel
theorem dX4_runs_13 : decode cX4_runs 13 = .ok (.aload_n 0, 1) := by decide +kernel
theorem dX4_runs_14 : decode cX4_runs 14 = .ok (.iconst 0, 1) := by decide +kernel
theorem dX4_runs_15 : decode cX4_runs 15 = .ok (.putfield 143, 3) := by decide +kernel
theorem dX4_runs_18 : decode cX4_runs 18 = .ok (.aload_n 0, 1) := by decide +kernel
theorem dX4_runs_19 : decode cX4_runs 19 = .ok (.iconst 0, 1) := by decide +kernel
theorem dX4_runs_20 : decode cX4_runs 20 = .ok (.putfield 140, 3) := by decide +kernel
theorem dX4_runs_23 : decode cX4_runs 23 = .ok (.iconst 0, 1) := by decide +kernel
theorem dX4_runs_24 : decode cX4_runs 24 = .ok (.istore_n 1, 1) := by decide +kernel
theorem dX4_runs_25 : decode cX4_runs 25 = .ok (.iload_n 1, 1) := by decide +kernel
theorem dX4_runs_26 : decode cX4_runs 26 = .ok (.bipush 16, 2) := by decide +kernel
theorem dX4_runs_28 : decode cX4_runs 28 = .ok (.if_icmp .ge 16, 3) := by decide +kernel
theorem dX4_runs_31 : decode cX4_runs 31 = .ok (.aload_n 0, 1) := by decide +kernel
theorem dX4_runs_32 : decode cX4_runs 32 = .ok (.getfield 49, 3) := by decide +kernel
theorem dX4_runs_35 : decode cX4_runs 35 = .ok (.iload_n 1, 1) := by decide +kernel
theorem dX4_runs_36 : decode cX4_runs 36 = .ok (.iconst 0, 1) := by decide +kernel
theorem dX4_runs_37 : decode cX4_runs 37 = .ok (.iastore, 1) := by decide +kernel
theorem dX4_runs_38 : decode cX4_runs 38 = .ok (.iinc 1 1, 3) := by decide +kernel
theorem dX4_runs_41 : decode cX4_runs 41 = .ok (.goto (-16), 3) := by decide +kernel
theorem dX4_runs_44 : decode cX4_runs 44 = .ok (.iconst 0, 1) := by decide +kernel
theorem dX4_runs_45 : decode cX4_runs 45 = .ok (.istore_n 1, 1) := by decide +kernel
theorem dX4_runs_46 : decode cX4_runs 46 = .ok (.iload_n 1, 1) := by decide +kernel
theorem dX4_runs_47 : decode cX4_runs 47 = .ok (.bipush 96, 2) := by decide +kernel
theorem dX4_runs_49 : decode cX4_runs 49 = .ok (.if_icmp .ge 23, 3) := by decide +kernel
theorem dX4_runs_52 : decode cX4_runs 52 = .ok (.aload_n 0, 1) := by decide +kernel
theorem dX4_runs_53 : decode cX4_runs 53 = .ok (.getfield 52, 3) := by decide +kernel
theorem dX4_runs_56 : decode cX4_runs 56 = .ok (.iload_n 1, 1) := by decide +kernel
theorem dX4_runs_57 : decode cX4_runs 57 = .ok (.iconst 0, 1) := by decide +kernel
theorem dX4_runs_58 : decode cX4_runs 58 = .ok (.iastore, 1) := by decide +kernel
theorem dX4_runs_59 : decode cX4_runs 59 = .ok (.aload_n 0, 1) := by decide +kernel
theorem dX4_runs_60 : decode cX4_runs 60 = .ok (.getfield 55, 3) := by decide +kernel
theorem dX4_runs_63 : decode cX4_runs 63 = .ok (.iload_n 1, 1) := by decide +kernel
theorem dX4_runs_64 : decode cX4_runs 64 = .ok (.iconst 0, 1) := by decide +kernel
theorem dX4_runs_65 : decode cX4_runs 65 = .ok (.iastore, 1) := by decide +kernel
theorem dX4_runs_66 : decode cX4_runs 66 = .ok (.iinc 1 1, 3) := by decide +kernel
theorem dX4_runs_69 : decode cX4_runs 69 = .ok (.goto (-23), 3) := by decide +kernel
theorem dX4_runs_72 : decode cX4_runs 72 = .ok (.iconst 0, 1) := by decide +kernel
theorem dX4_runs_73 : decode cX4_runs 73 = .ok (.istore_n 1, 1) := by decide +kernel
theorem dX4_runs_74 : decode cX4_runs 74 = .ok (.iload_n 1, 1) := by decide +kernel
theorem dX4_runs_75 : decode cX4_runs 75 = .ok (.bipush 13, 2) := by decide +kernel
theorem dX4_runs_77 : decode cX4_runs 77 = .ok (.if_icmp .ge 71, 3) := by decide +kernel
theorem dX4_runs_80 : decode cX4_runs 80 = .ok (.iconst 0, 1) := by decide +kernel
theorem dX4_runs_81 : decode cX4_runs 81 = .ok (.istore_n 2, 1) := by decide +kernel
theorem dX4_runs_82 : decode cX4_runs 82 = .ok (.iload_n 2, 1) := by decide +kernel
theorem dX4_runs_83 : decode cX4_runs 83 = .ok (.bipush 16, 2) := by decide +kernel
theorem dX4_runs_85 : decode cX4_runs 85 = .ok (.if_icmp .ge 57, 3) := by decide +kernel
theorem dX4_runs_88 : decode cX4_runs 88 = .ok (.iconst 0, 1) := by decide +kernel
theorem dX4_runs_89 : decode cX4_runs 89 = .ok (.istore_n 3, 1) := by decide +kernel
theorem dX4_runs_90 : decode cX4_runs 90 = .ok (.iload_n 3, 1) := by decide +kernel
theorem dX4_runs_91 : decode cX4_runs 91 = .ok (.bipush 8, 2) := by decide +kernel
theorem dX4_runs_93 : decode cX4_runs 93 = .ok (.if_icmp .ge 43, 3) := by decide +kernel
theorem dX4_runs_96 : decode cX4_runs 96 = .ok (.aload_n 0, 1) := by decide +kernel
theorem dX4_runs_97 : decode cX4_runs 97 = .ok (.getfield 25, 3) := by decide +kernel
theorem dX4_runs_100 : decode cX4_runs 100 = .ok (.iload_n 2, 1) := by decide +kernel
theorem dX4_runs_101 : decode cX4_runs 101 = .ok (.iaload, 1) := by decide +kernel
theorem dX4_runs_102 : decode cX4_runs 102 = .ok (.iload_n 3, 1) := by decide +kernel
theorem dX4_runs_103 : decode cX4_runs 103 = .ok (.invokestatic 91, 3) := by decide +kernel
theorem dX4_runs_106 : decode cX4_runs 106 = .ok (.ifCond .eq 24, 3) := by decide +kernel
theorem dX4_runs_109 : decode cX4_runs 109 = .ok (.aload_n 0, 1) := by decide +kernel
theorem dX4_runs_110 : decode cX4_runs 110 = .ok (.getfield 43, 3) := by decide +kernel
theorem dX4_runs_113 : decode cX4_runs 113 = .ok (.bipush 8, 2) := by decide +kernel
theorem dX4_runs_115 : decode cX4_runs 115 = .ok (.iload_n 2, 1) := by decide +kernel
theorem dX4_runs_116 : decode cX4_runs 116 = .ok (.imul, 1) := by decide +kernel
theorem dX4_runs_117 : decode cX4_runs 117 = .ok (.iload_n 3, 1) := by decide +kernel
theorem dX4_runs_118 : decode cX4_runs 118 = .ok (.iadd, 1) := by decide +kernel
theorem dX4_runs_119 : decode cX4_runs 119 = .ok (.iaload, 1) := by decide +kernel
theorem dX4_runs_120 : decode cX4_runs 120 = .ok (.iload_n 1, 1) := by decide +kernel
theorem dX4_runs_121 : decode cX4_runs 121 = .ok (.if_icmp .ne 9, 3) := by decide +kernel
theorem dX4_runs_124 : decode cX4_runs 124 = .ok (.aload_n 0, 1) := by decide +kernel
theorem dX4_runs_125 : decode cX4_runs 125 = .ok (.iload_n 2, 1) := by decide +kernel
theorem dX4_runs_126 : decode cX4_runs 126 = .ok (.iload_n 3, 1) := by decide +kernel
theorem dX4_runs_127 : decode cX4_runs 127 = .ok (.invokevirtual 155, 3) := by decide +kernel
theorem dX4_runs_130 : decode cX4_runs 130 = .ok (.iinc 3 1, 3) := by decide +kernel
theorem dX4_runs_133 : decode cX4_runs 133 = .ok (.goto (-43), 3) := by decide +kernel
theorem dX4_runs_136 : decode cX4_runs 136 = .ok (.iinc 2 1, 3) := by decide +kernel
theorem dX4_runs_139 : decode cX4_runs 139 = .ok (.goto (-57), 3) := by decide +kernel
theorem dX4_runs_142 : decode cX4_runs 142 = .ok (.iinc 1 1, 3) := by decide +kernel
theorem dX4_runs_145 : decode cX4_runs 145 = .ok (.goto (-71), 3) := by decide +kernel
theorem dX4_runs_148 : decode cX4_runs 148 = .ok (.aload_n 0, 1) := by decide +kernel
theorem dX4_runs_149 : decode cX4_runs 149 = .ok (.invokevirtual 159, 3) := by decide +kernel
theorem dX4_runs_152 : decode cX4_runs 152 = .ok (.return_, 1) := by decide +kernel
theorem qq_X4_runsTold_0 {c : Cond} (j : Nat) (h : wsX4_runsTold_r1[j]? = some c) : c ∈ wsX4_runsTold := List.mem_cons_of_mem _ (List.mem_append_left _ (List.mem_append_left _ (List.mem_of_getElem? h)))
theorem qq_X4_runsTold_1 {c : Cond} (j : Nat) (h : wsX4_runsTold_r2[j]? = some c) : c ∈ wsX4_runsTold := List.mem_cons_of_mem _ (List.mem_append_left _ (List.mem_append_right _ (List.mem_append_left _ (List.mem_of_getElem? h))))
theorem qq_X4_runsTold_2 {c : Cond} (j : Nat) (h : wsX4_runsTold_r3[j]? = some c) : c ∈ wsX4_runsTold := List.mem_cons_of_mem _ (List.mem_append_left _ (List.mem_append_right _ (List.mem_append_right _ (List.mem_of_getElem? h))))
theorem uq_X4_runsTold_X4 : wsub wsX40 wsX4_runsTold := fun _ h => List.mem_cons_of_mem _ (List.mem_append_right _ (h))
set_option maxRecDepth 20000 in
theorem gw_X4_asTold : wsX4_asTold.all goodWord = true := by decide +kernel
set_option maxRecDepth 20000 in
theorem ggX4_runsTold_X4_asTold : GoodIn wsX4_runsTold wsX4_asTold := goodIn_sub (sb_c (qq_X4_runsTold_0 4 rfl) (sb_a (sb_c (qq_X4_runsTold_0 5 rfl) (sb_c (qq_X4_runsTold_0 6 rfl) (sb_c (qq_X4_runsTold_0 7 rfl) (sb_c (qq_X4_runsTold_0 8 rfl) (sb_c (qq_X4_runsTold_0 9 rfl) (sb_c (qq_X4_runsTold_0 10 rfl) sb_n)))))) (uq_X4_runsTold_X4))) gw_X4_asTold
set_option maxRecDepth 20000 in
theorem gX4_runsTold_X4_asTold : GoodIn wsX4_runsTold (wsV RX4 162 RX4 yX4_asTold wsX4_asTold) := goodIn_app (goodIn_sub (sb_c (qq_X4_runsTold_0 0 rfl) (sb_c (qq_X4_runsTold_0 1 rfl) (sb_c (qq_X4_runsTold_0 2 rfl) (sb_c (qq_X4_runsTold_0 3 rfl) sb_n)))) (by decide +kernel)) ggX4_runsTold_X4_asTold
set_option maxRecDepth 20000 in
theorem gw_X4_runs : wsX4_runs.all goodWord = true := by decide +kernel
set_option maxRecDepth 20000 in
theorem ggX4_runsTold_X4_runs : GoodIn wsX4_runsTold wsX4_runs := goodIn_sub (sb_c (qq_X4_runsTold_0 14 rfl) (sb_a (sb_a (sb_c (qq_X4_runsTold_0 15 rfl) (sb_c (qq_X4_runsTold_0 16 rfl) (sb_c (qq_X4_runsTold_0 17 rfl) (sb_c (qq_X4_runsTold_0 18 rfl) (sb_c (qq_X4_runsTold_0 19 rfl) (sb_c (qq_X4_runsTold_0 20 rfl) (sb_c (qq_X4_runsTold_0 5 rfl) (sb_c (qq_X4_runsTold_0 21 rfl) (sb_c (qq_X4_runsTold_0 22 rfl) (sb_c (qq_X4_runsTold_0 23 rfl) (sb_c (qq_X4_runsTold_1 0 rfl) (sb_c (qq_X4_runsTold_0 3 rfl) (sb_c (qq_X4_runsTold_1 1 rfl) (sb_c (qq_X4_runsTold_1 2 rfl) (sb_c (qq_X4_runsTold_0 7 rfl) (sb_c (qq_X4_runsTold_1 3 rfl) (sb_c (qq_X4_runsTold_1 4 rfl) (sb_c (qq_X4_runsTold_1 5 rfl) (sb_c (qq_X4_runsTold_1 6 rfl) (sb_c (qq_X4_runsTold_1 7 rfl) (sb_c (qq_X4_runsTold_1 8 rfl) (sb_c (qq_X4_runsTold_1 9 rfl) (sb_c (qq_X4_runsTold_1 10 rfl) (sb_c (qq_X4_runsTold_1 11 rfl) sb_n)))))))))))))))))))))))) (sb_a (sb_c (qq_X4_runsTold_1 12 rfl) (sb_c (qq_X4_runsTold_1 13 rfl) (sb_c (qq_X4_runsTold_1 14 rfl) (sb_c (qq_X4_runsTold_1 15 rfl) (sb_c (qq_X4_runsTold_1 16 rfl) (sb_c (qq_X4_runsTold_1 17 rfl) (sb_c (qq_X4_runsTold_1 18 rfl) (sb_c (qq_X4_runsTold_1 19 rfl) (sb_c (qq_X4_runsTold_1 20 rfl) (sb_c (qq_X4_runsTold_1 21 rfl) (sb_c (qq_X4_runsTold_1 22 rfl) (sb_c (qq_X4_runsTold_1 23 rfl) (sb_c (qq_X4_runsTold_2 0 rfl) (sb_c (qq_X4_runsTold_2 1 rfl) (sb_c (qq_X4_runsTold_2 2 rfl) (sb_c (qq_X4_runsTold_2 3 rfl) (sb_c (qq_X4_runsTold_0 9 rfl) (sb_c (qq_X4_runsTold_0 10 rfl) (sb_c (qq_X4_runsTold_2 4 rfl) (sb_c (qq_X4_runsTold_2 5 rfl) (sb_c (qq_X4_runsTold_2 6 rfl) (sb_c (qq_X4_runsTold_2 7 rfl) (sb_c (qq_X4_runsTold_2 8 rfl) (sb_c (qq_X4_runsTold_2 9 rfl) sb_n)))))))))))))))))))))))) (sb_c (qq_X4_runsTold_2 10 rfl) (sb_c (qq_X4_runsTold_2 11 rfl) (sb_c (qq_X4_runsTold_2 12 rfl) (sb_c (qq_X4_runsTold_2 13 rfl) (sb_c (qq_X4_runsTold_2 14 rfl) (sb_c (qq_X4_runsTold_2 15 rfl) (sb_c (qq_X4_runsTold_2 16 rfl) (sb_c (qq_X4_runsTold_2 17 rfl) (sb_c (qq_X4_runsTold_2 18 rfl) (sb_c (qq_X4_runsTold_2 19 rfl) (sb_c (qq_X4_runsTold_2 20 rfl) (sb_c (qq_X4_runsTold_2 21 rfl) (sb_c (qq_X4_runsTold_2 22 rfl) (sb_c (qq_X4_runsTold_2 23 rfl) sb_n)))))))))))))))) (uq_X4_runsTold_X4))) gw_X4_runs
set_option maxRecDepth 20000 in
theorem gX4_runsTold_X4_runs : GoodIn wsX4_runsTold (wsV RX4 165 RX4 yX4_runs wsX4_runs) := goodIn_app (goodIn_sub (sb_c (qq_X4_runsTold_0 11 rfl) (sb_c (qq_X4_runsTold_0 12 rfl) (sb_c (qq_X4_runsTold_0 13 rfl) (sb_c (qq_X4_runsTold_0 3 rfl) sb_n)))) (by decide +kernel)) ggX4_runsTold_X4_runs
theorem dX4_runsTold_0 : decode cX4_runsTold 0 = .ok (.aload_n 0, 1) := by decide +kernel
theorem dX4_runsTold_1 : decode cX4_runsTold 1 = .ok (.invokevirtual 162, 3) := by decide +kernel
theorem dX4_runsTold_4 : decode cX4_runsTold 4 = .ok (.aload_n 0, 1) := by decide +kernel
theorem dX4_runsTold_5 : decode cX4_runsTold 5 = .ok (.invokevirtual 165, 3) := by decide +kernel
theorem dX4_runsTold_8 : decode cX4_runsTold 8 = .ok (.return_, 1) := by decide +kernel
theorem qq_X4_hitsOf_0 {c : Cond} (j : Nat) (h : wsX4_hitsOf_r1[j]? = some c) : c ∈ wsX4_hitsOf := List.mem_cons_of_mem _ (List.mem_append_left _ (List.mem_append_left _ (List.mem_of_getElem? h)))
theorem qq_X4_hitsOf_1 {c : Cond} (j : Nat) (h : wsX4_hitsOf_r2[j]? = some c) : c ∈ wsX4_hitsOf := List.mem_cons_of_mem _ (List.mem_append_left _ (List.mem_append_right _ (List.mem_append_left _ (List.mem_of_getElem? h))))
theorem qq_X4_hitsOf_2 {c : Cond} (j : Nat) (h : wsX4_hitsOf_r3[j]? = some c) : c ∈ wsX4_hitsOf := List.mem_cons_of_mem _ (List.mem_append_left _ (List.mem_append_right _ (List.mem_append_right _ (List.mem_append_left _ (List.mem_of_getElem? h)))))
theorem qq_X4_hitsOf_3 {c : Cond} (j : Nat) (h : wsX4_hitsOf_r4[j]? = some c) : c ∈ wsX4_hitsOf := List.mem_cons_of_mem _ (List.mem_append_left _ (List.mem_append_right _ (List.mem_append_right _ (List.mem_append_right _ (List.mem_of_getElem? h)))))
theorem uq_X4_hitsOf_X4 : wsub wsX40 wsX4_hitsOf := fun _ h => List.mem_cons_of_mem _ (List.mem_append_right _ (h))
set_option maxRecDepth 20000 in
theorem gw_X4_runsTold : wsX4_runsTold.all goodWord = true := by decide +kernel
set_option maxRecDepth 20000 in
theorem ggX4_hitsOf_X4_runsTold : GoodIn wsX4_hitsOf wsX4_runsTold := goodIn_sub (sb_c (qq_X4_hitsOf_0 5 rfl) (sb_a (sb_a (sb_c (qq_X4_hitsOf_0 6 rfl) (sb_c (qq_X4_hitsOf_0 7 rfl) (sb_c (qq_X4_hitsOf_0 8 rfl) (sb_c (qq_X4_hitsOf_0 4 rfl) (sb_c (qq_X4_hitsOf_0 9 rfl) (sb_c (qq_X4_hitsOf_0 10 rfl) (sb_c (qq_X4_hitsOf_0 11 rfl) (sb_c (qq_X4_hitsOf_0 12 rfl) (sb_c (qq_X4_hitsOf_0 13 rfl) (sb_c (qq_X4_hitsOf_0 14 rfl) (sb_c (qq_X4_hitsOf_0 15 rfl) (sb_c (qq_X4_hitsOf_0 16 rfl) (sb_c (qq_X4_hitsOf_0 17 rfl) (sb_c (qq_X4_hitsOf_0 18 rfl) (sb_c (qq_X4_hitsOf_0 19 rfl) (sb_c (qq_X4_hitsOf_0 20 rfl) (sb_c (qq_X4_hitsOf_0 21 rfl) (sb_c (qq_X4_hitsOf_0 22 rfl) (sb_c (qq_X4_hitsOf_0 23 rfl) (sb_c (qq_X4_hitsOf_1 0 rfl) (sb_c (qq_X4_hitsOf_1 1 rfl) (sb_c (qq_X4_hitsOf_1 2 rfl) (sb_c (qq_X4_hitsOf_1 3 rfl) (sb_c (qq_X4_hitsOf_1 4 rfl) sb_n)))))))))))))))))))))))) (sb_a (sb_c (qq_X4_hitsOf_1 5 rfl) (sb_c (qq_X4_hitsOf_1 6 rfl) (sb_c (qq_X4_hitsOf_0 0 rfl) (sb_c (qq_X4_hitsOf_1 7 rfl) (sb_c (qq_X4_hitsOf_1 8 rfl) (sb_c (qq_X4_hitsOf_1 9 rfl) (sb_c (qq_X4_hitsOf_1 10 rfl) (sb_c (qq_X4_hitsOf_1 11 rfl) (sb_c (qq_X4_hitsOf_1 12 rfl) (sb_c (qq_X4_hitsOf_1 13 rfl) (sb_c (qq_X4_hitsOf_1 14 rfl) (sb_c (qq_X4_hitsOf_1 15 rfl) (sb_c (qq_X4_hitsOf_1 16 rfl) (sb_c (qq_X4_hitsOf_1 17 rfl) (sb_c (qq_X4_hitsOf_1 18 rfl) (sb_c (qq_X4_hitsOf_1 19 rfl) (sb_c (qq_X4_hitsOf_1 20 rfl) (sb_c (qq_X4_hitsOf_1 21 rfl) (sb_c (qq_X4_hitsOf_1 22 rfl) (sb_c (qq_X4_hitsOf_1 23 rfl) (sb_c (qq_X4_hitsOf_2 0 rfl) (sb_c (qq_X4_hitsOf_2 1 rfl) (sb_c (qq_X4_hitsOf_2 2 rfl) (sb_c (qq_X4_hitsOf_2 3 rfl) sb_n)))))))))))))))))))))))) (sb_c (qq_X4_hitsOf_2 4 rfl) (sb_c (qq_X4_hitsOf_2 5 rfl) (sb_c (qq_X4_hitsOf_2 6 rfl) (sb_c (qq_X4_hitsOf_2 7 rfl) (sb_c (qq_X4_hitsOf_2 8 rfl) (sb_c (qq_X4_hitsOf_2 9 rfl) (sb_c (qq_X4_hitsOf_2 10 rfl) (sb_c (qq_X4_hitsOf_2 11 rfl) (sb_c (qq_X4_hitsOf_2 12 rfl) (sb_c (qq_X4_hitsOf_2 13 rfl) (sb_c (qq_X4_hitsOf_2 14 rfl) (sb_c (qq_X4_hitsOf_2 15 rfl) (sb_c (qq_X4_hitsOf_2 16 rfl) (sb_c (qq_X4_hitsOf_2 17 rfl) (sb_c (qq_X4_hitsOf_2 18 rfl) (sb_c (qq_X4_hitsOf_2 19 rfl) (sb_c (qq_X4_hitsOf_2 20 rfl) (sb_c (qq_X4_hitsOf_2 21 rfl) (sb_c (qq_X4_hitsOf_2 22 rfl) (sb_c (qq_X4_hitsOf_2 23 rfl) (sb_c (qq_X4_hitsOf_3 0 rfl) (sb_c (qq_X4_hitsOf_3 1 rfl) (sb_c (qq_X4_hitsOf_3 2 rfl) (sb_c (qq_X4_hitsOf_3 3 rfl) sb_n)))))))))))))))))))))))))) (uq_X4_hitsOf_X4))) gw_X4_runsTold
set_option maxRecDepth 20000 in
theorem gX4_hitsOf_X4_runsTold : GoodIn wsX4_hitsOf (wsV RX4 168 RX4 yX4_runsTold wsX4_runsTold) := goodIn_app (goodIn_sub (sb_c (qq_X4_hitsOf_0 1 rfl) (sb_c (qq_X4_hitsOf_0 2 rfl) (sb_c (qq_X4_hitsOf_0 3 rfl) (sb_c (qq_X4_hitsOf_0 4 rfl) sb_n)))) (by decide +kernel)) ggX4_hitsOf_X4_runsTold
theorem dX4_hitsOf_0 : decode cX4_hitsOf 0 = .ok (.aload_n 0, 1) := by decide +kernel
theorem dX4_hitsOf_1 : decode cX4_hitsOf 1 = .ok (.invokevirtual 168, 3) := by decide +kernel
theorem dX4_hitsOf_4 : decode cX4_hitsOf 4 = .ok (.aload_n 0, 1) := by decide +kernel
theorem dX4_hitsOf_5 : decode cX4_hitsOf 5 = .ok (.getfield 31, 3) := by decide +kernel
theorem dX4_hitsOf_8 : decode cX4_hitsOf 8 = .ok (.iload_n 1, 1) := by decide +kernel
theorem dX4_hitsOf_9 : decode cX4_hitsOf 9 = .ok (.iaload, 1) := by decide +kernel
theorem dX4_hitsOf_10 : decode cX4_hitsOf 10 = .ok (.ireturn, 1) := by decide +kernel
theorem qq_X4_hits_0 {c : Cond} (j : Nat) (h : wsX4_hits_r1[j]? = some c) : c ∈ wsX4_hits := List.mem_cons_of_mem _ (List.mem_append_left _ (List.mem_append_left _ (List.mem_of_getElem? h)))
theorem qq_X4_hits_1 {c : Cond} (j : Nat) (h : wsX4_hits_r2[j]? = some c) : c ∈ wsX4_hits := List.mem_cons_of_mem _ (List.mem_append_left _ (List.mem_append_right _ (List.mem_append_left _ (List.mem_of_getElem? h))))
theorem qq_X4_hits_2 {c : Cond} (j : Nat) (h : wsX4_hits_r3[j]? = some c) : c ∈ wsX4_hits := List.mem_cons_of_mem _ (List.mem_append_left _ (List.mem_append_right _ (List.mem_append_right _ (List.mem_append_left _ (List.mem_of_getElem? h)))))
theorem qq_X4_hits_3 {c : Cond} (j : Nat) (h : wsX4_hits_r4[j]? = some c) : c ∈ wsX4_hits := List.mem_cons_of_mem _ (List.mem_append_left _ (List.mem_append_right _ (List.mem_append_right _ (List.mem_append_right _ (List.mem_of_getElem? h)))))
theorem uq_X4_hits_X4 : wsub wsX40 wsX4_hits := fun _ h => List.mem_cons_of_mem _ (List.mem_append_right _ (h))
set_option maxRecDepth 20000 in
theorem ggX4_hits_X4_isLine : GoodIn wsX4_hits wsX4_isLine := goodIn_sub (sb_c (qq_X4_hits_0 3 rfl) (sb_c (qq_X4_hits_0 4 rfl) (sb_c (qq_X4_hits_0 5 rfl) (sb_c (qq_X4_hits_0 2 rfl) (sb_c (qq_X4_hits_0 6 rfl) sb_n))))) gw_X4_isLine
set_option maxRecDepth 20000 in
theorem gX4_hits_X4_isLine : GoodIn wsX4_hits (va_wsS RX4 99 yX4_isLine wsX4_isLine) := goodIn_app (goodIn_sub (sb_c (qq_X4_hits_0 0 rfl) (sb_c (qq_X4_hits_0 1 rfl) (sb_c (qq_X4_hits_0 2 rfl) sb_n))) (by decide +kernel)) ggX4_hits_X4_isLine
set_option maxRecDepth 20000 in
theorem gw_X4_hitsOf : wsX4_hitsOf.all goodWord = true := by decide +kernel
set_option maxRecDepth 20000 in
theorem ggX4_hits_X4_hitsOf : GoodIn wsX4_hits wsX4_hitsOf := goodIn_sub (sb_c (qq_X4_hits_0 10 rfl) (sb_a (sb_a (sb_c (qq_X4_hits_0 11 rfl) (sb_c (qq_X4_hits_0 12 rfl) (sb_c (qq_X4_hits_0 13 rfl) (sb_c (qq_X4_hits_0 14 rfl) (sb_c (qq_X4_hits_0 2 rfl) (sb_c (qq_X4_hits_0 15 rfl) (sb_c (qq_X4_hits_0 16 rfl) (sb_c (qq_X4_hits_0 17 rfl) (sb_c (qq_X4_hits_0 18 rfl) (sb_c (qq_X4_hits_0 19 rfl) (sb_c (qq_X4_hits_0 20 rfl) (sb_c (qq_X4_hits_0 21 rfl) (sb_c (qq_X4_hits_0 22 rfl) (sb_c (qq_X4_hits_0 23 rfl) (sb_c (qq_X4_hits_1 0 rfl) (sb_c (qq_X4_hits_1 1 rfl) (sb_c (qq_X4_hits_1 2 rfl) (sb_c (qq_X4_hits_1 3 rfl) (sb_c (qq_X4_hits_1 4 rfl) (sb_c (qq_X4_hits_1 5 rfl) (sb_c (qq_X4_hits_1 6 rfl) (sb_c (qq_X4_hits_1 7 rfl) (sb_c (qq_X4_hits_1 8 rfl) (sb_c (qq_X4_hits_1 9 rfl) sb_n)))))))))))))))))))))))) (sb_a (sb_c (qq_X4_hits_1 10 rfl) (sb_c (qq_X4_hits_1 11 rfl) (sb_c (qq_X4_hits_1 12 rfl) (sb_c (qq_X4_hits_1 13 rfl) (sb_c (qq_X4_hits_1 14 rfl) (sb_c (qq_X4_hits_1 15 rfl) (sb_c (qq_X4_hits_1 16 rfl) (sb_c (qq_X4_hits_1 17 rfl) (sb_c (qq_X4_hits_1 18 rfl) (sb_c (qq_X4_hits_1 19 rfl) (sb_c (qq_X4_hits_0 0 rfl) (sb_c (qq_X4_hits_0 1 rfl) (sb_c (qq_X4_hits_0 3 rfl) (sb_c (qq_X4_hits_0 4 rfl) (sb_c (qq_X4_hits_0 5 rfl) (sb_c (qq_X4_hits_0 6 rfl) (sb_c (qq_X4_hits_1 20 rfl) (sb_c (qq_X4_hits_1 21 rfl) (sb_c (qq_X4_hits_1 22 rfl) (sb_c (qq_X4_hits_1 23 rfl) (sb_c (qq_X4_hits_2 0 rfl) (sb_c (qq_X4_hits_2 1 rfl) (sb_c (qq_X4_hits_2 2 rfl) (sb_c (qq_X4_hits_2 3 rfl) sb_n)))))))))))))))))))))))) (sb_a (sb_c (qq_X4_hits_2 4 rfl) (sb_c (qq_X4_hits_2 5 rfl) (sb_c (qq_X4_hits_2 6 rfl) (sb_c (qq_X4_hits_2 7 rfl) (sb_c (qq_X4_hits_2 8 rfl) (sb_c (qq_X4_hits_2 9 rfl) (sb_c (qq_X4_hits_2 10 rfl) (sb_c (qq_X4_hits_2 11 rfl) (sb_c (qq_X4_hits_2 12 rfl) (sb_c (qq_X4_hits_2 13 rfl) (sb_c (qq_X4_hits_2 14 rfl) (sb_c (qq_X4_hits_2 15 rfl) (sb_c (qq_X4_hits_2 16 rfl) (sb_c (qq_X4_hits_2 17 rfl) (sb_c (qq_X4_hits_2 18 rfl) (sb_c (qq_X4_hits_2 19 rfl) (sb_c (qq_X4_hits_2 20 rfl) (sb_c (qq_X4_hits_2 21 rfl) (sb_c (qq_X4_hits_2 22 rfl) (sb_c (qq_X4_hits_2 23 rfl) (sb_c (qq_X4_hits_3 0 rfl) (sb_c (qq_X4_hits_3 1 rfl) (sb_c (qq_X4_hits_3 2 rfl) (sb_c (qq_X4_hits_3 3 rfl) sb_n)))))))))))))))))))))))) (sb_c (qq_X4_hits_3 4 rfl) (sb_c (qq_X4_hits_3 5 rfl) (sb_c (qq_X4_hits_3 6 rfl) (sb_c (qq_X4_hits_3 7 rfl) sb_n))))))) (uq_X4_hits_X4))) gw_X4_hitsOf
set_option maxRecDepth 20000 in
theorem gX4_hits_X4_hitsOf : GoodIn wsX4_hits (wsV RX4 171 RX4 yX4_hitsOf wsX4_hitsOf) := goodIn_app (goodIn_sub (sb_c (qq_X4_hits_0 7 rfl) (sb_c (qq_X4_hits_0 8 rfl) (sb_c (qq_X4_hits_0 9 rfl) (sb_c (qq_X4_hits_0 2 rfl) sb_n)))) (by decide +kernel)) ggX4_hits_X4_hitsOf
theorem dX4_hits_0 : decode cX4_hits 0 = .ok (.iload_n 1, 1) := by decide +kernel
theorem dX4_hits_1 : decode cX4_hits 1 = .ok (.invokestatic 99, 3) := by decide +kernel
theorem dX4_hits_4 : decode cX4_hits 4 = .ok (.ifCond .eq 11, 3) := by decide +kernel
theorem dX4_hits_7 : decode cX4_hits 7 = .ok (.aload_n 0, 1) := by decide +kernel
theorem dX4_hits_8 : decode cX4_hits 8 = .ok (.iload_n 1, 1) := by decide +kernel
theorem dX4_hits_9 : decode cX4_hits 9 = .ok (.invokevirtual 171, 3) := by decide +kernel
theorem dX4_hits_12 : decode cX4_hits 12 = .ok (.goto 5, 3) := by decide +kernel
theorem dX4_hits_15 : decode cX4_hits 15 = .ok (.bipush (-2), 2) := by decide +kernel
theorem dX4_hits_17 : decode cX4_hits 17 = .ok (.ireturn, 1) := by decide +kernel
theorem qq_X4_hitOf_0 {c : Cond} (j : Nat) (h : wsX4_hitOf_r1[j]? = some c) : c ∈ wsX4_hitOf := List.mem_cons_of_mem _ (List.mem_append_left _ (List.mem_append_left _ (List.mem_of_getElem? h)))
theorem qq_X4_hitOf_1 {c : Cond} (j : Nat) (h : wsX4_hitOf_r2[j]? = some c) : c ∈ wsX4_hitOf := List.mem_cons_of_mem _ (List.mem_append_left _ (List.mem_append_right _ (List.mem_append_left _ (List.mem_of_getElem? h))))
theorem qq_X4_hitOf_2 {c : Cond} (j : Nat) (h : wsX4_hitOf_r3[j]? = some c) : c ∈ wsX4_hitOf := List.mem_cons_of_mem _ (List.mem_append_left _ (List.mem_append_right _ (List.mem_append_right _ (List.mem_append_left _ (List.mem_of_getElem? h)))))
theorem qq_X4_hitOf_3 {c : Cond} (j : Nat) (h : wsX4_hitOf_r4[j]? = some c) : c ∈ wsX4_hitOf := List.mem_cons_of_mem _ (List.mem_append_left _ (List.mem_append_right _ (List.mem_append_right _ (List.mem_append_right _ (List.mem_of_getElem? h)))))
theorem uq_X4_hitOf_X4 : wsub wsX40 wsX4_hitOf := fun _ h => List.mem_cons_of_mem _ (List.mem_append_right _ (h))
set_option maxRecDepth 20000 in
theorem ggX4_hitOf_X4_runsTold : GoodIn wsX4_hitOf wsX4_runsTold := goodIn_sub (sb_c (qq_X4_hitOf_0 7 rfl) (sb_a (sb_a (sb_c (qq_X4_hitOf_0 8 rfl) (sb_c (qq_X4_hitOf_0 9 rfl) (sb_c (qq_X4_hitOf_0 10 rfl) (sb_c (qq_X4_hitOf_0 6 rfl) (sb_c (qq_X4_hitOf_0 11 rfl) (sb_c (qq_X4_hitOf_0 12 rfl) (sb_c (qq_X4_hitOf_0 13 rfl) (sb_c (qq_X4_hitOf_0 14 rfl) (sb_c (qq_X4_hitOf_0 15 rfl) (sb_c (qq_X4_hitOf_0 16 rfl) (sb_c (qq_X4_hitOf_0 17 rfl) (sb_c (qq_X4_hitOf_0 18 rfl) (sb_c (qq_X4_hitOf_0 19 rfl) (sb_c (qq_X4_hitOf_0 20 rfl) (sb_c (qq_X4_hitOf_0 21 rfl) (sb_c (qq_X4_hitOf_0 22 rfl) (sb_c (qq_X4_hitOf_0 23 rfl) (sb_c (qq_X4_hitOf_1 0 rfl) (sb_c (qq_X4_hitOf_1 1 rfl) (sb_c (qq_X4_hitOf_1 2 rfl) (sb_c (qq_X4_hitOf_1 3 rfl) (sb_c (qq_X4_hitOf_1 4 rfl) (sb_c (qq_X4_hitOf_1 5 rfl) (sb_c (qq_X4_hitOf_1 6 rfl) sb_n)))))))))))))))))))))))) (sb_a (sb_c (qq_X4_hitOf_1 7 rfl) (sb_c (qq_X4_hitOf_1 8 rfl) (sb_c (qq_X4_hitOf_0 0 rfl) (sb_c (qq_X4_hitOf_0 1 rfl) (sb_c (qq_X4_hitOf_0 2 rfl) (sb_c (qq_X4_hitOf_1 9 rfl) (sb_c (qq_X4_hitOf_1 10 rfl) (sb_c (qq_X4_hitOf_1 11 rfl) (sb_c (qq_X4_hitOf_1 12 rfl) (sb_c (qq_X4_hitOf_1 13 rfl) (sb_c (qq_X4_hitOf_1 14 rfl) (sb_c (qq_X4_hitOf_1 15 rfl) (sb_c (qq_X4_hitOf_1 16 rfl) (sb_c (qq_X4_hitOf_1 17 rfl) (sb_c (qq_X4_hitOf_1 18 rfl) (sb_c (qq_X4_hitOf_1 19 rfl) (sb_c (qq_X4_hitOf_1 20 rfl) (sb_c (qq_X4_hitOf_1 21 rfl) (sb_c (qq_X4_hitOf_1 22 rfl) (sb_c (qq_X4_hitOf_1 23 rfl) (sb_c (qq_X4_hitOf_2 0 rfl) (sb_c (qq_X4_hitOf_2 1 rfl) (sb_c (qq_X4_hitOf_2 2 rfl) (sb_c (qq_X4_hitOf_2 3 rfl) sb_n)))))))))))))))))))))))) (sb_c (qq_X4_hitOf_2 4 rfl) (sb_c (qq_X4_hitOf_2 5 rfl) (sb_c (qq_X4_hitOf_2 6 rfl) (sb_c (qq_X4_hitOf_2 7 rfl) (sb_c (qq_X4_hitOf_2 8 rfl) (sb_c (qq_X4_hitOf_2 9 rfl) (sb_c (qq_X4_hitOf_2 10 rfl) (sb_c (qq_X4_hitOf_2 11 rfl) (sb_c (qq_X4_hitOf_2 12 rfl) (sb_c (qq_X4_hitOf_2 13 rfl) (sb_c (qq_X4_hitOf_2 14 rfl) (sb_c (qq_X4_hitOf_2 15 rfl) (sb_c (qq_X4_hitOf_2 16 rfl) (sb_c (qq_X4_hitOf_2 17 rfl) (sb_c (qq_X4_hitOf_2 18 rfl) (sb_c (qq_X4_hitOf_2 19 rfl) (sb_c (qq_X4_hitOf_2 20 rfl) (sb_c (qq_X4_hitOf_2 21 rfl) (sb_c (qq_X4_hitOf_2 22 rfl) (sb_c (qq_X4_hitOf_2 23 rfl) (sb_c (qq_X4_hitOf_3 0 rfl) (sb_c (qq_X4_hitOf_3 1 rfl) (sb_c (qq_X4_hitOf_3 2 rfl) (sb_c (qq_X4_hitOf_3 3 rfl) sb_n)))))))))))))))))))))))))) (uq_X4_hitOf_X4))) gw_X4_runsTold
set_option maxRecDepth 20000 in
theorem gX4_hitOf_X4_runsTold : GoodIn wsX4_hitOf (wsV RX4 168 RX4 yX4_runsTold wsX4_runsTold) := goodIn_app (goodIn_sub (sb_c (qq_X4_hitOf_0 3 rfl) (sb_c (qq_X4_hitOf_0 4 rfl) (sb_c (qq_X4_hitOf_0 5 rfl) (sb_c (qq_X4_hitOf_0 6 rfl) sb_n)))) (by decide +kernel)) ggX4_hitOf_X4_runsTold
theorem dX4_hitOf_0 : decode cX4_hitOf 0 = .ok (.aload_n 0, 1) := by decide +kernel
theorem dX4_hitOf_1 : decode cX4_hitOf 1 = .ok (.invokevirtual 168, 3) := by decide +kernel
theorem dX4_hitOf_4 : decode cX4_hitOf 4 = .ok (.iload_n 2, 1) := by decide +kernel
theorem dX4_hitOf_5 : decode cX4_hitOf 5 = .ok (.aload_n 0, 1) := by decide +kernel
theorem dX4_hitOf_6 : decode cX4_hitOf 6 = .ok (.getfield 31, 3) := by decide +kernel
theorem dX4_hitOf_9 : decode cX4_hitOf 9 = .ok (.iload_n 1, 1) := by decide +kernel
theorem dX4_hitOf_10 : decode cX4_hitOf 10 = .ok (.iaload, 1) := by decide +kernel
theorem dX4_hitOf_11 : decode cX4_hitOf 11 = .ok (.if_icmp .lt 7, 3) := by decide +kernel
theorem dX4_hitOf_14 : decode cX4_hitOf 14 = .ok (.iconst (-1), 1) := by decide +kernel
theorem dX4_hitOf_15 : decode cX4_hitOf 15 = .ok (.goto 32, 3) := by decide +kernel
theorem dX4_hitOf_18 : decode cX4_hitOf 18 = .ok (.iload_n 3, 1) := by decide +kernel
theorem dX4_hitOf_19 : decode cX4_hitOf 19 = .ok (.ifCond .ne 17, 3) := by decide +kernel
theorem dX4_hitOf_22 : decode cX4_hitOf 22 = .ok (.aload_n 0, 1) := by decide +kernel
theorem dX4_hitOf_23 : decode cX4_hitOf 23 = .ok (.getfield 34, 3) := by decide +kernel
theorem dX4_hitOf_26 : decode cX4_hitOf 26 = .ok (.bipush 12, 2) := by decide +kernel
theorem dX4_hitOf_28 : decode cX4_hitOf 28 = .ok (.iload_n 1, 1) := by decide +kernel
theorem dX4_hitOf_29 : decode cX4_hitOf 29 = .ok (.imul, 1) := by decide +kernel
theorem dX4_hitOf_30 : decode cX4_hitOf 30 = .ok (.iload_n 2, 1) := by decide +kernel
theorem dX4_hitOf_31 : decode cX4_hitOf 31 = .ok (.iadd, 1) := by decide +kernel
theorem dX4_hitOf_32 : decode cX4_hitOf 32 = .ok (.iaload, 1) := by decide +kernel
theorem dX4_hitOf_33 : decode cX4_hitOf 33 = .ok (.goto 14, 3) := by decide +kernel
theorem dX4_hitOf_36 : decode cX4_hitOf 36 = .ok (.aload_n 0, 1) := by decide +kernel
theorem dX4_hitOf_37 : decode cX4_hitOf 37 = .ok (.getfield 37, 3) := by decide +kernel
theorem dX4_hitOf_40 : decode cX4_hitOf 40 = .ok (.bipush 12, 2) := by decide +kernel
theorem dX4_hitOf_42 : decode cX4_hitOf 42 = .ok (.iload_n 1, 1) := by decide +kernel
theorem dX4_hitOf_43 : decode cX4_hitOf 43 = .ok (.imul, 1) := by decide +kernel
theorem dX4_hitOf_44 : decode cX4_hitOf 44 = .ok (.iload_n 2, 1) := by decide +kernel
theorem dX4_hitOf_45 : decode cX4_hitOf 45 = .ok (.iadd, 1) := by decide +kernel
theorem dX4_hitOf_46 : decode cX4_hitOf 46 = .ok (.iaload, 1) := by decide +kernel
theorem dX4_hitOf_47 : decode cX4_hitOf 47 = .ok (.ireturn, 1) := by decide +kernel
theorem qq_X4_hit_0 {c : Cond} (j : Nat) (h : wsX4_hit_r1[j]? = some c) : c ∈ wsX4_hit := List.mem_cons_of_mem _ (List.mem_append_left _ (List.mem_append_left _ (List.mem_of_getElem? h)))
theorem qq_X4_hit_1 {c : Cond} (j : Nat) (h : wsX4_hit_r2[j]? = some c) : c ∈ wsX4_hit := List.mem_cons_of_mem _ (List.mem_append_left _ (List.mem_append_right _ (List.mem_append_left _ (List.mem_of_getElem? h))))
theorem qq_X4_hit_2 {c : Cond} (j : Nat) (h : wsX4_hit_r3[j]? = some c) : c ∈ wsX4_hit := List.mem_cons_of_mem _ (List.mem_append_left _ (List.mem_append_right _ (List.mem_append_right _ (List.mem_append_left _ (List.mem_of_getElem? h)))))
theorem qq_X4_hit_3 {c : Cond} (j : Nat) (h : wsX4_hit_r4[j]? = some c) : c ∈ wsX4_hit := List.mem_cons_of_mem _ (List.mem_append_left _ (List.mem_append_right _ (List.mem_append_right _ (List.mem_append_right _ (List.mem_of_getElem? h)))))
theorem uq_X4_hit_X4 : wsub wsX40 wsX4_hit := fun _ h => List.mem_cons_of_mem _ (List.mem_append_right _ (h))
set_option maxRecDepth 20000 in
theorem ggX4_hit_X4_isLine : GoodIn wsX4_hit wsX4_isLine := goodIn_sub (sb_c (qq_X4_hit_0 3 rfl) (sb_c (qq_X4_hit_0 4 rfl) (sb_c (qq_X4_hit_0 5 rfl) (sb_c (qq_X4_hit_0 2 rfl) (sb_c (qq_X4_hit_0 6 rfl) sb_n))))) gw_X4_isLine
set_option maxRecDepth 20000 in
theorem gX4_hit_X4_isLine : GoodIn wsX4_hit (va_wsS RX4 99 yX4_isLine wsX4_isLine) := goodIn_app (goodIn_sub (sb_c (qq_X4_hit_0 0 rfl) (sb_c (qq_X4_hit_0 1 rfl) (sb_c (qq_X4_hit_0 2 rfl) sb_n))) (by decide +kernel)) ggX4_hit_X4_isLine
set_option maxRecDepth 20000 in
theorem ggX4_hit_X4_in : GoodIn wsX4_hit wsX4_in := goodIn_sub (sb_c (qq_X4_hit_0 6 rfl) (sb_n)) gw_X4_in
set_option maxRecDepth 20000 in
theorem gX4_hit_X4_in : GoodIn wsX4_hit (va_wsS RX4 95 yX4_in wsX4_in) := goodIn_app (goodIn_sub (sb_c (qq_X4_hit_0 4 rfl) (sb_c (qq_X4_hit_0 5 rfl) (sb_c (qq_X4_hit_0 2 rfl) sb_n))) (by decide +kernel)) ggX4_hit_X4_in
set_option maxRecDepth 20000 in
theorem ggX4_hit_X4_isTwo : GoodIn wsX4_hit wsX4_isTwo := goodIn_sub (sb_c (qq_X4_hit_0 9 rfl) (sb_c (qq_X4_hit_0 4 rfl) (sb_c (qq_X4_hit_0 5 rfl) (sb_c (qq_X4_hit_0 2 rfl) (sb_c (qq_X4_hit_0 6 rfl) sb_n))))) gw_X4_isTwo
set_option maxRecDepth 20000 in
theorem gX4_hit_X4_isTwo : GoodIn wsX4_hit (va_wsS RX4 107 yX4_isTwo wsX4_isTwo) := goodIn_app (goodIn_sub (sb_c (qq_X4_hit_0 7 rfl) (sb_c (qq_X4_hit_0 8 rfl) (sb_c (qq_X4_hit_0 2 rfl) sb_n))) (by decide +kernel)) ggX4_hit_X4_isTwo
set_option maxRecDepth 20000 in
theorem gw_X4_hitOf : wsX4_hitOf.all goodWord = true := by decide +kernel
set_option maxRecDepth 20000 in
theorem ggX4_hit_X4_hitOf : GoodIn wsX4_hit wsX4_hitOf := goodIn_sub (sb_c (qq_X4_hit_0 13 rfl) (sb_a (sb_a (sb_c (qq_X4_hit_0 14 rfl) (sb_c (qq_X4_hit_0 15 rfl) (sb_c (qq_X4_hit_0 16 rfl) (sb_c (qq_X4_hit_0 17 rfl) (sb_c (qq_X4_hit_0 18 rfl) (sb_c (qq_X4_hit_0 19 rfl) (sb_c (qq_X4_hit_0 2 rfl) (sb_c (qq_X4_hit_0 20 rfl) (sb_c (qq_X4_hit_0 21 rfl) (sb_c (qq_X4_hit_0 22 rfl) (sb_c (qq_X4_hit_0 23 rfl) (sb_c (qq_X4_hit_1 0 rfl) (sb_c (qq_X4_hit_1 1 rfl) (sb_c (qq_X4_hit_1 2 rfl) (sb_c (qq_X4_hit_1 3 rfl) (sb_c (qq_X4_hit_1 4 rfl) (sb_c (qq_X4_hit_1 5 rfl) (sb_c (qq_X4_hit_1 6 rfl) (sb_c (qq_X4_hit_1 7 rfl) (sb_c (qq_X4_hit_1 8 rfl) (sb_c (qq_X4_hit_1 9 rfl) (sb_c (qq_X4_hit_1 10 rfl) (sb_c (qq_X4_hit_1 11 rfl) (sb_c (qq_X4_hit_1 12 rfl) sb_n)))))))))))))))))))))))) (sb_a (sb_c (qq_X4_hit_1 13 rfl) (sb_c (qq_X4_hit_1 14 rfl) (sb_c (qq_X4_hit_1 15 rfl) (sb_c (qq_X4_hit_1 16 rfl) (sb_c (qq_X4_hit_1 17 rfl) (sb_c (qq_X4_hit_1 18 rfl) (sb_c (qq_X4_hit_1 19 rfl) (sb_c (qq_X4_hit_1 20 rfl) (sb_c (qq_X4_hit_1 21 rfl) (sb_c (qq_X4_hit_1 22 rfl) (sb_c (qq_X4_hit_0 0 rfl) (sb_c (qq_X4_hit_0 1 rfl) (sb_c (qq_X4_hit_0 3 rfl) (sb_c (qq_X4_hit_0 4 rfl) (sb_c (qq_X4_hit_0 5 rfl) (sb_c (qq_X4_hit_0 6 rfl) (sb_c (qq_X4_hit_1 23 rfl) (sb_c (qq_X4_hit_2 0 rfl) (sb_c (qq_X4_hit_2 1 rfl) (sb_c (qq_X4_hit_2 2 rfl) (sb_c (qq_X4_hit_2 3 rfl) (sb_c (qq_X4_hit_2 4 rfl) (sb_c (qq_X4_hit_2 5 rfl) (sb_c (qq_X4_hit_2 6 rfl) sb_n)))))))))))))))))))))))) (sb_a (sb_c (qq_X4_hit_2 7 rfl) (sb_c (qq_X4_hit_2 8 rfl) (sb_c (qq_X4_hit_2 9 rfl) (sb_c (qq_X4_hit_2 10 rfl) (sb_c (qq_X4_hit_2 11 rfl) (sb_c (qq_X4_hit_2 12 rfl) (sb_c (qq_X4_hit_2 13 rfl) (sb_c (qq_X4_hit_2 14 rfl) (sb_c (qq_X4_hit_2 15 rfl) (sb_c (qq_X4_hit_2 16 rfl) (sb_c (qq_X4_hit_2 17 rfl) (sb_c (qq_X4_hit_2 18 rfl) (sb_c (qq_X4_hit_2 19 rfl) (sb_c (qq_X4_hit_2 20 rfl) (sb_c (qq_X4_hit_2 21 rfl) (sb_c (qq_X4_hit_2 22 rfl) (sb_c (qq_X4_hit_2 23 rfl) (sb_c (qq_X4_hit_3 0 rfl) (sb_c (qq_X4_hit_3 1 rfl) (sb_c (qq_X4_hit_3 2 rfl) (sb_c (qq_X4_hit_3 3 rfl) (sb_c (qq_X4_hit_3 4 rfl) (sb_c (qq_X4_hit_3 5 rfl) (sb_c (qq_X4_hit_3 6 rfl) sb_n)))))))))))))))))))))))) (sb_c (qq_X4_hit_3 7 rfl) (sb_c (qq_X4_hit_3 8 rfl) (sb_c (qq_X4_hit_3 9 rfl) (sb_c (qq_X4_hit_3 10 rfl) sb_n))))))) (uq_X4_hit_X4))) gw_X4_hitOf
set_option maxRecDepth 20000 in
theorem gX4_hit_X4_hitOf : GoodIn wsX4_hit (wsV RX4 174 RX4 yX4_hitOf wsX4_hitOf) := goodIn_app (goodIn_sub (sb_c (qq_X4_hit_0 10 rfl) (sb_c (qq_X4_hit_0 11 rfl) (sb_c (qq_X4_hit_0 12 rfl) (sb_c (qq_X4_hit_0 2 rfl) sb_n)))) (by decide +kernel)) ggX4_hit_X4_hitOf
theorem dX4_hit_0 : decode cX4_hit 0 = .ok (.iload_n 1, 1) := by decide +kernel
theorem dX4_hit_1 : decode cX4_hit 1 = .ok (.invokestatic 99, 3) := by decide +kernel
theorem dX4_hit_4 : decode cX4_hit 4 = .ok (.ifCond .eq 30, 3) := by decide +kernel
theorem dX4_hit_7 : decode cX4_hit 7 = .ok (.iload_n 2, 1) := by decide +kernel
theorem dX4_hit_8 : decode cX4_hit 8 = .ok (.iconst 0, 1) := by decide +kernel
theorem dX4_hit_9 : decode cX4_hit 9 = .ok (.bipush 11, 2) := by decide +kernel
theorem dX4_hit_11 : decode cX4_hit 11 = .ok (.invokestatic 95, 3) := by decide +kernel
theorem dX4_hit_14 : decode cX4_hit 14 = .ok (.ifCond .eq 20, 3) := by decide +kernel
theorem dX4_hit_17 : decode cX4_hit 17 = .ok (.iload_n 3, 1) := by decide +kernel
theorem dX4_hit_18 : decode cX4_hit 18 = .ok (.invokestatic 107, 3) := by decide +kernel
theorem dX4_hit_21 : decode cX4_hit 21 = .ok (.ifCond .eq 13, 3) := by decide +kernel
theorem dX4_hit_24 : decode cX4_hit 24 = .ok (.aload_n 0, 1) := by decide +kernel
theorem dX4_hit_25 : decode cX4_hit 25 = .ok (.iload_n 1, 1) := by decide +kernel
theorem dX4_hit_26 : decode cX4_hit 26 = .ok (.iload_n 2, 1) := by decide +kernel
theorem dX4_hit_27 : decode cX4_hit 27 = .ok (.iload_n 3, 1) := by decide +kernel
theorem dX4_hit_28 : decode cX4_hit 28 = .ok (.invokevirtual 174, 3) := by decide +kernel
theorem dX4_hit_31 : decode cX4_hit 31 = .ok (.goto 5, 3) := by decide +kernel
theorem dX4_hit_34 : decode cX4_hit 34 = .ok (.bipush (-2), 2) := by decide +kernel
theorem dX4_hit_36 : decode cX4_hit 36 = .ok (.ireturn, 1) := by decide +kernel
theorem qq_X4_byOf_0 {c : Cond} (j : Nat) (h : wsX4_byOf_r1[j]? = some c) : c ∈ wsX4_byOf := List.mem_cons_of_mem _ (List.mem_append_left _ (List.mem_append_left _ (List.mem_of_getElem? h)))
theorem qq_X4_byOf_1 {c : Cond} (j : Nat) (h : wsX4_byOf_r2[j]? = some c) : c ∈ wsX4_byOf := List.mem_cons_of_mem _ (List.mem_append_left _ (List.mem_append_right _ (List.mem_append_left _ (List.mem_of_getElem? h))))
theorem qq_X4_byOf_2 {c : Cond} (j : Nat) (h : wsX4_byOf_r3[j]? = some c) : c ∈ wsX4_byOf := List.mem_cons_of_mem _ (List.mem_append_left _ (List.mem_append_right _ (List.mem_append_right _ (List.mem_append_left _ (List.mem_of_getElem? h)))))
theorem qq_X4_byOf_3 {c : Cond} (j : Nat) (h : wsX4_byOf_r4[j]? = some c) : c ∈ wsX4_byOf := List.mem_cons_of_mem _ (List.mem_append_left _ (List.mem_append_right _ (List.mem_append_right _ (List.mem_append_right _ (List.mem_of_getElem? h)))))
theorem uq_X4_byOf_X4 : wsub wsX40 wsX4_byOf := fun _ h => List.mem_cons_of_mem _ (List.mem_append_right _ (h))
set_option maxRecDepth 20000 in
theorem ggX4_byOf_X4_runsTold : GoodIn wsX4_byOf wsX4_runsTold := goodIn_sub (sb_c (qq_X4_byOf_0 5 rfl) (sb_a (sb_a (sb_c (qq_X4_byOf_0 6 rfl) (sb_c (qq_X4_byOf_0 7 rfl) (sb_c (qq_X4_byOf_0 8 rfl) (sb_c (qq_X4_byOf_0 4 rfl) (sb_c (qq_X4_byOf_0 9 rfl) (sb_c (qq_X4_byOf_0 10 rfl) (sb_c (qq_X4_byOf_0 11 rfl) (sb_c (qq_X4_byOf_0 12 rfl) (sb_c (qq_X4_byOf_0 13 rfl) (sb_c (qq_X4_byOf_0 14 rfl) (sb_c (qq_X4_byOf_0 15 rfl) (sb_c (qq_X4_byOf_0 16 rfl) (sb_c (qq_X4_byOf_0 17 rfl) (sb_c (qq_X4_byOf_0 18 rfl) (sb_c (qq_X4_byOf_0 19 rfl) (sb_c (qq_X4_byOf_0 20 rfl) (sb_c (qq_X4_byOf_0 21 rfl) (sb_c (qq_X4_byOf_0 22 rfl) (sb_c (qq_X4_byOf_0 23 rfl) (sb_c (qq_X4_byOf_1 0 rfl) (sb_c (qq_X4_byOf_1 1 rfl) (sb_c (qq_X4_byOf_1 2 rfl) (sb_c (qq_X4_byOf_1 3 rfl) (sb_c (qq_X4_byOf_1 4 rfl) sb_n)))))))))))))))))))))))) (sb_a (sb_c (qq_X4_byOf_1 5 rfl) (sb_c (qq_X4_byOf_1 6 rfl) (sb_c (qq_X4_byOf_1 7 rfl) (sb_c (qq_X4_byOf_1 8 rfl) (sb_c (qq_X4_byOf_1 9 rfl) (sb_c (qq_X4_byOf_1 10 rfl) (sb_c (qq_X4_byOf_1 11 rfl) (sb_c (qq_X4_byOf_1 12 rfl) (sb_c (qq_X4_byOf_1 13 rfl) (sb_c (qq_X4_byOf_1 14 rfl) (sb_c (qq_X4_byOf_1 15 rfl) (sb_c (qq_X4_byOf_1 16 rfl) (sb_c (qq_X4_byOf_1 17 rfl) (sb_c (qq_X4_byOf_1 18 rfl) (sb_c (qq_X4_byOf_1 19 rfl) (sb_c (qq_X4_byOf_1 20 rfl) (sb_c (qq_X4_byOf_0 0 rfl) (sb_c (qq_X4_byOf_1 21 rfl) (sb_c (qq_X4_byOf_1 22 rfl) (sb_c (qq_X4_byOf_1 23 rfl) (sb_c (qq_X4_byOf_2 0 rfl) (sb_c (qq_X4_byOf_2 1 rfl) (sb_c (qq_X4_byOf_2 2 rfl) (sb_c (qq_X4_byOf_2 3 rfl) sb_n)))))))))))))))))))))))) (sb_c (qq_X4_byOf_2 4 rfl) (sb_c (qq_X4_byOf_2 5 rfl) (sb_c (qq_X4_byOf_2 6 rfl) (sb_c (qq_X4_byOf_2 7 rfl) (sb_c (qq_X4_byOf_2 8 rfl) (sb_c (qq_X4_byOf_2 9 rfl) (sb_c (qq_X4_byOf_2 10 rfl) (sb_c (qq_X4_byOf_2 11 rfl) (sb_c (qq_X4_byOf_2 12 rfl) (sb_c (qq_X4_byOf_2 13 rfl) (sb_c (qq_X4_byOf_2 14 rfl) (sb_c (qq_X4_byOf_2 15 rfl) (sb_c (qq_X4_byOf_2 16 rfl) (sb_c (qq_X4_byOf_2 17 rfl) (sb_c (qq_X4_byOf_2 18 rfl) (sb_c (qq_X4_byOf_2 19 rfl) (sb_c (qq_X4_byOf_2 20 rfl) (sb_c (qq_X4_byOf_2 21 rfl) (sb_c (qq_X4_byOf_2 22 rfl) (sb_c (qq_X4_byOf_2 23 rfl) (sb_c (qq_X4_byOf_3 0 rfl) (sb_c (qq_X4_byOf_3 1 rfl) (sb_c (qq_X4_byOf_3 2 rfl) (sb_c (qq_X4_byOf_3 3 rfl) sb_n)))))))))))))))))))))))))) (uq_X4_byOf_X4))) gw_X4_runsTold
set_option maxRecDepth 20000 in
theorem gX4_byOf_X4_runsTold : GoodIn wsX4_byOf (wsV RX4 168 RX4 yX4_runsTold wsX4_runsTold) := goodIn_app (goodIn_sub (sb_c (qq_X4_byOf_0 1 rfl) (sb_c (qq_X4_byOf_0 2 rfl) (sb_c (qq_X4_byOf_0 3 rfl) (sb_c (qq_X4_byOf_0 4 rfl) sb_n)))) (by decide +kernel)) ggX4_byOf_X4_runsTold
set_option maxRecDepth 20000 in
theorem ggX4_byOf_X4_wants : GoodIn wsX4_byOf wsX4_wants := goodIn_sub (sb_c (qq_X4_byOf_2 23 rfl) (sb_a (sb_c (qq_X4_byOf_0 12 rfl) (sb_c (qq_X4_byOf_1 7 rfl) (sb_c (qq_X4_byOf_0 10 rfl) (sb_c (qq_X4_byOf_2 9 rfl) (sb_c (qq_X4_byOf_2 10 rfl) (sb_c (qq_X4_byOf_0 4 rfl) (sb_c (qq_X4_byOf_2 11 rfl) sb_n))))))) (uq_X4_byOf_X4))) gw_X4_wants
set_option maxRecDepth 20000 in
theorem gX4_byOf_X4_wants : GoodIn wsX4_byOf (wsV RX4 136 RX4 yX4_wants wsX4_wants) := goodIn_app (goodIn_sub (sb_c (qq_X4_byOf_2 20 rfl) (sb_c (qq_X4_byOf_2 21 rfl) (sb_c (qq_X4_byOf_2 22 rfl) (sb_c (qq_X4_byOf_0 4 rfl) sb_n)))) (by decide +kernel)) ggX4_byOf_X4_wants
theorem dX4_byOf_0 : decode cX4_byOf 0 = .ok (.aload_n 0, 1) := by decide +kernel
theorem dX4_byOf_1 : decode cX4_byOf 1 = .ok (.invokevirtual 168, 3) := by decide +kernel
theorem dX4_byOf_4 : decode cX4_byOf 4 = .ok (.iload_n 3, 1) := by decide +kernel
theorem dX4_byOf_5 : decode cX4_byOf 5 = .ok (.ifCond .ne 17, 3) := by decide +kernel
theorem dX4_byOf_8 : decode cX4_byOf 8 = .ok (.aload_n 0, 1) := by decide +kernel
theorem dX4_byOf_9 : decode cX4_byOf 9 = .ok (.getfield 46, 3) := by decide +kernel
theorem dX4_byOf_12 : decode cX4_byOf 12 = .ok (.bipush 8, 2) := by decide +kernel
theorem dX4_byOf_14 : decode cX4_byOf 14 = .ok (.iload_n 1, 1) := by decide +kernel
theorem dX4_byOf_15 : decode cX4_byOf 15 = .ok (.imul, 1) := by decide +kernel
theorem dX4_byOf_16 : decode cX4_byOf 16 = .ok (.iload_n 2, 1) := by decide +kernel
theorem dX4_byOf_17 : decode cX4_byOf 17 = .ok (.iadd, 1) := by decide +kernel
theorem dX4_byOf_18 : decode cX4_byOf 18 = .ok (.iaload, 1) := by decide +kernel
theorem dX4_byOf_19 : decode cX4_byOf 19 = .ok (.goto 9, 3) := by decide +kernel
theorem dX4_byOf_22 : decode cX4_byOf 22 = .ok (.aload_n 0, 1) := by decide +kernel
theorem dX4_byOf_23 : decode cX4_byOf 23 = .ok (.iload_n 1, 1) := by decide +kernel
theorem dX4_byOf_24 : decode cX4_byOf 24 = .ok (.iload_n 2, 1) := by decide +kernel
theorem dX4_byOf_25 : decode cX4_byOf 25 = .ok (.invokevirtual 136, 3) := by decide +kernel
theorem dX4_byOf_28 : decode cX4_byOf 28 = .ok (.ireturn, 1) := by decide +kernel
theorem qq_X4_by_0 {c : Cond} (j : Nat) (h : wsX4_by_r1[j]? = some c) : c ∈ wsX4_by := List.mem_cons_of_mem _ (List.mem_append_left _ (List.mem_append_left _ (List.mem_of_getElem? h)))
theorem qq_X4_by_1 {c : Cond} (j : Nat) (h : wsX4_by_r2[j]? = some c) : c ∈ wsX4_by := List.mem_cons_of_mem _ (List.mem_append_left _ (List.mem_append_right _ (List.mem_append_left _ (List.mem_of_getElem? h))))
theorem qq_X4_by_2 {c : Cond} (j : Nat) (h : wsX4_by_r3[j]? = some c) : c ∈ wsX4_by := List.mem_cons_of_mem _ (List.mem_append_left _ (List.mem_append_right _ (List.mem_append_right _ (List.mem_append_left _ (List.mem_of_getElem? h)))))
theorem qq_X4_by_3 {c : Cond} (j : Nat) (h : wsX4_by_r4[j]? = some c) : c ∈ wsX4_by := List.mem_cons_of_mem _ (List.mem_append_left _ (List.mem_append_right _ (List.mem_append_right _ (List.mem_append_right _ (List.mem_of_getElem? h)))))
theorem uq_X4_by_X4 : wsub wsX40 wsX4_by := fun _ h => List.mem_cons_of_mem _ (List.mem_append_right _ (h))
set_option maxRecDepth 20000 in
theorem ggX4_by_X4_isLine : GoodIn wsX4_by wsX4_isLine := goodIn_sub (sb_c (qq_X4_by_0 3 rfl) (sb_c (qq_X4_by_0 4 rfl) (sb_c (qq_X4_by_0 5 rfl) (sb_c (qq_X4_by_0 2 rfl) (sb_c (qq_X4_by_0 6 rfl) sb_n))))) gw_X4_isLine
set_option maxRecDepth 20000 in
theorem gX4_by_X4_isLine : GoodIn wsX4_by (va_wsS RX4 99 yX4_isLine wsX4_isLine) := goodIn_app (goodIn_sub (sb_c (qq_X4_by_0 0 rfl) (sb_c (qq_X4_by_0 1 rfl) (sb_c (qq_X4_by_0 2 rfl) sb_n))) (by decide +kernel)) ggX4_by_X4_isLine
set_option maxRecDepth 20000 in
theorem gw_X4_isColumn : wsX4_isColumn.all goodWord = true := by decide +kernel
set_option maxRecDepth 20000 in
theorem ggX4_by_X4_isColumn : GoodIn wsX4_by wsX4_isColumn := goodIn_sub (sb_c (qq_X4_by_0 9 rfl) (sb_c (qq_X4_by_0 4 rfl) (sb_c (qq_X4_by_0 5 rfl) (sb_c (qq_X4_by_0 2 rfl) (sb_c (qq_X4_by_0 6 rfl) sb_n))))) gw_X4_isColumn
set_option maxRecDepth 20000 in
theorem gX4_by_X4_isColumn : GoodIn wsX4_by (va_wsS RX4 178 yX4_isColumn wsX4_isColumn) := goodIn_app (goodIn_sub (sb_c (qq_X4_by_0 7 rfl) (sb_c (qq_X4_by_0 8 rfl) (sb_c (qq_X4_by_0 2 rfl) sb_n))) (by decide +kernel)) ggX4_by_X4_isColumn
set_option maxRecDepth 20000 in
theorem ggX4_by_X4_isTwo : GoodIn wsX4_by wsX4_isTwo := goodIn_sub (sb_c (qq_X4_by_0 12 rfl) (sb_c (qq_X4_by_0 4 rfl) (sb_c (qq_X4_by_0 5 rfl) (sb_c (qq_X4_by_0 2 rfl) (sb_c (qq_X4_by_0 6 rfl) sb_n))))) gw_X4_isTwo
set_option maxRecDepth 20000 in
theorem gX4_by_X4_isTwo : GoodIn wsX4_by (va_wsS RX4 107 yX4_isTwo wsX4_isTwo) := goodIn_app (goodIn_sub (sb_c (qq_X4_by_0 10 rfl) (sb_c (qq_X4_by_0 11 rfl) (sb_c (qq_X4_by_0 2 rfl) sb_n))) (by decide +kernel)) ggX4_by_X4_isTwo
set_option maxRecDepth 20000 in
theorem gw_X4_byOf : wsX4_byOf.all goodWord = true := by decide +kernel
set_option maxRecDepth 20000 in
theorem ggX4_by_X4_byOf : GoodIn wsX4_by wsX4_byOf := goodIn_sub (sb_c (qq_X4_by_0 16 rfl) (sb_a (sb_a (sb_c (qq_X4_by_0 17 rfl) (sb_c (qq_X4_by_0 18 rfl) (sb_c (qq_X4_by_0 19 rfl) (sb_c (qq_X4_by_0 20 rfl) (sb_c (qq_X4_by_0 2 rfl) (sb_c (qq_X4_by_0 21 rfl) (sb_c (qq_X4_by_0 22 rfl) (sb_c (qq_X4_by_0 23 rfl) (sb_c (qq_X4_by_1 0 rfl) (sb_c (qq_X4_by_1 1 rfl) (sb_c (qq_X4_by_1 2 rfl) (sb_c (qq_X4_by_1 3 rfl) (sb_c (qq_X4_by_1 4 rfl) (sb_c (qq_X4_by_1 5 rfl) (sb_c (qq_X4_by_1 6 rfl) (sb_c (qq_X4_by_1 7 rfl) (sb_c (qq_X4_by_1 8 rfl) (sb_c (qq_X4_by_1 9 rfl) (sb_c (qq_X4_by_1 10 rfl) (sb_c (qq_X4_by_1 11 rfl) (sb_c (qq_X4_by_1 12 rfl) (sb_c (qq_X4_by_1 13 rfl) (sb_c (qq_X4_by_1 14 rfl) (sb_c (qq_X4_by_1 15 rfl) sb_n)))))))))))))))))))))))) (sb_a (sb_c (qq_X4_by_1 16 rfl) (sb_c (qq_X4_by_1 17 rfl) (sb_c (qq_X4_by_1 18 rfl) (sb_c (qq_X4_by_1 19 rfl) (sb_c (qq_X4_by_1 20 rfl) (sb_c (qq_X4_by_1 21 rfl) (sb_c (qq_X4_by_1 22 rfl) (sb_c (qq_X4_by_1 23 rfl) (sb_c (qq_X4_by_2 0 rfl) (sb_c (qq_X4_by_2 1 rfl) (sb_c (qq_X4_by_2 2 rfl) (sb_c (qq_X4_by_0 0 rfl) (sb_c (qq_X4_by_0 1 rfl) (sb_c (qq_X4_by_0 3 rfl) (sb_c (qq_X4_by_0 4 rfl) (sb_c (qq_X4_by_0 5 rfl) (sb_c (qq_X4_by_0 6 rfl) (sb_c (qq_X4_by_2 3 rfl) (sb_c (qq_X4_by_2 4 rfl) (sb_c (qq_X4_by_2 5 rfl) (sb_c (qq_X4_by_2 6 rfl) (sb_c (qq_X4_by_2 7 rfl) (sb_c (qq_X4_by_2 8 rfl) (sb_c (qq_X4_by_2 9 rfl) sb_n)))))))))))))))))))))))) (sb_a (sb_c (qq_X4_by_2 10 rfl) (sb_c (qq_X4_by_2 11 rfl) (sb_c (qq_X4_by_2 12 rfl) (sb_c (qq_X4_by_2 13 rfl) (sb_c (qq_X4_by_2 14 rfl) (sb_c (qq_X4_by_2 15 rfl) (sb_c (qq_X4_by_2 16 rfl) (sb_c (qq_X4_by_2 17 rfl) (sb_c (qq_X4_by_2 18 rfl) (sb_c (qq_X4_by_2 19 rfl) (sb_c (qq_X4_by_2 20 rfl) (sb_c (qq_X4_by_2 21 rfl) (sb_c (qq_X4_by_2 22 rfl) (sb_c (qq_X4_by_2 23 rfl) (sb_c (qq_X4_by_3 0 rfl) (sb_c (qq_X4_by_3 1 rfl) (sb_c (qq_X4_by_3 2 rfl) (sb_c (qq_X4_by_3 3 rfl) (sb_c (qq_X4_by_3 4 rfl) (sb_c (qq_X4_by_3 5 rfl) (sb_c (qq_X4_by_3 6 rfl) (sb_c (qq_X4_by_3 7 rfl) (sb_c (qq_X4_by_3 8 rfl) (sb_c (qq_X4_by_3 9 rfl) sb_n)))))))))))))))))))))))) (sb_c (qq_X4_by_3 10 rfl) (sb_c (qq_X4_by_3 11 rfl) (sb_c (qq_X4_by_3 12 rfl) (sb_c (qq_X4_by_3 13 rfl) sb_n))))))) (uq_X4_by_X4))) gw_X4_byOf
set_option maxRecDepth 20000 in
theorem gX4_by_X4_byOf : GoodIn wsX4_by (wsV RX4 181 RX4 yX4_byOf wsX4_byOf) := goodIn_app (goodIn_sub (sb_c (qq_X4_by_0 13 rfl) (sb_c (qq_X4_by_0 14 rfl) (sb_c (qq_X4_by_0 15 rfl) (sb_c (qq_X4_by_0 2 rfl) sb_n)))) (by decide +kernel)) ggX4_by_X4_byOf
theorem dX4_by_0 : decode cX4_by 0 = .ok (.iload_n 1, 1) := by decide +kernel
theorem dX4_by_1 : decode cX4_by 1 = .ok (.invokestatic 99, 3) := by decide +kernel
theorem dX4_by_4 : decode cX4_by 4 = .ok (.ifCond .eq 27, 3) := by decide +kernel
theorem dX4_by_7 : decode cX4_by 7 = .ok (.iload_n 2, 1) := by decide +kernel
theorem dX4_by_8 : decode cX4_by 8 = .ok (.invokestatic 178, 3) := by decide +kernel
theorem dX4_by_11 : decode cX4_by 11 = .ok (.ifCond .eq 20, 3) := by decide +kernel
theorem dX4_by_14 : decode cX4_by 14 = .ok (.iload_n 3, 1) := by decide +kernel
theorem dX4_by_15 : decode cX4_by 15 = .ok (.invokestatic 107, 3) := by decide +kernel
theorem dX4_by_18 : decode cX4_by 18 = .ok (.ifCond .eq 13, 3) := by decide +kernel
theorem dX4_by_21 : decode cX4_by 21 = .ok (.aload_n 0, 1) := by decide +kernel

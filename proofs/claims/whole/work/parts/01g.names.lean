theorem dX4_askOf_130 : decode cX4_askOf 130 = .ok (.iload_n 2, 1) := by decide +kernel
theorem dX4_askOf_131 : decode cX4_askOf 131 = .ok (.iconst (-1), 1) := by decide +kernel
theorem dX4_askOf_132 : decode cX4_askOf 132 = .ok (.if_icmp .eq 9, 3) := by decide +kernel
theorem dX4_askOf_135 : decode cX4_askOf 135 = .ok (.iload 5, 2) := by decide +kernel
theorem dX4_askOf_137 : decode cX4_askOf 137 = .ok (.iload_n 3, 1) := by decide +kernel
theorem dX4_askOf_138 : decode cX4_askOf 138 = .ok (.if_icmp .ge 7, 3) := by decide +kernel
theorem dX4_askOf_141 : decode cX4_askOf 141 = .ok (.iconst 1, 1) := by decide +kernel
theorem dX4_askOf_142 : decode cX4_askOf 142 = .ok (.goto 4, 3) := by decide +kernel
theorem dX4_askOf_145 : decode cX4_askOf 145 = .ok (.iconst 0, 1) := by decide +kernel
theorem dX4_askOf_146 : decode cX4_askOf 146 = .ok (.istore 6, 2) := by decide +kernel
theorem dX4_askOf_148 : decode cX4_askOf 148 = .ok (.iload 6, 2) := by decide +kernel
theorem dX4_askOf_150 : decode cX4_askOf 150 = .ok (.ifCond .eq 8, 3) := by decide +kernel
theorem dX4_askOf_153 : decode cX4_askOf 153 = .ok (.iload 4, 2) := by decide +kernel
theorem dX4_askOf_155 : decode cX4_askOf 155 = .ok (.goto 4, 3) := by decide +kernel
theorem dX4_askOf_158 : decode cX4_askOf 158 = .ok (.iload_n 2, 1) := by decide +kernel
theorem dX4_askOf_159 : decode cX4_askOf 159 = .ok (.istore_n 2, 1) := by decide +kernel
theorem dX4_askOf_160 : decode cX4_askOf 160 = .ok (.iload 6, 2) := by decide +kernel
theorem dX4_askOf_162 : decode cX4_askOf 162 = .ok (.ifCond .eq 8, 3) := by decide +kernel
theorem dX4_askOf_165 : decode cX4_askOf 165 = .ok (.iload 5, 2) := by decide +kernel
theorem dX4_askOf_167 : decode cX4_askOf 167 = .ok (.goto 4, 3) := by decide +kernel
theorem dX4_askOf_170 : decode cX4_askOf 170 = .ok (.iload_n 3, 1) := by decide +kernel
theorem dX4_askOf_171 : decode cX4_askOf 171 = .ok (.istore_n 3, 1) := by decide +kernel
theorem dX4_askOf_172 : decode cX4_askOf 172 = .ok (.iinc 4 1, 3) := by decide +kernel
theorem dX4_askOf_175 : decode cX4_askOf 175 = .ok (.goto (-163), 3) := by decide +kernel
theorem dX4_askOf_178 : decode cX4_askOf 178 = .ok (.iload_n 2, 1) := by decide +kernel
theorem dX4_askOf_179 : decode cX4_askOf 179 = .ok (.ireturn, 1) := by decide +kernel
theorem qq_X4_ask_0 {c : Cond} (j : Nat) (h : wsX4_ask_r1[j]? = some c) : c ∈ wsX4_ask := List.mem_cons_of_mem _ (List.mem_append_left _ (List.mem_append_left _ (List.mem_of_getElem? h)))
theorem qq_X4_ask_1 {c : Cond} (j : Nat) (h : wsX4_ask_r2[j]? = some c) : c ∈ wsX4_ask := List.mem_cons_of_mem _ (List.mem_append_left _ (List.mem_append_right _ (List.mem_append_left _ (List.mem_of_getElem? h))))
theorem qq_X4_ask_2 {c : Cond} (j : Nat) (h : wsX4_ask_r3[j]? = some c) : c ∈ wsX4_ask := List.mem_cons_of_mem _ (List.mem_append_left _ (List.mem_append_right _ (List.mem_append_right _ (List.mem_append_left _ (List.mem_of_getElem? h)))))
theorem qq_X4_ask_3 {c : Cond} (j : Nat) (h : wsX4_ask_r4[j]? = some c) : c ∈ wsX4_ask := List.mem_cons_of_mem _ (List.mem_append_left _ (List.mem_append_right _ (List.mem_append_right _ (List.mem_append_right _ (List.mem_of_getElem? h)))))
theorem uq_X4_ask_X4 : wsub wsX40 wsX4_ask := fun _ h => List.mem_cons_of_mem _ (List.mem_append_right _ (h))
set_option maxRecDepth 20000 in
theorem gw_X4_askOf : wsX4_askOf.all goodWord = true := by decide +kernel
set_option maxRecDepth 20000 in
theorem ggX4_ask_X4_askOf : GoodIn wsX4_ask wsX4_askOf := goodIn_sub (sb_c (qq_X4_ask_0 4 rfl) (sb_a (sb_a (sb_c (qq_X4_ask_0 5 rfl) (sb_c (qq_X4_ask_0 6 rfl) (sb_c (qq_X4_ask_0 7 rfl) (sb_c (qq_X4_ask_0 8 rfl) (sb_c (qq_X4_ask_0 3 rfl) (sb_c (qq_X4_ask_0 9 rfl) (sb_c (qq_X4_ask_0 10 rfl) (sb_c (qq_X4_ask_0 11 rfl) (sb_c (qq_X4_ask_0 12 rfl) (sb_c (qq_X4_ask_0 13 rfl) (sb_c (qq_X4_ask_0 14 rfl) (sb_c (qq_X4_ask_0 15 rfl) (sb_c (qq_X4_ask_0 16 rfl) (sb_c (qq_X4_ask_0 17 rfl) (sb_c (qq_X4_ask_0 18 rfl) (sb_c (qq_X4_ask_0 19 rfl) (sb_c (qq_X4_ask_0 20 rfl) (sb_c (qq_X4_ask_0 21 rfl) (sb_c (qq_X4_ask_0 22 rfl) (sb_c (qq_X4_ask_0 23 rfl) (sb_c (qq_X4_ask_1 0 rfl) (sb_c (qq_X4_ask_1 1 rfl) (sb_c (qq_X4_ask_1 2 rfl) (sb_c (qq_X4_ask_1 3 rfl) sb_n)))))))))))))))))))))))) (sb_a (sb_c (qq_X4_ask_1 4 rfl) (sb_c (qq_X4_ask_1 5 rfl) (sb_c (qq_X4_ask_1 6 rfl) (sb_c (qq_X4_ask_1 7 rfl) (sb_c (qq_X4_ask_1 8 rfl) (sb_c (qq_X4_ask_1 9 rfl) (sb_c (qq_X4_ask_1 10 rfl) (sb_c (qq_X4_ask_1 11 rfl) (sb_c (qq_X4_ask_1 12 rfl) (sb_c (qq_X4_ask_1 13 rfl) (sb_c (qq_X4_ask_1 14 rfl) (sb_c (qq_X4_ask_1 15 rfl) (sb_c (qq_X4_ask_1 16 rfl) (sb_c (qq_X4_ask_1 17 rfl) (sb_c (qq_X4_ask_1 18 rfl) (sb_c (qq_X4_ask_1 19 rfl) (sb_c (qq_X4_ask_1 20 rfl) (sb_c (qq_X4_ask_1 21 rfl) (sb_c (qq_X4_ask_1 22 rfl) (sb_c (qq_X4_ask_1 23 rfl) (sb_c (qq_X4_ask_2 0 rfl) (sb_c (qq_X4_ask_2 1 rfl) (sb_c (qq_X4_ask_2 2 rfl) (sb_c (qq_X4_ask_2 3 rfl) sb_n)))))))))))))))))))))))) (sb_a (sb_c (qq_X4_ask_2 4 rfl) (sb_c (qq_X4_ask_2 5 rfl) (sb_c (qq_X4_ask_2 6 rfl) (sb_c (qq_X4_ask_2 7 rfl) (sb_c (qq_X4_ask_2 8 rfl) (sb_c (qq_X4_ask_2 9 rfl) (sb_c (qq_X4_ask_2 10 rfl) (sb_c (qq_X4_ask_2 11 rfl) (sb_c (qq_X4_ask_2 12 rfl) (sb_c (qq_X4_ask_2 13 rfl) (sb_c (qq_X4_ask_2 14 rfl) (sb_c (qq_X4_ask_2 15 rfl) (sb_c (qq_X4_ask_2 16 rfl) (sb_c (qq_X4_ask_2 17 rfl) (sb_c (qq_X4_ask_2 18 rfl) (sb_c (qq_X4_ask_2 19 rfl) (sb_c (qq_X4_ask_2 20 rfl) (sb_c (qq_X4_ask_2 21 rfl) (sb_c (qq_X4_ask_2 22 rfl) (sb_c (qq_X4_ask_2 23 rfl) (sb_c (qq_X4_ask_3 0 rfl) (sb_c (qq_X4_ask_3 1 rfl) (sb_c (qq_X4_ask_3 2 rfl) (sb_c (qq_X4_ask_3 3 rfl) sb_n)))))))))))))))))))))))) (sb_c (qq_X4_ask_3 4 rfl) (sb_c (qq_X4_ask_3 5 rfl) (sb_c (qq_X4_ask_3 6 rfl) (sb_c (qq_X4_ask_3 7 rfl) (sb_c (qq_X4_ask_3 8 rfl) (sb_c (qq_X4_ask_3 9 rfl) (sb_c (qq_X4_ask_3 10 rfl) (sb_c (qq_X4_ask_3 11 rfl) (sb_c (qq_X4_ask_3 12 rfl) (sb_c (qq_X4_ask_3 13 rfl) (sb_c (qq_X4_ask_3 14 rfl) (sb_c (qq_X4_ask_3 15 rfl) (sb_c (qq_X4_ask_3 16 rfl) (sb_c (qq_X4_ask_3 17 rfl) (sb_c (qq_X4_ask_3 18 rfl) sb_n)))))))))))))))))) (uq_X4_ask_X4))) gw_X4_askOf
set_option maxRecDepth 20000 in
theorem gX4_ask_X4_askOf : GoodIn wsX4_ask (wsV RX4 259 RX4 yX4_askOf wsX4_askOf) := goodIn_app (goodIn_sub (sb_c (qq_X4_ask_0 0 rfl) (sb_c (qq_X4_ask_0 1 rfl) (sb_c (qq_X4_ask_0 2 rfl) (sb_c (qq_X4_ask_0 3 rfl) sb_n)))) (by decide +kernel)) ggX4_ask_X4_askOf
theorem dX4_ask_0 : decode cX4_ask 0 = .ok (.aload_n 0, 1) := by decide +kernel
theorem dX4_ask_1 : decode cX4_ask 1 = .ok (.invokevirtual 259, 3) := by decide +kernel
theorem dX4_ask_4 : decode cX4_ask 4 = .ok (.ireturn, 1) := by decide +kernel
theorem qq_X4_chanceOf_0 {c : Cond} (j : Nat) (h : wsX4_chanceOf_r1[j]? = some c) : c ∈ wsX4_chanceOf := List.mem_cons_of_mem _ (List.mem_append_left _ (List.mem_append_left _ (List.mem_of_getElem? h)))
theorem qq_X4_chanceOf_1 {c : Cond} (j : Nat) (h : wsX4_chanceOf_r2[j]? = some c) : c ∈ wsX4_chanceOf := List.mem_cons_of_mem _ (List.mem_append_left _ (List.mem_append_right _ (List.mem_append_left _ (List.mem_of_getElem? h))))
theorem qq_X4_chanceOf_2 {c : Cond} (j : Nat) (h : wsX4_chanceOf_r3[j]? = some c) : c ∈ wsX4_chanceOf := List.mem_cons_of_mem _ (List.mem_append_left _ (List.mem_append_right _ (List.mem_append_right _ (List.mem_append_left _ (List.mem_of_getElem? h)))))
theorem qq_X4_chanceOf_3 {c : Cond} (j : Nat) (h : wsX4_chanceOf_r4[j]? = some c) : c ∈ wsX4_chanceOf := List.mem_cons_of_mem _ (List.mem_append_left _ (List.mem_append_right _ (List.mem_append_right _ (List.mem_append_right _ (List.mem_of_getElem? h)))))
theorem uq_X4_chanceOf_X4 : wsub wsX40 wsX4_chanceOf := fun _ h => List.mem_cons_of_mem _ (List.mem_append_right _ (h))
set_option maxRecDepth 20000 in
theorem ggX4_chanceOf_X4_asTold : GoodIn wsX4_chanceOf wsX4_asTold := goodIn_sub (sb_c (qq_X4_chanceOf_0 7 rfl) (sb_a (sb_c (qq_X4_chanceOf_0 8 rfl) (sb_c (qq_X4_chanceOf_0 9 rfl) (sb_c (qq_X4_chanceOf_0 10 rfl) (sb_c (qq_X4_chanceOf_0 11 rfl) (sb_c (qq_X4_chanceOf_0 1 rfl) (sb_c (qq_X4_chanceOf_0 12 rfl) sb_n)))))) (uq_X4_chanceOf_X4))) gw_X4_asTold
set_option maxRecDepth 20000 in
theorem gX4_chanceOf_X4_asTold : GoodIn wsX4_chanceOf (wsV RX4 162 RX4 yX4_asTold wsX4_asTold) := goodIn_app (goodIn_sub (sb_c (qq_X4_chanceOf_0 3 rfl) (sb_c (qq_X4_chanceOf_0 4 rfl) (sb_c (qq_X4_chanceOf_0 5 rfl) (sb_c (qq_X4_chanceOf_0 6 rfl) sb_n)))) (by decide +kernel)) ggX4_chanceOf_X4_asTold
set_option maxRecDepth 20000 in
theorem ggX4_chanceOf_X4_isIn : GoodIn wsX4_chanceOf wsX4_isIn := goodIn_sub (sb_c (qq_X4_chanceOf_0 15 rfl) (sb_n)) gw_X4_isIn
set_option maxRecDepth 20000 in
theorem gX4_chanceOf_X4_isIn : GoodIn wsX4_chanceOf (va_wsS RX4 91 yX4_isIn wsX4_isIn) := goodIn_app (goodIn_sub (sb_c (qq_X4_chanceOf_0 13 rfl) (sb_c (qq_X4_chanceOf_0 14 rfl) (sb_c (qq_X4_chanceOf_0 6 rfl) sb_n))) (by decide +kernel)) ggX4_chanceOf_X4_isIn
set_option maxRecDepth 20000 in
theorem ggX4_chanceOf_X4_runs : GoodIn wsX4_chanceOf wsX4_runs := goodIn_sub (sb_c (qq_X4_chanceOf_0 19 rfl) (sb_a (sb_a (sb_c (qq_X4_chanceOf_0 2 rfl) (sb_c (qq_X4_chanceOf_0 20 rfl) (sb_c (qq_X4_chanceOf_0 21 rfl) (sb_c (qq_X4_chanceOf_0 22 rfl) (sb_c (qq_X4_chanceOf_0 23 rfl) (sb_c (qq_X4_chanceOf_1 0 rfl) (sb_c (qq_X4_chanceOf_0 8 rfl) (sb_c (qq_X4_chanceOf_1 1 rfl) (sb_c (qq_X4_chanceOf_1 2 rfl) (sb_c (qq_X4_chanceOf_1 3 rfl) (sb_c (qq_X4_chanceOf_1 4 rfl) (sb_c (qq_X4_chanceOf_0 6 rfl) (sb_c (qq_X4_chanceOf_1 5 rfl) (sb_c (qq_X4_chanceOf_1 6 rfl) (sb_c (qq_X4_chanceOf_0 10 rfl) (sb_c (qq_X4_chanceOf_1 7 rfl) (sb_c (qq_X4_chanceOf_1 8 rfl) (sb_c (qq_X4_chanceOf_1 9 rfl) (sb_c (qq_X4_chanceOf_1 10 rfl) (sb_c (qq_X4_chanceOf_1 11 rfl) (sb_c (qq_X4_chanceOf_1 12 rfl) (sb_c (qq_X4_chanceOf_1 13 rfl) (sb_c (qq_X4_chanceOf_1 14 rfl) (sb_c (qq_X4_chanceOf_1 15 rfl) sb_n)))))))))))))))))))))))) (sb_a (sb_c (qq_X4_chanceOf_1 16 rfl) (sb_c (qq_X4_chanceOf_1 17 rfl) (sb_c (qq_X4_chanceOf_1 18 rfl) (sb_c (qq_X4_chanceOf_1 19 rfl) (sb_c (qq_X4_chanceOf_1 20 rfl) (sb_c (qq_X4_chanceOf_1 21 rfl) (sb_c (qq_X4_chanceOf_1 22 rfl) (sb_c (qq_X4_chanceOf_1 23 rfl) (sb_c (qq_X4_chanceOf_2 0 rfl) (sb_c (qq_X4_chanceOf_2 1 rfl) (sb_c (qq_X4_chanceOf_2 2 rfl) (sb_c (qq_X4_chanceOf_2 3 rfl) (sb_c (qq_X4_chanceOf_2 4 rfl) (sb_c (qq_X4_chanceOf_0 0 rfl) (sb_c (qq_X4_chanceOf_2 5 rfl) (sb_c (qq_X4_chanceOf_2 6 rfl) (sb_c (qq_X4_chanceOf_0 1 rfl) (sb_c (qq_X4_chanceOf_0 12 rfl) (sb_c (qq_X4_chanceOf_2 7 rfl) (sb_c (qq_X4_chanceOf_0 13 rfl) (sb_c (qq_X4_chanceOf_0 14 rfl) (sb_c (qq_X4_chanceOf_0 15 rfl) (sb_c (qq_X4_chanceOf_2 8 rfl) (sb_c (qq_X4_chanceOf_2 9 rfl) sb_n)))))))))))))))))))))))) (sb_c (qq_X4_chanceOf_2 10 rfl) (sb_c (qq_X4_chanceOf_2 11 rfl) (sb_c (qq_X4_chanceOf_2 12 rfl) (sb_c (qq_X4_chanceOf_2 13 rfl) (sb_c (qq_X4_chanceOf_2 14 rfl) (sb_c (qq_X4_chanceOf_2 15 rfl) (sb_c (qq_X4_chanceOf_2 16 rfl) (sb_c (qq_X4_chanceOf_2 17 rfl) (sb_c (qq_X4_chanceOf_2 18 rfl) (sb_c (qq_X4_chanceOf_2 19 rfl) (sb_c (qq_X4_chanceOf_2 20 rfl) (sb_c (qq_X4_chanceOf_2 21 rfl) (sb_c (qq_X4_chanceOf_2 22 rfl) (sb_c (qq_X4_chanceOf_2 23 rfl) sb_n)))))))))))))))) (uq_X4_chanceOf_X4))) gw_X4_runs
set_option maxRecDepth 20000 in
theorem gX4_chanceOf_X4_runs : GoodIn wsX4_chanceOf (wsV RX4 165 RX4 yX4_runs wsX4_runs) := goodIn_app (goodIn_sub (sb_c (qq_X4_chanceOf_0 16 rfl) (sb_c (qq_X4_chanceOf_0 17 rfl) (sb_c (qq_X4_chanceOf_0 18 rfl) (sb_c (qq_X4_chanceOf_0 6 rfl) sb_n)))) (by decide +kernel)) ggX4_chanceOf_X4_runs
set_option maxRecDepth 20000 in
theorem gw_X4_lowest : wsX4_lowest.all goodWord = true := by decide +kernel
set_option maxRecDepth 20000 in
theorem ggX4_chanceOf_X4_lowest : GoodIn wsX4_chanceOf wsX4_lowest := goodIn_sub (sb_c (qq_X4_chanceOf_3 2 rfl) (sb_n)) gw_X4_lowest
set_option maxRecDepth 20000 in
theorem gX4_chanceOf_X4_lowest : GoodIn wsX4_chanceOf (va_wsS RX4 262 yX4_lowest wsX4_lowest) := goodIn_app (goodIn_sub (sb_c (qq_X4_chanceOf_3 0 rfl) (sb_c (qq_X4_chanceOf_3 1 rfl) (sb_c (qq_X4_chanceOf_0 6 rfl) sb_n))) (by decide +kernel)) ggX4_chanceOf_X4_lowest
theorem dX4_chanceOf_0 : decode cX4_chanceOf 0 = .ok (.aload_n 0, 1) := by decide +kernel
theorem dX4_chanceOf_1 : decode cX4_chanceOf 1 = .ok (.invokevirtual 162, 3) := by decide +kernel
theorem dX4_chanceOf_4 : decode cX4_chanceOf 4 = .ok (.lconst 0, 1) := by decide +kernel
theorem dX4_chanceOf_5 : decode cX4_chanceOf 5 = .ok (.lstore_n 3, 1) := by decide +kernel
theorem dX4_chanceOf_6 : decode cX4_chanceOf 6 = .ok (.iconst 0, 1) := by decide +kernel
theorem dX4_chanceOf_7 : decode cX4_chanceOf 7 = .ok (.istore 5, 2) := by decide +kernel
theorem dX4_chanceOf_9 : decode cX4_chanceOf 9 = .ok (.iload 5, 2) := by decide +kernel
theorem dX4_chanceOf_11 : decode cX4_chanceOf 11 = .ok (.iconst 1, 1) := by decide +kernel
theorem dX4_chanceOf_12 : decode cX4_chanceOf 12 = .ok (.aload_n 0, 1) := by decide +kernel
theorem dX4_chanceOf_13 : decode cX4_chanceOf 13 = .ok (.getfield 110, 3) := by decide +kernel
theorem dX4_chanceOf_16 : decode cX4_chanceOf 16 = .ok (.ishl, 1) := by decide +kernel
theorem dX4_chanceOf_17 : decode cX4_chanceOf 17 = .ok (.if_icmp .ge 88, 3) := by decide +kernel
theorem dX4_chanceOf_20 : decode cX4_chanceOf 20 = .ok (.lconst 1, 1) := by decide +kernel
theorem dX4_chanceOf_21 : decode cX4_chanceOf 21 = .ok (.lstore 6, 2) := by decide +kernel
theorem dX4_chanceOf_23 : decode cX4_chanceOf 23 = .ok (.iconst 0, 1) := by decide +kernel
theorem dX4_chanceOf_24 : decode cX4_chanceOf 24 = .ok (.istore 8, 2) := by decide +kernel
theorem dX4_chanceOf_26 : decode cX4_chanceOf 26 = .ok (.iload 8, 2) := by decide +kernel
theorem dX4_chanceOf_28 : decode cX4_chanceOf 28 = .ok (.aload_n 0, 1) := by decide +kernel
theorem dX4_chanceOf_29 : decode cX4_chanceOf 29 = .ok (.getfield 110, 3) := by decide +kernel
theorem dX4_chanceOf_32 : decode cX4_chanceOf 32 = .ok (.if_icmp .ge 34, 3) := by decide +kernel
theorem dX4_chanceOf_35 : decode cX4_chanceOf 35 = .ok (.lload 6, 2) := by decide +kernel
theorem dX4_chanceOf_37 : decode cX4_chanceOf 37 = .ok (.iload 5, 2) := by decide +kernel
theorem dX4_chanceOf_39 : decode cX4_chanceOf 39 = .ok (.iload 8, 2) := by decide +kernel
theorem dX4_chanceOf_41 : decode cX4_chanceOf 41 = .ok (.invokestatic 91, 3) := by decide +kernel
theorem dX4_chanceOf_44 : decode cX4_chanceOf 44 = .ok (.ifCond .eq 11, 3) := by decide +kernel
theorem dX4_chanceOf_47 : decode cX4_chanceOf 47 = .ok (.bipush 16, 2) := by decide +kernel
theorem dX4_chanceOf_49 : decode cX4_chanceOf 49 = .ok (.iload_n 1, 1) := by decide +kernel
theorem dX4_chanceOf_50 : decode cX4_chanceOf 50 = .ok (.isub, 1) := by decide +kernel
theorem dX4_chanceOf_51 : decode cX4_chanceOf 51 = .ok (.i2l, 1) := by decide +kernel
theorem dX4_chanceOf_52 : decode cX4_chanceOf 52 = .ok (.goto 5, 3) := by decide +kernel
theorem dX4_chanceOf_55 : decode cX4_chanceOf 55 = .ok (.iload_n 1, 1) := by decide +kernel
theorem dX4_chanceOf_56 : decode cX4_chanceOf 56 = .ok (.i2l, 1) := by decide +kernel
theorem dX4_chanceOf_57 : decode cX4_chanceOf 57 = .ok (.lmul, 1) := by decide +kernel
theorem dX4_chanceOf_58 : decode cX4_chanceOf 58 = .ok (.lstore 6, 2) := by decide +kernel
theorem dX4_chanceOf_60 : decode cX4_chanceOf 60 = .ok (.iinc 8 1, 3) := by decide +kernel
theorem dX4_chanceOf_63 : decode cX4_chanceOf 63 = .ok (.goto (-37), 3) := by decide +kernel
theorem dX4_chanceOf_66 : decode cX4_chanceOf 66 = .ok (.lload 6, 2) := by decide +kernel
theorem dX4_chanceOf_68 : decode cX4_chanceOf 68 = .ok (.lconst 0, 1) := by decide +kernel
theorem dX4_chanceOf_69 : decode cX4_chanceOf 69 = .ok (.lcmp, 1) := by decide +kernel
theorem dX4_chanceOf_70 : decode cX4_chanceOf 70 = .ok (.ifCond .le 29, 3) := by decide +kernel
theorem dX4_chanceOf_73 : decode cX4_chanceOf 73 = .ok (.aload_n 0, 1) := by decide +kernel
theorem dX4_chanceOf_74 : decode cX4_chanceOf 74 = .ok (.iload 5, 2) := by decide +kernel
theorem dX4_chanceOf_76 : decode cX4_chanceOf 76 = .ok (.putfield 121, 3) := by decide +kernel
theorem dX4_chanceOf_79 : decode cX4_chanceOf 79 = .ok (.aload_n 0, 1) := by decide +kernel
theorem dX4_chanceOf_80 : decode cX4_chanceOf 80 = .ok (.invokevirtual 165, 3) := by decide +kernel
theorem dX4_chanceOf_83 : decode cX4_chanceOf 83 = .ok (.lload_n 3, 1) := by decide +kernel
theorem dX4_chanceOf_84 : decode cX4_chanceOf 84 = .ok (.aload_n 0, 1) := by decide +kernel
theorem dX4_chanceOf_85 : decode cX4_chanceOf 85 = .ok (.getfield 146, 3) := by decide +kernel
theorem dX4_chanceOf_88 : decode cX4_chanceOf 88 = .ok (.ifCond .ne 8, 3) := by decide +kernel
theorem dX4_chanceOf_91 : decode cX4_chanceOf 91 = .ok (.lload 6, 2) := by decide +kernel
theorem dX4_chanceOf_93 : decode cX4_chanceOf 93 = .ok (.goto 4, 3) := by decide +kernel
theorem dX4_chanceOf_96 : decode cX4_chanceOf 96 = .ok (.lconst 0, 1) := by decide +kernel
theorem dX4_chanceOf_97 : decode cX4_chanceOf 97 = .ok (.ladd, 1) := by decide +kernel
theorem dX4_chanceOf_98 : decode cX4_chanceOf 98 = .ok (.lstore_n 3, 1) := by decide +kernel
theorem dX4_chanceOf_99 : decode cX4_chanceOf 99 = .ok (.iinc 5 1, 3) := by decide +kernel
theorem dX4_chanceOf_102 : decode cX4_chanceOf 102 = .ok (.goto (-93), 3) := by decide +kernel
theorem dX4_chanceOf_105 : decode cX4_chanceOf 105 = .ok (.lload_n 3, 1) := by decide +kernel
theorem dX4_chanceOf_106 : decode cX4_chanceOf 106 = .ok (.lconst 1, 1) := by decide +kernel
theorem dX4_chanceOf_107 : decode cX4_chanceOf 107 = .ok (.iconst 4, 1) := by decide +kernel
theorem dX4_chanceOf_108 : decode cX4_chanceOf 108 = .ok (.aload_n 0, 1) := by decide +kernel
theorem dX4_chanceOf_109 : decode cX4_chanceOf 109 = .ok (.getfield 110, 3) := by decide +kernel
theorem dX4_chanceOf_112 : decode cX4_chanceOf 112 = .ok (.imul, 1) := by decide +kernel
theorem dX4_chanceOf_113 : decode cX4_chanceOf 113 = .ok (.lshl, 1) := by decide +kernel
theorem dX4_chanceOf_114 : decode cX4_chanceOf 114 = .ok (.iload_n 2, 1) := by decide +kernel
theorem dX4_chanceOf_115 : decode cX4_chanceOf 115 = .ok (.invokestatic 262, 3) := by decide +kernel
theorem dX4_chanceOf_118 : decode cX4_chanceOf 118 = .ok (.lreturn, 1) := by decide +kernel
theorem qq_X4_chance_0 {c : Cond} (j : Nat) (h : wsX4_chance_r1[j]? = some c) : c ∈ wsX4_chance := List.mem_cons_of_mem _ (List.mem_append_left _ (List.mem_append_left _ (List.mem_of_getElem? h)))
theorem qq_X4_chance_1 {c : Cond} (j : Nat) (h : wsX4_chance_r2[j]? = some c) : c ∈ wsX4_chance := List.mem_cons_of_mem _ (List.mem_append_left _ (List.mem_append_right _ (List.mem_append_left _ (List.mem_of_getElem? h))))
theorem qq_X4_chance_2 {c : Cond} (j : Nat) (h : wsX4_chance_r3[j]? = some c) : c ∈ wsX4_chance := List.mem_cons_of_mem _ (List.mem_append_left _ (List.mem_append_right _ (List.mem_append_right _ (List.mem_append_left _ (List.mem_of_getElem? h)))))
theorem qq_X4_chance_3 {c : Cond} (j : Nat) (h : wsX4_chance_r4[j]? = some c) : c ∈ wsX4_chance := List.mem_cons_of_mem _ (List.mem_append_left _ (List.mem_append_right _ (List.mem_append_right _ (List.mem_append_right _ (List.mem_of_getElem? h)))))
theorem uq_X4_chance_X4 : wsub wsX40 wsX4_chance := fun _ h => List.mem_cons_of_mem _ (List.mem_append_right _ (h))
set_option maxRecDepth 20000 in
theorem ggX4_chance_X4_in : GoodIn wsX4_chance wsX4_in := goodIn_sub (sb_c (qq_X4_chance_0 3 rfl) (sb_n)) gw_X4_in
set_option maxRecDepth 20000 in
theorem gX4_chance_X4_in : GoodIn wsX4_chance (va_wsS RX4 95 yX4_in wsX4_in) := goodIn_app (goodIn_sub (sb_c (qq_X4_chance_0 0 rfl) (sb_c (qq_X4_chance_0 1 rfl) (sb_c (qq_X4_chance_0 2 rfl) sb_n))) (by decide +kernel)) ggX4_chance_X4_in
set_option maxRecDepth 20000 in
theorem ggX4_chance_X4_isTwo : GoodIn wsX4_chance wsX4_isTwo := goodIn_sub (sb_c (qq_X4_chance_0 6 rfl) (sb_c (qq_X4_chance_0 0 rfl) (sb_c (qq_X4_chance_0 1 rfl) (sb_c (qq_X4_chance_0 2 rfl) (sb_c (qq_X4_chance_0 3 rfl) sb_n))))) gw_X4_isTwo
set_option maxRecDepth 20000 in
theorem gX4_chance_X4_isTwo : GoodIn wsX4_chance (va_wsS RX4 107 yX4_isTwo wsX4_isTwo) := goodIn_app (goodIn_sub (sb_c (qq_X4_chance_0 4 rfl) (sb_c (qq_X4_chance_0 5 rfl) (sb_c (qq_X4_chance_0 2 rfl) sb_n))) (by decide +kernel)) ggX4_chance_X4_isTwo
set_option maxRecDepth 20000 in
theorem gw_X4_chanceOf : wsX4_chanceOf.all goodWord = true := by decide +kernel
set_option maxRecDepth 20000 in
theorem ggX4_chance_X4_chanceOf : GoodIn wsX4_chance wsX4_chanceOf := goodIn_sub (sb_c (qq_X4_chance_0 10 rfl) (sb_a (sb_a (sb_c (qq_X4_chance_0 11 rfl) (sb_c (qq_X4_chance_0 12 rfl) (sb_c (qq_X4_chance_0 13 rfl) (sb_c (qq_X4_chance_0 14 rfl) (sb_c (qq_X4_chance_0 15 rfl) (sb_c (qq_X4_chance_0 16 rfl) (sb_c (qq_X4_chance_0 2 rfl) (sb_c (qq_X4_chance_0 17 rfl) (sb_c (qq_X4_chance_0 18 rfl) (sb_c (qq_X4_chance_0 19 rfl) (sb_c (qq_X4_chance_0 20 rfl) (sb_c (qq_X4_chance_0 21 rfl) (sb_c (qq_X4_chance_0 22 rfl) (sb_c (qq_X4_chance_0 23 rfl) (sb_c (qq_X4_chance_1 0 rfl) (sb_c (qq_X4_chance_1 1 rfl) (sb_c (qq_X4_chance_1 2 rfl) (sb_c (qq_X4_chance_1 3 rfl) (sb_c (qq_X4_chance_1 4 rfl) (sb_c (qq_X4_chance_1 5 rfl) (sb_c (qq_X4_chance_1 6 rfl) (sb_c (qq_X4_chance_1 7 rfl) (sb_c (qq_X4_chance_1 8 rfl) (sb_c (qq_X4_chance_1 9 rfl) sb_n)))))))))))))))))))))))) (sb_a (sb_c (qq_X4_chance_1 10 rfl) (sb_c (qq_X4_chance_1 11 rfl) (sb_c (qq_X4_chance_1 12 rfl) (sb_c (qq_X4_chance_1 13 rfl) (sb_c (qq_X4_chance_1 14 rfl) (sb_c (qq_X4_chance_1 15 rfl) (sb_c (qq_X4_chance_1 16 rfl) (sb_c (qq_X4_chance_1 17 rfl) (sb_c (qq_X4_chance_1 18 rfl) (sb_c (qq_X4_chance_1 19 rfl) (sb_c (qq_X4_chance_1 20 rfl) (sb_c (qq_X4_chance_1 21 rfl) (sb_c (qq_X4_chance_1 22 rfl) (sb_c (qq_X4_chance_0 0 rfl) (sb_c (qq_X4_chance_0 1 rfl) (sb_c (qq_X4_chance_0 3 rfl) (sb_c (qq_X4_chance_1 23 rfl) (sb_c (qq_X4_chance_2 0 rfl) (sb_c (qq_X4_chance_2 1 rfl) (sb_c (qq_X4_chance_2 2 rfl) (sb_c (qq_X4_chance_2 3 rfl) (sb_c (qq_X4_chance_2 4 rfl) (sb_c (qq_X4_chance_2 5 rfl) (sb_c (qq_X4_chance_2 6 rfl) sb_n)))))))))))))))))))))))) (sb_a (sb_c (qq_X4_chance_2 7 rfl) (sb_c (qq_X4_chance_2 8 rfl) (sb_c (qq_X4_chance_2 9 rfl) (sb_c (qq_X4_chance_2 10 rfl) (sb_c (qq_X4_chance_2 11 rfl) (sb_c (qq_X4_chance_2 12 rfl) (sb_c (qq_X4_chance_2 13 rfl) (sb_c (qq_X4_chance_2 14 rfl) (sb_c (qq_X4_chance_2 15 rfl) (sb_c (qq_X4_chance_2 16 rfl) (sb_c (qq_X4_chance_2 17 rfl) (sb_c (qq_X4_chance_2 18 rfl) (sb_c (qq_X4_chance_2 19 rfl) (sb_c (qq_X4_chance_2 20 rfl) (sb_c (qq_X4_chance_2 21 rfl) (sb_c (qq_X4_chance_2 22 rfl) (sb_c (qq_X4_chance_2 23 rfl) (sb_c (qq_X4_chance_3 0 rfl) (sb_c (qq_X4_chance_3 1 rfl) (sb_c (qq_X4_chance_3 2 rfl) (sb_c (qq_X4_chance_3 3 rfl) (sb_c (qq_X4_chance_3 4 rfl) (sb_c (qq_X4_chance_3 5 rfl) (sb_c (qq_X4_chance_3 6 rfl) sb_n)))))))))))))))))))))))) (sb_c (qq_X4_chance_3 7 rfl) (sb_c (qq_X4_chance_3 8 rfl) (sb_c (qq_X4_chance_3 9 rfl) sb_n)))))) (uq_X4_chance_X4))) gw_X4_chanceOf
set_option maxRecDepth 20000 in
theorem gX4_chance_X4_chanceOf : GoodIn wsX4_chance (wsV RX4 266 RX4 yX4_chanceOf wsX4_chanceOf) := goodIn_app (goodIn_sub (sb_c (qq_X4_chance_0 7 rfl) (sb_c (qq_X4_chance_0 8 rfl) (sb_c (qq_X4_chance_0 9 rfl) (sb_c (qq_X4_chance_0 2 rfl) sb_n)))) (by decide +kernel)) ggX4_chance_X4_chanceOf
set_option maxRecDepth 20000 in
theorem gw_X4_no : wsX4_no.all goodWord = true := by decide +kernel
set_option maxRecDepth 20000 in
theorem ggX4_chance_X4_no : GoodIn wsX4_chance wsX4_no := goodIn_sub (sb_c (qq_X4_chance_3 12 rfl) (sb_c (qq_X4_chance_3 13 rfl) sb_n)) gw_X4_no
set_option maxRecDepth 20000 in
theorem gX4_chance_X4_no : GoodIn wsX4_chance (va_wsS RX4 270 yX4_no wsX4_no) := goodIn_app (goodIn_sub (sb_c (qq_X4_chance_3 10 rfl) (sb_c (qq_X4_chance_3 11 rfl) (sb_c (qq_X4_chance_0 2 rfl) sb_n))) (by decide +kernel)) ggX4_chance_X4_no
theorem dX4_chance_0 : decode cX4_chance 0 = .ok (.iload_n 1, 1) := by decide +kernel
theorem dX4_chance_1 : decode cX4_chance 1 = .ok (.iconst 0, 1) := by decide +kernel
theorem dX4_chance_2 : decode cX4_chance 2 = .ok (.bipush 16, 2) := by decide +kernel
theorem dX4_chance_4 : decode cX4_chance 4 = .ok (.invokestatic 95, 3) := by decide +kernel
theorem dX4_chance_7 : decode cX4_chance 7 = .ok (.ifCond .eq 19, 3) := by decide +kernel
theorem dX4_chance_10 : decode cX4_chance 10 = .ok (.iload_n 2, 1) := by decide +kernel
theorem dX4_chance_11 : decode cX4_chance 11 = .ok (.invokestatic 107, 3) := by decide +kernel
theorem dX4_chance_14 : decode cX4_chance 14 = .ok (.ifCond .eq 12, 3) := by decide +kernel
theorem dX4_chance_17 : decode cX4_chance 17 = .ok (.aload_n 0, 1) := by decide +kernel
theorem dX4_chance_18 : decode cX4_chance 18 = .ok (.iload_n 1, 1) := by decide +kernel
theorem dX4_chance_19 : decode cX4_chance 19 = .ok (.iload_n 2, 1) := by decide +kernel
theorem dX4_chance_20 : decode cX4_chance 20 = .ok (.invokevirtual 266, 3) := by decide +kernel
theorem dX4_chance_23 : decode cX4_chance 23 = .ok (.goto 8, 3) := by decide +kernel
theorem dX4_chance_26 : decode cX4_chance 26 = .ok (.bipush (-2), 2) := by decide +kernel
theorem dX4_chance_28 : decode cX4_chance 28 = .ok (.invokestatic 270, 3) := by decide +kernel
theorem dX4_chance_31 : decode cX4_chance 31 = .ok (.lreturn, 1) := by decide +kernel
theorem qq_X4_testsOf_0 {c : Cond} (j : Nat) (h : wsX4_testsOf_r1[j]? = some c) : c ∈ wsX4_testsOf := List.mem_cons_of_mem _ (List.mem_append_left _ (List.mem_append_left _ (List.mem_of_getElem? h)))
theorem qq_X4_testsOf_1 {c : Cond} (j : Nat) (h : wsX4_testsOf_r2[j]? = some c) : c ∈ wsX4_testsOf := List.mem_cons_of_mem _ (List.mem_append_left _ (List.mem_append_right _ (List.mem_append_left _ (List.mem_of_getElem? h))))
theorem qq_X4_testsOf_2 {c : Cond} (j : Nat) (h : wsX4_testsOf_r3[j]? = some c) : c ∈ wsX4_testsOf := List.mem_cons_of_mem _ (List.mem_append_left _ (List.mem_append_right _ (List.mem_append_right _ (List.mem_append_left _ (List.mem_of_getElem? h)))))
theorem qq_X4_testsOf_3 {c : Cond} (j : Nat) (h : wsX4_testsOf_r4[j]? = some c) : c ∈ wsX4_testsOf := List.mem_cons_of_mem _ (List.mem_append_left _ (List.mem_append_right _ (List.mem_append_right _ (List.mem_append_right _ (List.mem_of_getElem? h)))))
theorem uq_X4_testsOf_X4 : wsub wsX40 wsX4_testsOf := fun _ h => List.mem_cons_of_mem _ (List.mem_append_right _ (h))
set_option maxRecDepth 20000 in
theorem ggX4_testsOf_X4_asTold : GoodIn wsX4_testsOf wsX4_asTold := goodIn_sub (sb_c (qq_X4_testsOf_0 7 rfl) (sb_a (sb_c (qq_X4_testsOf_0 1 rfl) (sb_c (qq_X4_testsOf_0 8 rfl) (sb_c (qq_X4_testsOf_0 9 rfl) (sb_c (qq_X4_testsOf_0 10 rfl) (sb_c (qq_X4_testsOf_0 11 rfl) (sb_c (qq_X4_testsOf_0 12 rfl) sb_n)))))) (uq_X4_testsOf_X4))) gw_X4_asTold
set_option maxRecDepth 20000 in
theorem gX4_testsOf_X4_asTold : GoodIn wsX4_testsOf (wsV RX4 162 RX4 yX4_asTold wsX4_asTold) := goodIn_app (goodIn_sub (sb_c (qq_X4_testsOf_0 3 rfl) (sb_c (qq_X4_testsOf_0 4 rfl) (sb_c (qq_X4_testsOf_0 5 rfl) (sb_c (qq_X4_testsOf_0 6 rfl) sb_n)))) (by decide +kernel)) ggX4_testsOf_X4_asTold
set_option maxRecDepth 20000 in
theorem ggX4_testsOf_X4_runs : GoodIn wsX4_testsOf wsX4_runs := goodIn_sub (sb_c (qq_X4_testsOf_0 16 rfl) (sb_a (sb_a (sb_c (qq_X4_testsOf_0 2 rfl) (sb_c (qq_X4_testsOf_0 17 rfl) (sb_c (qq_X4_testsOf_0 18 rfl) (sb_c (qq_X4_testsOf_0 19 rfl) (sb_c (qq_X4_testsOf_0 20 rfl) (sb_c (qq_X4_testsOf_0 21 rfl) (sb_c (qq_X4_testsOf_0 1 rfl) (sb_c (qq_X4_testsOf_0 22 rfl) (sb_c (qq_X4_testsOf_0 23 rfl) (sb_c (qq_X4_testsOf_1 0 rfl) (sb_c (qq_X4_testsOf_1 1 rfl) (sb_c (qq_X4_testsOf_0 6 rfl) (sb_c (qq_X4_testsOf_1 2 rfl) (sb_c (qq_X4_testsOf_1 3 rfl) (sb_c (qq_X4_testsOf_0 9 rfl) (sb_c (qq_X4_testsOf_1 4 rfl) (sb_c (qq_X4_testsOf_1 5 rfl) (sb_c (qq_X4_testsOf_1 6 rfl) (sb_c (qq_X4_testsOf_1 7 rfl) (sb_c (qq_X4_testsOf_1 8 rfl) (sb_c (qq_X4_testsOf_1 9 rfl) (sb_c (qq_X4_testsOf_1 10 rfl) (sb_c (qq_X4_testsOf_1 11 rfl) (sb_c (qq_X4_testsOf_1 12 rfl) sb_n)))))))))))))))))))))))) (sb_a (sb_c (qq_X4_testsOf_1 13 rfl) (sb_c (qq_X4_testsOf_1 14 rfl) (sb_c (qq_X4_testsOf_1 15 rfl) (sb_c (qq_X4_testsOf_1 16 rfl) (sb_c (qq_X4_testsOf_1 17 rfl) (sb_c (qq_X4_testsOf_1 18 rfl) (sb_c (qq_X4_testsOf_1 19 rfl) (sb_c (qq_X4_testsOf_1 20 rfl) (sb_c (qq_X4_testsOf_1 21 rfl) (sb_c (qq_X4_testsOf_1 22 rfl) (sb_c (qq_X4_testsOf_1 23 rfl) (sb_c (qq_X4_testsOf_2 0 rfl) (sb_c (qq_X4_testsOf_2 1 rfl) (sb_c (qq_X4_testsOf_2 2 rfl) (sb_c (qq_X4_testsOf_2 3 rfl) (sb_c (qq_X4_testsOf_2 4 rfl) (sb_c (qq_X4_testsOf_0 11 rfl) (sb_c (qq_X4_testsOf_0 12 rfl) (sb_c (qq_X4_testsOf_2 5 rfl) (sb_c (qq_X4_testsOf_2 6 rfl) (sb_c (qq_X4_testsOf_2 7 rfl) (sb_c (qq_X4_testsOf_2 8 rfl) (sb_c (qq_X4_testsOf_2 9 rfl) (sb_c (qq_X4_testsOf_2 10 rfl) sb_n)))))))))))))))))))))))) (sb_c (qq_X4_testsOf_2 11 rfl) (sb_c (qq_X4_testsOf_2 12 rfl) (sb_c (qq_X4_testsOf_2 13 rfl) (sb_c (qq_X4_testsOf_2 14 rfl) (sb_c (qq_X4_testsOf_2 15 rfl) (sb_c (qq_X4_testsOf_2 16 rfl) (sb_c (qq_X4_testsOf_2 17 rfl) (sb_c (qq_X4_testsOf_2 18 rfl) (sb_c (qq_X4_testsOf_2 19 rfl) (sb_c (qq_X4_testsOf_2 20 rfl) (sb_c (qq_X4_testsOf_2 21 rfl) (sb_c (qq_X4_testsOf_2 22 rfl) (sb_c (qq_X4_testsOf_2 23 rfl) (sb_c (qq_X4_testsOf_3 0 rfl) sb_n)))))))))))))))) (uq_X4_testsOf_X4))) gw_X4_runs
set_option maxRecDepth 20000 in
theorem gX4_testsOf_X4_runs : GoodIn wsX4_testsOf (wsV RX4 165 RX4 yX4_runs wsX4_runs) := goodIn_app (goodIn_sub (sb_c (qq_X4_testsOf_0 13 rfl) (sb_c (qq_X4_testsOf_0 14 rfl) (sb_c (qq_X4_testsOf_0 15 rfl) (sb_c (qq_X4_testsOf_0 6 rfl) sb_n)))) (by decide +kernel)) ggX4_testsOf_X4_runs
set_option maxRecDepth 20000 in
theorem ggX4_testsOf_X4_guttersNow : GoodIn wsX4_testsOf wsX4_guttersNow := goodIn_sub (sb_c (qq_X4_testsOf_3 4 rfl) (sb_a (sb_c (qq_X4_testsOf_0 21 rfl) sb_n) (uq_X4_testsOf_X4))) gw_X4_guttersNow
set_option maxRecDepth 20000 in
theorem gX4_testsOf_X4_guttersNow : GoodIn wsX4_testsOf (wsV RX4 210 RX4 yX4_guttersNow wsX4_guttersNow) := goodIn_app (goodIn_sub (sb_c (qq_X4_testsOf_3 1 rfl) (sb_c (qq_X4_testsOf_3 2 rfl) (sb_c (qq_X4_testsOf_3 3 rfl) (sb_c (qq_X4_testsOf_0 6 rfl) sb_n)))) (by decide +kernel)) ggX4_testsOf_X4_guttersNow
theorem dX4_testsOf_0 : decode cX4_testsOf 0 = .ok (.aload_n 0, 1) := by decide +kernel
theorem dX4_testsOf_1 : decode cX4_testsOf 1 = .ok (.invokevirtual 162, 3) := by decide +kernel
theorem dX4_testsOf_4 : decode cX4_testsOf 4 = .ok (.iload_n 1, 1) := by decide +kernel
theorem dX4_testsOf_5 : decode cX4_testsOf 5 = .ok (.istore 4, 2) := by decide +kernel
theorem dX4_testsOf_7 : decode cX4_testsOf 7 = .ok (.iconst 0, 1) := by decide +kernel
theorem dX4_testsOf_8 : decode cX4_testsOf 8 = .ok (.istore 5, 2) := by decide +kernel
theorem dX4_testsOf_10 : decode cX4_testsOf 10 = .ok (.iload 5, 2) := by decide +kernel
theorem dX4_testsOf_12 : decode cX4_testsOf 12 = .ok (.bipush 16, 2) := by decide +kernel
theorem dX4_testsOf_14 : decode cX4_testsOf 14 = .ok (.if_icmp .ge 58, 3) := by decide +kernel
theorem dX4_testsOf_17 : decode cX4_testsOf 17 = .ok (.iload 5, 2) := by decide +kernel
theorem dX4_testsOf_19 : decode cX4_testsOf 19 = .ok (.iload_n 2, 1) := by decide +kernel
theorem dX4_testsOf_20 : decode cX4_testsOf 20 = .ok (.if_icmp .ge 16, 3) := by decide +kernel
theorem dX4_testsOf_23 : decode cX4_testsOf 23 = .ok (.ldc_w 274, 3) := by decide +kernel
theorem dX4_testsOf_26 : decode cX4_testsOf 26 = .ok (.iload 4, 2) := by decide +kernel
theorem dX4_testsOf_28 : decode cX4_testsOf 28 = .ok (.imul, 1) := by decide +kernel
theorem dX4_testsOf_29 : decode cX4_testsOf 29 = .ok (.sipush 12345, 3) := by decide +kernel
theorem dX4_testsOf_32 : decode cX4_testsOf 32 = .ok (.iadd, 1) := by decide +kernel
theorem dX4_testsOf_33 : decode cX4_testsOf 33 = .ok (.goto 5, 3) := by decide +kernel
theorem dX4_testsOf_36 : decode cX4_testsOf 36 = .ok (.iload 4, 2) := by decide +kernel
theorem dX4_testsOf_38 : decode cX4_testsOf 38 = .ok (.istore 4, 2) := by decide +kernel
theorem dX4_testsOf_40 : decode cX4_testsOf 40 = .ok (.aload_n 0, 1) := by decide +kernel
theorem dX4_testsOf_41 : decode cX4_testsOf 41 = .ok (.getfield 25, 3) := by decide +kernel
theorem dX4_testsOf_44 : decode cX4_testsOf 44 = .ok (.iload 5, 2) := by decide +kernel
theorem dX4_testsOf_46 : decode cX4_testsOf 46 = .ok (.iload 5, 2) := by decide +kernel
theorem dX4_testsOf_48 : decode cX4_testsOf 48 = .ok (.iload_n 2, 1) := by decide +kernel
theorem dX4_testsOf_49 : decode cX4_testsOf 49 = .ok (.if_icmp .ge 15, 3) := by decide +kernel
theorem dX4_testsOf_52 : decode cX4_testsOf 52 = .ok (.iload 4, 2) := by decide +kernel
theorem dX4_testsOf_54 : decode cX4_testsOf 54 = .ok (.bipush 16, 2) := by decide +kernel
theorem dX4_testsOf_56 : decode cX4_testsOf 56 = .ok (.iushr, 1) := by decide +kernel
theorem dX4_testsOf_57 : decode cX4_testsOf 57 = .ok (.sipush 256, 3) := by decide +kernel
theorem dX4_testsOf_60 : decode cX4_testsOf 60 = .ok (.irem, 1) := by decide +kernel
theorem dX4_testsOf_61 : decode cX4_testsOf 61 = .ok (.goto 4, 3) := by decide +kernel
theorem dX4_testsOf_64 : decode cX4_testsOf 64 = .ok (.iconst 0, 1) := by decide +kernel
theorem dX4_testsOf_65 : decode cX4_testsOf 65 = .ok (.iastore, 1) := by decide +kernel
theorem dX4_testsOf_66 : decode cX4_testsOf 66 = .ok (.iinc 5 1, 3) := by decide +kernel
theorem dX4_testsOf_69 : decode cX4_testsOf 69 = .ok (.goto (-59), 3) := by decide +kernel
theorem dX4_testsOf_72 : decode cX4_testsOf 72 = .ok (.aload_n 0, 1) := by decide +kernel
theorem dX4_testsOf_73 : decode cX4_testsOf 73 = .ok (.invokevirtual 165, 3) := by decide +kernel
theorem dX4_testsOf_76 : decode cX4_testsOf 76 = .ok (.iload_n 3, 1) := by decide +kernel
theorem dX4_testsOf_77 : decode cX4_testsOf 77 = .ok (.ifCond .ne 10, 3) := by decide +kernel
theorem dX4_testsOf_80 : decode cX4_testsOf 80 = .ok (.aload_n 0, 1) := by decide +kernel
theorem dX4_testsOf_81 : decode cX4_testsOf 81 = .ok (.getfield 146, 3) := by decide +kernel
theorem dX4_testsOf_84 : decode cX4_testsOf 84 = .ok (.goto 7, 3) := by decide +kernel
theorem dX4_testsOf_87 : decode cX4_testsOf 87 = .ok (.aload_n 0, 1) := by decide +kernel
theorem dX4_testsOf_88 : decode cX4_testsOf 88 = .ok (.invokevirtual 210, 3) := by decide +kernel
theorem dX4_testsOf_91 : decode cX4_testsOf 91 = .ok (.ireturn, 1) := by decide +kernel
theorem qq_X4_tests_0 {c : Cond} (j : Nat) (h : wsX4_tests_r1[j]? = some c) : c ∈ wsX4_tests := List.mem_cons_of_mem _ (List.mem_append_left _ (List.mem_append_left _ (List.mem_of_getElem? h)))
theorem qq_X4_tests_1 {c : Cond} (j : Nat) (h : wsX4_tests_r2[j]? = some c) : c ∈ wsX4_tests := List.mem_cons_of_mem _ (List.mem_append_left _ (List.mem_append_right _ (List.mem_append_left _ (List.mem_of_getElem? h))))
theorem qq_X4_tests_2 {c : Cond} (j : Nat) (h : wsX4_tests_r3[j]? = some c) : c ∈ wsX4_tests := List.mem_cons_of_mem _ (List.mem_append_left _ (List.mem_append_right _ (List.mem_append_right _ (List.mem_append_left _ (List.mem_of_getElem? h)))))
theorem qq_X4_tests_3 {c : Cond} (j : Nat) (h : wsX4_tests_r4[j]? = some c) : c ∈ wsX4_tests := List.mem_cons_of_mem _ (List.mem_append_left _ (List.mem_append_right _ (List.mem_append_right _ (List.mem_append_right _ (List.mem_of_getElem? h)))))
theorem uq_X4_tests_X4 : wsub wsX40 wsX4_tests := fun _ h => List.mem_cons_of_mem _ (List.mem_append_right _ (h))
set_option maxRecDepth 20000 in
theorem ggX4_tests_X4_in : GoodIn wsX4_tests wsX4_in := goodIn_sub (sb_c (qq_X4_tests_0 3 rfl) (sb_n)) gw_X4_in
set_option maxRecDepth 20000 in
theorem gX4_tests_X4_in : GoodIn wsX4_tests (va_wsS RX4 95 yX4_in wsX4_in) := goodIn_app (goodIn_sub (sb_c (qq_X4_tests_0 0 rfl) (sb_c (qq_X4_tests_0 1 rfl) (sb_c (qq_X4_tests_0 2 rfl) sb_n))) (by decide +kernel)) ggX4_tests_X4_in
set_option maxRecDepth 20000 in
theorem ggX4_tests_X4_isTwo : GoodIn wsX4_tests wsX4_isTwo := goodIn_sub (sb_c (qq_X4_tests_0 6 rfl) (sb_c (qq_X4_tests_0 0 rfl) (sb_c (qq_X4_tests_0 1 rfl) (sb_c (qq_X4_tests_0 2 rfl) (sb_c (qq_X4_tests_0 3 rfl) sb_n))))) gw_X4_isTwo
set_option maxRecDepth 20000 in
theorem gX4_tests_X4_isTwo : GoodIn wsX4_tests (va_wsS RX4 107 yX4_isTwo wsX4_isTwo) := goodIn_app (goodIn_sub (sb_c (qq_X4_tests_0 4 rfl) (sb_c (qq_X4_tests_0 5 rfl) (sb_c (qq_X4_tests_0 2 rfl) sb_n))) (by decide +kernel)) ggX4_tests_X4_isTwo
set_option maxRecDepth 20000 in
theorem gw_X4_testsOf : wsX4_testsOf.all goodWord = true := by decide +kernel
set_option maxRecDepth 20000 in
theorem ggX4_tests_X4_testsOf : GoodIn wsX4_tests wsX4_testsOf := goodIn_sub (sb_c (qq_X4_tests_0 10 rfl) (sb_a (sb_a (sb_c (qq_X4_tests_0 11 rfl) (sb_c (qq_X4_tests_0 12 rfl) (sb_c (qq_X4_tests_0 13 rfl) (sb_c (qq_X4_tests_0 14 rfl) (sb_c (qq_X4_tests_0 15 rfl) (sb_c (qq_X4_tests_0 16 rfl) (sb_c (qq_X4_tests_0 2 rfl) (sb_c (qq_X4_tests_0 17 rfl) (sb_c (qq_X4_tests_0 18 rfl) (sb_c (qq_X4_tests_0 19 rfl) (sb_c (qq_X4_tests_0 20 rfl) (sb_c (qq_X4_tests_0 21 rfl) (sb_c (qq_X4_tests_0 22 rfl) (sb_c (qq_X4_tests_0 23 rfl) (sb_c (qq_X4_tests_1 0 rfl) (sb_c (qq_X4_tests_1 1 rfl) (sb_c (qq_X4_tests_1 2 rfl) (sb_c (qq_X4_tests_1 3 rfl) (sb_c (qq_X4_tests_1 4 rfl) (sb_c (qq_X4_tests_1 5 rfl) (sb_c (qq_X4_tests_1 6 rfl) (sb_c (qq_X4_tests_1 7 rfl) (sb_c (qq_X4_tests_1 8 rfl) (sb_c (qq_X4_tests_1 9 rfl) sb_n)))))))))))))))))))))))) (sb_a (sb_c (qq_X4_tests_1 10 rfl) (sb_c (qq_X4_tests_1 11 rfl) (sb_c (qq_X4_tests_1 12 rfl) (sb_c (qq_X4_tests_1 13 rfl) (sb_c (qq_X4_tests_1 14 rfl) (sb_c (qq_X4_tests_1 15 rfl) (sb_c (qq_X4_tests_1 16 rfl) (sb_c (qq_X4_tests_1 17 rfl) (sb_c (qq_X4_tests_1 18 rfl) (sb_c (qq_X4_tests_1 19 rfl) (sb_c (qq_X4_tests_0 0 rfl) (sb_c (qq_X4_tests_0 1 rfl) (sb_c (qq_X4_tests_0 3 rfl) (sb_c (qq_X4_tests_1 20 rfl) (sb_c (qq_X4_tests_1 21 rfl) (sb_c (qq_X4_tests_1 22 rfl) (sb_c (qq_X4_tests_1 23 rfl) (sb_c (qq_X4_tests_2 0 rfl) (sb_c (qq_X4_tests_2 1 rfl) (sb_c (qq_X4_tests_2 2 rfl) (sb_c (qq_X4_tests_2 3 rfl) (sb_c (qq_X4_tests_2 4 rfl) (sb_c (qq_X4_tests_2 5 rfl) (sb_c (qq_X4_tests_2 6 rfl) sb_n)))))))))))))))))))))))) (sb_a (sb_c (qq_X4_tests_2 7 rfl) (sb_c (qq_X4_tests_2 8 rfl) (sb_c (qq_X4_tests_2 9 rfl) (sb_c (qq_X4_tests_2 10 rfl) (sb_c (qq_X4_tests_2 11 rfl) (sb_c (qq_X4_tests_2 12 rfl) (sb_c (qq_X4_tests_2 13 rfl) (sb_c (qq_X4_tests_2 14 rfl) (sb_c (qq_X4_tests_2 15 rfl) (sb_c (qq_X4_tests_2 16 rfl) (sb_c (qq_X4_tests_2 17 rfl) (sb_c (qq_X4_tests_2 18 rfl) (sb_c (qq_X4_tests_2 19 rfl) (sb_c (qq_X4_tests_2 20 rfl) (sb_c (qq_X4_tests_2 21 rfl) (sb_c (qq_X4_tests_2 22 rfl) (sb_c (qq_X4_tests_2 23 rfl) (sb_c (qq_X4_tests_3 0 rfl) (sb_c (qq_X4_tests_3 1 rfl) (sb_c (qq_X4_tests_3 2 rfl) (sb_c (qq_X4_tests_3 3 rfl) (sb_c (qq_X4_tests_3 4 rfl) (sb_c (qq_X4_tests_3 5 rfl) (sb_c (qq_X4_tests_3 6 rfl) sb_n)))))))))))))))))))))))) (sb_c (qq_X4_tests_3 7 rfl) (sb_c (qq_X4_tests_3 8 rfl) (sb_c (qq_X4_tests_3 9 rfl) (sb_c (qq_X4_tests_3 10 rfl) (sb_c (qq_X4_tests_3 11 rfl) sb_n)))))))) (uq_X4_tests_X4))) gw_X4_testsOf
set_option maxRecDepth 20000 in
theorem gX4_tests_X4_testsOf : GoodIn wsX4_tests (wsV RX4 275 RX4 yX4_testsOf wsX4_testsOf) := goodIn_app (goodIn_sub (sb_c (qq_X4_tests_0 7 rfl) (sb_c (qq_X4_tests_0 8 rfl) (sb_c (qq_X4_tests_0 9 rfl) (sb_c (qq_X4_tests_0 2 rfl) sb_n)))) (by decide +kernel)) ggX4_tests_X4_testsOf
theorem dX4_tests_0 : decode cX4_tests 0 = .ok (.iload_n 2, 1) := by decide +kernel
theorem dX4_tests_1 : decode cX4_tests 1 = .ok (.iconst 0, 1) := by decide +kernel
theorem dX4_tests_2 : decode cX4_tests 2 = .ok (.bipush 16, 2) := by decide +kernel
theorem dX4_tests_4 : decode cX4_tests 4 = .ok (.invokestatic 95, 3) := by decide +kernel
theorem dX4_tests_7 : decode cX4_tests 7 = .ok (.ifCond .eq 20, 3) := by decide +kernel
theorem dX4_tests_10 : decode cX4_tests 10 = .ok (.iload_n 3, 1) := by decide +kernel
theorem dX4_tests_11 : decode cX4_tests 11 = .ok (.invokestatic 107, 3) := by decide +kernel
theorem dX4_tests_14 : decode cX4_tests 14 = .ok (.ifCond .eq 13, 3) := by decide +kernel
theorem dX4_tests_17 : decode cX4_tests 17 = .ok (.aload_n 0, 1) := by decide +kernel
theorem dX4_tests_18 : decode cX4_tests 18 = .ok (.iload_n 1, 1) := by decide +kernel
theorem dX4_tests_19 : decode cX4_tests 19 = .ok (.iload_n 2, 1) := by decide +kernel
theorem dX4_tests_20 : decode cX4_tests 20 = .ok (.iload_n 3, 1) := by decide +kernel
theorem dX4_tests_21 : decode cX4_tests 21 = .ok (.invokevirtual 275, 3) := by decide +kernel
theorem dX4_tests_24 : decode cX4_tests 24 = .ok (.goto 5, 3) := by decide +kernel
theorem dX4_tests_27 : decode cX4_tests 27 = .ok (.bipush (-2), 2) := by decide +kernel
theorem dX4_tests_29 : decode cX4_tests 29 = .ok (.ireturn, 1) := by decide +kernel
theorem dX4_meets_0 : decode cX4_meets 0 = .ok (.aload_n 0, 1) := by decide +kernel
theorem dX4_meets_1 : decode cX4_meets 1 = .ok (.iload_n 1, 1) := by decide +kernel
theorem dX4_meets_2 : decode cX4_meets 2 = .ok (.putfield 278, 3) := by decide +kernel
theorem dX4_meets_5 : decode cX4_meets 5 = .ok (.bipush (-10), 2) := by decide +kernel
theorem dX4_meets_7 : decode cX4_meets 7 = .ok (.iload_n 1, 1) := by decide +kernel
theorem dX4_meets_8 : decode cX4_meets 8 = .ok (.isub, 1) := by decide +kernel
theorem dX4_meets_9 : decode cX4_meets 9 = .ok (.ireturn, 1) := by decide +kernel
theorem qq_X4_isSheet_0 {c : Cond} (j : Nat) (h : ([.methodLink RX4 95 yX4_in, .static yX4_in, .initialized RX4, .code yX4_in cX4_in 3 (some .boolean)] : List Cond)[j]? = some c) : c ∈ wsX4_isSheet := List.mem_cons_of_mem _ (List.mem_of_getElem? h)
set_option maxRecDepth 20000 in
theorem ggX4_isSheet_X4_in : GoodIn wsX4_isSheet wsX4_in := goodIn_sub (sb_c (qq_X4_isSheet_0 3 rfl) (sb_n)) gw_X4_in
set_option maxRecDepth 20000 in
theorem gX4_isSheet_X4_in : GoodIn wsX4_isSheet (va_wsS RX4 95 yX4_in wsX4_in) := goodIn_app (goodIn_sub (sb_c (qq_X4_isSheet_0 0 rfl) (sb_c (qq_X4_isSheet_0 1 rfl) (sb_c (qq_X4_isSheet_0 2 rfl) sb_n))) (by decide +kernel)) ggX4_isSheet_X4_in
theorem dX4_isSheet_0 : decode cX4_isSheet 0 = .ok (.iload_n 0, 1) := by decide +kernel
theorem dX4_isSheet_1 : decode cX4_isSheet 1 = .ok (.iconst 0, 1) := by decide +kernel
theorem dX4_isSheet_2 : decode cX4_isSheet 2 = .ok (.iconst 3, 1) := by decide +kernel
theorem dX4_isSheet_3 : decode cX4_isSheet 3 = .ok (.invokestatic 95, 3) := by decide +kernel
theorem dX4_isSheet_6 : decode cX4_isSheet 6 = .ok (.ireturn, 1) := by decide +kernel
theorem qq_X4_sheet_0 {c : Cond} (j : Nat) (h : ([.fieldLink RX4 73 "InkSwathsModel" "isThere" "[Z", .fieldLink RX4 77 "InkSwathsModel" "forms" "[I", .fieldLink RX4 80 "InkSwathsModel" "sizes" "[I", .fieldLink RX4 83 "InkSwathsModel" "items" "[I", .methodLink RX4 114 yX4_isSheet, .static yX4_isSheet, .initialized RX4, .code yX4_isSheet cX4_isSheet 1 (some .boolean), .methodLink RX4 95 yX4_in, .static yX4_in, .code yX4_in cX4_in 3 (some .boolean), .methodLink RX4 117 yX4_meets, .instanceMethod yX4_meets, .selects RX4 yX4_meets yX4_meets, .code yX4_meets cX4_meets 2 (some .int), .fieldLink RX4 278 "InkSwathsModel" "finding" "I"] : List Cond)[j]? = some c) : c ∈ wsX4_sheet := List.mem_cons_of_mem _ (List.mem_append_left _ (List.mem_of_getElem? h))
theorem uq_X4_sheet_X4 : wsub wsX40 wsX4_sheet := fun _ h => List.mem_cons_of_mem _ (List.mem_append_right _ (h))
set_option maxRecDepth 20000 in
theorem ggX4_sheet_X4_isSheet : GoodIn wsX4_sheet wsX4_isSheet := goodIn_sub (sb_c (qq_X4_sheet_0 7 rfl) (sb_c (qq_X4_sheet_0 8 rfl) (sb_c (qq_X4_sheet_0 9 rfl) (sb_c (qq_X4_sheet_0 6 rfl) (sb_c (qq_X4_sheet_0 10 rfl) sb_n))))) gw_X4_isSheet
set_option maxRecDepth 20000 in
theorem gX4_sheet_X4_isSheet : GoodIn wsX4_sheet (va_wsS RX4 114 yX4_isSheet wsX4_isSheet) := goodIn_app (goodIn_sub (sb_c (qq_X4_sheet_0 4 rfl) (sb_c (qq_X4_sheet_0 5 rfl) (sb_c (qq_X4_sheet_0 6 rfl) sb_n))) (by decide +kernel)) ggX4_sheet_X4_isSheet
set_option maxRecDepth 20000 in
theorem ggX4_sheet_X4_in : GoodIn wsX4_sheet wsX4_in := goodIn_sub (sb_c (qq_X4_sheet_0 10 rfl) (sb_n)) gw_X4_in
set_option maxRecDepth 20000 in
theorem gX4_sheet_X4_in : GoodIn wsX4_sheet (va_wsS RX4 95 yX4_in wsX4_in) := goodIn_app (goodIn_sub (sb_c (qq_X4_sheet_0 8 rfl) (sb_c (qq_X4_sheet_0 9 rfl) (sb_c (qq_X4_sheet_0 6 rfl) sb_n))) (by decide +kernel)) ggX4_sheet_X4_in
set_option maxRecDepth 20000 in
theorem ggX4_sheet_X4_meets : GoodIn wsX4_sheet wsX4_meets := goodIn_sub (sb_c (qq_X4_sheet_0 14 rfl) (sb_a (sb_c (qq_X4_sheet_0 15 rfl) sb_n) (uq_X4_sheet_X4))) gw_X4_meets
set_option maxRecDepth 20000 in
theorem gX4_sheet_X4_meets : GoodIn wsX4_sheet (wsV RX4 117 RX4 yX4_meets wsX4_meets) := goodIn_app (goodIn_sub (sb_c (qq_X4_sheet_0 11 rfl) (sb_c (qq_X4_sheet_0 12 rfl) (sb_c (qq_X4_sheet_0 13 rfl) (sb_c (qq_X4_sheet_0 6 rfl) sb_n)))) (by decide +kernel)) ggX4_sheet_X4_meets
theorem dX4_sheet_0 : decode cX4_sheet 0 = .ok (.iload_n 1, 1) := by decide +kernel
theorem dX4_sheet_1 : decode cX4_sheet 1 = .ok (.invokestatic 114, 3) := by decide +kernel
theorem dX4_sheet_4 : decode cX4_sheet 4 = .ok (.ifCond .eq 18, 3) := by decide +kernel
theorem dX4_sheet_7 : decode cX4_sheet 7 = .ok (.iload_n 2, 1) := by decide +kernel
theorem dX4_sheet_8 : decode cX4_sheet 8 = .ok (.iconst 0, 1) := by decide +kernel
theorem dX4_sheet_9 : decode cX4_sheet 9 = .ok (.iconst 2, 1) := by decide +kernel
theorem dX4_sheet_10 : decode cX4_sheet 10 = .ok (.invokestatic 95, 3) := by decide +kernel
theorem dX4_sheet_13 : decode cX4_sheet 13 = .ok (.ifCond .eq 9, 3) := by decide +kernel
theorem dX4_sheet_16 : decode cX4_sheet 16 = .ok (.iload_n 3, 1) := by decide +kernel
theorem dX4_sheet_17 : decode cX4_sheet 17 = .ok (.bipush 60, 2) := by decide +kernel
theorem dX4_sheet_19 : decode cX4_sheet 19 = .ok (.if_icmp .le 6, 3) := by decide +kernel
theorem dX4_sheet_22 : decode cX4_sheet 22 = .ok (.bipush (-2), 2) := by decide +kernel
theorem dX4_sheet_24 : decode cX4_sheet 24 = .ok (.ireturn, 1) := by decide +kernel
theorem dX4_sheet_25 : decode cX4_sheet 25 = .ok (.iload_n 3, 1) := by decide +kernel
theorem dX4_sheet_26 : decode cX4_sheet 26 = .ok (.ifCond .ge 9, 3) := by decide +kernel
theorem dX4_sheet_29 : decode cX4_sheet 29 = .ok (.aload_n 0, 1) := by decide +kernel
theorem dX4_sheet_30 : decode cX4_sheet 30 = .ok (.iconst 5, 1) := by decide +kernel
theorem dX4_sheet_31 : decode cX4_sheet 31 = .ok (.invokevirtual 117, 3) := by decide +kernel
theorem dX4_sheet_34 : decode cX4_sheet 34 = .ok (.ireturn, 1) := by decide +kernel
theorem dX4_sheet_35 : decode cX4_sheet 35 = .ok (.aload_n 0, 1) := by decide +kernel
theorem dX4_sheet_36 : decode cX4_sheet 36 = .ok (.getfield 73, 3) := by decide +kernel
theorem dX4_sheet_39 : decode cX4_sheet 39 = .ok (.iload_n 1, 1) := by decide +kernel
theorem dX4_sheet_40 : decode cX4_sheet 40 = .ok (.iconst 1, 1) := by decide +kernel
theorem dX4_sheet_41 : decode cX4_sheet 41 = .ok (.bastore, 1) := by decide +kernel
theorem dX4_sheet_42 : decode cX4_sheet 42 = .ok (.aload_n 0, 1) := by decide +kernel
theorem dX4_sheet_43 : decode cX4_sheet 43 = .ok (.getfield 77, 3) := by decide +kernel
theorem dX4_sheet_46 : decode cX4_sheet 46 = .ok (.iload_n 1, 1) := by decide +kernel
theorem dX4_sheet_47 : decode cX4_sheet 47 = .ok (.iload_n 2, 1) := by decide +kernel
theorem dX4_sheet_48 : decode cX4_sheet 48 = .ok (.iastore, 1) := by decide +kernel
theorem dX4_sheet_49 : decode cX4_sheet 49 = .ok (.aload_n 0, 1) := by decide +kernel
theorem dX4_sheet_50 : decode cX4_sheet 50 = .ok (.getfield 80, 3) := by decide +kernel
theorem dX4_sheet_53 : decode cX4_sheet 53 = .ok (.iload_n 1, 1) := by decide +kernel
theorem dX4_sheet_54 : decode cX4_sheet 54 = .ok (.iload_n 3, 1) := by decide +kernel
theorem dX4_sheet_55 : decode cX4_sheet 55 = .ok (.iastore, 1) := by decide +kernel
theorem dX4_sheet_56 : decode cX4_sheet 56 = .ok (.iconst 0, 1) := by decide +kernel
theorem dX4_sheet_57 : decode cX4_sheet 57 = .ok (.istore 4, 2) := by decide +kernel
theorem dX4_sheet_59 : decode cX4_sheet 59 = .ok (.iload 4, 2) := by decide +kernel
theorem dX4_sheet_61 : decode cX4_sheet 61 = .ok (.bipush 60, 2) := by decide +kernel
theorem dX4_sheet_63 : decode cX4_sheet 63 = .ok (.if_icmp .ge 22, 3) := by decide +kernel
theorem dX4_sheet_66 : decode cX4_sheet 66 = .ok (.aload_n 0, 1) := by decide +kernel
theorem dX4_sheet_67 : decode cX4_sheet 67 = .ok (.getfield 83, 3) := by decide +kernel
theorem dX4_sheet_70 : decode cX4_sheet 70 = .ok (.bipush 60, 2) := by decide +kernel
theorem dX4_sheet_72 : decode cX4_sheet 72 = .ok (.iload_n 1, 1) := by decide +kernel
theorem dX4_sheet_73 : decode cX4_sheet 73 = .ok (.imul, 1) := by decide +kernel
theorem dX4_sheet_74 : decode cX4_sheet 74 = .ok (.iload 4, 2) := by decide +kernel
theorem dX4_sheet_76 : decode cX4_sheet 76 = .ok (.iadd, 1) := by decide +kernel
theorem dX4_sheet_77 : decode cX4_sheet 77 = .ok (.iconst 0, 1) := by decide +kernel
theorem dX4_sheet_78 : decode cX4_sheet 78 = .ok (.iastore, 1) := by decide +kernel
theorem dX4_sheet_79 : decode cX4_sheet 79 = .ok (.iinc 4 1, 3) := by decide +kernel
theorem dX4_sheet_82 : decode cX4_sheet 82 = .ok (.goto (-23), 3) := by decide +kernel
theorem dX4_sheet_85 : decode cX4_sheet 85 = .ok (.iload_n 3, 1) := by decide +kernel
theorem dX4_sheet_86 : decode cX4_sheet 86 = .ok (.ireturn, 1) := by decide +kernel
theorem qq_X4_lose_0 {c : Cond} (j : Nat) (h : ([.fieldLink RX4 73 "InkSwathsModel" "isThere" "[Z", .fieldLink RX4 80 "InkSwathsModel" "sizes" "[I", .methodLink RX4 114 yX4_isSheet, .static yX4_isSheet, .initialized RX4, .code yX4_isSheet cX4_isSheet 1 (some .boolean), .methodLink RX4 95 yX4_in, .static yX4_in, .code yX4_in cX4_in 3 (some .boolean), .methodLink RX4 117 yX4_meets, .instanceMethod yX4_meets, .selects RX4 yX4_meets yX4_meets, .code yX4_meets cX4_meets 2 (some .int), .fieldLink RX4 278 "InkSwathsModel" "finding" "I"] : List Cond)[j]? = some c) : c ∈ wsX4_lose := List.mem_cons_of_mem _ (List.mem_append_left _ (List.mem_of_getElem? h))
theorem uq_X4_lose_X4 : wsub wsX40 wsX4_lose := fun _ h => List.mem_cons_of_mem _ (List.mem_append_right _ (h))
set_option maxRecDepth 20000 in
theorem ggX4_lose_X4_isSheet : GoodIn wsX4_lose wsX4_isSheet := goodIn_sub (sb_c (qq_X4_lose_0 5 rfl) (sb_c (qq_X4_lose_0 6 rfl) (sb_c (qq_X4_lose_0 7 rfl) (sb_c (qq_X4_lose_0 4 rfl) (sb_c (qq_X4_lose_0 8 rfl) sb_n))))) gw_X4_isSheet
set_option maxRecDepth 20000 in
theorem gX4_lose_X4_isSheet : GoodIn wsX4_lose (va_wsS RX4 114 yX4_isSheet wsX4_isSheet) := goodIn_app (goodIn_sub (sb_c (qq_X4_lose_0 2 rfl) (sb_c (qq_X4_lose_0 3 rfl) (sb_c (qq_X4_lose_0 4 rfl) sb_n))) (by decide +kernel)) ggX4_lose_X4_isSheet
set_option maxRecDepth 20000 in
theorem ggX4_lose_X4_meets : GoodIn wsX4_lose wsX4_meets := goodIn_sub (sb_c (qq_X4_lose_0 12 rfl) (sb_a (sb_c (qq_X4_lose_0 13 rfl) sb_n) (uq_X4_lose_X4))) gw_X4_meets
set_option maxRecDepth 20000 in
theorem gX4_lose_X4_meets : GoodIn wsX4_lose (wsV RX4 117 RX4 yX4_meets wsX4_meets) := goodIn_app (goodIn_sub (sb_c (qq_X4_lose_0 9 rfl) (sb_c (qq_X4_lose_0 10 rfl) (sb_c (qq_X4_lose_0 11 rfl) (sb_c (qq_X4_lose_0 4 rfl) sb_n)))) (by decide +kernel)) ggX4_lose_X4_meets
theorem dX4_lose_0 : decode cX4_lose 0 = .ok (.iload_n 1, 1) := by decide +kernel
theorem dX4_lose_1 : decode cX4_lose 1 = .ok (.invokestatic 114, 3) := by decide +kernel
theorem dX4_lose_4 : decode cX4_lose 4 = .ok (.ifCond .ne 6, 3) := by decide +kernel
theorem dX4_lose_7 : decode cX4_lose 7 = .ok (.bipush (-2), 2) := by decide +kernel
theorem dX4_lose_9 : decode cX4_lose 9 = .ok (.ireturn, 1) := by decide +kernel
theorem dX4_lose_10 : decode cX4_lose 10 = .ok (.aload_n 0, 1) := by decide +kernel
theorem dX4_lose_11 : decode cX4_lose 11 = .ok (.getfield 73, 3) := by decide +kernel
theorem dX4_lose_14 : decode cX4_lose 14 = .ok (.iload_n 1, 1) := by decide +kernel
theorem dX4_lose_15 : decode cX4_lose 15 = .ok (.baload, 1) := by decide +kernel
theorem dX4_lose_16 : decode cX4_lose 16 = .ok (.ifCond .ne 9, 3) := by decide +kernel
theorem dX4_lose_19 : decode cX4_lose 19 = .ok (.aload_n 0, 1) := by decide +kernel
theorem dX4_lose_20 : decode cX4_lose 20 = .ok (.iconst 1, 1) := by decide +kernel
theorem dX4_lose_21 : decode cX4_lose 21 = .ok (.invokevirtual 117, 3) := by decide +kernel
theorem dX4_lose_24 : decode cX4_lose 24 = .ok (.ireturn, 1) := by decide +kernel
theorem dX4_lose_25 : decode cX4_lose 25 = .ok (.aload_n 0, 1) := by decide +kernel
theorem dX4_lose_26 : decode cX4_lose 26 = .ok (.getfield 73, 3) := by decide +kernel
theorem dX4_lose_29 : decode cX4_lose 29 = .ok (.iload_n 1, 1) := by decide +kernel
theorem dX4_lose_30 : decode cX4_lose 30 = .ok (.iconst 0, 1) := by decide +kernel
theorem dX4_lose_31 : decode cX4_lose 31 = .ok (.bastore, 1) := by decide +kernel
theorem dX4_lose_32 : decode cX4_lose 32 = .ok (.aload_n 0, 1) := by decide +kernel
theorem dX4_lose_33 : decode cX4_lose 33 = .ok (.getfield 80, 3) := by decide +kernel
theorem dX4_lose_36 : decode cX4_lose 36 = .ok (.iload_n 1, 1) := by decide +kernel
theorem dX4_lose_37 : decode cX4_lose 37 = .ok (.iaload, 1) := by decide +kernel
theorem dX4_lose_38 : decode cX4_lose 38 = .ok (.ireturn, 1) := by decide +kernel
theorem qq_X4_lacks_0 {c : Cond} (j : Nat) (h : ([.fieldLink RX4 73 "InkSwathsModel" "isThere" "[Z", .fieldLink RX4 77 "InkSwathsModel" "forms" "[I", .fieldLink RX4 80 "InkSwathsModel" "sizes" "[I", .methodLink RX4 95 yX4_in, .static yX4_in, .initialized RX4, .code yX4_in cX4_in 3 (some .boolean)] : List Cond)[j]? = some c) : c ∈ wsX4_lacks := List.mem_cons_of_mem _ (List.mem_append_left _ (List.mem_of_getElem? h))
theorem uq_X4_lacks_X4 : wsub wsX40 wsX4_lacks := fun _ h => List.mem_cons_of_mem _ (List.mem_append_right _ (h))
set_option maxRecDepth 20000 in
theorem ggX4_lacks_X4_in : GoodIn wsX4_lacks wsX4_in := goodIn_sub (sb_c (qq_X4_lacks_0 6 rfl) (sb_n)) gw_X4_in
set_option maxRecDepth 20000 in
theorem gX4_lacks_X4_in : GoodIn wsX4_lacks (va_wsS RX4 95 yX4_in wsX4_in) := goodIn_app (goodIn_sub (sb_c (qq_X4_lacks_0 3 rfl) (sb_c (qq_X4_lacks_0 4 rfl) (sb_c (qq_X4_lacks_0 5 rfl) sb_n))) (by decide +kernel)) ggX4_lacks_X4_in
theorem dX4_lacks_0 : decode cX4_lacks 0 = .ok (.aload_n 0, 1) := by decide +kernel
theorem dX4_lacks_1 : decode cX4_lacks 1 = .ok (.getfield 73, 3) := by decide +kernel
theorem dX4_lacks_4 : decode cX4_lacks 4 = .ok (.iload_n 1, 1) := by decide +kernel
theorem dX4_lacks_5 : decode cX4_lacks 5 = .ok (.baload, 1) := by decide +kernel
theorem dX4_lacks_6 : decode cX4_lacks 6 = .ok (.ifCond .ne 7, 3) := by decide +kernel
theorem dX4_lacks_9 : decode cX4_lacks 9 = .ok (.iconst 1, 1) := by decide +kernel
theorem dX4_lacks_10 : decode cX4_lacks 10 = .ok (.goto 38, 3) := by decide +kernel
theorem dX4_lacks_13 : decode cX4_lacks 13 = .ok (.aload_n 0, 1) := by decide +kernel
theorem dX4_lacks_14 : decode cX4_lacks 14 = .ok (.getfield 77, 3) := by decide +kernel
theorem dX4_lacks_17 : decode cX4_lacks 17 = .ok (.iload_n 1, 1) := by decide +kernel
theorem dX4_lacks_18 : decode cX4_lacks 18 = .ok (.iaload, 1) := by decide +kernel
theorem dX4_lacks_19 : decode cX4_lacks 19 = .ok (.iload_n 2, 1) := by decide +kernel
theorem dX4_lacks_20 : decode cX4_lacks 20 = .ok (.if_icmp .eq 7, 3) := by decide +kernel
theorem dX4_lacks_23 : decode cX4_lacks 23 = .ok (.iconst 3, 1) := by decide +kernel
theorem dX4_lacks_24 : decode cX4_lacks 24 = .ok (.goto 24, 3) := by decide +kernel
theorem dX4_lacks_27 : decode cX4_lacks 27 = .ok (.iload_n 3, 1) := by decide +kernel
theorem dX4_lacks_28 : decode cX4_lacks 28 = .ok (.iconst 0, 1) := by decide +kernel
theorem dX4_lacks_29 : decode cX4_lacks 29 = .ok (.aload_n 0, 1) := by decide +kernel
theorem dX4_lacks_30 : decode cX4_lacks 30 = .ok (.getfield 80, 3) := by decide +kernel
theorem dX4_lacks_33 : decode cX4_lacks 33 = .ok (.iload_n 1, 1) := by decide +kernel
theorem dX4_lacks_34 : decode cX4_lacks 34 = .ok (.iaload, 1) := by decide +kernel
theorem dX4_lacks_35 : decode cX4_lacks 35 = .ok (.iconst 1, 1) := by decide +kernel
theorem dX4_lacks_36 : decode cX4_lacks 36 = .ok (.isub, 1) := by decide +kernel
theorem dX4_lacks_37 : decode cX4_lacks 37 = .ok (.invokestatic 95, 3) := by decide +kernel
theorem dX4_lacks_40 : decode cX4_lacks 40 = .ok (.ifCond .eq 7, 3) := by decide +kernel
theorem dX4_lacks_43 : decode cX4_lacks 43 = .ok (.iconst 0, 1) := by decide +kernel
theorem dX4_lacks_44 : decode cX4_lacks 44 = .ok (.goto 4, 3) := by decide +kernel
theorem dX4_lacks_47 : decode cX4_lacks 47 = .ok (.iconst 2, 1) := by decide +kernel
theorem dX4_lacks_48 : decode cX4_lacks 48 = .ok (.ireturn, 1) := by decide +kernel
theorem dX4_keep_0 : decode cX4_keep 0 = .ok (.aload_n 0, 1) := by decide +kernel
theorem dX4_keep_1 : decode cX4_keep 1 = .ok (.getfield 83, 3) := by decide +kernel
theorem dX4_keep_4 : decode cX4_keep 4 = .ok (.bipush 60, 2) := by decide +kernel
theorem dX4_keep_6 : decode cX4_keep 6 = .ok (.iload_n 1, 1) := by decide +kernel
theorem dX4_keep_7 : decode cX4_keep 7 = .ok (.imul, 1) := by decide +kernel
theorem dX4_keep_8 : decode cX4_keep 8 = .ok (.iload_n 2, 1) := by decide +kernel
theorem dX4_keep_9 : decode cX4_keep 9 = .ok (.iadd, 1) := by decide +kernel
theorem dX4_keep_10 : decode cX4_keep 10 = .ok (.aload_n 0, 1) := by decide +kernel
theorem dX4_keep_11 : decode cX4_keep 11 = .ok (.getfield 77, 3) := by decide +kernel
theorem dX4_keep_14 : decode cX4_keep 14 = .ok (.iload_n 1, 1) := by decide +kernel
theorem dX4_keep_15 : decode cX4_keep 15 = .ok (.iaload, 1) := by decide +kernel
theorem dX4_keep_16 : decode cX4_keep 16 = .ok (.ifCond .ne 8, 3) := by decide +kernel
theorem dX4_keep_19 : decode cX4_keep 19 = .ok (.iload_n 3, 1) := by decide +kernel
theorem dX4_keep_20 : decode cX4_keep 20 = .ok (.i2b, 1) := by decide +kernel
theorem dX4_keep_21 : decode cX4_keep 21 = .ok (.goto 19, 3) := by decide +kernel
theorem dX4_keep_24 : decode cX4_keep 24 = .ok (.aload_n 0, 1) := by decide +kernel
theorem dX4_keep_25 : decode cX4_keep 25 = .ok (.getfield 77, 3) := by decide +kernel
theorem dX4_keep_28 : decode cX4_keep 28 = .ok (.iload_n 1, 1) := by decide +kernel
theorem dX4_keep_29 : decode cX4_keep 29 = .ok (.iaload, 1) := by decide +kernel
theorem dX4_keep_30 : decode cX4_keep 30 = .ok (.iconst 1, 1) := by decide +kernel
theorem dX4_keep_31 : decode cX4_keep 31 = .ok (.if_icmp .ne 8, 3) := by decide +kernel
theorem dX4_keep_34 : decode cX4_keep 34 = .ok (.iload_n 3, 1) := by decide +kernel
theorem dX4_keep_35 : decode cX4_keep 35 = .ok (.i2s, 1) := by decide +kernel
theorem dX4_keep_36 : decode cX4_keep 36 = .ok (.goto 4, 3) := by decide +kernel
theorem dX4_keep_39 : decode cX4_keep 39 = .ok (.iload_n 3, 1) := by decide +kernel
theorem dX4_keep_40 : decode cX4_keep 40 = .ok (.iastore, 1) := by decide +kernel
theorem dX4_keep_41 : decode cX4_keep 41 = .ok (.return_, 1) := by decide +kernel
theorem qq_X4_put_0 {c : Cond} (j : Nat) (h : ([.methodLink RX4 114 yX4_isSheet, .static yX4_isSheet, .initialized RX4, .code yX4_isSheet cX4_isSheet 1 (some .boolean), .methodLink RX4 95 yX4_in, .static yX4_in, .code yX4_in cX4_in 3 (some .boolean), .methodLink RX4 281 yX4_lacks, .instanceMethod yX4_lacks, .selects RX4 yX4_lacks yX4_lacks, .code yX4_lacks cX4_lacks 4 (some .int), .fieldLink RX4 73 "InkSwathsModel" "isThere" "[Z", .fieldLink RX4 77 "InkSwathsModel" "forms" "[I", .fieldLink RX4 80 "InkSwathsModel" "sizes" "[I", .methodLink RX4 117 yX4_meets, .instanceMethod yX4_meets, .selects RX4 yX4_meets yX4_meets, .code yX4_meets cX4_meets 2 (some .int), .fieldLink RX4 278 "InkSwathsModel" "finding" "I", .methodLink RX4 284 yX4_keep, .instanceMethod yX4_keep, .selects RX4 yX4_keep yX4_keep, .code yX4_keep cX4_keep 4 none, .fieldLink RX4 83 "InkSwathsModel" "items" "[I"] : List Cond)[j]? = some c) : c ∈ wsX4_put := List.mem_cons_of_mem _ (List.mem_append_left _ (List.mem_of_getElem? h))
theorem uq_X4_put_X4 : wsub wsX40 wsX4_put := fun _ h => List.mem_cons_of_mem _ (List.mem_append_right _ (h))
set_option maxRecDepth 20000 in
theorem ggX4_put_X4_isSheet : GoodIn wsX4_put wsX4_isSheet := goodIn_sub (sb_c (qq_X4_put_0 3 rfl) (sb_c (qq_X4_put_0 4 rfl) (sb_c (qq_X4_put_0 5 rfl) (sb_c (qq_X4_put_0 2 rfl) (sb_c (qq_X4_put_0 6 rfl) sb_n))))) gw_X4_isSheet
set_option maxRecDepth 20000 in
theorem gX4_put_X4_isSheet : GoodIn wsX4_put (va_wsS RX4 114 yX4_isSheet wsX4_isSheet) := goodIn_app (goodIn_sub (sb_c (qq_X4_put_0 0 rfl) (sb_c (qq_X4_put_0 1 rfl) (sb_c (qq_X4_put_0 2 rfl) sb_n))) (by decide +kernel)) ggX4_put_X4_isSheet
set_option maxRecDepth 20000 in
theorem ggX4_put_X4_in : GoodIn wsX4_put wsX4_in := goodIn_sub (sb_c (qq_X4_put_0 6 rfl) (sb_n)) gw_X4_in
set_option maxRecDepth 20000 in
theorem gX4_put_X4_in : GoodIn wsX4_put (va_wsS RX4 95 yX4_in wsX4_in) := goodIn_app (goodIn_sub (sb_c (qq_X4_put_0 4 rfl) (sb_c (qq_X4_put_0 5 rfl) (sb_c (qq_X4_put_0 2 rfl) sb_n))) (by decide +kernel)) ggX4_put_X4_in
set_option maxRecDepth 20000 in
theorem gw_X4_lacks : wsX4_lacks.all goodWord = true := by decide +kernel
set_option maxRecDepth 20000 in
theorem ggX4_put_X4_lacks : GoodIn wsX4_put wsX4_lacks := goodIn_sub (sb_c (qq_X4_put_0 10 rfl) (sb_a (sb_c (qq_X4_put_0 11 rfl) (sb_c (qq_X4_put_0 12 rfl) (sb_c (qq_X4_put_0 13 rfl) (sb_c (qq_X4_put_0 4 rfl) (sb_c (qq_X4_put_0 5 rfl) (sb_c (qq_X4_put_0 2 rfl) (sb_c (qq_X4_put_0 6 rfl) sb_n))))))) (uq_X4_put_X4))) gw_X4_lacks
set_option maxRecDepth 20000 in
theorem gX4_put_X4_lacks : GoodIn wsX4_put (wsV RX4 281 RX4 yX4_lacks wsX4_lacks) := goodIn_app (goodIn_sub (sb_c (qq_X4_put_0 7 rfl) (sb_c (qq_X4_put_0 8 rfl) (sb_c (qq_X4_put_0 9 rfl) (sb_c (qq_X4_put_0 2 rfl) sb_n)))) (by decide +kernel)) ggX4_put_X4_lacks
set_option maxRecDepth 20000 in
theorem ggX4_put_X4_meets : GoodIn wsX4_put wsX4_meets := goodIn_sub (sb_c (qq_X4_put_0 17 rfl) (sb_a (sb_c (qq_X4_put_0 18 rfl) sb_n) (uq_X4_put_X4))) gw_X4_meets
set_option maxRecDepth 20000 in
theorem gX4_put_X4_meets : GoodIn wsX4_put (wsV RX4 117 RX4 yX4_meets wsX4_meets) := goodIn_app (goodIn_sub (sb_c (qq_X4_put_0 14 rfl) (sb_c (qq_X4_put_0 15 rfl) (sb_c (qq_X4_put_0 16 rfl) (sb_c (qq_X4_put_0 2 rfl) sb_n)))) (by decide +kernel)) ggX4_put_X4_meets
set_option maxRecDepth 20000 in
theorem gw_X4_keep : wsX4_keep.all goodWord = true := by decide +kernel
set_option maxRecDepth 20000 in
theorem ggX4_put_X4_keep : GoodIn wsX4_put wsX4_keep := goodIn_sub (sb_c (qq_X4_put_0 22 rfl) (sb_a (sb_c (qq_X4_put_0 23 rfl) (sb_c (qq_X4_put_0 12 rfl) sb_n)) (uq_X4_put_X4))) gw_X4_keep
set_option maxRecDepth 20000 in
theorem gX4_put_X4_keep : GoodIn wsX4_put (wsV RX4 284 RX4 yX4_keep wsX4_keep) := goodIn_app (goodIn_sub (sb_c (qq_X4_put_0 19 rfl) (sb_c (qq_X4_put_0 20 rfl) (sb_c (qq_X4_put_0 21 rfl) (sb_c (qq_X4_put_0 2 rfl) sb_n)))) (by decide +kernel)) ggX4_put_X4_keep
theorem dX4_put_0 : decode cX4_put 0 = .ok (.iload_n 1, 1) := by decide +kernel
theorem dX4_put_1 : decode cX4_put 1 = .ok (.invokestatic 114, 3) := by decide +kernel
theorem dX4_put_4 : decode cX4_put 4 = .ok (.ifCond .eq 12, 3) := by decide +kernel
theorem dX4_put_7 : decode cX4_put 7 = .ok (.iload_n 2, 1) := by decide +kernel
theorem dX4_put_8 : decode cX4_put 8 = .ok (.iconst 0, 1) := by decide +kernel
theorem dX4_put_9 : decode cX4_put 9 = .ok (.iconst 2, 1) := by decide +kernel
theorem dX4_put_10 : decode cX4_put 10 = .ok (.invokestatic 95, 3) := by decide +kernel
theorem dX4_put_13 : decode cX4_put 13 = .ok (.ifCond .ne 6, 3) := by decide +kernel
theorem dX4_put_16 : decode cX4_put 16 = .ok (.bipush (-2), 2) := by decide +kernel
theorem dX4_put_18 : decode cX4_put 18 = .ok (.ireturn, 1) := by decide +kernel
theorem dX4_put_19 : decode cX4_put 19 = .ok (.aload_n 0, 1) := by decide +kernel
theorem dX4_put_20 : decode cX4_put 20 = .ok (.iload_n 1, 1) := by decide +kernel
theorem dX4_put_21 : decode cX4_put 21 = .ok (.iload_n 2, 1) := by decide +kernel
theorem dX4_put_22 : decode cX4_put 22 = .ok (.iload_n 3, 1) := by decide +kernel
theorem dX4_put_23 : decode cX4_put 23 = .ok (.invokevirtual 281, 3) := by decide +kernel
theorem dX4_put_26 : decode cX4_put 26 = .ok (.istore 5, 2) := by decide +kernel
theorem dX4_put_28 : decode cX4_put 28 = .ok (.iload 5, 2) := by decide +kernel
theorem dX4_put_30 : decode cX4_put 30 = .ok (.ifCond .le 10, 3) := by decide +kernel
theorem dX4_put_33 : decode cX4_put 33 = .ok (.aload_n 0, 1) := by decide +kernel
theorem dX4_put_34 : decode cX4_put 34 = .ok (.iload 5, 2) := by decide +kernel
theorem dX4_put_36 : decode cX4_put 36 = .ok (.invokevirtual 117, 3) := by decide +kernel
theorem dX4_put_39 : decode cX4_put 39 = .ok (.ireturn, 1) := by decide +kernel
theorem dX4_put_40 : decode cX4_put 40 = .ok (.aload_n 0, 1) := by decide +kernel
theorem dX4_put_41 : decode cX4_put 41 = .ok (.iload_n 1, 1) := by decide +kernel
theorem dX4_put_42 : decode cX4_put 42 = .ok (.iload_n 3, 1) := by decide +kernel
theorem dX4_put_43 : decode cX4_put 43 = .ok (.iload 4, 2) := by decide +kernel
theorem dX4_put_45 : decode cX4_put 45 = .ok (.invokevirtual 284, 3) := by decide +kernel
theorem dX4_put_48 : decode cX4_put 48 = .ok (.iconst 1, 1) := by decide +kernel
theorem dX4_put_49 : decode cX4_put 49 = .ok (.ireturn, 1) := by decide +kernel
theorem qq_X4_get_0 {c : Cond} (j : Nat) (h : ([.constant RX4 106 (-2147483648), .fieldLink RX4 278 "InkSwathsModel" "finding" "I", .fieldLink RX4 83 "InkSwathsModel" "items" "[I", .methodLink RX4 114 yX4_isSheet, .static yX4_isSheet, .initialized RX4, .code yX4_isSheet cX4_isSheet 1 (some .boolean), .methodLink RX4 95 yX4_in, .static yX4_in, .code yX4_in cX4_in 3 (some .boolean), .methodLink RX4 281 yX4_lacks, .instanceMethod yX4_lacks, .selects RX4 yX4_lacks yX4_lacks, .code yX4_lacks cX4_lacks 4 (some .int), .fieldLink RX4 73 "InkSwathsModel" "isThere" "[Z", .fieldLink RX4 77 "InkSwathsModel" "forms" "[I", .fieldLink RX4 80 "InkSwathsModel" "sizes" "[I"] : List Cond)[j]? = some c) : c ∈ wsX4_get := List.mem_cons_of_mem _ (List.mem_append_left _ (List.mem_of_getElem? h))
theorem uq_X4_get_X4 : wsub wsX40 wsX4_get := fun _ h => List.mem_cons_of_mem _ (List.mem_append_right _ (h))
set_option maxRecDepth 20000 in
theorem ggX4_get_X4_isSheet : GoodIn wsX4_get wsX4_isSheet := goodIn_sub (sb_c (qq_X4_get_0 6 rfl) (sb_c (qq_X4_get_0 7 rfl) (sb_c (qq_X4_get_0 8 rfl) (sb_c (qq_X4_get_0 5 rfl) (sb_c (qq_X4_get_0 9 rfl) sb_n))))) gw_X4_isSheet
set_option maxRecDepth 20000 in
theorem gX4_get_X4_isSheet : GoodIn wsX4_get (va_wsS RX4 114 yX4_isSheet wsX4_isSheet) := goodIn_app (goodIn_sub (sb_c (qq_X4_get_0 3 rfl) (sb_c (qq_X4_get_0 4 rfl) (sb_c (qq_X4_get_0 5 rfl) sb_n))) (by decide +kernel)) ggX4_get_X4_isSheet
set_option maxRecDepth 20000 in
theorem ggX4_get_X4_in : GoodIn wsX4_get wsX4_in := goodIn_sub (sb_c (qq_X4_get_0 9 rfl) (sb_n)) gw_X4_in
set_option maxRecDepth 20000 in
theorem gX4_get_X4_in : GoodIn wsX4_get (va_wsS RX4 95 yX4_in wsX4_in) := goodIn_app (goodIn_sub (sb_c (qq_X4_get_0 7 rfl) (sb_c (qq_X4_get_0 8 rfl) (sb_c (qq_X4_get_0 5 rfl) sb_n))) (by decide +kernel)) ggX4_get_X4_in
set_option maxRecDepth 20000 in
theorem ggX4_get_X4_lacks : GoodIn wsX4_get wsX4_lacks := goodIn_sub (sb_c (qq_X4_get_0 13 rfl) (sb_a (sb_c (qq_X4_get_0 14 rfl) (sb_c (qq_X4_get_0 15 rfl) (sb_c (qq_X4_get_0 16 rfl) (sb_c (qq_X4_get_0 7 rfl) (sb_c (qq_X4_get_0 8 rfl) (sb_c (qq_X4_get_0 5 rfl) (sb_c (qq_X4_get_0 9 rfl) sb_n))))))) (uq_X4_get_X4))) gw_X4_lacks
set_option maxRecDepth 20000 in
theorem gX4_get_X4_lacks : GoodIn wsX4_get (wsV RX4 281 RX4 yX4_lacks wsX4_lacks) := goodIn_app (goodIn_sub (sb_c (qq_X4_get_0 10 rfl) (sb_c (qq_X4_get_0 11 rfl) (sb_c (qq_X4_get_0 12 rfl) (sb_c (qq_X4_get_0 5 rfl) sb_n)))) (by decide +kernel)) ggX4_get_X4_lacks
theorem dX4_get_0 : decode cX4_get 0 = .ok (.iload_n 1, 1) := by decide +kernel
theorem dX4_get_1 : decode cX4_get 1 = .ok (.invokestatic 114, 3) := by decide +kernel
theorem dX4_get_4 : decode cX4_get 4 = .ok (.ifCond .eq 12, 3) := by decide +kernel
theorem dX4_get_7 : decode cX4_get 7 = .ok (.iload_n 2, 1) := by decide +kernel
theorem dX4_get_8 : decode cX4_get 8 = .ok (.iconst 0, 1) := by decide +kernel
theorem dX4_get_9 : decode cX4_get 9 = .ok (.iconst 2, 1) := by decide +kernel
theorem dX4_get_10 : decode cX4_get 10 = .ok (.invokestatic 95, 3) := by decide +kernel
theorem dX4_get_13 : decode cX4_get 13 = .ok (.ifCond .ne 6, 3) := by decide +kernel
theorem dX4_get_16 : decode cX4_get 16 = .ok (.ldc 106, 2) := by decide +kernel
theorem dX4_get_18 : decode cX4_get 18 = .ok (.ireturn, 1) := by decide +kernel
theorem dX4_get_19 : decode cX4_get 19 = .ok (.aload_n 0, 1) := by decide +kernel
theorem dX4_get_20 : decode cX4_get 20 = .ok (.iload_n 1, 1) := by decide +kernel
theorem dX4_get_21 : decode cX4_get 21 = .ok (.iload_n 2, 1) := by decide +kernel
theorem dX4_get_22 : decode cX4_get 22 = .ok (.iload_n 3, 1) := by decide +kernel
theorem dX4_get_23 : decode cX4_get 23 = .ok (.invokevirtual 281, 3) := by decide +kernel
theorem dX4_get_26 : decode cX4_get 26 = .ok (.istore 4, 2) := by decide +kernel
theorem dX4_get_28 : decode cX4_get 28 = .ok (.iload 4, 2) := by decide +kernel
theorem dX4_get_30 : decode cX4_get 30 = .ok (.ifCond .le 12, 3) := by decide +kernel
theorem dX4_get_33 : decode cX4_get 33 = .ok (.aload_n 0, 1) := by decide +kernel
theorem dX4_get_34 : decode cX4_get 34 = .ok (.iload 4, 2) := by decide +kernel
theorem dX4_get_36 : decode cX4_get 36 = .ok (.putfield 278, 3) := by decide +kernel
theorem dX4_get_39 : decode cX4_get 39 = .ok (.ldc 106, 2) := by decide +kernel
theorem dX4_get_41 : decode cX4_get 41 = .ok (.ireturn, 1) := by decide +kernel
theorem dX4_get_42 : decode cX4_get 42 = .ok (.aload_n 0, 1) := by decide +kernel
theorem dX4_get_43 : decode cX4_get 43 = .ok (.getfield 83, 3) := by decide +kernel
theorem dX4_get_46 : decode cX4_get 46 = .ok (.bipush 60, 2) := by decide +kernel
theorem dX4_get_48 : decode cX4_get 48 = .ok (.iload_n 1, 1) := by decide +kernel
theorem dX4_get_49 : decode cX4_get 49 = .ok (.imul, 1) := by decide +kernel
theorem dX4_get_50 : decode cX4_get 50 = .ok (.iload_n 3, 1) := by decide +kernel
theorem dX4_get_51 : decode cX4_get 51 = .ok (.iadd, 1) := by decide +kernel
theorem dX4_get_52 : decode cX4_get 52 = .ok (.iaload, 1) := by decide +kernel
theorem dX4_get_53 : decode cX4_get 53 = .ok (.ireturn, 1) := by decide +kernel
theorem qq_X4_copy_0 {c : Cond} (j : Nat) (h : ([.fieldLink RX4 73 "InkSwathsModel" "isThere" "[Z", .fieldLink RX4 77 "InkSwathsModel" "forms" "[I", .fieldLink RX4 80 "InkSwathsModel" "sizes" "[I", .fieldLink RX4 86 "InkSwathsModel" "moved" "[I", .fieldLink RX4 83 "InkSwathsModel" "items" "[I", .methodLink RX4 114 yX4_isSheet, .static yX4_isSheet, .initialized RX4, .code yX4_isSheet cX4_isSheet 1 (some .boolean), .methodLink RX4 95 yX4_in, .static yX4_in, .code yX4_in cX4_in 3 (some .boolean), .methodLink RX4 117 yX4_meets, .instanceMethod yX4_meets, .selects RX4 yX4_meets yX4_meets, .code yX4_meets cX4_meets 2 (some .int), .fieldLink RX4 278 "InkSwathsModel" "finding" "I"] : List Cond)[j]? = some c) : c ∈ wsX4_copy := List.mem_cons_of_mem _ (List.mem_append_left _ (List.mem_of_getElem? h))
theorem uq_X4_copy_X4 : wsub wsX40 wsX4_copy := fun _ h => List.mem_cons_of_mem _ (List.mem_append_right _ (h))
set_option maxRecDepth 20000 in
theorem ggX4_copy_X4_isSheet : GoodIn wsX4_copy wsX4_isSheet := goodIn_sub (sb_c (qq_X4_copy_0 8 rfl) (sb_c (qq_X4_copy_0 9 rfl) (sb_c (qq_X4_copy_0 10 rfl) (sb_c (qq_X4_copy_0 7 rfl) (sb_c (qq_X4_copy_0 11 rfl) sb_n))))) gw_X4_isSheet
set_option maxRecDepth 20000 in
theorem gX4_copy_X4_isSheet : GoodIn wsX4_copy (va_wsS RX4 114 yX4_isSheet wsX4_isSheet) := goodIn_app (goodIn_sub (sb_c (qq_X4_copy_0 5 rfl) (sb_c (qq_X4_copy_0 6 rfl) (sb_c (qq_X4_copy_0 7 rfl) sb_n))) (by decide +kernel)) ggX4_copy_X4_isSheet
set_option maxRecDepth 20000 in
theorem ggX4_copy_X4_meets : GoodIn wsX4_copy wsX4_meets := goodIn_sub (sb_c (qq_X4_copy_0 15 rfl) (sb_a (sb_c (qq_X4_copy_0 16 rfl) sb_n) (uq_X4_copy_X4))) gw_X4_meets
set_option maxRecDepth 20000 in
theorem gX4_copy_X4_meets : GoodIn wsX4_copy (wsV RX4 117 RX4 yX4_meets wsX4_meets) := goodIn_app (goodIn_sub (sb_c (qq_X4_copy_0 12 rfl) (sb_c (qq_X4_copy_0 13 rfl) (sb_c (qq_X4_copy_0 14 rfl) (sb_c (qq_X4_copy_0 7 rfl) sb_n)))) (by decide +kernel)) ggX4_copy_X4_meets
theorem dX4_copy_0 : decode cX4_copy 0 = .ok (.iload_n 1, 1) := by decide +kernel
theorem dX4_copy_1 : decode cX4_copy 1 = .ok (.invokestatic 114, 3) := by decide +kernel
theorem dX4_copy_4 : decode cX4_copy 4 = .ok (.ifCond .eq 10, 3) := by decide +kernel
theorem dX4_copy_7 : decode cX4_copy 7 = .ok (.iload_n 3, 1) := by decide +kernel
theorem dX4_copy_8 : decode cX4_copy 8 = .ok (.invokestatic 114, 3) := by decide +kernel
theorem dX4_copy_11 : decode cX4_copy 11 = .ok (.ifCond .ne 6, 3) := by decide +kernel
theorem dX4_copy_14 : decode cX4_copy 14 = .ok (.bipush (-2), 2) := by decide +kernel
theorem dX4_copy_16 : decode cX4_copy 16 = .ok (.ireturn, 1) := by decide +kernel
theorem dX4_copy_17 : decode cX4_copy 17 = .ok (.aload_n 0, 1) := by decide +kernel
theorem dX4_copy_18 : decode cX4_copy 18 = .ok (.getfield 73, 3) := by decide +kernel
theorem dX4_copy_21 : decode cX4_copy 21 = .ok (.iload_n 1, 1) := by decide +kernel
theorem dX4_copy_22 : decode cX4_copy 22 = .ok (.baload, 1) := by decide +kernel
theorem dX4_copy_23 : decode cX4_copy 23 = .ok (.ifCond .eq 12, 3) := by decide +kernel
theorem dX4_copy_26 : decode cX4_copy 26 = .ok (.aload_n 0, 1) := by decide +kernel
theorem dX4_copy_27 : decode cX4_copy 27 = .ok (.getfield 73, 3) := by decide +kernel
theorem dX4_copy_30 : decode cX4_copy 30 = .ok (.iload_n 3, 1) := by decide +kernel
theorem dX4_copy_31 : decode cX4_copy 31 = .ok (.baload, 1) := by decide +kernel
theorem dX4_copy_32 : decode cX4_copy 32 = .ok (.ifCond .ne 9, 3) := by decide +kernel
theorem dX4_copy_35 : decode cX4_copy 35 = .ok (.aload_n 0, 1) := by decide +kernel
theorem dX4_copy_36 : decode cX4_copy 36 = .ok (.iconst 1, 1) := by decide +kernel
theorem dX4_copy_37 : decode cX4_copy 37 = .ok (.invokevirtual 117, 3) := by decide +kernel
theorem dX4_copy_40 : decode cX4_copy 40 = .ok (.ireturn, 1) := by decide +kernel
theorem dX4_copy_41 : decode cX4_copy 41 = .ok (.aload_n 0, 1) := by decide +kernel
theorem dX4_copy_42 : decode cX4_copy 42 = .ok (.getfield 77, 3) := by decide +kernel
theorem dX4_copy_45 : decode cX4_copy 45 = .ok (.iload_n 1, 1) := by decide +kernel
theorem dX4_copy_46 : decode cX4_copy 46 = .ok (.iaload, 1) := by decide +kernel
theorem dX4_copy_47 : decode cX4_copy 47 = .ok (.aload_n 0, 1) := by decide +kernel
theorem dX4_copy_48 : decode cX4_copy 48 = .ok (.getfield 77, 3) := by decide +kernel
theorem dX4_copy_51 : decode cX4_copy 51 = .ok (.iload_n 3, 1) := by decide +kernel
theorem dX4_copy_52 : decode cX4_copy 52 = .ok (.iaload, 1) := by decide +kernel
theorem dX4_copy_53 : decode cX4_copy 53 = .ok (.if_icmp .eq 9, 3) := by decide +kernel
theorem dX4_copy_56 : decode cX4_copy 56 = .ok (.aload_n 0, 1) := by decide +kernel
theorem dX4_copy_57 : decode cX4_copy 57 = .ok (.iconst 4, 1) := by decide +kernel
theorem dX4_copy_58 : decode cX4_copy 58 = .ok (.invokevirtual 117, 3) := by decide +kernel
theorem dX4_copy_61 : decode cX4_copy 61 = .ok (.ireturn, 1) := by decide +kernel
theorem dX4_copy_62 : decode cX4_copy 62 = .ok (.iload_n 2, 1) := by decide +kernel
theorem dX4_copy_63 : decode cX4_copy 63 = .ok (.ifCond .lt 48, 3) := by decide +kernel
theorem dX4_copy_66 : decode cX4_copy 66 = .ok (.iload 4, 2) := by decide +kernel
theorem dX4_copy_68 : decode cX4_copy 68 = .ok (.ifCond .lt 43, 3) := by decide +kernel
theorem dX4_copy_71 : decode cX4_copy 71 = .ok (.iload 5, 2) := by decide +kernel
theorem dX4_copy_73 : decode cX4_copy 73 = .ok (.ifCond .lt 38, 3) := by decide +kernel
theorem dX4_copy_76 : decode cX4_copy 76 = .ok (.iload_n 2, 1) := by decide +kernel
theorem dX4_copy_77 : decode cX4_copy 77 = .ok (.i2l, 1) := by decide +kernel
theorem dX4_copy_78 : decode cX4_copy 78 = .ok (.iload 5, 2) := by decide +kernel
theorem dX4_copy_80 : decode cX4_copy 80 = .ok (.i2l, 1) := by decide +kernel
theorem dX4_copy_81 : decode cX4_copy 81 = .ok (.ladd, 1) := by decide +kernel
theorem dX4_copy_82 : decode cX4_copy 82 = .ok (.aload_n 0, 1) := by decide +kernel
theorem dX4_copy_83 : decode cX4_copy 83 = .ok (.getfield 80, 3) := by decide +kernel
theorem dX4_copy_86 : decode cX4_copy 86 = .ok (.iload_n 1, 1) := by decide +kernel
theorem dX4_copy_87 : decode cX4_copy 87 = .ok (.iaload, 1) := by decide +kernel
theorem dX4_copy_88 : decode cX4_copy 88 = .ok (.i2l, 1) := by decide +kernel
theorem dX4_copy_89 : decode cX4_copy 89 = .ok (.lcmp, 1) := by decide +kernel
theorem dX4_copy_90 : decode cX4_copy 90 = .ok (.ifCond .gt 21, 3) := by decide +kernel
theorem dX4_copy_93 : decode cX4_copy 93 = .ok (.iload 4, 2) := by decide +kernel
theorem dX4_copy_95 : decode cX4_copy 95 = .ok (.i2l, 1) := by decide +kernel
theorem dX4_copy_96 : decode cX4_copy 96 = .ok (.iload 5, 2) := by decide +kernel
theorem dX4_copy_98 : decode cX4_copy 98 = .ok (.i2l, 1) := by decide +kernel
theorem dX4_copy_99 : decode cX4_copy 99 = .ok (.ladd, 1) := by decide +kernel
theorem dX4_copy_100 : decode cX4_copy 100 = .ok (.aload_n 0, 1) := by decide +kernel
theorem dX4_copy_101 : decode cX4_copy 101 = .ok (.getfield 80, 3) := by decide +kernel
theorem dX4_copy_104 : decode cX4_copy 104 = .ok (.iload_n 3, 1) := by decide +kernel
theorem dX4_copy_105 : decode cX4_copy 105 = .ok (.iaload, 1) := by decide +kernel
theorem dX4_copy_106 : decode cX4_copy 106 = .ok (.i2l, 1) := by decide +kernel
theorem dX4_copy_107 : decode cX4_copy 107 = .ok (.lcmp, 1) := by decide +kernel
theorem dX4_copy_108 : decode cX4_copy 108 = .ok (.ifCond .le 9, 3) := by decide +kernel
theorem dX4_copy_111 : decode cX4_copy 111 = .ok (.aload_n 0, 1) := by decide +kernel
theorem dX4_copy_112 : decode cX4_copy 112 = .ok (.iconst 2, 1) := by decide +kernel
theorem dX4_copy_113 : decode cX4_copy 113 = .ok (.invokevirtual 117, 3) := by decide +kernel
theorem dX4_copy_116 : decode cX4_copy 116 = .ok (.ireturn, 1) := by decide +kernel
theorem dX4_copy_117 : decode cX4_copy 117 = .ok (.iconst 0, 1) := by decide +kernel
theorem dX4_copy_118 : decode cX4_copy 118 = .ok (.istore 6, 2) := by decide +kernel
theorem dX4_copy_120 : decode cX4_copy 120 = .ok (.iload 6, 2) := by decide +kernel
theorem dX4_copy_122 : decode cX4_copy 122 = .ok (.iload 5, 2) := by decide +kernel
theorem dX4_copy_124 : decode cX4_copy 124 = .ok (.if_icmp .ge 30, 3) := by decide +kernel
theorem dX4_copy_127 : decode cX4_copy 127 = .ok (.aload_n 0, 1) := by decide +kernel
theorem dX4_copy_128 : decode cX4_copy 128 = .ok (.getfield 86, 3) := by decide +kernel
theorem dX4_copy_131 : decode cX4_copy 131 = .ok (.iload 6, 2) := by decide +kernel
theorem dX4_copy_133 : decode cX4_copy 133 = .ok (.aload_n 0, 1) := by decide +kernel
theorem dX4_copy_134 : decode cX4_copy 134 = .ok (.getfield 83, 3) := by decide +kernel
theorem dX4_copy_137 : decode cX4_copy 137 = .ok (.bipush 60, 2) := by decide +kernel
theorem dX4_copy_139 : decode cX4_copy 139 = .ok (.iload_n 1, 1) := by decide +kernel
theorem dX4_copy_140 : decode cX4_copy 140 = .ok (.imul, 1) := by decide +kernel
theorem dX4_copy_141 : decode cX4_copy 141 = .ok (.iload_n 2, 1) := by decide +kernel
theorem dX4_copy_142 : decode cX4_copy 142 = .ok (.iadd, 1) := by decide +kernel
theorem dX4_copy_143 : decode cX4_copy 143 = .ok (.iload 6, 2) := by decide +kernel
theorem dX4_copy_145 : decode cX4_copy 145 = .ok (.iadd, 1) := by decide +kernel
theorem dX4_copy_146 : decode cX4_copy 146 = .ok (.iaload, 1) := by decide +kernel
theorem dX4_copy_147 : decode cX4_copy 147 = .ok (.iastore, 1) := by decide +kernel
theorem dX4_copy_148 : decode cX4_copy 148 = .ok (.iinc 6 1, 3) := by decide +kernel
theorem dX4_copy_151 : decode cX4_copy 151 = .ok (.goto (-31), 3) := by decide +kernel
theorem dX4_copy_154 : decode cX4_copy 154 = .ok (.iconst 0, 1) := by decide +kernel
theorem dX4_copy_155 : decode cX4_copy 155 = .ok (.istore 6, 2) := by decide +kernel
theorem dX4_copy_157 : decode cX4_copy 157 = .ok (.iload 6, 2) := by decide +kernel
theorem dX4_copy_159 : decode cX4_copy 159 = .ok (.iload 5, 2) := by decide +kernel
theorem dX4_copy_161 : decode cX4_copy 161 = .ok (.if_icmp .ge 31, 3) := by decide +kernel
theorem dX4_copy_164 : decode cX4_copy 164 = .ok (.aload_n 0, 1) := by decide +kernel
theorem dX4_copy_165 : decode cX4_copy 165 = .ok (.getfield 83, 3) := by decide +kernel
theorem dX4_copy_168 : decode cX4_copy 168 = .ok (.bipush 60, 2) := by decide +kernel
theorem dX4_copy_170 : decode cX4_copy 170 = .ok (.iload_n 3, 1) := by decide +kernel
theorem dX4_copy_171 : decode cX4_copy 171 = .ok (.imul, 1) := by decide +kernel
theorem dX4_copy_172 : decode cX4_copy 172 = .ok (.iload 4, 2) := by decide +kernel
theorem dX4_copy_174 : decode cX4_copy 174 = .ok (.iadd, 1) := by decide +kernel
theorem dX4_copy_175 : decode cX4_copy 175 = .ok (.iload 6, 2) := by decide +kernel
theorem dX4_copy_177 : decode cX4_copy 177 = .ok (.iadd, 1) := by decide +kernel
theorem dX4_copy_178 : decode cX4_copy 178 = .ok (.aload_n 0, 1) := by decide +kernel
theorem dX4_copy_179 : decode cX4_copy 179 = .ok (.getfield 86, 3) := by decide +kernel
theorem dX4_copy_182 : decode cX4_copy 182 = .ok (.iload 6, 2) := by decide +kernel
theorem dX4_copy_184 : decode cX4_copy 184 = .ok (.iaload, 1) := by decide +kernel
theorem dX4_copy_185 : decode cX4_copy 185 = .ok (.iastore, 1) := by decide +kernel
theorem dX4_copy_186 : decode cX4_copy 186 = .ok (.iinc 6 1, 3) := by decide +kernel
theorem dX4_copy_189 : decode cX4_copy 189 = .ok (.goto (-32), 3) := by decide +kernel
theorem dX4_copy_192 : decode cX4_copy 192 = .ok (.iconst 1, 1) := by decide +kernel
theorem dX4_copy_193 : decode cX4_copy 193 = .ok (.ireturn, 1) := by decide +kernel
theorem qq_X4_write_0 {c : Cond} (j : Nat) (h : wsX4_write_r1[j]? = some c) : c ∈ wsX4_write := List.mem_cons_of_mem _ (List.mem_append_left _ (List.mem_append_left _ (List.mem_of_getElem? h)))
theorem qq_X4_write_1 {c : Cond} (j : Nat) (h : wsX4_write_r2[j]? = some c) : c ∈ wsX4_write := List.mem_cons_of_mem _ (List.mem_append_left _ (List.mem_append_right _ (List.mem_append_left _ (List.mem_of_getElem? h))))
theorem qq_X4_write_2 {c : Cond} (j : Nat) (h : wsX4_write_r3[j]? = some c) : c ∈ wsX4_write := List.mem_cons_of_mem _ (List.mem_append_left _ (List.mem_append_right _ (List.mem_append_right _ (List.mem_append_left _ (List.mem_of_getElem? h)))))
theorem qq_X4_write_3 {c : Cond} (j : Nat) (h : wsX4_write_r4[j]? = some c) : c ∈ wsX4_write := List.mem_cons_of_mem _ (List.mem_append_left _ (List.mem_append_right _ (List.mem_append_right _ (List.mem_append_right _ (List.mem_of_getElem? h)))))
theorem uq_X4_write_X4 : wsub wsX40 wsX4_write := fun _ h => List.mem_cons_of_mem _ (List.mem_append_right _ (h))
set_option maxRecDepth 20000 in
theorem ggX4_write_X4_isSheet : GoodIn wsX4_write wsX4_isSheet := goodIn_sub (sb_c (qq_X4_write_0 6 rfl) (sb_c (qq_X4_write_0 7 rfl) (sb_c (qq_X4_write_0 8 rfl) (sb_c (qq_X4_write_0 5 rfl) (sb_c (qq_X4_write_0 9 rfl) sb_n))))) gw_X4_isSheet
set_option maxRecDepth 20000 in
theorem gX4_write_X4_isSheet : GoodIn wsX4_write (va_wsS RX4 114 yX4_isSheet wsX4_isSheet) := goodIn_app (goodIn_sub (sb_c (qq_X4_write_0 3 rfl) (sb_c (qq_X4_write_0 4 rfl) (sb_c (qq_X4_write_0 5 rfl) sb_n))) (by decide +kernel)) ggX4_write_X4_isSheet
set_option maxRecDepth 20000 in
theorem ggX4_write_X4_meets : GoodIn wsX4_write wsX4_meets := goodIn_sub (sb_c (qq_X4_write_0 13 rfl) (sb_a (sb_c (qq_X4_write_0 14 rfl) sb_n) (uq_X4_write_X4))) gw_X4_meets
set_option maxRecDepth 20000 in
theorem gX4_write_X4_meets : GoodIn wsX4_write (wsV RX4 117 RX4 yX4_meets wsX4_meets) := goodIn_app (goodIn_sub (sb_c (qq_X4_write_0 10 rfl) (sb_c (qq_X4_write_0 11 rfl) (sb_c (qq_X4_write_0 12 rfl) (sb_c (qq_X4_write_0 5 rfl) sb_n)))) (by decide +kernel)) ggX4_write_X4_meets
set_option maxRecDepth 20000 in
theorem ggX4_write_X4_runsTold : GoodIn wsX4_write wsX4_runsTold := goodIn_sub (sb_c (qq_X4_write_0 18 rfl) (sb_a (sb_a (sb_c (qq_X4_write_0 19 rfl) (sb_c (qq_X4_write_0 20 rfl) (sb_c (qq_X4_write_0 21 rfl) (sb_c (qq_X4_write_0 5 rfl) (sb_c (qq_X4_write_0 22 rfl) (sb_c (qq_X4_write_0 23 rfl) (sb_c (qq_X4_write_1 0 rfl) (sb_c (qq_X4_write_1 1 rfl) (sb_c (qq_X4_write_1 2 rfl) (sb_c (qq_X4_write_1 3 rfl) (sb_c (qq_X4_write_1 4 rfl) (sb_c (qq_X4_write_1 5 rfl) (sb_c (qq_X4_write_1 6 rfl) (sb_c (qq_X4_write_1 7 rfl) (sb_c (qq_X4_write_1 8 rfl) (sb_c (qq_X4_write_1 9 rfl) (sb_c (qq_X4_write_1 10 rfl) (sb_c (qq_X4_write_1 11 rfl) (sb_c (qq_X4_write_0 2 rfl) (sb_c (qq_X4_write_1 12 rfl) (sb_c (qq_X4_write_1 13 rfl) (sb_c (qq_X4_write_1 14 rfl) (sb_c (qq_X4_write_1 15 rfl) (sb_c (qq_X4_write_1 16 rfl) sb_n)))))))))))))))))))))))) (sb_a (sb_c (qq_X4_write_1 17 rfl) (sb_c (qq_X4_write_1 18 rfl) (sb_c (qq_X4_write_1 19 rfl) (sb_c (qq_X4_write_1 20 rfl) (sb_c (qq_X4_write_1 21 rfl) (sb_c (qq_X4_write_1 22 rfl) (sb_c (qq_X4_write_1 23 rfl) (sb_c (qq_X4_write_2 0 rfl) (sb_c (qq_X4_write_2 1 rfl) (sb_c (qq_X4_write_0 7 rfl) (sb_c (qq_X4_write_0 8 rfl) (sb_c (qq_X4_write_0 9 rfl) (sb_c (qq_X4_write_2 2 rfl) (sb_c (qq_X4_write_2 3 rfl) (sb_c (qq_X4_write_2 4 rfl) (sb_c (qq_X4_write_2 5 rfl) (sb_c (qq_X4_write_2 6 rfl) (sb_c (qq_X4_write_2 7 rfl) (sb_c (qq_X4_write_2 8 rfl) (sb_c (qq_X4_write_2 9 rfl) (sb_c (qq_X4_write_2 10 rfl) (sb_c (qq_X4_write_2 11 rfl) (sb_c (qq_X4_write_2 12 rfl) (sb_c (qq_X4_write_2 13 rfl) sb_n)))))))))))))))))))))))) (sb_c (qq_X4_write_2 14 rfl) (sb_c (qq_X4_write_2 15 rfl) (sb_c (qq_X4_write_2 16 rfl) (sb_c (qq_X4_write_2 17 rfl) (sb_c (qq_X4_write_2 18 rfl) (sb_c (qq_X4_write_2 19 rfl) (sb_c (qq_X4_write_2 20 rfl) (sb_c (qq_X4_write_2 21 rfl) (sb_c (qq_X4_write_2 22 rfl) (sb_c (qq_X4_write_2 23 rfl) (sb_c (qq_X4_write_3 0 rfl) (sb_c (qq_X4_write_3 1 rfl) (sb_c (qq_X4_write_3 2 rfl) (sb_c (qq_X4_write_3 3 rfl) (sb_c (qq_X4_write_3 4 rfl) (sb_c (qq_X4_write_3 5 rfl) (sb_c (qq_X4_write_3 6 rfl) (sb_c (qq_X4_write_3 7 rfl) (sb_c (qq_X4_write_3 8 rfl) (sb_c (qq_X4_write_3 9 rfl) (sb_c (qq_X4_write_3 10 rfl) (sb_c (qq_X4_write_3 11 rfl) (sb_c (qq_X4_write_3 12 rfl) (sb_c (qq_X4_write_3 13 rfl) sb_n)))))))))))))))))))))))))) (uq_X4_write_X4))) gw_X4_runsTold
set_option maxRecDepth 20000 in
theorem gX4_write_X4_runsTold : GoodIn wsX4_write (wsV RX4 168 RX4 yX4_runsTold wsX4_runsTold) := goodIn_app (goodIn_sub (sb_c (qq_X4_write_0 15 rfl) (sb_c (qq_X4_write_0 16 rfl) (sb_c (qq_X4_write_0 17 rfl) (sb_c (qq_X4_write_0 5 rfl) sb_n)))) (by decide +kernel)) ggX4_write_X4_runsTold
set_option maxRecDepth 20000 in
theorem ggX4_write_X4_keep : GoodIn wsX4_write wsX4_keep := goodIn_sub (sb_c (qq_X4_write_3 17 rfl) (sb_a (sb_c (qq_X4_write_3 18 rfl) (sb_c (qq_X4_write_3 19 rfl) sb_n)) (uq_X4_write_X4))) gw_X4_keep
set_option maxRecDepth 20000 in
theorem gX4_write_X4_keep : GoodIn wsX4_write (wsV RX4 284 RX4 yX4_keep wsX4_keep) := goodIn_app (goodIn_sub (sb_c (qq_X4_write_3 14 rfl) (sb_c (qq_X4_write_3 15 rfl) (sb_c (qq_X4_write_3 16 rfl) (sb_c (qq_X4_write_0 5 rfl) sb_n)))) (by decide +kernel)) ggX4_write_X4_keep
theorem dX4_write_0 : decode cX4_write 0 = .ok (.iload_n 1, 1) := by decide +kernel
theorem dX4_write_1 : decode cX4_write 1 = .ok (.invokestatic 114, 3) := by decide +kernel
theorem dX4_write_4 : decode cX4_write 4 = .ok (.ifCond .ne 6, 3) := by decide +kernel
theorem dX4_write_7 : decode cX4_write 7 = .ok (.bipush (-2), 2) := by decide +kernel
theorem dX4_write_9 : decode cX4_write 9 = .ok (.ireturn, 1) := by decide +kernel
theorem dX4_write_10 : decode cX4_write 10 = .ok (.aload_n 0, 1) := by decide +kernel
theorem dX4_write_11 : decode cX4_write 11 = .ok (.getfield 73, 3) := by decide +kernel
theorem dX4_write_14 : decode cX4_write 14 = .ok (.iload_n 1, 1) := by decide +kernel
theorem dX4_write_15 : decode cX4_write 15 = .ok (.baload, 1) := by decide +kernel
theorem dX4_write_16 : decode cX4_write 16 = .ok (.ifCond .ne 9, 3) := by decide +kernel
theorem dX4_write_19 : decode cX4_write 19 = .ok (.aload_n 0, 1) := by decide +kernel
theorem dX4_write_20 : decode cX4_write 20 = .ok (.iconst 1, 1) := by decide +kernel
theorem dX4_write_21 : decode cX4_write 21 = .ok (.invokevirtual 117, 3) := by decide +kernel
theorem dX4_write_24 : decode cX4_write 24 = .ok (.ireturn, 1) := by decide +kernel
theorem dX4_write_25 : decode cX4_write 25 = .ok (.aload_n 0, 1) := by decide +kernel
theorem dX4_write_26 : decode cX4_write 26 = .ok (.invokevirtual 168, 3) := by decide +kernel
theorem dX4_write_29 : decode cX4_write 29 = .ok (.iconst 0, 1) := by decide +kernel
theorem dX4_write_30 : decode cX4_write 30 = .ok (.istore_n 2, 1) := by decide +kernel
theorem dX4_write_31 : decode cX4_write 31 = .ok (.iload_n 2, 1) := by decide +kernel
theorem dX4_write_32 : decode cX4_write 32 = .ok (.aload_n 0, 1) := by decide +kernel
theorem dX4_write_33 : decode cX4_write 33 = .ok (.getfield 80, 3) := by decide +kernel
theorem dX4_write_36 : decode cX4_write 36 = .ok (.iload_n 1, 1) := by decide +kernel
theorem dX4_write_37 : decode cX4_write 37 = .ok (.iaload, 1) := by decide +kernel
theorem dX4_write_38 : decode cX4_write 38 = .ok (.if_icmp .ge 27, 3) := by decide +kernel
theorem dX4_write_41 : decode cX4_write 41 = .ok (.iload_n 2, 1) := by decide +kernel
theorem dX4_write_42 : decode cX4_write 42 = .ok (.bipush 16, 2) := by decide +kernel
theorem dX4_write_44 : decode cX4_write 44 = .ok (.if_icmp .ge 21, 3) := by decide +kernel
theorem dX4_write_47 : decode cX4_write 47 = .ok (.aload_n 0, 1) := by decide +kernel
theorem dX4_write_48 : decode cX4_write 48 = .ok (.iload_n 1, 1) := by decide +kernel
theorem dX4_write_49 : decode cX4_write 49 = .ok (.iload_n 2, 1) := by decide +kernel
theorem dX4_write_50 : decode cX4_write 50 = .ok (.aload_n 0, 1) := by decide +kernel
theorem dX4_write_51 : decode cX4_write 51 = .ok (.getfield 49, 3) := by decide +kernel
theorem dX4_write_54 : decode cX4_write 54 = .ok (.iload_n 2, 1) := by decide +kernel
theorem dX4_write_55 : decode cX4_write 55 = .ok (.iaload, 1) := by decide +kernel
theorem dX4_write_56 : decode cX4_write 56 = .ok (.invokevirtual 284, 3) := by decide +kernel
theorem dX4_write_59 : decode cX4_write 59 = .ok (.iinc 2 1, 3) := by decide +kernel
theorem dX4_write_62 : decode cX4_write 62 = .ok (.goto (-31), 3) := by decide +kernel
theorem dX4_write_65 : decode cX4_write 65 = .ok (.iload_n 2, 1) := by decide +kernel
theorem dX4_write_66 : decode cX4_write 66 = .ok (.ireturn, 1) := by decide +kernel
theorem qq_X4_hitsAll_0 {c : Cond} (j : Nat) (h : wsX4_hitsAll_r1[j]? = some c) : c ∈ wsX4_hitsAll := List.mem_cons_of_mem _ (List.mem_append_left _ (List.mem_append_left _ (List.mem_of_getElem? h)))
theorem qq_X4_hitsAll_1 {c : Cond} (j : Nat) (h : wsX4_hitsAll_r2[j]? = some c) : c ∈ wsX4_hitsAll := List.mem_cons_of_mem _ (List.mem_append_left _ (List.mem_append_right _ (List.mem_append_left _ (List.mem_of_getElem? h))))
theorem qq_X4_hitsAll_2 {c : Cond} (j : Nat) (h : wsX4_hitsAll_r3[j]? = some c) : c ∈ wsX4_hitsAll := List.mem_cons_of_mem _ (List.mem_append_left _ (List.mem_append_right _ (List.mem_append_right _ (List.mem_append_left _ (List.mem_of_getElem? h)))))
theorem qq_X4_hitsAll_3 {c : Cond} (j : Nat) (h : wsX4_hitsAll_r4[j]? = some c) : c ∈ wsX4_hitsAll := List.mem_cons_of_mem _ (List.mem_append_left _ (List.mem_append_right _ (List.mem_append_right _ (List.mem_append_right _ (List.mem_of_getElem? h)))))
theorem uq_X4_hitsAll_X4 : wsub wsX40 wsX4_hitsAll := fun _ h => List.mem_cons_of_mem _ (List.mem_append_right _ (h))
set_option maxRecDepth 20000 in
theorem ggX4_hitsAll_X4_runsTold : GoodIn wsX4_hitsAll wsX4_runsTold := goodIn_sub (sb_c (qq_X4_hitsAll_0 5 rfl) (sb_a (sb_a (sb_c (qq_X4_hitsAll_0 6 rfl) (sb_c (qq_X4_hitsAll_0 7 rfl) (sb_c (qq_X4_hitsAll_0 8 rfl) (sb_c (qq_X4_hitsAll_0 4 rfl) (sb_c (qq_X4_hitsAll_0 9 rfl) (sb_c (qq_X4_hitsAll_0 10 rfl) (sb_c (qq_X4_hitsAll_0 11 rfl) (sb_c (qq_X4_hitsAll_0 12 rfl) (sb_c (qq_X4_hitsAll_0 13 rfl) (sb_c (qq_X4_hitsAll_0 14 rfl) (sb_c (qq_X4_hitsAll_0 15 rfl) (sb_c (qq_X4_hitsAll_0 16 rfl) (sb_c (qq_X4_hitsAll_0 17 rfl) (sb_c (qq_X4_hitsAll_0 18 rfl) (sb_c (qq_X4_hitsAll_0 19 rfl) (sb_c (qq_X4_hitsAll_0 20 rfl) (sb_c (qq_X4_hitsAll_0 21 rfl) (sb_c (qq_X4_hitsAll_0 22 rfl) (sb_c (qq_X4_hitsAll_0 23 rfl) (sb_c (qq_X4_hitsAll_1 0 rfl) (sb_c (qq_X4_hitsAll_1 1 rfl) (sb_c (qq_X4_hitsAll_1 2 rfl) (sb_c (qq_X4_hitsAll_1 3 rfl) (sb_c (qq_X4_hitsAll_1 4 rfl) sb_n)))))))))))))))))))))))) (sb_a (sb_c (qq_X4_hitsAll_1 5 rfl) (sb_c (qq_X4_hitsAll_1 6 rfl) (sb_c (qq_X4_hitsAll_0 0 rfl) (sb_c (qq_X4_hitsAll_1 7 rfl) (sb_c (qq_X4_hitsAll_1 8 rfl) (sb_c (qq_X4_hitsAll_1 9 rfl) (sb_c (qq_X4_hitsAll_1 10 rfl) (sb_c (qq_X4_hitsAll_1 11 rfl) (sb_c (qq_X4_hitsAll_1 12 rfl) (sb_c (qq_X4_hitsAll_1 13 rfl) (sb_c (qq_X4_hitsAll_1 14 rfl) (sb_c (qq_X4_hitsAll_1 15 rfl) (sb_c (qq_X4_hitsAll_1 16 rfl) (sb_c (qq_X4_hitsAll_1 17 rfl) (sb_c (qq_X4_hitsAll_1 18 rfl) (sb_c (qq_X4_hitsAll_1 19 rfl) (sb_c (qq_X4_hitsAll_1 20 rfl) (sb_c (qq_X4_hitsAll_1 21 rfl) (sb_c (qq_X4_hitsAll_1 22 rfl) (sb_c (qq_X4_hitsAll_1 23 rfl) (sb_c (qq_X4_hitsAll_2 0 rfl) (sb_c (qq_X4_hitsAll_2 1 rfl) (sb_c (qq_X4_hitsAll_2 2 rfl) (sb_c (qq_X4_hitsAll_2 3 rfl) sb_n)))))))))))))))))))))))) (sb_c (qq_X4_hitsAll_2 4 rfl) (sb_c (qq_X4_hitsAll_2 5 rfl) (sb_c (qq_X4_hitsAll_2 6 rfl) (sb_c (qq_X4_hitsAll_2 7 rfl) (sb_c (qq_X4_hitsAll_2 8 rfl) (sb_c (qq_X4_hitsAll_2 9 rfl) (sb_c (qq_X4_hitsAll_2 10 rfl) (sb_c (qq_X4_hitsAll_2 11 rfl) (sb_c (qq_X4_hitsAll_2 12 rfl) (sb_c (qq_X4_hitsAll_2 13 rfl) (sb_c (qq_X4_hitsAll_2 14 rfl) (sb_c (qq_X4_hitsAll_2 15 rfl) (sb_c (qq_X4_hitsAll_2 16 rfl) (sb_c (qq_X4_hitsAll_2 17 rfl) (sb_c (qq_X4_hitsAll_2 18 rfl) (sb_c (qq_X4_hitsAll_2 19 rfl) (sb_c (qq_X4_hitsAll_2 20 rfl) (sb_c (qq_X4_hitsAll_2 21 rfl) (sb_c (qq_X4_hitsAll_2 22 rfl) (sb_c (qq_X4_hitsAll_2 23 rfl) (sb_c (qq_X4_hitsAll_3 0 rfl) (sb_c (qq_X4_hitsAll_3 1 rfl) (sb_c (qq_X4_hitsAll_3 2 rfl) (sb_c (qq_X4_hitsAll_3 3 rfl) sb_n)))))))))))))))))))))))))) (uq_X4_hitsAll_X4))) gw_X4_runsTold
set_option maxRecDepth 20000 in
theorem gX4_hitsAll_X4_runsTold : GoodIn wsX4_hitsAll (wsV RX4 168 RX4 yX4_runsTold wsX4_runsTold) := goodIn_app (goodIn_sub (sb_c (qq_X4_hitsAll_0 1 rfl) (sb_c (qq_X4_hitsAll_0 2 rfl) (sb_c (qq_X4_hitsAll_0 3 rfl) (sb_c (qq_X4_hitsAll_0 4 rfl) sb_n)))) (by decide +kernel)) ggX4_hitsAll_X4_runsTold
theorem dX4_hitsAll_0 : decode cX4_hitsAll 0 = .ok (.aload_n 0, 1) := by decide +kernel
theorem dX4_hitsAll_1 : decode cX4_hitsAll 1 = .ok (.invokevirtual 168, 3) := by decide +kernel
theorem dX4_hitsAll_4 : decode cX4_hitsAll 4 = .ok (.iconst 0, 1) := by decide +kernel
theorem dX4_hitsAll_5 : decode cX4_hitsAll 5 = .ok (.istore_n 1, 1) := by decide +kernel
theorem dX4_hitsAll_6 : decode cX4_hitsAll 6 = .ok (.iconst 0, 1) := by decide +kernel
theorem dX4_hitsAll_7 : decode cX4_hitsAll 7 = .ok (.istore_n 2, 1) := by decide +kernel
theorem dX4_hitsAll_8 : decode cX4_hitsAll 8 = .ok (.iload_n 2, 1) := by decide +kernel
theorem dX4_hitsAll_9 : decode cX4_hitsAll 9 = .ok (.bipush 16, 2) := by decide +kernel
theorem dX4_hitsAll_11 : decode cX4_hitsAll 11 = .ok (.if_icmp .ge 18, 3) := by decide +kernel
theorem dX4_hitsAll_14 : decode cX4_hitsAll 14 = .ok (.iload_n 1, 1) := by decide +kernel
theorem dX4_hitsAll_15 : decode cX4_hitsAll 15 = .ok (.aload_n 0, 1) := by decide +kernel
theorem dX4_hitsAll_16 : decode cX4_hitsAll 16 = .ok (.getfield 31, 3) := by decide +kernel
theorem dX4_hitsAll_19 : decode cX4_hitsAll 19 = .ok (.iload_n 2, 1) := by decide +kernel
theorem dX4_hitsAll_20 : decode cX4_hitsAll 20 = .ok (.iaload, 1) := by decide +kernel
theorem dX4_hitsAll_21 : decode cX4_hitsAll 21 = .ok (.iadd, 1) := by decide +kernel
theorem dX4_hitsAll_22 : decode cX4_hitsAll 22 = .ok (.istore_n 1, 1) := by decide +kernel
theorem dX4_hitsAll_23 : decode cX4_hitsAll 23 = .ok (.iinc 2 1, 3) := by decide +kernel
theorem dX4_hitsAll_26 : decode cX4_hitsAll 26 = .ok (.goto (-18), 3) := by decide +kernel
theorem dX4_hitsAll_29 : decode cX4_hitsAll 29 = .ok (.iload_n 1, 1) := by decide +kernel
theorem dX4_hitsAll_30 : decode cX4_hitsAll 30 = .ok (.ireturn, 1) := by decide +kernel
theorem qq_X4_count_0 {c : Cond} (j : Nat) (h : wsX4_count_r1[j]? = some c) : c ∈ wsX4_count := List.mem_cons_of_mem _ (List.mem_append_left _ (List.mem_append_left _ (List.mem_of_getElem? h)))
theorem qq_X4_count_1 {c : Cond} (j : Nat) (h : wsX4_count_r2[j]? = some c) : c ∈ wsX4_count := List.mem_cons_of_mem _ (List.mem_append_left _ (List.mem_append_right _ (List.mem_append_left _ (List.mem_of_getElem? h))))
theorem qq_X4_count_2 {c : Cond} (j : Nat) (h : wsX4_count_r3[j]? = some c) : c ∈ wsX4_count := List.mem_cons_of_mem _ (List.mem_append_left _ (List.mem_append_right _ (List.mem_append_right _ (List.mem_append_left _ (List.mem_of_getElem? h)))))
theorem qq_X4_count_3 {c : Cond} (j : Nat) (h : wsX4_count_r4[j]? = some c) : c ∈ wsX4_count := List.mem_cons_of_mem _ (List.mem_append_left _ (List.mem_append_right _ (List.mem_append_right _ (List.mem_append_right _ (List.mem_append_left _ (List.mem_of_getElem? h))))))
theorem qq_X4_count_4 {c : Cond} (j : Nat) (h : wsX4_count_r5[j]? = some c) : c ∈ wsX4_count := List.mem_cons_of_mem _ (List.mem_append_left _ (List.mem_append_right _ (List.mem_append_right _ (List.mem_append_right _ (List.mem_append_right _ (List.mem_of_getElem? h))))))
theorem uq_X4_count_X4 : wsub wsX40 wsX4_count := fun _ h => List.mem_cons_of_mem _ (List.mem_append_right _ (h))
set_option maxRecDepth 20000 in
theorem ggX4_count_X4_sumOf : GoodIn wsX4_count wsX4_sumOf := goodIn_sub (sb_c (qq_X4_count_0 7 rfl) (sb_a (sb_a (sb_c (qq_X4_count_0 8 rfl) (sb_c (qq_X4_count_0 9 rfl) (sb_c (qq_X4_count_0 10 rfl) (sb_c (qq_X4_count_0 11 rfl) (sb_c (qq_X4_count_0 12 rfl) (sb_c (qq_X4_count_0 13 rfl) (sb_c (qq_X4_count_0 6 rfl) (sb_c (qq_X4_count_0 14 rfl) (sb_c (qq_X4_count_0 15 rfl) (sb_c (qq_X4_count_0 16 rfl) (sb_c (qq_X4_count_0 17 rfl) (sb_c (qq_X4_count_0 18 rfl) (sb_c (qq_X4_count_0 19 rfl) (sb_c (qq_X4_count_0 20 rfl) (sb_c (qq_X4_count_0 21 rfl) (sb_c (qq_X4_count_0 22 rfl) (sb_c (qq_X4_count_0 23 rfl) (sb_c (qq_X4_count_1 0 rfl) (sb_c (qq_X4_count_1 1 rfl) (sb_c (qq_X4_count_1 2 rfl) (sb_c (qq_X4_count_1 3 rfl) (sb_c (qq_X4_count_1 4 rfl) (sb_c (qq_X4_count_1 5 rfl) (sb_c (qq_X4_count_1 6 rfl) sb_n)))))))))))))))))))))))) (sb_a (sb_c (qq_X4_count_1 7 rfl) (sb_c (qq_X4_count_1 8 rfl) (sb_c (qq_X4_count_1 9 rfl) (sb_c (qq_X4_count_1 10 rfl) (sb_c (qq_X4_count_1 11 rfl) (sb_c (qq_X4_count_1 12 rfl) (sb_c (qq_X4_count_1 13 rfl) (sb_c (qq_X4_count_1 14 rfl) (sb_c (qq_X4_count_1 15 rfl) (sb_c (qq_X4_count_1 16 rfl) (sb_c (qq_X4_count_1 17 rfl) (sb_c (qq_X4_count_1 18 rfl) (sb_c (qq_X4_count_1 19 rfl) (sb_c (qq_X4_count_1 20 rfl) (sb_c (qq_X4_count_1 21 rfl) (sb_c (qq_X4_count_1 22 rfl) (sb_c (qq_X4_count_1 23 rfl) (sb_c (qq_X4_count_2 0 rfl) (sb_c (qq_X4_count_2 1 rfl) (sb_c (qq_X4_count_2 2 rfl) (sb_c (qq_X4_count_2 3 rfl) (sb_c (qq_X4_count_2 4 rfl) (sb_c (qq_X4_count_2 5 rfl) (sb_c (qq_X4_count_2 6 rfl) sb_n)))))))))))))))))))))))) (sb_a (sb_c (qq_X4_count_2 7 rfl) (sb_c (qq_X4_count_2 8 rfl) (sb_c (qq_X4_count_2 9 rfl) (sb_c (qq_X4_count_2 10 rfl) (sb_c (qq_X4_count_2 11 rfl) (sb_c (qq_X4_count_0 0 rfl) (sb_c (qq_X4_count_2 12 rfl) (sb_c (qq_X4_count_2 13 rfl) (sb_c (qq_X4_count_2 14 rfl) (sb_c (qq_X4_count_2 15 rfl) (sb_c (qq_X4_count_2 16 rfl) (sb_c (qq_X4_count_2 17 rfl) (sb_c (qq_X4_count_2 18 rfl) (sb_c (qq_X4_count_2 19 rfl) (sb_c (qq_X4_count_2 20 rfl) (sb_c (qq_X4_count_2 21 rfl) (sb_c (qq_X4_count_2 22 rfl) (sb_c (qq_X4_count_2 23 rfl) (sb_c (qq_X4_count_3 0 rfl) (sb_c (qq_X4_count_3 1 rfl) (sb_c (qq_X4_count_3 2 rfl) (sb_c (qq_X4_count_3 3 rfl) (sb_c (qq_X4_count_3 4 rfl) (sb_c (qq_X4_count_3 5 rfl) sb_n)))))))))))))))))))))))) (sb_c (qq_X4_count_3 6 rfl) (sb_c (qq_X4_count_3 7 rfl) (sb_c (qq_X4_count_3 8 rfl) (sb_c (qq_X4_count_3 9 rfl) (sb_c (qq_X4_count_3 10 rfl) (sb_c (qq_X4_count_3 11 rfl) (sb_c (qq_X4_count_3 12 rfl) (sb_c (qq_X4_count_3 13 rfl) (sb_c (qq_X4_count_3 14 rfl) (sb_c (qq_X4_count_3 15 rfl) (sb_c (qq_X4_count_3 16 rfl) (sb_c (qq_X4_count_3 17 rfl) (sb_c (qq_X4_count_3 18 rfl) (sb_c (qq_X4_count_3 19 rfl) (sb_c (qq_X4_count_3 20 rfl) sb_n)))))))))))))))))) (uq_X4_count_X4))) gw_X4_sumOf
set_option maxRecDepth 20000 in
theorem gX4_count_X4_sumOf : GoodIn wsX4_count (wsV RX4 213 RX4 yX4_sumOf wsX4_sumOf) := goodIn_app (goodIn_sub (sb_c (qq_X4_count_0 3 rfl) (sb_c (qq_X4_count_0 4 rfl) (sb_c (qq_X4_count_0 5 rfl) (sb_c (qq_X4_count_0 6 rfl) sb_n)))) (by decide +kernel)) ggX4_count_X4_sumOf
set_option maxRecDepth 20000 in
theorem gw_X4_hitsAll : wsX4_hitsAll.all goodWord = true := by decide +kernel
set_option maxRecDepth 20000 in
theorem ggX4_count_X4_hitsAll : GoodIn wsX4_count wsX4_hitsAll := goodIn_sub (sb_c (qq_X4_count_4 0 rfl) (sb_a (sb_a (sb_c (qq_X4_count_1 13 rfl) (sb_c (qq_X4_count_0 11 rfl) (sb_c (qq_X4_count_0 12 rfl) (sb_c (qq_X4_count_0 13 rfl) (sb_c (qq_X4_count_0 6 rfl) (sb_c (qq_X4_count_0 14 rfl) (sb_c (qq_X4_count_0 15 rfl) (sb_c (qq_X4_count_0 16 rfl) (sb_c (qq_X4_count_0 17 rfl) (sb_c (qq_X4_count_0 18 rfl) (sb_c (qq_X4_count_0 19 rfl) (sb_c (qq_X4_count_0 20 rfl) (sb_c (qq_X4_count_0 21 rfl) (sb_c (qq_X4_count_0 22 rfl) (sb_c (qq_X4_count_0 23 rfl) (sb_c (qq_X4_count_1 0 rfl) (sb_c (qq_X4_count_1 1 rfl) (sb_c (qq_X4_count_1 2 rfl) (sb_c (qq_X4_count_1 3 rfl) (sb_c (qq_X4_count_1 4 rfl) (sb_c (qq_X4_count_0 8 rfl) (sb_c (qq_X4_count_0 10 rfl) (sb_c (qq_X4_count_0 9 rfl) (sb_c (qq_X4_count_1 5 rfl) sb_n)))))))))))))))))))))))) (sb_a (sb_c (qq_X4_count_1 6 rfl) (sb_c (qq_X4_count_1 7 rfl) (sb_c (qq_X4_count_1 8 rfl) (sb_c (qq_X4_count_1 9 rfl) (sb_c (qq_X4_count_1 10 rfl) (sb_c (qq_X4_count_1 11 rfl) (sb_c (qq_X4_count_1 12 rfl) (sb_c (qq_X4_count_1 14 rfl) (sb_c (qq_X4_count_1 15 rfl) (sb_c (qq_X4_count_1 16 rfl) (sb_c (qq_X4_count_1 17 rfl) (sb_c (qq_X4_count_1 18 rfl) (sb_c (qq_X4_count_1 19 rfl) (sb_c (qq_X4_count_1 20 rfl) (sb_c (qq_X4_count_1 21 rfl) (sb_c (qq_X4_count_1 22 rfl) (sb_c (qq_X4_count_1 23 rfl) (sb_c (qq_X4_count_2 0 rfl) (sb_c (qq_X4_count_2 1 rfl) (sb_c (qq_X4_count_2 2 rfl) (sb_c (qq_X4_count_2 3 rfl) (sb_c (qq_X4_count_2 4 rfl) (sb_c (qq_X4_count_2 5 rfl) (sb_c (qq_X4_count_2 6 rfl) sb_n)))))))))))))))))))))))) (sb_a (sb_c (qq_X4_count_2 7 rfl) (sb_c (qq_X4_count_2 8 rfl) (sb_c (qq_X4_count_2 9 rfl) (sb_c (qq_X4_count_2 10 rfl) (sb_c (qq_X4_count_2 11 rfl) (sb_c (qq_X4_count_0 0 rfl) (sb_c (qq_X4_count_2 12 rfl) (sb_c (qq_X4_count_2 13 rfl) (sb_c (qq_X4_count_2 14 rfl) (sb_c (qq_X4_count_2 15 rfl) (sb_c (qq_X4_count_2 16 rfl) (sb_c (qq_X4_count_2 17 rfl) (sb_c (qq_X4_count_2 18 rfl) (sb_c (qq_X4_count_2 19 rfl) (sb_c (qq_X4_count_2 20 rfl) (sb_c (qq_X4_count_2 21 rfl) (sb_c (qq_X4_count_2 22 rfl) (sb_c (qq_X4_count_2 23 rfl) (sb_c (qq_X4_count_3 0 rfl) (sb_c (qq_X4_count_3 1 rfl) (sb_c (qq_X4_count_3 2 rfl) (sb_c (qq_X4_count_3 3 rfl) (sb_c (qq_X4_count_3 4 rfl) (sb_c (qq_X4_count_3 5 rfl) sb_n)))))))))))))))))))))))) (sb_c (qq_X4_count_3 6 rfl) (sb_c (qq_X4_count_3 7 rfl) (sb_c (qq_X4_count_3 8 rfl) (sb_c (qq_X4_count_3 9 rfl) sb_n))))))) (uq_X4_count_X4))) gw_X4_hitsAll
set_option maxRecDepth 20000 in
theorem gX4_count_X4_hitsAll : GoodIn wsX4_count (wsV RX4 288 RX4 yX4_hitsAll wsX4_hitsAll) := goodIn_app (goodIn_sub (sb_c (qq_X4_count_3 21 rfl) (sb_c (qq_X4_count_3 22 rfl) (sb_c (qq_X4_count_3 23 rfl) (sb_c (qq_X4_count_0 6 rfl) sb_n)))) (by decide +kernel)) ggX4_count_X4_hitsAll
set_option maxRecDepth 20000 in
theorem ggX4_count_X4_leastOf : GoodIn wsX4_count wsX4_leastOf := goodIn_sub (sb_c (qq_X4_count_4 4 rfl) (sb_a (sb_a (sb_c (qq_X4_count_0 11 rfl) (sb_c (qq_X4_count_0 12 rfl) (sb_c (qq_X4_count_0 13 rfl) (sb_c (qq_X4_count_0 6 rfl) (sb_c (qq_X4_count_0 14 rfl) (sb_c (qq_X4_count_0 15 rfl) (sb_c (qq_X4_count_0 16 rfl) (sb_c (qq_X4_count_0 17 rfl) (sb_c (qq_X4_count_0 18 rfl) (sb_c (qq_X4_count_0 19 rfl) (sb_c (qq_X4_count_0 20 rfl) (sb_c (qq_X4_count_0 21 rfl) (sb_c (qq_X4_count_0 22 rfl) (sb_c (qq_X4_count_0 23 rfl) (sb_c (qq_X4_count_1 0 rfl) (sb_c (qq_X4_count_1 1 rfl) (sb_c (qq_X4_count_1 2 rfl) (sb_c (qq_X4_count_1 3 rfl) (sb_c (qq_X4_count_1 4 rfl) (sb_c (qq_X4_count_0 8 rfl) (sb_c (qq_X4_count_0 10 rfl) (sb_c (qq_X4_count_0 9 rfl) (sb_c (qq_X4_count_1 5 rfl) (sb_c (qq_X4_count_1 6 rfl) sb_n)))))))))))))))))))))))) (sb_a (sb_c (qq_X4_count_1 7 rfl) (sb_c (qq_X4_count_1 8 rfl) (sb_c (qq_X4_count_1 9 rfl) (sb_c (qq_X4_count_1 10 rfl) (sb_c (qq_X4_count_1 11 rfl) (sb_c (qq_X4_count_1 12 rfl) (sb_c (qq_X4_count_1 13 rfl) (sb_c (qq_X4_count_1 14 rfl) (sb_c (qq_X4_count_1 15 rfl) (sb_c (qq_X4_count_1 16 rfl) (sb_c (qq_X4_count_1 17 rfl) (sb_c (qq_X4_count_1 18 rfl) (sb_c (qq_X4_count_1 19 rfl) (sb_c (qq_X4_count_1 20 rfl) (sb_c (qq_X4_count_1 21 rfl) (sb_c (qq_X4_count_1 22 rfl) (sb_c (qq_X4_count_1 23 rfl) (sb_c (qq_X4_count_2 0 rfl) (sb_c (qq_X4_count_2 1 rfl) (sb_c (qq_X4_count_2 2 rfl) (sb_c (qq_X4_count_2 3 rfl) (sb_c (qq_X4_count_2 4 rfl) (sb_c (qq_X4_count_2 5 rfl) (sb_c (qq_X4_count_2 6 rfl) sb_n)))))))))))))))))))))))) (sb_a (sb_c (qq_X4_count_2 7 rfl) (sb_c (qq_X4_count_2 8 rfl) (sb_c (qq_X4_count_2 9 rfl) (sb_c (qq_X4_count_2 10 rfl) (sb_c (qq_X4_count_2 11 rfl) (sb_c (qq_X4_count_0 0 rfl) (sb_c (qq_X4_count_2 12 rfl) (sb_c (qq_X4_count_2 13 rfl) (sb_c (qq_X4_count_2 14 rfl) (sb_c (qq_X4_count_2 15 rfl) (sb_c (qq_X4_count_2 16 rfl) (sb_c (qq_X4_count_2 17 rfl) (sb_c (qq_X4_count_2 18 rfl) (sb_c (qq_X4_count_2 19 rfl) (sb_c (qq_X4_count_2 20 rfl) (sb_c (qq_X4_count_2 21 rfl) (sb_c (qq_X4_count_2 22 rfl) (sb_c (qq_X4_count_2 23 rfl) (sb_c (qq_X4_count_3 0 rfl) (sb_c (qq_X4_count_3 1 rfl) (sb_c (qq_X4_count_3 2 rfl) (sb_c (qq_X4_count_3 3 rfl) (sb_c (qq_X4_count_3 4 rfl) (sb_c (qq_X4_count_3 5 rfl) sb_n)))))))))))))))))))))))) (sb_c (qq_X4_count_3 6 rfl) (sb_c (qq_X4_count_3 7 rfl) (sb_c (qq_X4_count_3 8 rfl) (sb_c (qq_X4_count_3 9 rfl) (sb_c (qq_X4_count_4 5 rfl) (sb_c (qq_X4_count_4 6 rfl) (sb_c (qq_X4_count_4 7 rfl) (sb_c (qq_X4_count_4 8 rfl) (sb_c (qq_X4_count_4 9 rfl) (sb_c (qq_X4_count_3 14 rfl) (sb_c (qq_X4_count_3 15 rfl) (sb_c (qq_X4_count_3 16 rfl) sb_n))))))))))))))) (uq_X4_count_X4))) gw_X4_leastOf
set_option maxRecDepth 20000 in
theorem gX4_count_X4_leastOf : GoodIn wsX4_count (wsV RX4 219 RX4 yX4_leastOf wsX4_leastOf) := goodIn_app (goodIn_sub (sb_c (qq_X4_count_4 1 rfl) (sb_c (qq_X4_count_4 2 rfl) (sb_c (qq_X4_count_4 3 rfl) (sb_c (qq_X4_count_0 6 rfl) sb_n)))) (by decide +kernel)) ggX4_count_X4_leastOf
set_option maxRecDepth 20000 in
theorem ggX4_count_X4_openOf : GoodIn wsX4_count wsX4_openOf := goodIn_sub (sb_c (qq_X4_count_4 13 rfl) (sb_a (sb_a (sb_c (qq_X4_count_0 21 rfl) (sb_c (qq_X4_count_0 11 rfl) (sb_c (qq_X4_count_0 12 rfl) (sb_c (qq_X4_count_0 13 rfl) (sb_c (qq_X4_count_0 6 rfl) (sb_c (qq_X4_count_0 14 rfl) (sb_c (qq_X4_count_0 15 rfl) (sb_c (qq_X4_count_0 16 rfl) (sb_c (qq_X4_count_0 17 rfl) (sb_c (qq_X4_count_0 18 rfl) (sb_c (qq_X4_count_0 19 rfl) (sb_c (qq_X4_count_0 20 rfl) (sb_c (qq_X4_count_0 22 rfl) (sb_c (qq_X4_count_0 23 rfl) (sb_c (qq_X4_count_1 0 rfl) (sb_c (qq_X4_count_1 1 rfl) (sb_c (qq_X4_count_1 2 rfl) (sb_c (qq_X4_count_1 3 rfl) (sb_c (qq_X4_count_1 4 rfl) (sb_c (qq_X4_count_0 8 rfl) (sb_c (qq_X4_count_0 10 rfl) (sb_c (qq_X4_count_0 9 rfl) (sb_c (qq_X4_count_1 5 rfl) (sb_c (qq_X4_count_1 6 rfl) sb_n)))))))))))))))))))))))) (sb_a (sb_c (qq_X4_count_1 7 rfl) (sb_c (qq_X4_count_1 8 rfl) (sb_c (qq_X4_count_1 9 rfl) (sb_c (qq_X4_count_1 10 rfl) (sb_c (qq_X4_count_1 11 rfl) (sb_c (qq_X4_count_1 12 rfl) (sb_c (qq_X4_count_1 13 rfl) (sb_c (qq_X4_count_1 14 rfl) (sb_c (qq_X4_count_1 15 rfl) (sb_c (qq_X4_count_1 16 rfl) (sb_c (qq_X4_count_1 17 rfl) (sb_c (qq_X4_count_1 18 rfl) (sb_c (qq_X4_count_1 19 rfl) (sb_c (qq_X4_count_1 20 rfl) (sb_c (qq_X4_count_1 21 rfl) (sb_c (qq_X4_count_1 22 rfl) (sb_c (qq_X4_count_1 23 rfl) (sb_c (qq_X4_count_2 0 rfl) (sb_c (qq_X4_count_2 1 rfl) (sb_c (qq_X4_count_2 2 rfl) (sb_c (qq_X4_count_2 3 rfl) (sb_c (qq_X4_count_2 4 rfl) (sb_c (qq_X4_count_2 5 rfl) (sb_c (qq_X4_count_2 6 rfl) sb_n)))))))))))))))))))))))) (sb_a (sb_c (qq_X4_count_2 7 rfl) (sb_c (qq_X4_count_2 8 rfl) (sb_c (qq_X4_count_2 9 rfl) (sb_c (qq_X4_count_2 10 rfl) (sb_c (qq_X4_count_2 11 rfl) (sb_c (qq_X4_count_0 0 rfl) (sb_c (qq_X4_count_2 12 rfl) (sb_c (qq_X4_count_2 13 rfl) (sb_c (qq_X4_count_2 14 rfl) (sb_c (qq_X4_count_2 15 rfl) (sb_c (qq_X4_count_2 16 rfl) (sb_c (qq_X4_count_2 17 rfl) (sb_c (qq_X4_count_2 18 rfl) (sb_c (qq_X4_count_2 19 rfl) (sb_c (qq_X4_count_2 20 rfl) (sb_c (qq_X4_count_2 21 rfl) (sb_c (qq_X4_count_2 22 rfl) (sb_c (qq_X4_count_2 23 rfl) (sb_c (qq_X4_count_3 0 rfl) (sb_c (qq_X4_count_3 1 rfl) (sb_c (qq_X4_count_3 2 rfl) (sb_c (qq_X4_count_3 3 rfl) (sb_c (qq_X4_count_3 4 rfl) (sb_c (qq_X4_count_3 5 rfl) sb_n)))))))))))))))))))))))) (sb_c (qq_X4_count_3 6 rfl) (sb_c (qq_X4_count_3 7 rfl) (sb_c (qq_X4_count_3 8 rfl) (sb_c (qq_X4_count_3 9 rfl) (sb_c (qq_X4_count_4 14 rfl) (sb_c (qq_X4_count_4 15 rfl) (sb_c (qq_X4_count_4 16 rfl) (sb_c (qq_X4_count_4 17 rfl) sb_n))))))))))) (uq_X4_count_X4))) gw_X4_openOf
set_option maxRecDepth 20000 in
theorem gX4_count_X4_openOf : GoodIn wsX4_count (wsV RX4 228 RX4 yX4_openOf wsX4_openOf) := goodIn_app (goodIn_sub (sb_c (qq_X4_count_4 10 rfl) (sb_c (qq_X4_count_4 11 rfl) (sb_c (qq_X4_count_4 12 rfl) (sb_c (qq_X4_count_0 6 rfl) sb_n)))) (by decide +kernel)) ggX4_count_X4_openOf
theorem dX4_count_0 : decode cX4_count 0 = .ok (.iload_n 1, 1) := by decide +kernel
theorem dX4_count_1 : decode cX4_count 1 = .ok (.tableswitch 99 0 8 #[51, 57, 62, 67, 73, 78, 84, 89, 94], 51) := by decide +kernel
theorem dX4_count_52 : decode cX4_count 52 = .ok (.aload_n 0, 1) := by decide +kernel
theorem dX4_count_53 : decode cX4_count 53 = .ok (.iconst 0, 1) := by decide +kernel
theorem dX4_count_54 : decode cX4_count 54 = .ok (.invokevirtual 213, 3) := by decide +kernel
theorem dX4_count_57 : decode cX4_count 57 = .ok (.ireturn, 1) := by decide +kernel
theorem dX4_count_58 : decode cX4_count 58 = .ok (.aload_n 0, 1) := by decide +kernel
theorem dX4_count_59 : decode cX4_count 59 = .ok (.invokevirtual 288, 3) := by decide +kernel
theorem dX4_count_62 : decode cX4_count 62 = .ok (.ireturn, 1) := by decide +kernel
theorem dX4_count_63 : decode cX4_count 63 = .ok (.aload_n 0, 1) := by decide +kernel
theorem dX4_count_64 : decode cX4_count 64 = .ok (.getfield 110, 3) := by decide +kernel
theorem dX4_count_67 : decode cX4_count 67 = .ok (.ireturn, 1) := by decide +kernel
theorem dX4_count_68 : decode cX4_count 68 = .ok (.aload_n 0, 1) := by decide +kernel
theorem dX4_count_69 : decode cX4_count 69 = .ok (.iconst 1, 1) := by decide +kernel
theorem dX4_count_70 : decode cX4_count 70 = .ok (.invokevirtual 213, 3) := by decide +kernel
theorem dX4_count_73 : decode cX4_count 73 = .ok (.ireturn, 1) := by decide +kernel
theorem dX4_count_74 : decode cX4_count 74 = .ok (.aload_n 0, 1) := by decide +kernel
theorem dX4_count_75 : decode cX4_count 75 = .ok (.invokevirtual 219, 3) := by decide +kernel
theorem dX4_count_78 : decode cX4_count 78 = .ok (.ireturn, 1) := by decide +kernel
theorem dX4_count_79 : decode cX4_count 79 = .ok (.aload_n 0, 1) := by decide +kernel
theorem dX4_count_80 : decode cX4_count 80 = .ok (.iconst 3, 1) := by decide +kernel
theorem dX4_count_81 : decode cX4_count 81 = .ok (.invokevirtual 213, 3) := by decide +kernel
theorem dX4_count_84 : decode cX4_count 84 = .ok (.ireturn, 1) := by decide +kernel
theorem dX4_count_85 : decode cX4_count 85 = .ok (.aload_n 0, 1) := by decide +kernel
theorem dX4_count_86 : decode cX4_count 86 = .ok (.invokevirtual 228, 3) := by decide +kernel
theorem dX4_count_89 : decode cX4_count 89 = .ok (.ireturn, 1) := by decide +kernel
theorem dX4_count_90 : decode cX4_count 90 = .ok (.aload_n 0, 1) := by decide +kernel
theorem dX4_count_91 : decode cX4_count 91 = .ok (.getfield 243, 3) := by decide +kernel
theorem dX4_count_94 : decode cX4_count 94 = .ok (.ireturn, 1) := by decide +kernel
theorem dX4_count_95 : decode cX4_count 95 = .ok (.aload_n 0, 1) := by decide +kernel
theorem dX4_count_96 : decode cX4_count 96 = .ok (.getfield 278, 3) := by decide +kernel
theorem dX4_count_99 : decode cX4_count 99 = .ok (.ireturn, 1) := by decide +kernel
theorem dX4_count_100 : decode cX4_count 100 = .ok (.bipush (-2), 2) := by decide +kernel
theorem dX4_count_102 : decode cX4_count 102 = .ok (.ireturn, 1) := by decide +kernel
theorem qq_X4_lineDigest_0 {c : Cond} (j : Nat) (h : wsX4_lineDigest_r1[j]? = some c) : c ∈ wsX4_lineDigest := List.mem_cons_of_mem _ (List.mem_append_left _ (List.mem_append_left _ (List.mem_of_getElem? h)))
theorem qq_X4_lineDigest_1 {c : Cond} (j : Nat) (h : wsX4_lineDigest_r2[j]? = some c) : c ∈ wsX4_lineDigest := List.mem_cons_of_mem _ (List.mem_append_left _ (List.mem_append_right _ (List.mem_append_left _ (List.mem_of_getElem? h))))
theorem qq_X4_lineDigest_2 {c : Cond} (j : Nat) (h : wsX4_lineDigest_r3[j]? = some c) : c ∈ wsX4_lineDigest := List.mem_cons_of_mem _ (List.mem_append_left _ (List.mem_append_right _ (List.mem_append_right _ (List.mem_append_left _ (List.mem_of_getElem? h)))))
theorem qq_X4_lineDigest_3 {c : Cond} (j : Nat) (h : wsX4_lineDigest_r4[j]? = some c) : c ∈ wsX4_lineDigest := List.mem_cons_of_mem _ (List.mem_append_left _ (List.mem_append_right _ (List.mem_append_right _ (List.mem_append_right _ (List.mem_append_left _ (List.mem_of_getElem? h))))))
theorem qq_X4_lineDigest_4 {c : Cond} (j : Nat) (h : wsX4_lineDigest_r5[j]? = some c) : c ∈ wsX4_lineDigest := List.mem_cons_of_mem _ (List.mem_append_left _ (List.mem_append_right _ (List.mem_append_right _ (List.mem_append_right _ (List.mem_append_right _ (List.mem_of_getElem? h))))))
theorem uq_X4_lineDigest_X4 : wsub wsX40 wsX4_lineDigest := fun _ h => List.mem_cons_of_mem _ (List.mem_append_right _ (h))
set_option maxRecDepth 20000 in
theorem ggX4_lineDigest_X4_hitsOf : GoodIn wsX4_lineDigest wsX4_hitsOf := goodIn_sub (sb_c (qq_X4_lineDigest_0 5 rfl) (sb_a (sb_a (sb_c (qq_X4_lineDigest_0 6 rfl) (sb_c (qq_X4_lineDigest_0 7 rfl) (sb_c (qq_X4_lineDigest_0 8 rfl) (sb_c (qq_X4_lineDigest_0 9 rfl) (sb_c (qq_X4_lineDigest_0 4 rfl) (sb_c (qq_X4_lineDigest_0 10 rfl) (sb_c (qq_X4_lineDigest_0 11 rfl) (sb_c (qq_X4_lineDigest_0 12 rfl) (sb_c (qq_X4_lineDigest_0 13 rfl) (sb_c (qq_X4_lineDigest_0 14 rfl) (sb_c (qq_X4_lineDigest_0 15 rfl) (sb_c (qq_X4_lineDigest_0 16 rfl) (sb_c (qq_X4_lineDigest_0 17 rfl) (sb_c (qq_X4_lineDigest_0 18 rfl) (sb_c (qq_X4_lineDigest_0 19 rfl) (sb_c (qq_X4_lineDigest_0 20 rfl) (sb_c (qq_X4_lineDigest_0 21 rfl) (sb_c (qq_X4_lineDigest_0 22 rfl) (sb_c (qq_X4_lineDigest_0 23 rfl) (sb_c (qq_X4_lineDigest_1 0 rfl) (sb_c (qq_X4_lineDigest_1 1 rfl) (sb_c (qq_X4_lineDigest_1 2 rfl) (sb_c (qq_X4_lineDigest_1 3 rfl) (sb_c (qq_X4_lineDigest_1 4 rfl) sb_n)))))))))))))))))))))))) (sb_a (sb_c (qq_X4_lineDigest_1 5 rfl) (sb_c (qq_X4_lineDigest_1 6 rfl) (sb_c (qq_X4_lineDigest_1 7 rfl) (sb_c (qq_X4_lineDigest_1 8 rfl) (sb_c (qq_X4_lineDigest_1 9 rfl) (sb_c (qq_X4_lineDigest_1 10 rfl) (sb_c (qq_X4_lineDigest_1 11 rfl) (sb_c (qq_X4_lineDigest_1 12 rfl) (sb_c (qq_X4_lineDigest_1 13 rfl) (sb_c (qq_X4_lineDigest_1 14 rfl) (sb_c (qq_X4_lineDigest_1 15 rfl) (sb_c (qq_X4_lineDigest_1 16 rfl) (sb_c (qq_X4_lineDigest_1 17 rfl) (sb_c (qq_X4_lineDigest_1 18 rfl) (sb_c (qq_X4_lineDigest_1 19 rfl) (sb_c (qq_X4_lineDigest_1 20 rfl) (sb_c (qq_X4_lineDigest_1 21 rfl) (sb_c (qq_X4_lineDigest_1 22 rfl) (sb_c (qq_X4_lineDigest_1 23 rfl) (sb_c (qq_X4_lineDigest_2 0 rfl) (sb_c (qq_X4_lineDigest_2 1 rfl) (sb_c (qq_X4_lineDigest_2 2 rfl) (sb_c (qq_X4_lineDigest_2 3 rfl) (sb_c (qq_X4_lineDigest_2 4 rfl) sb_n)))))))))))))))))))))))) (sb_a (sb_c (qq_X4_lineDigest_2 5 rfl) (sb_c (qq_X4_lineDigest_2 6 rfl) (sb_c (qq_X4_lineDigest_2 7 rfl) (sb_c (qq_X4_lineDigest_2 8 rfl) (sb_c (qq_X4_lineDigest_2 9 rfl) (sb_c (qq_X4_lineDigest_2 10 rfl) (sb_c (qq_X4_lineDigest_2 11 rfl) (sb_c (qq_X4_lineDigest_2 12 rfl) (sb_c (qq_X4_lineDigest_2 13 rfl) (sb_c (qq_X4_lineDigest_2 14 rfl) (sb_c (qq_X4_lineDigest_2 15 rfl) (sb_c (qq_X4_lineDigest_2 16 rfl) (sb_c (qq_X4_lineDigest_2 17 rfl) (sb_c (qq_X4_lineDigest_2 18 rfl) (sb_c (qq_X4_lineDigest_2 19 rfl) (sb_c (qq_X4_lineDigest_2 20 rfl) (sb_c (qq_X4_lineDigest_2 21 rfl) (sb_c (qq_X4_lineDigest_2 22 rfl) (sb_c (qq_X4_lineDigest_2 23 rfl) (sb_c (qq_X4_lineDigest_3 0 rfl) (sb_c (qq_X4_lineDigest_3 1 rfl) (sb_c (qq_X4_lineDigest_3 2 rfl) (sb_c (qq_X4_lineDigest_3 3 rfl) (sb_c (qq_X4_lineDigest_3 4 rfl) sb_n)))))))))))))))))))))))) (sb_c (qq_X4_lineDigest_3 5 rfl) (sb_c (qq_X4_lineDigest_3 6 rfl) (sb_c (qq_X4_lineDigest_3 7 rfl) (sb_c (qq_X4_lineDigest_3 8 rfl) sb_n))))))) (uq_X4_lineDigest_X4))) gw_X4_hitsOf
set_option maxRecDepth 20000 in
theorem gX4_lineDigest_X4_hitsOf : GoodIn wsX4_lineDigest (wsV RX4 171 RX4 yX4_hitsOf wsX4_hitsOf) := goodIn_app (goodIn_sub (sb_c (qq_X4_lineDigest_0 1 rfl) (sb_c (qq_X4_lineDigest_0 2 rfl) (sb_c (qq_X4_lineDigest_0 3 rfl) (sb_c (qq_X4_lineDigest_0 4 rfl) sb_n)))) (by decide +kernel)) ggX4_lineDigest_X4_hitsOf
set_option maxRecDepth 20000 in
theorem ggX4_lineDigest_X4_hitOf : GoodIn wsX4_lineDigest wsX4_hitOf := goodIn_sub (sb_c (qq_X4_lineDigest_3 12 rfl) (sb_a (sb_a (sb_c (qq_X4_lineDigest_0 6 rfl) (sb_c (qq_X4_lineDigest_1 12 rfl) (sb_c (qq_X4_lineDigest_1 13 rfl) (sb_c (qq_X4_lineDigest_0 7 rfl) (sb_c (qq_X4_lineDigest_0 8 rfl) (sb_c (qq_X4_lineDigest_0 9 rfl) (sb_c (qq_X4_lineDigest_0 4 rfl) (sb_c (qq_X4_lineDigest_0 10 rfl) (sb_c (qq_X4_lineDigest_0 11 rfl) (sb_c (qq_X4_lineDigest_0 12 rfl) (sb_c (qq_X4_lineDigest_0 13 rfl) (sb_c (qq_X4_lineDigest_0 14 rfl) (sb_c (qq_X4_lineDigest_0 15 rfl) (sb_c (qq_X4_lineDigest_0 16 rfl) (sb_c (qq_X4_lineDigest_0 17 rfl) (sb_c (qq_X4_lineDigest_0 18 rfl) (sb_c (qq_X4_lineDigest_0 19 rfl) (sb_c (qq_X4_lineDigest_0 20 rfl) (sb_c (qq_X4_lineDigest_0 21 rfl) (sb_c (qq_X4_lineDigest_0 22 rfl) (sb_c (qq_X4_lineDigest_0 23 rfl) (sb_c (qq_X4_lineDigest_1 0 rfl) (sb_c (qq_X4_lineDigest_1 1 rfl) (sb_c (qq_X4_lineDigest_1 2 rfl) sb_n)))))))))))))))))))))))) (sb_a (sb_c (qq_X4_lineDigest_1 3 rfl) (sb_c (qq_X4_lineDigest_1 4 rfl) (sb_c (qq_X4_lineDigest_1 5 rfl) (sb_c (qq_X4_lineDigest_1 6 rfl) (sb_c (qq_X4_lineDigest_1 7 rfl) (sb_c (qq_X4_lineDigest_1 8 rfl) (sb_c (qq_X4_lineDigest_1 9 rfl) (sb_c (qq_X4_lineDigest_1 10 rfl) (sb_c (qq_X4_lineDigest_1 11 rfl) (sb_c (qq_X4_lineDigest_1 14 rfl) (sb_c (qq_X4_lineDigest_1 15 rfl) (sb_c (qq_X4_lineDigest_1 16 rfl) (sb_c (qq_X4_lineDigest_1 17 rfl) (sb_c (qq_X4_lineDigest_1 18 rfl) (sb_c (qq_X4_lineDigest_1 19 rfl) (sb_c (qq_X4_lineDigest_1 20 rfl) (sb_c (qq_X4_lineDigest_1 21 rfl) (sb_c (qq_X4_lineDigest_1 22 rfl) (sb_c (qq_X4_lineDigest_1 23 rfl) (sb_c (qq_X4_lineDigest_2 0 rfl) (sb_c (qq_X4_lineDigest_2 1 rfl) (sb_c (qq_X4_lineDigest_2 2 rfl) (sb_c (qq_X4_lineDigest_2 3 rfl) (sb_c (qq_X4_lineDigest_2 4 rfl) sb_n)))))))))))))))))))))))) (sb_a (sb_c (qq_X4_lineDigest_2 5 rfl) (sb_c (qq_X4_lineDigest_2 6 rfl) (sb_c (qq_X4_lineDigest_2 7 rfl) (sb_c (qq_X4_lineDigest_2 8 rfl) (sb_c (qq_X4_lineDigest_2 9 rfl) (sb_c (qq_X4_lineDigest_2 10 rfl) (sb_c (qq_X4_lineDigest_2 11 rfl) (sb_c (qq_X4_lineDigest_2 12 rfl) (sb_c (qq_X4_lineDigest_2 13 rfl) (sb_c (qq_X4_lineDigest_2 14 rfl) (sb_c (qq_X4_lineDigest_2 15 rfl) (sb_c (qq_X4_lineDigest_2 16 rfl) (sb_c (qq_X4_lineDigest_2 17 rfl) (sb_c (qq_X4_lineDigest_2 18 rfl) (sb_c (qq_X4_lineDigest_2 19 rfl) (sb_c (qq_X4_lineDigest_2 20 rfl) (sb_c (qq_X4_lineDigest_2 21 rfl) (sb_c (qq_X4_lineDigest_2 22 rfl) (sb_c (qq_X4_lineDigest_2 23 rfl) (sb_c (qq_X4_lineDigest_3 0 rfl) (sb_c (qq_X4_lineDigest_3 1 rfl) (sb_c (qq_X4_lineDigest_3 2 rfl) (sb_c (qq_X4_lineDigest_3 3 rfl) (sb_c (qq_X4_lineDigest_3 4 rfl) sb_n)))))))))))))))))))))))) (sb_c (qq_X4_lineDigest_3 5 rfl) (sb_c (qq_X4_lineDigest_3 6 rfl) (sb_c (qq_X4_lineDigest_3 7 rfl) (sb_c (qq_X4_lineDigest_3 8 rfl) sb_n))))))) (uq_X4_lineDigest_X4))) gw_X4_hitOf
set_option maxRecDepth 20000 in
theorem gX4_lineDigest_X4_hitOf : GoodIn wsX4_lineDigest (wsV RX4 174 RX4 yX4_hitOf wsX4_hitOf) := goodIn_app (goodIn_sub (sb_c (qq_X4_lineDigest_3 9 rfl) (sb_c (qq_X4_lineDigest_3 10 rfl) (sb_c (qq_X4_lineDigest_3 11 rfl) (sb_c (qq_X4_lineDigest_0 4 rfl) sb_n)))) (by decide +kernel)) ggX4_lineDigest_X4_hitOf
set_option maxRecDepth 20000 in
theorem ggX4_lineDigest_X4_byOf : GoodIn wsX4_lineDigest wsX4_byOf := goodIn_sub (sb_c (qq_X4_lineDigest_3 16 rfl) (sb_a (sb_a (sb_c (qq_X4_lineDigest_2 1 rfl) (sb_c (qq_X4_lineDigest_0 7 rfl) (sb_c (qq_X4_lineDigest_0 8 rfl) (sb_c (qq_X4_lineDigest_0 9 rfl) (sb_c (qq_X4_lineDigest_0 4 rfl) (sb_c (qq_X4_lineDigest_0 10 rfl) (sb_c (qq_X4_lineDigest_0 11 rfl) (sb_c (qq_X4_lineDigest_0 12 rfl) (sb_c (qq_X4_lineDigest_0 13 rfl) (sb_c (qq_X4_lineDigest_0 14 rfl) (sb_c (qq_X4_lineDigest_0 15 rfl) (sb_c (qq_X4_lineDigest_0 16 rfl) (sb_c (qq_X4_lineDigest_0 17 rfl) (sb_c (qq_X4_lineDigest_0 18 rfl) (sb_c (qq_X4_lineDigest_0 19 rfl) (sb_c (qq_X4_lineDigest_0 20 rfl) (sb_c (qq_X4_lineDigest_0 21 rfl) (sb_c (qq_X4_lineDigest_0 22 rfl) (sb_c (qq_X4_lineDigest_0 23 rfl) (sb_c (qq_X4_lineDigest_1 0 rfl) (sb_c (qq_X4_lineDigest_1 1 rfl) (sb_c (qq_X4_lineDigest_1 2 rfl) (sb_c (qq_X4_lineDigest_1 3 rfl) (sb_c (qq_X4_lineDigest_1 4 rfl) sb_n)))))))))))))))))))))))) (sb_a (sb_c (qq_X4_lineDigest_1 5 rfl) (sb_c (qq_X4_lineDigest_1 6 rfl) (sb_c (qq_X4_lineDigest_1 7 rfl) (sb_c (qq_X4_lineDigest_1 8 rfl) (sb_c (qq_X4_lineDigest_1 9 rfl) (sb_c (qq_X4_lineDigest_1 10 rfl) (sb_c (qq_X4_lineDigest_1 11 rfl) (sb_c (qq_X4_lineDigest_0 6 rfl) (sb_c (qq_X4_lineDigest_1 12 rfl) (sb_c (qq_X4_lineDigest_1 13 rfl) (sb_c (qq_X4_lineDigest_1 14 rfl) (sb_c (qq_X4_lineDigest_1 15 rfl) (sb_c (qq_X4_lineDigest_1 16 rfl) (sb_c (qq_X4_lineDigest_1 17 rfl) (sb_c (qq_X4_lineDigest_1 18 rfl) (sb_c (qq_X4_lineDigest_1 19 rfl) (sb_c (qq_X4_lineDigest_1 20 rfl) (sb_c (qq_X4_lineDigest_1 21 rfl) (sb_c (qq_X4_lineDigest_1 22 rfl) (sb_c (qq_X4_lineDigest_1 23 rfl) (sb_c (qq_X4_lineDigest_2 0 rfl) (sb_c (qq_X4_lineDigest_2 2 rfl) (sb_c (qq_X4_lineDigest_2 3 rfl) (sb_c (qq_X4_lineDigest_2 4 rfl) sb_n)))))))))))))))))))))))) (sb_a (sb_c (qq_X4_lineDigest_2 5 rfl) (sb_c (qq_X4_lineDigest_2 6 rfl) (sb_c (qq_X4_lineDigest_2 7 rfl) (sb_c (qq_X4_lineDigest_2 8 rfl) (sb_c (qq_X4_lineDigest_2 9 rfl) (sb_c (qq_X4_lineDigest_2 10 rfl) (sb_c (qq_X4_lineDigest_2 11 rfl) (sb_c (qq_X4_lineDigest_2 12 rfl) (sb_c (qq_X4_lineDigest_2 13 rfl) (sb_c (qq_X4_lineDigest_2 14 rfl) (sb_c (qq_X4_lineDigest_2 15 rfl) (sb_c (qq_X4_lineDigest_2 16 rfl) (sb_c (qq_X4_lineDigest_2 17 rfl) (sb_c (qq_X4_lineDigest_2 18 rfl) (sb_c (qq_X4_lineDigest_2 19 rfl) (sb_c (qq_X4_lineDigest_2 20 rfl) (sb_c (qq_X4_lineDigest_2 21 rfl) (sb_c (qq_X4_lineDigest_2 22 rfl) (sb_c (qq_X4_lineDigest_2 23 rfl) (sb_c (qq_X4_lineDigest_3 0 rfl) (sb_c (qq_X4_lineDigest_3 1 rfl) (sb_c (qq_X4_lineDigest_3 2 rfl) (sb_c (qq_X4_lineDigest_3 3 rfl) (sb_c (qq_X4_lineDigest_3 4 rfl) sb_n)))))))))))))))))))))))) (sb_c (qq_X4_lineDigest_3 5 rfl) (sb_c (qq_X4_lineDigest_3 6 rfl) (sb_c (qq_X4_lineDigest_3 7 rfl) (sb_c (qq_X4_lineDigest_3 8 rfl) sb_n))))))) (uq_X4_lineDigest_X4))) gw_X4_byOf
set_option maxRecDepth 20000 in
theorem gX4_lineDigest_X4_byOf : GoodIn wsX4_lineDigest (wsV RX4 181 RX4 yX4_byOf wsX4_byOf) := goodIn_app (goodIn_sub (sb_c (qq_X4_lineDigest_3 13 rfl) (sb_c (qq_X4_lineDigest_3 14 rfl) (sb_c (qq_X4_lineDigest_3 15 rfl) (sb_c (qq_X4_lineDigest_0 4 rfl) sb_n)))) (by decide +kernel)) ggX4_lineDigest_X4_byOf
set_option maxRecDepth 20000 in
theorem ggX4_lineDigest_X4_missedOf : GoodIn wsX4_lineDigest wsX4_missedOf := goodIn_sub (sb_c (qq_X4_lineDigest_3 20 rfl) (sb_a (sb_a (sb_c (qq_X4_lineDigest_1 4 rfl) (sb_c (qq_X4_lineDigest_0 7 rfl) (sb_c (qq_X4_lineDigest_0 8 rfl) (sb_c (qq_X4_lineDigest_0 9 rfl) (sb_c (qq_X4_lineDigest_0 4 rfl) (sb_c (qq_X4_lineDigest_0 10 rfl) (sb_c (qq_X4_lineDigest_0 11 rfl) (sb_c (qq_X4_lineDigest_0 12 rfl) (sb_c (qq_X4_lineDigest_0 13 rfl) (sb_c (qq_X4_lineDigest_0 14 rfl) (sb_c (qq_X4_lineDigest_0 15 rfl) (sb_c (qq_X4_lineDigest_0 16 rfl) (sb_c (qq_X4_lineDigest_0 17 rfl) (sb_c (qq_X4_lineDigest_0 18 rfl) (sb_c (qq_X4_lineDigest_0 19 rfl) (sb_c (qq_X4_lineDigest_0 20 rfl) (sb_c (qq_X4_lineDigest_0 21 rfl) (sb_c (qq_X4_lineDigest_0 22 rfl) (sb_c (qq_X4_lineDigest_0 23 rfl) (sb_c (qq_X4_lineDigest_1 0 rfl) (sb_c (qq_X4_lineDigest_1 1 rfl) (sb_c (qq_X4_lineDigest_1 2 rfl) (sb_c (qq_X4_lineDigest_1 3 rfl) (sb_c (qq_X4_lineDigest_1 5 rfl) sb_n)))))))))))))))))))))))) (sb_a (sb_c (qq_X4_lineDigest_1 6 rfl) (sb_c (qq_X4_lineDigest_1 7 rfl) (sb_c (qq_X4_lineDigest_1 8 rfl) (sb_c (qq_X4_lineDigest_1 9 rfl) (sb_c (qq_X4_lineDigest_1 10 rfl) (sb_c (qq_X4_lineDigest_1 11 rfl) (sb_c (qq_X4_lineDigest_0 6 rfl) (sb_c (qq_X4_lineDigest_1 12 rfl) (sb_c (qq_X4_lineDigest_1 13 rfl) (sb_c (qq_X4_lineDigest_1 14 rfl) (sb_c (qq_X4_lineDigest_1 15 rfl) (sb_c (qq_X4_lineDigest_1 16 rfl) (sb_c (qq_X4_lineDigest_1 17 rfl) (sb_c (qq_X4_lineDigest_1 18 rfl) (sb_c (qq_X4_lineDigest_1 19 rfl) (sb_c (qq_X4_lineDigest_1 20 rfl) (sb_c (qq_X4_lineDigest_1 21 rfl) (sb_c (qq_X4_lineDigest_1 22 rfl) (sb_c (qq_X4_lineDigest_1 23 rfl) (sb_c (qq_X4_lineDigest_2 0 rfl) (sb_c (qq_X4_lineDigest_2 1 rfl) (sb_c (qq_X4_lineDigest_2 2 rfl) (sb_c (qq_X4_lineDigest_2 3 rfl) (sb_c (qq_X4_lineDigest_2 4 rfl) sb_n)))))))))))))))))))))))) (sb_a (sb_c (qq_X4_lineDigest_2 5 rfl) (sb_c (qq_X4_lineDigest_2 6 rfl) (sb_c (qq_X4_lineDigest_2 7 rfl) (sb_c (qq_X4_lineDigest_2 8 rfl) (sb_c (qq_X4_lineDigest_2 9 rfl) (sb_c (qq_X4_lineDigest_2 10 rfl) (sb_c (qq_X4_lineDigest_2 11 rfl) (sb_c (qq_X4_lineDigest_2 12 rfl) (sb_c (qq_X4_lineDigest_2 13 rfl) (sb_c (qq_X4_lineDigest_2 14 rfl) (sb_c (qq_X4_lineDigest_2 15 rfl) (sb_c (qq_X4_lineDigest_2 16 rfl) (sb_c (qq_X4_lineDigest_2 17 rfl) (sb_c (qq_X4_lineDigest_2 18 rfl) (sb_c (qq_X4_lineDigest_2 19 rfl) (sb_c (qq_X4_lineDigest_2 20 rfl) (sb_c (qq_X4_lineDigest_2 21 rfl) (sb_c (qq_X4_lineDigest_2 22 rfl) (sb_c (qq_X4_lineDigest_2 23 rfl) (sb_c (qq_X4_lineDigest_3 0 rfl) (sb_c (qq_X4_lineDigest_3 1 rfl) (sb_c (qq_X4_lineDigest_3 2 rfl) (sb_c (qq_X4_lineDigest_3 3 rfl) (sb_c (qq_X4_lineDigest_3 4 rfl) sb_n)))))))))))))))))))))))) (sb_c (qq_X4_lineDigest_3 5 rfl) (sb_c (qq_X4_lineDigest_3 6 rfl) (sb_c (qq_X4_lineDigest_3 7 rfl) (sb_c (qq_X4_lineDigest_3 8 rfl) sb_n))))))) (uq_X4_lineDigest_X4))) gw_X4_missedOf
set_option maxRecDepth 20000 in
theorem gX4_lineDigest_X4_missedOf : GoodIn wsX4_lineDigest (wsV RX4 184 RX4 yX4_missedOf wsX4_missedOf) := goodIn_app (goodIn_sub (sb_c (qq_X4_lineDigest_3 17 rfl) (sb_c (qq_X4_lineDigest_3 18 rfl) (sb_c (qq_X4_lineDigest_3 19 rfl) (sb_c (qq_X4_lineDigest_0 4 rfl) sb_n)))) (by decide +kernel)) ggX4_lineDigest_X4_missedOf
set_option maxRecDepth 20000 in
theorem ggX4_lineDigest_X4_doneOf : GoodIn wsX4_lineDigest wsX4_doneOf := goodIn_sub (sb_c (qq_X4_lineDigest_4 0 rfl) (sb_a (sb_a (sb_c (qq_X4_lineDigest_0 7 rfl) (sb_c (qq_X4_lineDigest_0 8 rfl) (sb_c (qq_X4_lineDigest_0 9 rfl) (sb_c (qq_X4_lineDigest_0 4 rfl) (sb_c (qq_X4_lineDigest_0 10 rfl) (sb_c (qq_X4_lineDigest_0 11 rfl) (sb_c (qq_X4_lineDigest_0 12 rfl) (sb_c (qq_X4_lineDigest_0 13 rfl) (sb_c (qq_X4_lineDigest_0 14 rfl) (sb_c (qq_X4_lineDigest_0 15 rfl) (sb_c (qq_X4_lineDigest_0 16 rfl) (sb_c (qq_X4_lineDigest_0 17 rfl) (sb_c (qq_X4_lineDigest_0 18 rfl) (sb_c (qq_X4_lineDigest_0 19 rfl) (sb_c (qq_X4_lineDigest_0 20 rfl) (sb_c (qq_X4_lineDigest_0 21 rfl) (sb_c (qq_X4_lineDigest_0 22 rfl) (sb_c (qq_X4_lineDigest_0 23 rfl) (sb_c (qq_X4_lineDigest_1 0 rfl) (sb_c (qq_X4_lineDigest_1 1 rfl) (sb_c (qq_X4_lineDigest_1 2 rfl) (sb_c (qq_X4_lineDigest_1 3 rfl) (sb_c (qq_X4_lineDigest_1 4 rfl) (sb_c (qq_X4_lineDigest_1 5 rfl) sb_n)))))))))))))))))))))))) (sb_a (sb_c (qq_X4_lineDigest_1 6 rfl) (sb_c (qq_X4_lineDigest_1 7 rfl) (sb_c (qq_X4_lineDigest_1 8 rfl) (sb_c (qq_X4_lineDigest_1 9 rfl) (sb_c (qq_X4_lineDigest_1 10 rfl) (sb_c (qq_X4_lineDigest_1 11 rfl) (sb_c (qq_X4_lineDigest_0 6 rfl) (sb_c (qq_X4_lineDigest_1 12 rfl) (sb_c (qq_X4_lineDigest_1 13 rfl) (sb_c (qq_X4_lineDigest_1 14 rfl) (sb_c (qq_X4_lineDigest_1 15 rfl) (sb_c (qq_X4_lineDigest_1 16 rfl) (sb_c (qq_X4_lineDigest_1 17 rfl) (sb_c (qq_X4_lineDigest_1 18 rfl) (sb_c (qq_X4_lineDigest_1 19 rfl) (sb_c (qq_X4_lineDigest_1 20 rfl) (sb_c (qq_X4_lineDigest_1 21 rfl) (sb_c (qq_X4_lineDigest_1 22 rfl) (sb_c (qq_X4_lineDigest_1 23 rfl) (sb_c (qq_X4_lineDigest_2 0 rfl) (sb_c (qq_X4_lineDigest_2 1 rfl) (sb_c (qq_X4_lineDigest_2 2 rfl) (sb_c (qq_X4_lineDigest_2 3 rfl) (sb_c (qq_X4_lineDigest_2 4 rfl) sb_n)))))))))))))))))))))))) (sb_a (sb_c (qq_X4_lineDigest_2 5 rfl) (sb_c (qq_X4_lineDigest_2 6 rfl) (sb_c (qq_X4_lineDigest_2 7 rfl) (sb_c (qq_X4_lineDigest_2 8 rfl) (sb_c (qq_X4_lineDigest_2 9 rfl) (sb_c (qq_X4_lineDigest_2 10 rfl) (sb_c (qq_X4_lineDigest_2 11 rfl) (sb_c (qq_X4_lineDigest_2 12 rfl) (sb_c (qq_X4_lineDigest_2 13 rfl) (sb_c (qq_X4_lineDigest_2 14 rfl) (sb_c (qq_X4_lineDigest_2 15 rfl) (sb_c (qq_X4_lineDigest_2 16 rfl) (sb_c (qq_X4_lineDigest_2 17 rfl) (sb_c (qq_X4_lineDigest_2 18 rfl) (sb_c (qq_X4_lineDigest_2 19 rfl) (sb_c (qq_X4_lineDigest_2 20 rfl) (sb_c (qq_X4_lineDigest_2 21 rfl) (sb_c (qq_X4_lineDigest_2 22 rfl) (sb_c (qq_X4_lineDigest_2 23 rfl) (sb_c (qq_X4_lineDigest_3 0 rfl) (sb_c (qq_X4_lineDigest_3 1 rfl) (sb_c (qq_X4_lineDigest_3 2 rfl) (sb_c (qq_X4_lineDigest_3 3 rfl) (sb_c (qq_X4_lineDigest_3 4 rfl) sb_n)))))))))))))))))))))))) (sb_c (qq_X4_lineDigest_3 5 rfl) (sb_c (qq_X4_lineDigest_3 6 rfl) (sb_c (qq_X4_lineDigest_3 7 rfl) (sb_c (qq_X4_lineDigest_3 8 rfl) (sb_c (qq_X4_lineDigest_4 1 rfl) (sb_c (qq_X4_lineDigest_4 2 rfl) (sb_c (qq_X4_lineDigest_4 3 rfl) (sb_c (qq_X4_lineDigest_4 4 rfl) sb_n))))))))))) (uq_X4_lineDigest_X4))) gw_X4_doneOf
set_option maxRecDepth 20000 in
theorem gX4_lineDigest_X4_doneOf : GoodIn wsX4_lineDigest (wsV RX4 191 RX4 yX4_doneOf wsX4_doneOf) := goodIn_app (goodIn_sub (sb_c (qq_X4_lineDigest_3 21 rfl) (sb_c (qq_X4_lineDigest_3 22 rfl) (sb_c (qq_X4_lineDigest_3 23 rfl) (sb_c (qq_X4_lineDigest_0 4 rfl) sb_n)))) (by decide +kernel)) ggX4_lineDigest_X4_doneOf
theorem dX4_lineDigest_0 : decode cX4_lineDigest 0 = .ok (.ldc2_w 291, 3) := by decide +kernel
theorem dX4_lineDigest_3 : decode cX4_lineDigest 3 = .ok (.lload_n 1, 1) := by decide +kernel
theorem dX4_lineDigest_4 : decode cX4_lineDigest 4 = .ok (.lmul, 1) := by decide +kernel
theorem dX4_lineDigest_5 : decode cX4_lineDigest 5 = .ok (.aload_n 0, 1) := by decide +kernel
theorem dX4_lineDigest_6 : decode cX4_lineDigest 6 = .ok (.iload_n 3, 1) := by decide +kernel
theorem dX4_lineDigest_7 : decode cX4_lineDigest 7 = .ok (.invokevirtual 171, 3) := by decide +kernel
theorem dX4_lineDigest_10 : decode cX4_lineDigest 10 = .ok (.i2l, 1) := by decide +kernel
theorem dX4_lineDigest_11 : decode cX4_lineDigest 11 = .ok (.ladd, 1) := by decide +kernel
theorem dX4_lineDigest_12 : decode cX4_lineDigest 12 = .ok (.lstore 4, 2) := by decide +kernel
theorem dX4_lineDigest_14 : decode cX4_lineDigest 14 = .ok (.iconst 0, 1) := by decide +kernel
theorem dX4_lineDigest_15 : decode cX4_lineDigest 15 = .ok (.istore 6, 2) := by decide +kernel
theorem dX4_lineDigest_17 : decode cX4_lineDigest 17 = .ok (.iload 6, 2) := by decide +kernel
theorem dX4_lineDigest_19 : decode cX4_lineDigest 19 = .ok (.iconst 3, 1) := by decide +kernel
theorem dX4_lineDigest_20 : decode cX4_lineDigest 20 = .ok (.if_icmp .ge 45, 3) := by decide +kernel
theorem dX4_lineDigest_23 : decode cX4_lineDigest 23 = .ok (.ldc2_w 291, 3) := by decide +kernel
theorem dX4_lineDigest_26 : decode cX4_lineDigest 26 = .ok (.lload 4, 2) := by decide +kernel
theorem dX4_lineDigest_28 : decode cX4_lineDigest 28 = .ok (.lmul, 1) := by decide +kernel
theorem dX4_lineDigest_29 : decode cX4_lineDigest 29 = .ok (.aload_n 0, 1) := by decide +kernel
theorem dX4_lineDigest_30 : decode cX4_lineDigest 30 = .ok (.iload_n 3, 1) := by decide +kernel
theorem dX4_lineDigest_31 : decode cX4_lineDigest 31 = .ok (.iload 6, 2) := by decide +kernel
theorem dX4_lineDigest_33 : decode cX4_lineDigest 33 = .ok (.iconst 0, 1) := by decide +kernel
theorem dX4_lineDigest_34 : decode cX4_lineDigest 34 = .ok (.invokevirtual 174, 3) := by decide +kernel
theorem dX4_lineDigest_37 : decode cX4_lineDigest 37 = .ok (.i2l, 1) := by decide +kernel
theorem dX4_lineDigest_38 : decode cX4_lineDigest 38 = .ok (.ladd, 1) := by decide +kernel
theorem dX4_lineDigest_39 : decode cX4_lineDigest 39 = .ok (.lstore 4, 2) := by decide +kernel
theorem dX4_lineDigest_41 : decode cX4_lineDigest 41 = .ok (.ldc2_w 291, 3) := by decide +kernel
theorem dX4_lineDigest_44 : decode cX4_lineDigest 44 = .ok (.lload 4, 2) := by decide +kernel
theorem dX4_lineDigest_46 : decode cX4_lineDigest 46 = .ok (.lmul, 1) := by decide +kernel
theorem dX4_lineDigest_47 : decode cX4_lineDigest 47 = .ok (.aload_n 0, 1) := by decide +kernel
theorem dX4_lineDigest_48 : decode cX4_lineDigest 48 = .ok (.iload_n 3, 1) := by decide +kernel
theorem dX4_lineDigest_49 : decode cX4_lineDigest 49 = .ok (.iload 6, 2) := by decide +kernel
theorem dX4_lineDigest_51 : decode cX4_lineDigest 51 = .ok (.iconst 1, 1) := by decide +kernel
theorem dX4_lineDigest_52 : decode cX4_lineDigest 52 = .ok (.invokevirtual 174, 3) := by decide +kernel
theorem dX4_lineDigest_55 : decode cX4_lineDigest 55 = .ok (.i2l, 1) := by decide +kernel
theorem dX4_lineDigest_56 : decode cX4_lineDigest 56 = .ok (.ladd, 1) := by decide +kernel
theorem dX4_lineDigest_57 : decode cX4_lineDigest 57 = .ok (.lstore 4, 2) := by decide +kernel
theorem dX4_lineDigest_59 : decode cX4_lineDigest 59 = .ok (.iinc 6 1, 3) := by decide +kernel
theorem dX4_lineDigest_62 : decode cX4_lineDigest 62 = .ok (.goto (-45), 3) := by decide +kernel
theorem dX4_lineDigest_65 : decode cX4_lineDigest 65 = .ok (.iconst 0, 1) := by decide +kernel
theorem dX4_lineDigest_66 : decode cX4_lineDigest 66 = .ok (.istore 6, 2) := by decide +kernel
theorem dX4_lineDigest_68 : decode cX4_lineDigest 68 = .ok (.iload 6, 2) := by decide +kernel
theorem dX4_lineDigest_70 : decode cX4_lineDigest 70 = .ok (.bipush 8, 2) := by decide +kernel
theorem dX4_lineDigest_72 : decode cX4_lineDigest 72 = .ok (.if_icmp .ge 63, 3) := by decide +kernel
theorem dX4_lineDigest_75 : decode cX4_lineDigest 75 = .ok (.iload 6, 2) := by decide +kernel
theorem dX4_lineDigest_77 : decode cX4_lineDigest 77 = .ok (.ifCond .eq 16, 3) := by decide +kernel
theorem dX4_lineDigest_80 : decode cX4_lineDigest 80 = .ok (.iload 6, 2) := by decide +kernel
theorem dX4_lineDigest_82 : decode cX4_lineDigest 82 = .ok (.iconst 3, 1) := by decide +kernel
theorem dX4_lineDigest_83 : decode cX4_lineDigest 83 = .ok (.if_icmp .eq 10, 3) := by decide +kernel
theorem dX4_lineDigest_86 : decode cX4_lineDigest 86 = .ok (.iload 6, 2) := by decide +kernel
theorem dX4_lineDigest_88 : decode cX4_lineDigest 88 = .ok (.bipush 7, 2) := by decide +kernel
theorem dX4_lineDigest_90 : decode cX4_lineDigest 90 = .ok (.if_icmp .ne 39, 3) := by decide +kernel
theorem dX4_lineDigest_93 : decode cX4_lineDigest 93 = .ok (.ldc2_w 291, 3) := by decide +kernel
theorem dX4_lineDigest_96 : decode cX4_lineDigest 96 = .ok (.lload 4, 2) := by decide +kernel
theorem dX4_lineDigest_98 : decode cX4_lineDigest 98 = .ok (.lmul, 1) := by decide +kernel
theorem dX4_lineDigest_99 : decode cX4_lineDigest 99 = .ok (.aload_n 0, 1) := by decide +kernel
theorem dX4_lineDigest_100 : decode cX4_lineDigest 100 = .ok (.iload_n 3, 1) := by decide +kernel
theorem dX4_lineDigest_101 : decode cX4_lineDigest 101 = .ok (.iload 6, 2) := by decide +kernel
theorem dX4_lineDigest_103 : decode cX4_lineDigest 103 = .ok (.iconst 0, 1) := by decide +kernel
theorem dX4_lineDigest_104 : decode cX4_lineDigest 104 = .ok (.invokevirtual 181, 3) := by decide +kernel
theorem dX4_lineDigest_107 : decode cX4_lineDigest 107 = .ok (.i2l, 1) := by decide +kernel
theorem dX4_lineDigest_108 : decode cX4_lineDigest 108 = .ok (.ladd, 1) := by decide +kernel
theorem dX4_lineDigest_109 : decode cX4_lineDigest 109 = .ok (.lstore 4, 2) := by decide +kernel
theorem dX4_lineDigest_111 : decode cX4_lineDigest 111 = .ok (.ldc2_w 291, 3) := by decide +kernel
theorem dX4_lineDigest_114 : decode cX4_lineDigest 114 = .ok (.lload 4, 2) := by decide +kernel
theorem dX4_lineDigest_116 : decode cX4_lineDigest 116 = .ok (.lmul, 1) := by decide +kernel
theorem dX4_lineDigest_117 : decode cX4_lineDigest 117 = .ok (.aload_n 0, 1) := by decide +kernel
theorem dX4_lineDigest_118 : decode cX4_lineDigest 118 = .ok (.iload_n 3, 1) := by decide +kernel
theorem dX4_lineDigest_119 : decode cX4_lineDigest 119 = .ok (.iload 6, 2) := by decide +kernel
theorem dX4_lineDigest_121 : decode cX4_lineDigest 121 = .ok (.iconst 1, 1) := by decide +kernel
theorem dX4_lineDigest_122 : decode cX4_lineDigest 122 = .ok (.invokevirtual 181, 3) := by decide +kernel
theorem dX4_lineDigest_125 : decode cX4_lineDigest 125 = .ok (.i2l, 1) := by decide +kernel
theorem dX4_lineDigest_126 : decode cX4_lineDigest 126 = .ok (.ladd, 1) := by decide +kernel
theorem dX4_lineDigest_127 : decode cX4_lineDigest 127 = .ok (.lstore 4, 2) := by decide +kernel
theorem dX4_lineDigest_129 : decode cX4_lineDigest 129 = .ok (.iinc 6 1, 3) := by decide +kernel
theorem dX4_lineDigest_132 : decode cX4_lineDigest 132 = .ok (.goto (-64), 3) := by decide +kernel
theorem dX4_lineDigest_135 : decode cX4_lineDigest 135 = .ok (.ldc2_w 291, 3) := by decide +kernel
theorem dX4_lineDigest_138 : decode cX4_lineDigest 138 = .ok (.lload 4, 2) := by decide +kernel
theorem dX4_lineDigest_140 : decode cX4_lineDigest 140 = .ok (.lmul, 1) := by decide +kernel
theorem dX4_lineDigest_141 : decode cX4_lineDigest 141 = .ok (.aload_n 0, 1) := by decide +kernel
theorem dX4_lineDigest_142 : decode cX4_lineDigest 142 = .ok (.iload_n 3, 1) := by decide +kernel
theorem dX4_lineDigest_143 : decode cX4_lineDigest 143 = .ok (.invokevirtual 184, 3) := by decide +kernel
theorem dX4_lineDigest_146 : decode cX4_lineDigest 146 = .ok (.i2l, 1) := by decide +kernel
theorem dX4_lineDigest_147 : decode cX4_lineDigest 147 = .ok (.ladd, 1) := by decide +kernel
theorem dX4_lineDigest_148 : decode cX4_lineDigest 148 = .ok (.lstore 4, 2) := by decide +kernel
theorem dX4_lineDigest_150 : decode cX4_lineDigest 150 = .ok (.ldc2_w 291, 3) := by decide +kernel
theorem dX4_lineDigest_153 : decode cX4_lineDigest 153 = .ok (.lload 4, 2) := by decide +kernel
theorem dX4_lineDigest_155 : decode cX4_lineDigest 155 = .ok (.lmul, 1) := by decide +kernel
theorem dX4_lineDigest_156 : decode cX4_lineDigest 156 = .ok (.aload_n 0, 1) := by decide +kernel
theorem dX4_lineDigest_157 : decode cX4_lineDigest 157 = .ok (.iload_n 3, 1) := by decide +kernel
theorem dX4_lineDigest_158 : decode cX4_lineDigest 158 = .ok (.invokevirtual 191, 3) := by decide +kernel
theorem dX4_lineDigest_161 : decode cX4_lineDigest 161 = .ok (.i2l, 1) := by decide +kernel
theorem dX4_lineDigest_162 : decode cX4_lineDigest 162 = .ok (.ladd, 1) := by decide +kernel
theorem dX4_lineDigest_163 : decode cX4_lineDigest 163 = .ok (.lreturn, 1) := by decide +kernel
theorem qq_X4_digest_0 {c : Cond} (j : Nat) (h : wsX4_digest_r1[j]? = some c) : c ∈ wsX4_digest := List.mem_cons_of_mem _ (List.mem_append_left _ (List.mem_append_left _ (List.mem_of_getElem? h)))
theorem qq_X4_digest_1 {c : Cond} (j : Nat) (h : wsX4_digest_r2[j]? = some c) : c ∈ wsX4_digest := List.mem_cons_of_mem _ (List.mem_append_left _ (List.mem_append_right _ (List.mem_append_left _ (List.mem_of_getElem? h))))
theorem qq_X4_digest_2 {c : Cond} (j : Nat) (h : wsX4_digest_r3[j]? = some c) : c ∈ wsX4_digest := List.mem_cons_of_mem _ (List.mem_append_left _ (List.mem_append_right _ (List.mem_append_right _ (List.mem_append_left _ (List.mem_of_getElem? h)))))
theorem qq_X4_digest_3 {c : Cond} (j : Nat) (h : wsX4_digest_r4[j]? = some c) : c ∈ wsX4_digest := List.mem_cons_of_mem _ (List.mem_append_left _ (List.mem_append_right _ (List.mem_append_right _ (List.mem_append_right _ (List.mem_append_left _ (List.mem_of_getElem? h))))))
theorem qq_X4_digest_4 {c : Cond} (j : Nat) (h : wsX4_digest_r5[j]? = some c) : c ∈ wsX4_digest := List.mem_cons_of_mem _ (List.mem_append_left _ (List.mem_append_right _ (List.mem_append_right _ (List.mem_append_right _ (List.mem_append_right _ (List.mem_append_left _ (List.mem_of_getElem? h)))))))
theorem qq_X4_digest_5 {c : Cond} (j : Nat) (h : wsX4_digest_r6[j]? = some c) : c ∈ wsX4_digest := List.mem_cons_of_mem _ (List.mem_append_left _ (List.mem_append_right _ (List.mem_append_right _ (List.mem_append_right _ (List.mem_append_right _ (List.mem_append_right _ (List.mem_append_left _ (List.mem_of_getElem? h))))))))
theorem qq_X4_digest_6 {c : Cond} (j : Nat) (h : wsX4_digest_r7[j]? = some c) : c ∈ wsX4_digest := List.mem_cons_of_mem _ (List.mem_append_left _ (List.mem_append_right _ (List.mem_append_right _ (List.mem_append_right _ (List.mem_append_right _ (List.mem_append_right _ (List.mem_append_right _ (List.mem_append_left _ (List.mem_of_getElem? h)))))))))
theorem qq_X4_digest_7 {c : Cond} (j : Nat) (h : wsX4_digest_r8[j]? = some c) : c ∈ wsX4_digest := List.mem_cons_of_mem _ (List.mem_append_left _ (List.mem_append_right _ (List.mem_append_right _ (List.mem_append_right _ (List.mem_append_right _ (List.mem_append_right _ (List.mem_append_right _ (List.mem_append_right _ (List.mem_append_left _ (List.mem_of_getElem? h))))))))))
theorem qq_X4_digest_8 {c : Cond} (j : Nat) (h : wsX4_digest_r9[j]? = some c) : c ∈ wsX4_digest := List.mem_cons_of_mem _ (List.mem_append_left _ (List.mem_append_right _ (List.mem_append_right _ (List.mem_append_right _ (List.mem_append_right _ (List.mem_append_right _ (List.mem_append_right _ (List.mem_append_right _ (List.mem_append_right _ (List.mem_of_getElem? h))))))))))
theorem uq_X4_digest_X4 : wsub wsX40 wsX4_digest := fun _ h => List.mem_cons_of_mem _ (List.mem_append_right _ (h))
set_option maxRecDepth 20000 in
theorem gw_X4_count : wsX4_count.all goodWord = true := by decide +kernel
set_option maxRecDepth 20000 in
theorem ggX4_digest_X4_count : GoodIn wsX4_digest wsX4_count := goodIn_sub (sb_c (qq_X4_digest_0 7 rfl) (sb_a (sb_a (sb_c (qq_X4_digest_0 8 rfl) (sb_c (qq_X4_digest_0 9 rfl) (sb_c (qq_X4_digest_0 10 rfl) (sb_c (qq_X4_digest_0 11 rfl) (sb_c (qq_X4_digest_0 12 rfl) (sb_c (qq_X4_digest_0 13 rfl) (sb_c (qq_X4_digest_0 6 rfl) (sb_c (qq_X4_digest_0 14 rfl) (sb_c (qq_X4_digest_0 15 rfl) (sb_c (qq_X4_digest_0 16 rfl) (sb_c (qq_X4_digest_0 17 rfl) (sb_c (qq_X4_digest_0 18 rfl) (sb_c (qq_X4_digest_0 19 rfl) (sb_c (qq_X4_digest_0 20 rfl) (sb_c (qq_X4_digest_0 21 rfl) (sb_c (qq_X4_digest_0 22 rfl) (sb_c (qq_X4_digest_0 23 rfl) (sb_c (qq_X4_digest_1 0 rfl) (sb_c (qq_X4_digest_1 1 rfl) (sb_c (qq_X4_digest_1 2 rfl) (sb_c (qq_X4_digest_1 3 rfl) (sb_c (qq_X4_digest_1 4 rfl) (sb_c (qq_X4_digest_0 2 rfl) (sb_c (qq_X4_digest_1 5 rfl) sb_n)))))))))))))))))))))))) (sb_a (sb_c (qq_X4_digest_1 6 rfl) (sb_c (qq_X4_digest_1 7 rfl) (sb_c (qq_X4_digest_1 8 rfl) (sb_c (qq_X4_digest_1 9 rfl) (sb_c (qq_X4_digest_1 10 rfl) (sb_c (qq_X4_digest_1 11 rfl) (sb_c (qq_X4_digest_1 12 rfl) (sb_c (qq_X4_digest_1 13 rfl) (sb_c (qq_X4_digest_1 14 rfl) (sb_c (qq_X4_digest_1 15 rfl) (sb_c (qq_X4_digest_1 16 rfl) (sb_c (qq_X4_digest_1 17 rfl) (sb_c (qq_X4_digest_1 18 rfl) (sb_c (qq_X4_digest_1 19 rfl) (sb_c (qq_X4_digest_1 20 rfl) (sb_c (qq_X4_digest_1 21 rfl) (sb_c (qq_X4_digest_1 22 rfl) (sb_c (qq_X4_digest_1 23 rfl) (sb_c (qq_X4_digest_2 0 rfl) (sb_c (qq_X4_digest_2 1 rfl) (sb_c (qq_X4_digest_2 2 rfl) (sb_c (qq_X4_digest_2 3 rfl) (sb_c (qq_X4_digest_2 4 rfl) (sb_c (qq_X4_digest_2 5 rfl) sb_n)))))))))))))))))))))))) (sb_a (sb_c (qq_X4_digest_2 6 rfl) (sb_c (qq_X4_digest_2 7 rfl) (sb_c (qq_X4_digest_2 8 rfl) (sb_c (qq_X4_digest_2 9 rfl) (sb_c (qq_X4_digest_2 10 rfl) (sb_c (qq_X4_digest_2 11 rfl) (sb_c (qq_X4_digest_2 12 rfl) (sb_c (qq_X4_digest_2 13 rfl) (sb_c (qq_X4_digest_2 14 rfl) (sb_c (qq_X4_digest_2 15 rfl) (sb_c (qq_X4_digest_2 16 rfl) (sb_c (qq_X4_digest_2 17 rfl) (sb_c (qq_X4_digest_2 18 rfl) (sb_c (qq_X4_digest_2 19 rfl) (sb_c (qq_X4_digest_2 20 rfl) (sb_c (qq_X4_digest_2 21 rfl) (sb_c (qq_X4_digest_2 22 rfl) (sb_c (qq_X4_digest_2 23 rfl) (sb_c (qq_X4_digest_3 0 rfl) (sb_c (qq_X4_digest_3 1 rfl) (sb_c (qq_X4_digest_3 2 rfl) (sb_c (qq_X4_digest_3 3 rfl) (sb_c (qq_X4_digest_3 4 rfl) (sb_c (qq_X4_digest_3 5 rfl) sb_n)))))))))))))))))))))))) (sb_a (sb_c (qq_X4_digest_3 6 rfl) (sb_c (qq_X4_digest_3 7 rfl) (sb_c (qq_X4_digest_3 8 rfl) (sb_c (qq_X4_digest_3 9 rfl) (sb_c (qq_X4_digest_3 10 rfl) (sb_c (qq_X4_digest_3 11 rfl) (sb_c (qq_X4_digest_3 12 rfl) (sb_c (qq_X4_digest_3 13 rfl) (sb_c (qq_X4_digest_3 14 rfl) (sb_c (qq_X4_digest_3 15 rfl) (sb_c (qq_X4_digest_3 16 rfl) (sb_c (qq_X4_digest_3 17 rfl) (sb_c (qq_X4_digest_3 18 rfl) (sb_c (qq_X4_digest_3 19 rfl) (sb_c (qq_X4_digest_3 20 rfl) (sb_c (qq_X4_digest_3 21 rfl) (sb_c (qq_X4_digest_3 22 rfl) (sb_c (qq_X4_digest_3 23 rfl) (sb_c (qq_X4_digest_4 0 rfl) (sb_c (qq_X4_digest_4 1 rfl) (sb_c (qq_X4_digest_4 2 rfl) (sb_c (qq_X4_digest_4 3 rfl) (sb_c (qq_X4_digest_4 4 rfl) (sb_c (qq_X4_digest_4 5 rfl) sb_n)))))))))))))))))))))))) (sb_c (qq_X4_digest_4 6 rfl) (sb_c (qq_X4_digest_4 7 rfl) (sb_c (qq_X4_digest_4 8 rfl) (sb_c (qq_X4_digest_4 9 rfl) (sb_c (qq_X4_digest_4 10 rfl) (sb_c (qq_X4_digest_4 11 rfl) (sb_c (qq_X4_digest_4 12 rfl) (sb_c (qq_X4_digest_4 13 rfl) (sb_c (qq_X4_digest_4 14 rfl) (sb_c (qq_X4_digest_4 15 rfl) (sb_c (qq_X4_digest_4 16 rfl) (sb_c (qq_X4_digest_4 17 rfl) (sb_c (qq_X4_digest_4 18 rfl) (sb_c (qq_X4_digest_4 19 rfl) (sb_c (qq_X4_digest_4 20 rfl) (sb_c (qq_X4_digest_4 21 rfl) (sb_c (qq_X4_digest_4 22 rfl) (sb_c (qq_X4_digest_4 23 rfl) sb_n)))))))))))))))))))))) (uq_X4_digest_X4))) gw_X4_count
set_option maxRecDepth 20000 in
theorem gX4_digest_X4_count : GoodIn wsX4_digest (wsV RX4 295 RX4 yX4_count wsX4_count) := goodIn_app (goodIn_sub (sb_c (qq_X4_digest_0 3 rfl) (sb_c (qq_X4_digest_0 4 rfl) (sb_c (qq_X4_digest_0 5 rfl) (sb_c (qq_X4_digest_0 6 rfl) sb_n)))) (by decide +kernel)) ggX4_digest_X4_count
set_option maxRecDepth 20000 in
theorem gw_X4_lineDigest : wsX4_lineDigest.all goodWord = true := by decide +kernel
set_option maxRecDepth 20000 in
theorem ggX4_digest_X4_lineDigest : GoodIn wsX4_digest wsX4_lineDigest := goodIn_sub (sb_c (qq_X4_digest_5 3 rfl) (sb_a (sb_a (sb_c (qq_X4_digest_0 1 rfl) (sb_c (qq_X4_digest_5 4 rfl) (sb_c (qq_X4_digest_5 5 rfl) (sb_c (qq_X4_digest_5 6 rfl) (sb_c (qq_X4_digest_0 6 rfl) (sb_c (qq_X4_digest_5 7 rfl) (sb_c (qq_X4_digest_1 19 rfl) (sb_c (qq_X4_digest_0 18 rfl) (sb_c (qq_X4_digest_0 19 rfl) (sb_c (qq_X4_digest_0 20 rfl) (sb_c (qq_X4_digest_0 21 rfl) (sb_c (qq_X4_digest_0 22 rfl) (sb_c (qq_X4_digest_0 23 rfl) (sb_c (qq_X4_digest_1 0 rfl) (sb_c (qq_X4_digest_1 1 rfl) (sb_c (qq_X4_digest_1 2 rfl) (sb_c (qq_X4_digest_1 3 rfl) (sb_c (qq_X4_digest_1 4 rfl) (sb_c (qq_X4_digest_0 2 rfl) (sb_c (qq_X4_digest_1 5 rfl) (sb_c (qq_X4_digest_1 6 rfl) (sb_c (qq_X4_digest_1 7 rfl) (sb_c (qq_X4_digest_1 8 rfl) (sb_c (qq_X4_digest_1 9 rfl) sb_n)))))))))))))))))))))))) (sb_a (sb_c (qq_X4_digest_1 10 rfl) (sb_c (qq_X4_digest_0 15 rfl) (sb_c (qq_X4_digest_0 17 rfl) (sb_c (qq_X4_digest_0 16 rfl) (sb_c (qq_X4_digest_1 11 rfl) (sb_c (qq_X4_digest_1 12 rfl) (sb_c (qq_X4_digest_1 13 rfl) (sb_c (qq_X4_digest_1 14 rfl) (sb_c (qq_X4_digest_1 15 rfl) (sb_c (qq_X4_digest_1 16 rfl) (sb_c (qq_X4_digest_1 17 rfl) (sb_c (qq_X4_digest_1 18 rfl) (sb_c (qq_X4_digest_1 20 rfl) (sb_c (qq_X4_digest_1 21 rfl) (sb_c (qq_X4_digest_1 22 rfl) (sb_c (qq_X4_digest_1 23 rfl) (sb_c (qq_X4_digest_2 0 rfl) (sb_c (qq_X4_digest_2 1 rfl) (sb_c (qq_X4_digest_2 2 rfl) (sb_c (qq_X4_digest_2 3 rfl) (sb_c (qq_X4_digest_2 4 rfl) (sb_c (qq_X4_digest_2 5 rfl) (sb_c (qq_X4_digest_2 6 rfl) (sb_c (qq_X4_digest_2 7 rfl) sb_n)))))))))))))))))))))))) (sb_a (sb_c (qq_X4_digest_2 8 rfl) (sb_c (qq_X4_digest_2 9 rfl) (sb_c (qq_X4_digest_2 10 rfl) (sb_c (qq_X4_digest_2 11 rfl) (sb_c (qq_X4_digest_2 12 rfl) (sb_c (qq_X4_digest_2 13 rfl) (sb_c (qq_X4_digest_2 14 rfl) (sb_c (qq_X4_digest_2 15 rfl) (sb_c (qq_X4_digest_2 16 rfl) (sb_c (qq_X4_digest_2 17 rfl) (sb_c (qq_X4_digest_0 8 rfl) (sb_c (qq_X4_digest_2 18 rfl) (sb_c (qq_X4_digest_2 19 rfl) (sb_c (qq_X4_digest_2 20 rfl) (sb_c (qq_X4_digest_2 21 rfl) (sb_c (qq_X4_digest_2 22 rfl) (sb_c (qq_X4_digest_2 23 rfl) (sb_c (qq_X4_digest_3 0 rfl) (sb_c (qq_X4_digest_3 1 rfl) (sb_c (qq_X4_digest_3 2 rfl) (sb_c (qq_X4_digest_3 3 rfl) (sb_c (qq_X4_digest_3 4 rfl) (sb_c (qq_X4_digest_3 5 rfl) (sb_c (qq_X4_digest_3 6 rfl) sb_n)))))))))))))))))))))))) (sb_a (sb_c (qq_X4_digest_3 7 rfl) (sb_c (qq_X4_digest_3 8 rfl) (sb_c (qq_X4_digest_3 9 rfl) (sb_c (qq_X4_digest_3 10 rfl) (sb_c (qq_X4_digest_3 11 rfl) (sb_c (qq_X4_digest_3 12 rfl) (sb_c (qq_X4_digest_3 13 rfl) (sb_c (qq_X4_digest_3 14 rfl) (sb_c (qq_X4_digest_3 15 rfl) (sb_c (qq_X4_digest_5 8 rfl) (sb_c (qq_X4_digest_5 9 rfl) (sb_c (qq_X4_digest_5 10 rfl) (sb_c (qq_X4_digest_5 11 rfl) (sb_c (qq_X4_digest_5 12 rfl) (sb_c (qq_X4_digest_5 13 rfl) (sb_c (qq_X4_digest_5 14 rfl) (sb_c (qq_X4_digest_5 15 rfl) (sb_c (qq_X4_digest_5 16 rfl) (sb_c (qq_X4_digest_5 17 rfl) (sb_c (qq_X4_digest_5 18 rfl) (sb_c (qq_X4_digest_5 19 rfl) (sb_c (qq_X4_digest_5 20 rfl) (sb_c (qq_X4_digest_5 21 rfl) (sb_c (qq_X4_digest_5 22 rfl) sb_n)))))))))))))))))))))))) (sb_c (qq_X4_digest_5 23 rfl) (sb_c (qq_X4_digest_4 20 rfl) (sb_c (qq_X4_digest_4 21 rfl) (sb_c (qq_X4_digest_4 22 rfl) (sb_c (qq_X4_digest_4 23 rfl) sb_n))))))))) (uq_X4_digest_X4))) gw_X4_lineDigest
set_option maxRecDepth 20000 in
theorem gX4_digest_X4_lineDigest : GoodIn wsX4_digest (wsV RX4 298 RX4 yX4_lineDigest wsX4_lineDigest) := goodIn_app (goodIn_sub (sb_c (qq_X4_digest_5 0 rfl) (sb_c (qq_X4_digest_5 1 rfl) (sb_c (qq_X4_digest_5 2 rfl) (sb_c (qq_X4_digest_0 6 rfl) sb_n)))) (by decide +kernel)) ggX4_digest_X4_lineDigest
set_option maxRecDepth 20000 in
theorem ggX4_digest_X4_passOf : GoodIn wsX4_digest wsX4_passOf := goodIn_sub (sb_c (qq_X4_digest_6 3 rfl) (sb_a (sb_a (sb_c (qq_X4_digest_1 12 rfl) (sb_c (qq_X4_digest_1 13 rfl) (sb_c (qq_X4_digest_0 18 rfl) (sb_c (qq_X4_digest_0 19 rfl) (sb_c (qq_X4_digest_0 20 rfl) (sb_c (qq_X4_digest_0 6 rfl) (sb_c (qq_X4_digest_0 21 rfl) (sb_c (qq_X4_digest_0 22 rfl) (sb_c (qq_X4_digest_0 23 rfl) (sb_c (qq_X4_digest_1 0 rfl) (sb_c (qq_X4_digest_1 1 rfl) (sb_c (qq_X4_digest_1 2 rfl) (sb_c (qq_X4_digest_1 3 rfl) (sb_c (qq_X4_digest_1 4 rfl) (sb_c (qq_X4_digest_0 2 rfl) (sb_c (qq_X4_digest_1 5 rfl) (sb_c (qq_X4_digest_1 6 rfl) (sb_c (qq_X4_digest_1 7 rfl) (sb_c (qq_X4_digest_1 8 rfl) (sb_c (qq_X4_digest_1 9 rfl) (sb_c (qq_X4_digest_1 10 rfl) (sb_c (qq_X4_digest_0 15 rfl) (sb_c (qq_X4_digest_0 17 rfl) (sb_c (qq_X4_digest_0 16 rfl) sb_n)))))))))))))))))))))))) (sb_a (sb_c (qq_X4_digest_1 11 rfl) (sb_c (qq_X4_digest_1 14 rfl) (sb_c (qq_X4_digest_1 15 rfl) (sb_c (qq_X4_digest_1 16 rfl) (sb_c (qq_X4_digest_1 17 rfl) (sb_c (qq_X4_digest_1 18 rfl) (sb_c (qq_X4_digest_1 19 rfl) (sb_c (qq_X4_digest_1 20 rfl) (sb_c (qq_X4_digest_1 21 rfl) (sb_c (qq_X4_digest_1 22 rfl) (sb_c (qq_X4_digest_1 23 rfl) (sb_c (qq_X4_digest_2 0 rfl) (sb_c (qq_X4_digest_2 1 rfl) (sb_c (qq_X4_digest_2 2 rfl) (sb_c (qq_X4_digest_2 3 rfl) (sb_c (qq_X4_digest_2 4 rfl) (sb_c (qq_X4_digest_2 5 rfl) (sb_c (qq_X4_digest_2 6 rfl) (sb_c (qq_X4_digest_2 7 rfl) (sb_c (qq_X4_digest_2 8 rfl) (sb_c (qq_X4_digest_2 9 rfl) (sb_c (qq_X4_digest_2 10 rfl) (sb_c (qq_X4_digest_2 11 rfl) (sb_c (qq_X4_digest_2 12 rfl) sb_n)))))))))))))))))))))))) (sb_a (sb_c (qq_X4_digest_2 13 rfl) (sb_c (qq_X4_digest_2 14 rfl) (sb_c (qq_X4_digest_2 15 rfl) (sb_c (qq_X4_digest_2 16 rfl) (sb_c (qq_X4_digest_2 17 rfl) (sb_c (qq_X4_digest_0 8 rfl) (sb_c (qq_X4_digest_2 18 rfl) (sb_c (qq_X4_digest_2 19 rfl) (sb_c (qq_X4_digest_2 20 rfl) (sb_c (qq_X4_digest_2 21 rfl) (sb_c (qq_X4_digest_2 22 rfl) (sb_c (qq_X4_digest_2 23 rfl) (sb_c (qq_X4_digest_3 0 rfl) (sb_c (qq_X4_digest_3 1 rfl) (sb_c (qq_X4_digest_3 2 rfl) (sb_c (qq_X4_digest_3 3 rfl) (sb_c (qq_X4_digest_3 4 rfl) (sb_c (qq_X4_digest_3 5 rfl) (sb_c (qq_X4_digest_3 6 rfl) (sb_c (qq_X4_digest_3 7 rfl) (sb_c (qq_X4_digest_3 8 rfl) (sb_c (qq_X4_digest_3 9 rfl) (sb_c (qq_X4_digest_3 10 rfl) (sb_c (qq_X4_digest_3 11 rfl) sb_n)))))))))))))))))))))))) (sb_c (qq_X4_digest_3 12 rfl) (sb_c (qq_X4_digest_3 13 rfl) (sb_c (qq_X4_digest_3 14 rfl) (sb_c (qq_X4_digest_3 15 rfl) sb_n))))))) (uq_X4_digest_X4))) gw_X4_passOf
set_option maxRecDepth 20000 in
theorem gX4_digest_X4_passOf : GoodIn wsX4_digest (wsV RX4 200 RX4 yX4_passOf wsX4_passOf) := goodIn_app (goodIn_sub (sb_c (qq_X4_digest_6 0 rfl) (sb_c (qq_X4_digest_6 1 rfl) (sb_c (qq_X4_digest_6 2 rfl) (sb_c (qq_X4_digest_0 6 rfl) sb_n)))) (by decide +kernel)) ggX4_digest_X4_passOf
set_option maxRecDepth 20000 in
theorem ggX4_digest_X4_dropsOf : GoodIn wsX4_digest wsX4_dropsOf := goodIn_sub (sb_c (qq_X4_digest_6 7 rfl) (sb_a (sb_a (sb_c (qq_X4_digest_1 12 rfl) (sb_c (qq_X4_digest_1 13 rfl) (sb_c (qq_X4_digest_0 18 rfl) (sb_c (qq_X4_digest_0 19 rfl) (sb_c (qq_X4_digest_0 20 rfl) (sb_c (qq_X4_digest_0 6 rfl) (sb_c (qq_X4_digest_0 21 rfl) (sb_c (qq_X4_digest_0 22 rfl) (sb_c (qq_X4_digest_0 23 rfl) (sb_c (qq_X4_digest_1 0 rfl) (sb_c (qq_X4_digest_1 1 rfl) (sb_c (qq_X4_digest_1 2 rfl) (sb_c (qq_X4_digest_1 3 rfl) (sb_c (qq_X4_digest_1 4 rfl) (sb_c (qq_X4_digest_0 2 rfl) (sb_c (qq_X4_digest_1 5 rfl) (sb_c (qq_X4_digest_1 6 rfl) (sb_c (qq_X4_digest_1 7 rfl) (sb_c (qq_X4_digest_1 8 rfl) (sb_c (qq_X4_digest_1 9 rfl) (sb_c (qq_X4_digest_1 10 rfl) (sb_c (qq_X4_digest_0 15 rfl) (sb_c (qq_X4_digest_0 17 rfl) (sb_c (qq_X4_digest_0 16 rfl) sb_n)))))))))))))))))))))))) (sb_a (sb_c (qq_X4_digest_1 11 rfl) (sb_c (qq_X4_digest_1 14 rfl) (sb_c (qq_X4_digest_1 15 rfl) (sb_c (qq_X4_digest_1 16 rfl) (sb_c (qq_X4_digest_1 17 rfl) (sb_c (qq_X4_digest_1 18 rfl) (sb_c (qq_X4_digest_1 19 rfl) (sb_c (qq_X4_digest_1 20 rfl) (sb_c (qq_X4_digest_1 21 rfl) (sb_c (qq_X4_digest_1 22 rfl) (sb_c (qq_X4_digest_1 23 rfl) (sb_c (qq_X4_digest_2 0 rfl) (sb_c (qq_X4_digest_2 1 rfl) (sb_c (qq_X4_digest_2 2 rfl) (sb_c (qq_X4_digest_2 3 rfl) (sb_c (qq_X4_digest_2 4 rfl) (sb_c (qq_X4_digest_2 5 rfl) (sb_c (qq_X4_digest_2 6 rfl) (sb_c (qq_X4_digest_2 7 rfl) (sb_c (qq_X4_digest_2 8 rfl) (sb_c (qq_X4_digest_2 9 rfl) (sb_c (qq_X4_digest_2 10 rfl) (sb_c (qq_X4_digest_2 11 rfl) (sb_c (qq_X4_digest_2 12 rfl) sb_n)))))))))))))))))))))))) (sb_a (sb_c (qq_X4_digest_2 13 rfl) (sb_c (qq_X4_digest_2 14 rfl) (sb_c (qq_X4_digest_2 15 rfl) (sb_c (qq_X4_digest_2 16 rfl) (sb_c (qq_X4_digest_2 17 rfl) (sb_c (qq_X4_digest_0 8 rfl) (sb_c (qq_X4_digest_2 18 rfl) (sb_c (qq_X4_digest_2 19 rfl) (sb_c (qq_X4_digest_2 20 rfl) (sb_c (qq_X4_digest_2 21 rfl) (sb_c (qq_X4_digest_2 22 rfl) (sb_c (qq_X4_digest_2 23 rfl) (sb_c (qq_X4_digest_3 0 rfl) (sb_c (qq_X4_digest_3 1 rfl) (sb_c (qq_X4_digest_3 2 rfl) (sb_c (qq_X4_digest_3 3 rfl) (sb_c (qq_X4_digest_3 4 rfl) (sb_c (qq_X4_digest_3 5 rfl) (sb_c (qq_X4_digest_3 6 rfl) (sb_c (qq_X4_digest_3 7 rfl) (sb_c (qq_X4_digest_3 8 rfl) (sb_c (qq_X4_digest_3 9 rfl) (sb_c (qq_X4_digest_3 10 rfl) (sb_c (qq_X4_digest_3 11 rfl) sb_n)))))))))))))))))))))))) (sb_c (qq_X4_digest_3 12 rfl) (sb_c (qq_X4_digest_3 13 rfl) (sb_c (qq_X4_digest_3 14 rfl) (sb_c (qq_X4_digest_3 15 rfl) sb_n))))))) (uq_X4_digest_X4))) gw_X4_dropsOf
set_option maxRecDepth 20000 in
theorem gX4_digest_X4_dropsOf : GoodIn wsX4_digest (wsV RX4 222 RX4 yX4_dropsOf wsX4_dropsOf) := goodIn_app (goodIn_sub (sb_c (qq_X4_digest_6 4 rfl) (sb_c (qq_X4_digest_6 5 rfl) (sb_c (qq_X4_digest_6 6 rfl) (sb_c (qq_X4_digest_0 6 rfl) sb_n)))) (by decide +kernel)) ggX4_digest_X4_dropsOf
set_option maxRecDepth 20000 in
theorem ggX4_digest_X4_sumOf : GoodIn wsX4_digest wsX4_sumOf := goodIn_sub (sb_c (qq_X4_digest_0 14 rfl) (sb_a (sb_a (sb_c (qq_X4_digest_0 15 rfl) (sb_c (qq_X4_digest_0 16 rfl) (sb_c (qq_X4_digest_0 17 rfl) (sb_c (qq_X4_digest_0 18 rfl) (sb_c (qq_X4_digest_0 19 rfl) (sb_c (qq_X4_digest_0 20 rfl) (sb_c (qq_X4_digest_0 6 rfl) (sb_c (qq_X4_digest_0 21 rfl) (sb_c (qq_X4_digest_0 22 rfl) (sb_c (qq_X4_digest_0 23 rfl) (sb_c (qq_X4_digest_1 0 rfl) (sb_c (qq_X4_digest_1 1 rfl) (sb_c (qq_X4_digest_1 2 rfl) (sb_c (qq_X4_digest_1 3 rfl) (sb_c (qq_X4_digest_1 4 rfl) (sb_c (qq_X4_digest_0 2 rfl) (sb_c (qq_X4_digest_1 5 rfl) (sb_c (qq_X4_digest_1 6 rfl) (sb_c (qq_X4_digest_1 7 rfl) (sb_c (qq_X4_digest_1 8 rfl) (sb_c (qq_X4_digest_1 9 rfl) (sb_c (qq_X4_digest_1 10 rfl) (sb_c (qq_X4_digest_1 11 rfl) (sb_c (qq_X4_digest_1 12 rfl) sb_n)))))))))))))))))))))))) (sb_a (sb_c (qq_X4_digest_1 13 rfl) (sb_c (qq_X4_digest_1 14 rfl) (sb_c (qq_X4_digest_1 15 rfl) (sb_c (qq_X4_digest_1 16 rfl) (sb_c (qq_X4_digest_1 17 rfl) (sb_c (qq_X4_digest_1 18 rfl) (sb_c (qq_X4_digest_1 19 rfl) (sb_c (qq_X4_digest_1 20 rfl) (sb_c (qq_X4_digest_1 21 rfl) (sb_c (qq_X4_digest_1 22 rfl) (sb_c (qq_X4_digest_1 23 rfl) (sb_c (qq_X4_digest_2 0 rfl) (sb_c (qq_X4_digest_2 1 rfl) (sb_c (qq_X4_digest_2 2 rfl) (sb_c (qq_X4_digest_2 3 rfl) (sb_c (qq_X4_digest_2 4 rfl) (sb_c (qq_X4_digest_2 5 rfl) (sb_c (qq_X4_digest_2 6 rfl) (sb_c (qq_X4_digest_2 7 rfl) (sb_c (qq_X4_digest_2 8 rfl) (sb_c (qq_X4_digest_2 9 rfl) (sb_c (qq_X4_digest_2 10 rfl) (sb_c (qq_X4_digest_2 11 rfl) (sb_c (qq_X4_digest_2 12 rfl) sb_n)))))))))))))))))))))))) (sb_a (sb_c (qq_X4_digest_2 13 rfl) (sb_c (qq_X4_digest_2 14 rfl) (sb_c (qq_X4_digest_2 15 rfl) (sb_c (qq_X4_digest_2 16 rfl) (sb_c (qq_X4_digest_2 17 rfl) (sb_c (qq_X4_digest_0 8 rfl) (sb_c (qq_X4_digest_2 18 rfl) (sb_c (qq_X4_digest_2 19 rfl) (sb_c (qq_X4_digest_2 20 rfl) (sb_c (qq_X4_digest_2 21 rfl) (sb_c (qq_X4_digest_2 22 rfl) (sb_c (qq_X4_digest_2 23 rfl) (sb_c (qq_X4_digest_3 0 rfl) (sb_c (qq_X4_digest_3 1 rfl) (sb_c (qq_X4_digest_3 2 rfl) (sb_c (qq_X4_digest_3 3 rfl) (sb_c (qq_X4_digest_3 4 rfl) (sb_c (qq_X4_digest_3 5 rfl) (sb_c (qq_X4_digest_3 6 rfl) (sb_c (qq_X4_digest_3 7 rfl) (sb_c (qq_X4_digest_3 8 rfl) (sb_c (qq_X4_digest_3 9 rfl) (sb_c (qq_X4_digest_3 10 rfl) (sb_c (qq_X4_digest_3 11 rfl) sb_n)))))))))))))))))))))))) (sb_c (qq_X4_digest_3 12 rfl) (sb_c (qq_X4_digest_3 13 rfl) (sb_c (qq_X4_digest_3 14 rfl) (sb_c (qq_X4_digest_3 15 rfl) (sb_c (qq_X4_digest_3 16 rfl) (sb_c (qq_X4_digest_3 17 rfl) (sb_c (qq_X4_digest_3 18 rfl) (sb_c (qq_X4_digest_3 19 rfl) (sb_c (qq_X4_digest_3 20 rfl) (sb_c (qq_X4_digest_3 21 rfl) (sb_c (qq_X4_digest_3 22 rfl) (sb_c (qq_X4_digest_3 23 rfl) (sb_c (qq_X4_digest_4 0 rfl) (sb_c (qq_X4_digest_4 1 rfl) (sb_c (qq_X4_digest_4 2 rfl) sb_n)))))))))))))))))) (uq_X4_digest_X4))) gw_X4_sumOf
set_option maxRecDepth 20000 in
theorem gX4_digest_X4_sumOf : GoodIn wsX4_digest (wsV RX4 213 RX4 yX4_sumOf wsX4_sumOf) := goodIn_app (goodIn_sub (sb_c (qq_X4_digest_0 11 rfl) (sb_c (qq_X4_digest_0 12 rfl) (sb_c (qq_X4_digest_0 13 rfl) (sb_c (qq_X4_digest_0 6 rfl) sb_n)))) (by decide +kernel)) ggX4_digest_X4_sumOf
set_option maxRecDepth 20000 in
theorem ggX4_digest_X4_evenOf : GoodIn wsX4_digest wsX4_evenOf := goodIn_sub (sb_c (qq_X4_digest_6 11 rfl) (sb_a (sb_a (sb_c (qq_X4_digest_1 19 rfl) (sb_c (qq_X4_digest_0 18 rfl) (sb_c (qq_X4_digest_0 19 rfl) (sb_c (qq_X4_digest_0 20 rfl) (sb_c (qq_X4_digest_0 6 rfl) (sb_c (qq_X4_digest_0 21 rfl) (sb_c (qq_X4_digest_0 22 rfl) (sb_c (qq_X4_digest_0 23 rfl) (sb_c (qq_X4_digest_1 0 rfl) (sb_c (qq_X4_digest_1 1 rfl) (sb_c (qq_X4_digest_1 2 rfl) (sb_c (qq_X4_digest_1 3 rfl) (sb_c (qq_X4_digest_1 4 rfl) (sb_c (qq_X4_digest_0 2 rfl) (sb_c (qq_X4_digest_1 5 rfl) (sb_c (qq_X4_digest_1 6 rfl) (sb_c (qq_X4_digest_1 7 rfl) (sb_c (qq_X4_digest_1 8 rfl) (sb_c (qq_X4_digest_1 9 rfl) (sb_c (qq_X4_digest_1 10 rfl) (sb_c (qq_X4_digest_0 15 rfl) (sb_c (qq_X4_digest_0 17 rfl) (sb_c (qq_X4_digest_0 16 rfl) (sb_c (qq_X4_digest_1 11 rfl) sb_n)))))))))))))))))))))))) (sb_a (sb_c (qq_X4_digest_1 12 rfl) (sb_c (qq_X4_digest_1 13 rfl) (sb_c (qq_X4_digest_1 14 rfl) (sb_c (qq_X4_digest_1 15 rfl) (sb_c (qq_X4_digest_1 16 rfl) (sb_c (qq_X4_digest_1 17 rfl) (sb_c (qq_X4_digest_1 18 rfl) (sb_c (qq_X4_digest_1 20 rfl) (sb_c (qq_X4_digest_1 21 rfl) (sb_c (qq_X4_digest_1 22 rfl) (sb_c (qq_X4_digest_1 23 rfl) (sb_c (qq_X4_digest_2 0 rfl) (sb_c (qq_X4_digest_2 1 rfl) (sb_c (qq_X4_digest_2 2 rfl) (sb_c (qq_X4_digest_2 3 rfl) (sb_c (qq_X4_digest_2 4 rfl) (sb_c (qq_X4_digest_2 5 rfl) (sb_c (qq_X4_digest_2 6 rfl) (sb_c (qq_X4_digest_2 7 rfl) (sb_c (qq_X4_digest_2 8 rfl) (sb_c (qq_X4_digest_2 9 rfl) (sb_c (qq_X4_digest_2 10 rfl) (sb_c (qq_X4_digest_2 11 rfl) (sb_c (qq_X4_digest_2 12 rfl) sb_n)))))))))))))))))))))))) (sb_a (sb_c (qq_X4_digest_2 13 rfl) (sb_c (qq_X4_digest_2 14 rfl) (sb_c (qq_X4_digest_2 15 rfl) (sb_c (qq_X4_digest_2 16 rfl) (sb_c (qq_X4_digest_2 17 rfl) (sb_c (qq_X4_digest_0 8 rfl) (sb_c (qq_X4_digest_2 18 rfl) (sb_c (qq_X4_digest_2 19 rfl) (sb_c (qq_X4_digest_2 20 rfl) (sb_c (qq_X4_digest_2 21 rfl) (sb_c (qq_X4_digest_2 22 rfl) (sb_c (qq_X4_digest_2 23 rfl) (sb_c (qq_X4_digest_3 0 rfl) (sb_c (qq_X4_digest_3 1 rfl) (sb_c (qq_X4_digest_3 2 rfl) (sb_c (qq_X4_digest_3 3 rfl) (sb_c (qq_X4_digest_3 4 rfl) (sb_c (qq_X4_digest_3 5 rfl) (sb_c (qq_X4_digest_3 6 rfl) (sb_c (qq_X4_digest_3 7 rfl) (sb_c (qq_X4_digest_3 8 rfl) (sb_c (qq_X4_digest_3 9 rfl) (sb_c (qq_X4_digest_3 10 rfl) (sb_c (qq_X4_digest_3 11 rfl) sb_n)))))))))))))))))))))))) (sb_c (qq_X4_digest_3 12 rfl) (sb_c (qq_X4_digest_3 13 rfl) (sb_c (qq_X4_digest_3 14 rfl) (sb_c (qq_X4_digest_3 15 rfl) sb_n))))))) (uq_X4_digest_X4))) gw_X4_evenOf
set_option maxRecDepth 20000 in
theorem gX4_digest_X4_evenOf : GoodIn wsX4_digest (wsV RX4 225 RX4 yX4_evenOf wsX4_evenOf) := goodIn_app (goodIn_sub (sb_c (qq_X4_digest_6 8 rfl) (sb_c (qq_X4_digest_6 9 rfl) (sb_c (qq_X4_digest_6 10 rfl) (sb_c (qq_X4_digest_0 6 rfl) sb_n)))) (by decide +kernel)) ggX4_digest_X4_evenOf
set_option maxRecDepth 20000 in
theorem ggX4_digest_X4_betterOf : GoodIn wsX4_digest wsX4_betterOf := goodIn_sub (sb_c (qq_X4_digest_6 15 rfl) (sb_a (sb_a (sb_c (qq_X4_digest_6 16 rfl) (sb_c (qq_X4_digest_1 4 rfl) (sb_c (qq_X4_digest_0 15 rfl) (sb_c (qq_X4_digest_0 17 rfl) (sb_c (qq_X4_digest_0 22 rfl) (sb_c (qq_X4_digest_0 23 rfl) (sb_c (qq_X4_digest_1 0 rfl) (sb_c (qq_X4_digest_0 6 rfl) (sb_c (qq_X4_digest_1 1 rfl) (sb_c (qq_X4_digest_1 2 rfl) (sb_c (qq_X4_digest_1 3 rfl) (sb_c (qq_X4_digest_0 2 rfl) (sb_c (qq_X4_digest_1 5 rfl) (sb_c (qq_X4_digest_1 6 rfl) (sb_c (qq_X4_digest_1 7 rfl) (sb_c (qq_X4_digest_1 8 rfl) (sb_c (qq_X4_digest_1 9 rfl) (sb_c (qq_X4_digest_1 10 rfl) (sb_c (qq_X4_digest_0 16 rfl) (sb_c (qq_X4_digest_1 11 rfl) (sb_c (qq_X4_digest_1 12 rfl) (sb_c (qq_X4_digest_1 13 rfl) (sb_c (qq_X4_digest_1 14 rfl) (sb_c (qq_X4_digest_1 15 rfl) sb_n)))))))))))))))))))))))) (sb_a (sb_c (qq_X4_digest_1 16 rfl) (sb_c (qq_X4_digest_1 17 rfl) (sb_c (qq_X4_digest_1 18 rfl) (sb_c (qq_X4_digest_1 19 rfl) (sb_c (qq_X4_digest_1 20 rfl) (sb_c (qq_X4_digest_1 21 rfl) (sb_c (qq_X4_digest_1 22 rfl) (sb_c (qq_X4_digest_1 23 rfl) (sb_c (qq_X4_digest_2 0 rfl) (sb_c (qq_X4_digest_2 1 rfl) (sb_c (qq_X4_digest_2 2 rfl) (sb_c (qq_X4_digest_2 3 rfl) (sb_c (qq_X4_digest_2 4 rfl) (sb_c (qq_X4_digest_2 5 rfl) (sb_c (qq_X4_digest_2 6 rfl) (sb_c (qq_X4_digest_2 7 rfl) (sb_c (qq_X4_digest_2 8 rfl) (sb_c (qq_X4_digest_2 9 rfl) (sb_c (qq_X4_digest_2 10 rfl) (sb_c (qq_X4_digest_2 11 rfl) (sb_c (qq_X4_digest_2 12 rfl) (sb_c (qq_X4_digest_2 13 rfl) (sb_c (qq_X4_digest_2 14 rfl) (sb_c (qq_X4_digest_2 15 rfl) sb_n)))))))))))))))))))))))) (sb_a (sb_c (qq_X4_digest_2 16 rfl) (sb_c (qq_X4_digest_2 17 rfl) (sb_c (qq_X4_digest_0 8 rfl) (sb_c (qq_X4_digest_2 18 rfl) (sb_c (qq_X4_digest_2 19 rfl) (sb_c (qq_X4_digest_2 20 rfl) (sb_c (qq_X4_digest_2 21 rfl) (sb_c (qq_X4_digest_2 22 rfl) (sb_c (qq_X4_digest_2 23 rfl) (sb_c (qq_X4_digest_3 0 rfl) (sb_c (qq_X4_digest_3 1 rfl) (sb_c (qq_X4_digest_3 2 rfl) (sb_c (qq_X4_digest_3 3 rfl) (sb_c (qq_X4_digest_3 4 rfl) (sb_c (qq_X4_digest_3 5 rfl) (sb_c (qq_X4_digest_3 6 rfl) (sb_c (qq_X4_digest_3 7 rfl) (sb_c (qq_X4_digest_3 8 rfl) (sb_c (qq_X4_digest_3 9 rfl) (sb_c (qq_X4_digest_3 10 rfl) (sb_c (qq_X4_digest_3 11 rfl) (sb_c (qq_X4_digest_3 12 rfl) (sb_c (qq_X4_digest_3 13 rfl) (sb_c (qq_X4_digest_3 14 rfl) sb_n)))))))))))))))))))))))) (sb_c (qq_X4_digest_3 15 rfl) sb_n)))) (uq_X4_digest_X4))) gw_X4_betterOf
set_option maxRecDepth 20000 in
theorem gX4_digest_X4_betterOf : GoodIn wsX4_digest (wsV RX4 231 RX4 yX4_betterOf wsX4_betterOf) := goodIn_app (goodIn_sub (sb_c (qq_X4_digest_6 12 rfl) (sb_c (qq_X4_digest_6 13 rfl) (sb_c (qq_X4_digest_6 14 rfl) (sb_c (qq_X4_digest_0 6 rfl) sb_n)))) (by decide +kernel)) ggX4_digest_X4_betterOf
set_option maxRecDepth 20000 in
theorem ggX4_digest_X4_spareBy : GoodIn wsX4_digest wsX4_spareBy := goodIn_sub (sb_c (qq_X4_digest_6 20 rfl) (sb_a (sb_a (sb_c (qq_X4_digest_0 8 rfl) (sb_c (qq_X4_digest_6 21 rfl) (sb_c (qq_X4_digest_0 22 rfl) (sb_c (qq_X4_digest_0 23 rfl) (sb_c (qq_X4_digest_1 0 rfl) (sb_c (qq_X4_digest_0 6 rfl) (sb_c (qq_X4_digest_1 1 rfl) (sb_c (qq_X4_digest_1 2 rfl) (sb_c (qq_X4_digest_1 3 rfl) (sb_c (qq_X4_digest_1 4 rfl) (sb_c (qq_X4_digest_0 2 rfl) (sb_c (qq_X4_digest_1 5 rfl) (sb_c (qq_X4_digest_1 6 rfl) (sb_c (qq_X4_digest_6 22 rfl) (sb_c (qq_X4_digest_6 23 rfl) (sb_c (qq_X4_digest_7 0 rfl) (sb_c (qq_X4_digest_7 1 rfl) (sb_c (qq_X4_digest_0 15 rfl) (sb_c (qq_X4_digest_1 7 rfl) (sb_c (qq_X4_digest_1 8 rfl) (sb_c (qq_X4_digest_1 9 rfl) (sb_c (qq_X4_digest_1 10 rfl) (sb_c (qq_X4_digest_0 17 rfl) (sb_c (qq_X4_digest_0 16 rfl) sb_n)))))))))))))))))))))))) (sb_a (sb_c (qq_X4_digest_1 11 rfl) (sb_c (qq_X4_digest_1 12 rfl) (sb_c (qq_X4_digest_1 13 rfl) (sb_c (qq_X4_digest_1 14 rfl) (sb_c (qq_X4_digest_1 15 rfl) (sb_c (qq_X4_digest_1 16 rfl) (sb_c (qq_X4_digest_1 17 rfl) (sb_c (qq_X4_digest_1 18 rfl) (sb_c (qq_X4_digest_1 19 rfl) (sb_c (qq_X4_digest_1 20 rfl) (sb_c (qq_X4_digest_1 21 rfl) (sb_c (qq_X4_digest_1 22 rfl) (sb_c (qq_X4_digest_1 23 rfl) (sb_c (qq_X4_digest_2 0 rfl) (sb_c (qq_X4_digest_2 1 rfl) (sb_c (qq_X4_digest_2 2 rfl) (sb_c (qq_X4_digest_2 3 rfl) (sb_c (qq_X4_digest_2 4 rfl) (sb_c (qq_X4_digest_2 5 rfl) (sb_c (qq_X4_digest_2 6 rfl) (sb_c (qq_X4_digest_2 7 rfl) (sb_c (qq_X4_digest_2 8 rfl) (sb_c (qq_X4_digest_2 9 rfl) (sb_c (qq_X4_digest_2 10 rfl) sb_n)))))))))))))))))))))))) (sb_a (sb_c (qq_X4_digest_2 11 rfl) (sb_c (qq_X4_digest_2 12 rfl) (sb_c (qq_X4_digest_2 13 rfl) (sb_c (qq_X4_digest_2 14 rfl) (sb_c (qq_X4_digest_2 15 rfl) (sb_c (qq_X4_digest_2 16 rfl) (sb_c (qq_X4_digest_2 17 rfl) (sb_c (qq_X4_digest_2 18 rfl) (sb_c (qq_X4_digest_2 19 rfl) (sb_c (qq_X4_digest_2 20 rfl) (sb_c (qq_X4_digest_2 21 rfl) (sb_c (qq_X4_digest_2 22 rfl) (sb_c (qq_X4_digest_2 23 rfl) (sb_c (qq_X4_digest_3 0 rfl) (sb_c (qq_X4_digest_3 1 rfl) (sb_c (qq_X4_digest_3 2 rfl) (sb_c (qq_X4_digest_3 3 rfl) (sb_c (qq_X4_digest_3 4 rfl) (sb_c (qq_X4_digest_3 5 rfl) (sb_c (qq_X4_digest_3 6 rfl) (sb_c (qq_X4_digest_3 7 rfl) (sb_c (qq_X4_digest_3 8 rfl) (sb_c (qq_X4_digest_3 9 rfl) (sb_c (qq_X4_digest_3 10 rfl) sb_n)))))))))))))))))))))))) (sb_c (qq_X4_digest_3 11 rfl) (sb_c (qq_X4_digest_3 12 rfl) (sb_c (qq_X4_digest_3 13 rfl) (sb_c (qq_X4_digest_3 14 rfl) (sb_c (qq_X4_digest_3 15 rfl) sb_n)))))))) (uq_X4_digest_X4))) gw_X4_spareBy
set_option maxRecDepth 20000 in
theorem gX4_digest_X4_spareBy : GoodIn wsX4_digest (wsV RX4 237 RX4 yX4_spareBy wsX4_spareBy) := goodIn_app (goodIn_sub (sb_c (qq_X4_digest_6 17 rfl) (sb_c (qq_X4_digest_6 18 rfl) (sb_c (qq_X4_digest_6 19 rfl) (sb_c (qq_X4_digest_0 6 rfl) sb_n)))) (by decide +kernel)) ggX4_digest_X4_spareBy
set_option maxRecDepth 20000 in
theorem ggX4_digest_X4_ofRow : GoodIn wsX4_digest wsX4_ofRow := goodIn_sub (sb_c (qq_X4_digest_7 5 rfl) (sb_a (sb_c (qq_X4_digest_6 21 rfl) sb_n) (uq_X4_digest_X4))) gw_X4_ofRow
set_option maxRecDepth 20000 in
theorem gX4_digest_X4_ofRow : GoodIn wsX4_digest (wsV RX4 240 RX4 yX4_ofRow wsX4_ofRow) := goodIn_app (goodIn_sub (sb_c (qq_X4_digest_7 2 rfl) (sb_c (qq_X4_digest_7 3 rfl) (sb_c (qq_X4_digest_7 4 rfl) (sb_c (qq_X4_digest_0 6 rfl) sb_n)))) (by decide +kernel)) ggX4_digest_X4_ofRow
set_option maxRecDepth 20000 in
theorem ggX4_digest_X4_neverNow : GoodIn wsX4_digest wsX4_neverNow := goodIn_sub (sb_c (qq_X4_digest_7 9 rfl) (sb_a (sb_a (sb_c (qq_X4_digest_0 8 rfl) (sb_c (qq_X4_digest_1 5 rfl) (sb_c (qq_X4_digest_0 22 rfl) (sb_c (qq_X4_digest_0 23 rfl) (sb_c (qq_X4_digest_1 0 rfl) (sb_c (qq_X4_digest_0 6 rfl) (sb_c (qq_X4_digest_1 1 rfl) (sb_c (qq_X4_digest_1 2 rfl) (sb_c (qq_X4_digest_1 3 rfl) (sb_c (qq_X4_digest_1 4 rfl) (sb_c (qq_X4_digest_0 2 rfl) (sb_c (qq_X4_digest_1 6 rfl) (sb_c (qq_X4_digest_7 10 rfl) (sb_c (qq_X4_digest_7 11 rfl) (sb_c (qq_X4_digest_7 12 rfl) (sb_c (qq_X4_digest_7 13 rfl) (sb_c (qq_X4_digest_0 9 rfl) (sb_c (qq_X4_digest_1 11 rfl) (sb_c (qq_X4_digest_7 14 rfl) (sb_c (qq_X4_digest_7 15 rfl) (sb_c (qq_X4_digest_1 7 rfl) (sb_c (qq_X4_digest_1 8 rfl) (sb_c (qq_X4_digest_1 9 rfl) (sb_c (qq_X4_digest_1 10 rfl) sb_n)))))))))))))))))))))))) (sb_a (sb_c (qq_X4_digest_0 15 rfl) (sb_c (qq_X4_digest_0 17 rfl) (sb_c (qq_X4_digest_0 16 rfl) (sb_c (qq_X4_digest_1 12 rfl) (sb_c (qq_X4_digest_1 13 rfl) (sb_c (qq_X4_digest_1 14 rfl) (sb_c (qq_X4_digest_1 15 rfl) (sb_c (qq_X4_digest_1 16 rfl) (sb_c (qq_X4_digest_1 17 rfl) (sb_c (qq_X4_digest_1 18 rfl) (sb_c (qq_X4_digest_1 19 rfl) (sb_c (qq_X4_digest_1 20 rfl) (sb_c (qq_X4_digest_1 21 rfl) (sb_c (qq_X4_digest_1 22 rfl) (sb_c (qq_X4_digest_1 23 rfl) (sb_c (qq_X4_digest_2 0 rfl) (sb_c (qq_X4_digest_2 1 rfl) (sb_c (qq_X4_digest_2 2 rfl) (sb_c (qq_X4_digest_2 3 rfl) (sb_c (qq_X4_digest_2 4 rfl) (sb_c (qq_X4_digest_2 5 rfl) (sb_c (qq_X4_digest_2 6 rfl) (sb_c (qq_X4_digest_2 7 rfl) (sb_c (qq_X4_digest_2 8 rfl) sb_n)))))))))))))))))))))))) (sb_a (sb_c (qq_X4_digest_2 9 rfl) (sb_c (qq_X4_digest_2 10 rfl) (sb_c (qq_X4_digest_2 11 rfl) (sb_c (qq_X4_digest_2 12 rfl) (sb_c (qq_X4_digest_2 13 rfl) (sb_c (qq_X4_digest_2 14 rfl) (sb_c (qq_X4_digest_2 15 rfl) (sb_c (qq_X4_digest_2 16 rfl) (sb_c (qq_X4_digest_2 17 rfl) (sb_c (qq_X4_digest_2 18 rfl) (sb_c (qq_X4_digest_2 19 rfl) (sb_c (qq_X4_digest_2 20 rfl) (sb_c (qq_X4_digest_2 21 rfl) (sb_c (qq_X4_digest_2 22 rfl) (sb_c (qq_X4_digest_2 23 rfl) (sb_c (qq_X4_digest_3 0 rfl) (sb_c (qq_X4_digest_3 1 rfl) (sb_c (qq_X4_digest_3 2 rfl) (sb_c (qq_X4_digest_3 3 rfl) (sb_c (qq_X4_digest_3 4 rfl) (sb_c (qq_X4_digest_3 5 rfl) (sb_c (qq_X4_digest_3 6 rfl) (sb_c (qq_X4_digest_3 7 rfl) (sb_c (qq_X4_digest_3 8 rfl) sb_n)))))))))))))))))))))))) (sb_c (qq_X4_digest_3 9 rfl) (sb_c (qq_X4_digest_3 10 rfl) (sb_c (qq_X4_digest_3 11 rfl) (sb_c (qq_X4_digest_3 12 rfl) (sb_c (qq_X4_digest_3 13 rfl) (sb_c (qq_X4_digest_3 14 rfl) (sb_c (qq_X4_digest_3 15 rfl) (sb_c (qq_X4_digest_3 20 rfl) (sb_c (qq_X4_digest_3 21 rfl) (sb_c (qq_X4_digest_3 22 rfl) sb_n))))))))))))) (uq_X4_digest_X4))) gw_X4_neverNow
set_option maxRecDepth 20000 in
theorem gX4_digest_X4_neverNow : GoodIn wsX4_digest (wsV RX4 250 RX4 yX4_neverNow wsX4_neverNow) := goodIn_app (goodIn_sub (sb_c (qq_X4_digest_7 6 rfl) (sb_c (qq_X4_digest_7 7 rfl) (sb_c (qq_X4_digest_7 8 rfl) (sb_c (qq_X4_digest_0 6 rfl) sb_n)))) (by decide +kernel)) ggX4_digest_X4_neverNow
set_option maxRecDepth 20000 in
theorem ggX4_digest_X4_deadsBy : GoodIn wsX4_digest wsX4_deadsBy := goodIn_sub (sb_c (qq_X4_digest_7 19 rfl) (sb_a (sb_a (sb_c (qq_X4_digest_1 5 rfl) (sb_c (qq_X4_digest_1 4 rfl) (sb_c (qq_X4_digest_1 6 rfl) (sb_c (qq_X4_digest_7 20 rfl) (sb_c (qq_X4_digest_1 11 rfl) (sb_c (qq_X4_digest_0 22 rfl) (sb_c (qq_X4_digest_0 23 rfl) (sb_c (qq_X4_digest_1 0 rfl) (sb_c (qq_X4_digest_0 6 rfl) (sb_c (qq_X4_digest_1 1 rfl) (sb_c (qq_X4_digest_1 2 rfl) (sb_c (qq_X4_digest_1 3 rfl) (sb_c (qq_X4_digest_0 2 rfl) (sb_c (qq_X4_digest_7 10 rfl) (sb_c (qq_X4_digest_7 11 rfl) (sb_c (qq_X4_digest_7 12 rfl) (sb_c (qq_X4_digest_7 13 rfl) (sb_c (qq_X4_digest_0 9 rfl) (sb_c (qq_X4_digest_7 14 rfl) (sb_c (qq_X4_digest_7 15 rfl) (sb_c (qq_X4_digest_1 7 rfl) (sb_c (qq_X4_digest_1 8 rfl) (sb_c (qq_X4_digest_1 9 rfl) (sb_c (qq_X4_digest_1 10 rfl) sb_n)))))))))))))))))))))))) (sb_a (sb_c (qq_X4_digest_0 15 rfl) (sb_c (qq_X4_digest_0 17 rfl) (sb_c (qq_X4_digest_0 16 rfl) (sb_c (qq_X4_digest_1 12 rfl) (sb_c (qq_X4_digest_1 13 rfl) (sb_c (qq_X4_digest_1 14 rfl) (sb_c (qq_X4_digest_1 15 rfl) (sb_c (qq_X4_digest_1 16 rfl) (sb_c (qq_X4_digest_1 17 rfl) (sb_c (qq_X4_digest_1 18 rfl) (sb_c (qq_X4_digest_1 19 rfl) (sb_c (qq_X4_digest_1 20 rfl) (sb_c (qq_X4_digest_1 21 rfl) (sb_c (qq_X4_digest_1 22 rfl) (sb_c (qq_X4_digest_1 23 rfl) (sb_c (qq_X4_digest_2 0 rfl) (sb_c (qq_X4_digest_2 1 rfl) (sb_c (qq_X4_digest_2 2 rfl) (sb_c (qq_X4_digest_2 3 rfl) (sb_c (qq_X4_digest_2 4 rfl) (sb_c (qq_X4_digest_2 5 rfl) (sb_c (qq_X4_digest_2 6 rfl) (sb_c (qq_X4_digest_2 7 rfl) (sb_c (qq_X4_digest_2 8 rfl) sb_n)))))))))))))))))))))))) (sb_a (sb_c (qq_X4_digest_2 9 rfl) (sb_c (qq_X4_digest_2 10 rfl) (sb_c (qq_X4_digest_2 11 rfl) (sb_c (qq_X4_digest_2 12 rfl) (sb_c (qq_X4_digest_2 13 rfl) (sb_c (qq_X4_digest_2 14 rfl) (sb_c (qq_X4_digest_2 15 rfl) (sb_c (qq_X4_digest_2 16 rfl) (sb_c (qq_X4_digest_2 17 rfl) (sb_c (qq_X4_digest_0 8 rfl) (sb_c (qq_X4_digest_2 18 rfl) (sb_c (qq_X4_digest_2 19 rfl) (sb_c (qq_X4_digest_2 20 rfl) (sb_c (qq_X4_digest_2 21 rfl) (sb_c (qq_X4_digest_2 22 rfl) (sb_c (qq_X4_digest_2 23 rfl) (sb_c (qq_X4_digest_3 0 rfl) (sb_c (qq_X4_digest_3 1 rfl) (sb_c (qq_X4_digest_3 2 rfl) (sb_c (qq_X4_digest_3 3 rfl) (sb_c (qq_X4_digest_3 4 rfl) (sb_c (qq_X4_digest_3 5 rfl) (sb_c (qq_X4_digest_3 6 rfl) (sb_c (qq_X4_digest_3 7 rfl) sb_n)))))))))))))))))))))))) (sb_c (qq_X4_digest_3 8 rfl) (sb_c (qq_X4_digest_3 9 rfl) (sb_c (qq_X4_digest_3 10 rfl) (sb_c (qq_X4_digest_3 11 rfl) (sb_c (qq_X4_digest_3 12 rfl) (sb_c (qq_X4_digest_3 13 rfl) (sb_c (qq_X4_digest_3 14 rfl) (sb_c (qq_X4_digest_3 15 rfl) (sb_c (qq_X4_digest_3 20 rfl) (sb_c (qq_X4_digest_3 21 rfl) (sb_c (qq_X4_digest_3 22 rfl) sb_n)))))))))))))) (uq_X4_digest_X4))) gw_X4_deadsBy
set_option maxRecDepth 20000 in
theorem gX4_digest_X4_deadsBy : GoodIn wsX4_digest (wsV RX4 253 RX4 yX4_deadsBy wsX4_deadsBy) := goodIn_app (goodIn_sub (sb_c (qq_X4_digest_7 16 rfl) (sb_c (qq_X4_digest_7 17 rfl) (sb_c (qq_X4_digest_7 18 rfl) (sb_c (qq_X4_digest_0 6 rfl) sb_n)))) (by decide +kernel)) ggX4_digest_X4_deadsBy
set_option maxRecDepth 20000 in
theorem ggX4_digest_X4_capsBy : GoodIn wsX4_digest wsX4_capsBy := goodIn_sub (sb_c (qq_X4_digest_8 0 rfl) (sb_a (sb_a (sb_c (qq_X4_digest_1 4 rfl) (sb_c (qq_X4_digest_0 22 rfl) (sb_c (qq_X4_digest_0 23 rfl) (sb_c (qq_X4_digest_1 0 rfl) (sb_c (qq_X4_digest_0 6 rfl) (sb_c (qq_X4_digest_1 1 rfl) (sb_c (qq_X4_digest_1 2 rfl) (sb_c (qq_X4_digest_1 3 rfl) (sb_c (qq_X4_digest_0 2 rfl) (sb_c (qq_X4_digest_1 5 rfl) (sb_c (qq_X4_digest_1 6 rfl) (sb_c (qq_X4_digest_7 10 rfl) (sb_c (qq_X4_digest_7 11 rfl) (sb_c (qq_X4_digest_7 12 rfl) (sb_c (qq_X4_digest_7 13 rfl) (sb_c (qq_X4_digest_0 9 rfl) (sb_c (qq_X4_digest_1 11 rfl) (sb_c (qq_X4_digest_7 14 rfl) (sb_c (qq_X4_digest_7 15 rfl) (sb_c (qq_X4_digest_1 7 rfl) (sb_c (qq_X4_digest_1 8 rfl) (sb_c (qq_X4_digest_1 9 rfl) (sb_c (qq_X4_digest_1 10 rfl) (sb_c (qq_X4_digest_0 15 rfl) sb_n)))))))))))))))))))))))) (sb_a (sb_c (qq_X4_digest_0 17 rfl) (sb_c (qq_X4_digest_0 16 rfl) (sb_c (qq_X4_digest_1 12 rfl) (sb_c (qq_X4_digest_1 13 rfl) (sb_c (qq_X4_digest_1 14 rfl) (sb_c (qq_X4_digest_1 15 rfl) (sb_c (qq_X4_digest_1 16 rfl) (sb_c (qq_X4_digest_1 17 rfl) (sb_c (qq_X4_digest_1 18 rfl) (sb_c (qq_X4_digest_1 19 rfl) (sb_c (qq_X4_digest_1 20 rfl) (sb_c (qq_X4_digest_1 21 rfl) (sb_c (qq_X4_digest_1 22 rfl) (sb_c (qq_X4_digest_1 23 rfl) (sb_c (qq_X4_digest_2 0 rfl) (sb_c (qq_X4_digest_2 1 rfl) (sb_c (qq_X4_digest_2 2 rfl) (sb_c (qq_X4_digest_2 3 rfl) (sb_c (qq_X4_digest_2 4 rfl) (sb_c (qq_X4_digest_2 5 rfl) (sb_c (qq_X4_digest_2 6 rfl) (sb_c (qq_X4_digest_2 7 rfl) (sb_c (qq_X4_digest_2 8 rfl) (sb_c (qq_X4_digest_2 9 rfl) sb_n)))))))))))))))))))))))) (sb_a (sb_c (qq_X4_digest_2 10 rfl) (sb_c (qq_X4_digest_2 11 rfl) (sb_c (qq_X4_digest_2 12 rfl) (sb_c (qq_X4_digest_2 13 rfl) (sb_c (qq_X4_digest_2 14 rfl) (sb_c (qq_X4_digest_2 15 rfl) (sb_c (qq_X4_digest_2 16 rfl) (sb_c (qq_X4_digest_2 17 rfl) (sb_c (qq_X4_digest_0 8 rfl) (sb_c (qq_X4_digest_2 18 rfl) (sb_c (qq_X4_digest_2 19 rfl) (sb_c (qq_X4_digest_2 20 rfl) (sb_c (qq_X4_digest_2 21 rfl) (sb_c (qq_X4_digest_2 22 rfl) (sb_c (qq_X4_digest_2 23 rfl) (sb_c (qq_X4_digest_3 0 rfl) (sb_c (qq_X4_digest_3 1 rfl) (sb_c (qq_X4_digest_3 2 rfl) (sb_c (qq_X4_digest_3 3 rfl) (sb_c (qq_X4_digest_3 4 rfl) (sb_c (qq_X4_digest_3 5 rfl) (sb_c (qq_X4_digest_3 6 rfl) (sb_c (qq_X4_digest_3 7 rfl) (sb_c (qq_X4_digest_3 8 rfl) sb_n)))))))))))))))))))))))) (sb_c (qq_X4_digest_3 9 rfl) (sb_c (qq_X4_digest_3 10 rfl) (sb_c (qq_X4_digest_3 11 rfl) (sb_c (qq_X4_digest_3 12 rfl) (sb_c (qq_X4_digest_3 13 rfl) (sb_c (qq_X4_digest_3 14 rfl) (sb_c (qq_X4_digest_3 15 rfl) (sb_c (qq_X4_digest_3 20 rfl) (sb_c (qq_X4_digest_3 21 rfl) (sb_c (qq_X4_digest_3 22 rfl) sb_n))))))))))))) (uq_X4_digest_X4))) gw_X4_capsBy
set_option maxRecDepth 20000 in
theorem gX4_digest_X4_capsBy : GoodIn wsX4_digest (wsV RX4 256 RX4 yX4_capsBy wsX4_capsBy) := goodIn_app (goodIn_sub (sb_c (qq_X4_digest_7 21 rfl) (sb_c (qq_X4_digest_7 22 rfl) (sb_c (qq_X4_digest_7 23 rfl) (sb_c (qq_X4_digest_0 6 rfl) sb_n)))) (by decide +kernel)) ggX4_digest_X4_capsBy
set_option maxRecDepth 20000 in
theorem ggX4_digest_X4_askOf : GoodIn wsX4_digest wsX4_askOf := goodIn_sub (sb_c (qq_X4_digest_8 4 rfl) (sb_a (sb_a (sb_c (qq_X4_digest_7 20 rfl) (sb_c (qq_X4_digest_7 16 rfl) (sb_c (qq_X4_digest_7 17 rfl) (sb_c (qq_X4_digest_7 18 rfl) (sb_c (qq_X4_digest_0 6 rfl) (sb_c (qq_X4_digest_7 19 rfl) (sb_c (qq_X4_digest_1 5 rfl) (sb_c (qq_X4_digest_1 4 rfl) (sb_c (qq_X4_digest_1 6 rfl) (sb_c (qq_X4_digest_1 11 rfl) (sb_c (qq_X4_digest_0 22 rfl) (sb_c (qq_X4_digest_0 23 rfl) (sb_c (qq_X4_digest_1 0 rfl) (sb_c (qq_X4_digest_1 1 rfl) (sb_c (qq_X4_digest_1 2 rfl) (sb_c (qq_X4_digest_1 3 rfl) (sb_c (qq_X4_digest_0 2 rfl) (sb_c (qq_X4_digest_7 10 rfl) (sb_c (qq_X4_digest_7 11 rfl) (sb_c (qq_X4_digest_7 12 rfl) (sb_c (qq_X4_digest_7 13 rfl) (sb_c (qq_X4_digest_0 9 rfl) (sb_c (qq_X4_digest_7 14 rfl) (sb_c (qq_X4_digest_7 15 rfl) sb_n)))))))))))))))))))))))) (sb_a (sb_c (qq_X4_digest_1 7 rfl) (sb_c (qq_X4_digest_1 8 rfl) (sb_c (qq_X4_digest_1 9 rfl) (sb_c (qq_X4_digest_1 10 rfl) (sb_c (qq_X4_digest_0 15 rfl) (sb_c (qq_X4_digest_0 17 rfl) (sb_c (qq_X4_digest_0 16 rfl) (sb_c (qq_X4_digest_1 12 rfl) (sb_c (qq_X4_digest_1 13 rfl) (sb_c (qq_X4_digest_1 14 rfl) (sb_c (qq_X4_digest_1 15 rfl) (sb_c (qq_X4_digest_1 16 rfl) (sb_c (qq_X4_digest_1 17 rfl) (sb_c (qq_X4_digest_1 18 rfl) (sb_c (qq_X4_digest_1 19 rfl) (sb_c (qq_X4_digest_1 20 rfl) (sb_c (qq_X4_digest_1 21 rfl) (sb_c (qq_X4_digest_1 22 rfl) (sb_c (qq_X4_digest_1 23 rfl) (sb_c (qq_X4_digest_2 0 rfl) (sb_c (qq_X4_digest_2 1 rfl) (sb_c (qq_X4_digest_2 2 rfl) (sb_c (qq_X4_digest_2 3 rfl) (sb_c (qq_X4_digest_2 4 rfl) sb_n)))))))))))))))))))))))) (sb_a (sb_c (qq_X4_digest_2 5 rfl) (sb_c (qq_X4_digest_2 6 rfl) (sb_c (qq_X4_digest_2 7 rfl) (sb_c (qq_X4_digest_2 8 rfl) (sb_c (qq_X4_digest_2 9 rfl) (sb_c (qq_X4_digest_2 10 rfl) (sb_c (qq_X4_digest_2 11 rfl) (sb_c (qq_X4_digest_2 12 rfl) (sb_c (qq_X4_digest_2 13 rfl) (sb_c (qq_X4_digest_2 14 rfl) (sb_c (qq_X4_digest_2 15 rfl) (sb_c (qq_X4_digest_2 16 rfl) (sb_c (qq_X4_digest_2 17 rfl) (sb_c (qq_X4_digest_0 8 rfl) (sb_c (qq_X4_digest_2 18 rfl) (sb_c (qq_X4_digest_2 19 rfl) (sb_c (qq_X4_digest_2 20 rfl) (sb_c (qq_X4_digest_2 21 rfl) (sb_c (qq_X4_digest_2 22 rfl) (sb_c (qq_X4_digest_2 23 rfl) (sb_c (qq_X4_digest_3 0 rfl) (sb_c (qq_X4_digest_3 1 rfl) (sb_c (qq_X4_digest_3 2 rfl) (sb_c (qq_X4_digest_3 3 rfl) sb_n)))))))))))))))))))))))) (sb_c (qq_X4_digest_3 4 rfl) (sb_c (qq_X4_digest_3 5 rfl) (sb_c (qq_X4_digest_3 6 rfl) (sb_c (qq_X4_digest_3 7 rfl) (sb_c (qq_X4_digest_3 8 rfl) (sb_c (qq_X4_digest_3 9 rfl) (sb_c (qq_X4_digest_3 10 rfl) (sb_c (qq_X4_digest_3 11 rfl) (sb_c (qq_X4_digest_3 12 rfl) (sb_c (qq_X4_digest_3 13 rfl) (sb_c (qq_X4_digest_3 14 rfl) (sb_c (qq_X4_digest_3 15 rfl) (sb_c (qq_X4_digest_3 20 rfl) (sb_c (qq_X4_digest_3 21 rfl) (sb_c (qq_X4_digest_3 22 rfl) sb_n)))))))))))))))))) (uq_X4_digest_X4))) gw_X4_askOf
set_option maxRecDepth 20000 in
theorem gX4_digest_X4_askOf : GoodIn wsX4_digest (wsV RX4 259 RX4 yX4_askOf wsX4_askOf) := goodIn_app (goodIn_sub (sb_c (qq_X4_digest_8 1 rfl) (sb_c (qq_X4_digest_8 2 rfl) (sb_c (qq_X4_digest_8 3 rfl) (sb_c (qq_X4_digest_0 6 rfl) sb_n)))) (by decide +kernel)) ggX4_digest_X4_askOf
set_option maxRecDepth 20000 in
theorem ggX4_digest_X4_chanceOf : GoodIn wsX4_digest wsX4_chanceOf := goodIn_sub (sb_c (qq_X4_digest_8 8 rfl) (sb_a (sb_a (sb_c (qq_X4_digest_0 8 rfl) (sb_c (qq_X4_digest_1 5 rfl) (sb_c (qq_X4_digest_0 15 rfl) (sb_c (qq_X4_digest_0 22 rfl) (sb_c (qq_X4_digest_0 23 rfl) (sb_c (qq_X4_digest_1 0 rfl) (sb_c (qq_X4_digest_0 6 rfl) (sb_c (qq_X4_digest_1 1 rfl) (sb_c (qq_X4_digest_1 2 rfl) (sb_c (qq_X4_digest_1 3 rfl) (sb_c (qq_X4_digest_1 4 rfl) (sb_c (qq_X4_digest_0 2 rfl) (sb_c (qq_X4_digest_1 6 rfl) (sb_c (qq_X4_digest_2 21 rfl) (sb_c (qq_X4_digest_2 22 rfl) (sb_c (qq_X4_digest_2 23 rfl) (sb_c (qq_X4_digest_1 7 rfl) (sb_c (qq_X4_digest_1 8 rfl) (sb_c (qq_X4_digest_1 9 rfl) (sb_c (qq_X4_digest_1 10 rfl) (sb_c (qq_X4_digest_0 17 rfl) (sb_c (qq_X4_digest_0 16 rfl) (sb_c (qq_X4_digest_1 11 rfl) (sb_c (qq_X4_digest_1 12 rfl) sb_n)))))))))))))))))))))))) (sb_a (sb_c (qq_X4_digest_1 13 rfl) (sb_c (qq_X4_digest_1 14 rfl) (sb_c (qq_X4_digest_1 15 rfl) (sb_c (qq_X4_digest_1 16 rfl) (sb_c (qq_X4_digest_1 17 rfl) (sb_c (qq_X4_digest_1 18 rfl) (sb_c (qq_X4_digest_1 19 rfl) (sb_c (qq_X4_digest_1 20 rfl) (sb_c (qq_X4_digest_1 21 rfl) (sb_c (qq_X4_digest_1 22 rfl) (sb_c (qq_X4_digest_1 23 rfl) (sb_c (qq_X4_digest_2 0 rfl) (sb_c (qq_X4_digest_2 1 rfl) (sb_c (qq_X4_digest_2 2 rfl) (sb_c (qq_X4_digest_2 3 rfl) (sb_c (qq_X4_digest_2 4 rfl) (sb_c (qq_X4_digest_2 5 rfl) (sb_c (qq_X4_digest_2 6 rfl) (sb_c (qq_X4_digest_2 7 rfl) (sb_c (qq_X4_digest_2 8 rfl) (sb_c (qq_X4_digest_2 9 rfl) (sb_c (qq_X4_digest_2 10 rfl) (sb_c (qq_X4_digest_2 11 rfl) (sb_c (qq_X4_digest_2 12 rfl) sb_n)))))))))))))))))))))))) (sb_a (sb_c (qq_X4_digest_2 13 rfl) (sb_c (qq_X4_digest_2 14 rfl) (sb_c (qq_X4_digest_2 15 rfl) (sb_c (qq_X4_digest_2 16 rfl) (sb_c (qq_X4_digest_2 17 rfl) (sb_c (qq_X4_digest_2 18 rfl) (sb_c (qq_X4_digest_2 19 rfl) (sb_c (qq_X4_digest_2 20 rfl) (sb_c (qq_X4_digest_3 0 rfl) (sb_c (qq_X4_digest_3 1 rfl) (sb_c (qq_X4_digest_3 2 rfl) (sb_c (qq_X4_digest_3 3 rfl) (sb_c (qq_X4_digest_3 4 rfl) (sb_c (qq_X4_digest_3 5 rfl) (sb_c (qq_X4_digest_3 6 rfl) (sb_c (qq_X4_digest_3 7 rfl) (sb_c (qq_X4_digest_3 8 rfl) (sb_c (qq_X4_digest_3 9 rfl) (sb_c (qq_X4_digest_3 10 rfl) (sb_c (qq_X4_digest_3 11 rfl) (sb_c (qq_X4_digest_3 12 rfl) (sb_c (qq_X4_digest_3 13 rfl) (sb_c (qq_X4_digest_3 14 rfl) (sb_c (qq_X4_digest_3 15 rfl) sb_n)))))))))))))))))))))))) (sb_c (qq_X4_digest_8 9 rfl) (sb_c (qq_X4_digest_8 10 rfl) (sb_c (qq_X4_digest_8 11 rfl) sb_n)))))) (uq_X4_digest_X4))) gw_X4_chanceOf
set_option maxRecDepth 20000 in
theorem gX4_digest_X4_chanceOf : GoodIn wsX4_digest (wsV RX4 266 RX4 yX4_chanceOf wsX4_chanceOf) := goodIn_app (goodIn_sub (sb_c (qq_X4_digest_8 5 rfl) (sb_c (qq_X4_digest_8 6 rfl) (sb_c (qq_X4_digest_8 7 rfl) (sb_c (qq_X4_digest_0 6 rfl) sb_n)))) (by decide +kernel)) ggX4_digest_X4_chanceOf
set_option maxRecDepth 20000 in
theorem ggX4_digest_X4_testsOf : GoodIn wsX4_digest wsX4_testsOf := goodIn_sub (sb_c (qq_X4_digest_8 15 rfl) (sb_a (sb_a (sb_c (qq_X4_digest_8 16 rfl) (sb_c (qq_X4_digest_1 2 rfl) (sb_c (qq_X4_digest_0 15 rfl) (sb_c (qq_X4_digest_0 22 rfl) (sb_c (qq_X4_digest_0 23 rfl) (sb_c (qq_X4_digest_1 0 rfl) (sb_c (qq_X4_digest_0 6 rfl) (sb_c (qq_X4_digest_1 1 rfl) (sb_c (qq_X4_digest_1 3 rfl) (sb_c (qq_X4_digest_1 4 rfl) (sb_c (qq_X4_digest_0 2 rfl) (sb_c (qq_X4_digest_1 5 rfl) (sb_c (qq_X4_digest_1 6 rfl) (sb_c (qq_X4_digest_1 7 rfl) (sb_c (qq_X4_digest_1 8 rfl) (sb_c (qq_X4_digest_1 9 rfl) (sb_c (qq_X4_digest_1 10 rfl) (sb_c (qq_X4_digest_0 17 rfl) (sb_c (qq_X4_digest_0 16 rfl) (sb_c (qq_X4_digest_1 11 rfl) (sb_c (qq_X4_digest_1 12 rfl) (sb_c (qq_X4_digest_1 13 rfl) (sb_c (qq_X4_digest_1 14 rfl) (sb_c (qq_X4_digest_1 15 rfl) sb_n)))))))))))))))))))))))) (sb_a (sb_c (qq_X4_digest_1 16 rfl) (sb_c (qq_X4_digest_1 17 rfl) (sb_c (qq_X4_digest_1 18 rfl) (sb_c (qq_X4_digest_1 19 rfl) (sb_c (qq_X4_digest_1 20 rfl) (sb_c (qq_X4_digest_1 21 rfl) (sb_c (qq_X4_digest_1 22 rfl) (sb_c (qq_X4_digest_1 23 rfl) (sb_c (qq_X4_digest_2 0 rfl) (sb_c (qq_X4_digest_2 1 rfl) (sb_c (qq_X4_digest_2 2 rfl) (sb_c (qq_X4_digest_2 3 rfl) (sb_c (qq_X4_digest_2 4 rfl) (sb_c (qq_X4_digest_2 5 rfl) (sb_c (qq_X4_digest_2 6 rfl) (sb_c (qq_X4_digest_2 7 rfl) (sb_c (qq_X4_digest_2 8 rfl) (sb_c (qq_X4_digest_2 9 rfl) (sb_c (qq_X4_digest_2 10 rfl) (sb_c (qq_X4_digest_2 11 rfl) (sb_c (qq_X4_digest_2 12 rfl) (sb_c (qq_X4_digest_2 13 rfl) (sb_c (qq_X4_digest_2 14 rfl) (sb_c (qq_X4_digest_2 15 rfl) sb_n)))))))))))))))))))))))) (sb_a (sb_c (qq_X4_digest_2 16 rfl) (sb_c (qq_X4_digest_2 17 rfl) (sb_c (qq_X4_digest_0 8 rfl) (sb_c (qq_X4_digest_2 18 rfl) (sb_c (qq_X4_digest_2 19 rfl) (sb_c (qq_X4_digest_2 20 rfl) (sb_c (qq_X4_digest_2 21 rfl) (sb_c (qq_X4_digest_2 22 rfl) (sb_c (qq_X4_digest_2 23 rfl) (sb_c (qq_X4_digest_3 0 rfl) (sb_c (qq_X4_digest_3 1 rfl) (sb_c (qq_X4_digest_3 2 rfl) (sb_c (qq_X4_digest_3 3 rfl) (sb_c (qq_X4_digest_3 4 rfl) (sb_c (qq_X4_digest_3 5 rfl) (sb_c (qq_X4_digest_3 6 rfl) (sb_c (qq_X4_digest_3 7 rfl) (sb_c (qq_X4_digest_3 8 rfl) (sb_c (qq_X4_digest_3 9 rfl) (sb_c (qq_X4_digest_3 10 rfl) (sb_c (qq_X4_digest_3 11 rfl) (sb_c (qq_X4_digest_3 12 rfl) (sb_c (qq_X4_digest_3 13 rfl) (sb_c (qq_X4_digest_3 14 rfl) sb_n)))))))))))))))))))))))) (sb_c (qq_X4_digest_3 15 rfl) (sb_c (qq_X4_digest_3 23 rfl) (sb_c (qq_X4_digest_4 0 rfl) (sb_c (qq_X4_digest_4 1 rfl) (sb_c (qq_X4_digest_4 2 rfl) sb_n)))))))) (uq_X4_digest_X4))) gw_X4_testsOf
set_option maxRecDepth 20000 in
theorem gX4_digest_X4_testsOf : GoodIn wsX4_digest (wsV RX4 275 RX4 yX4_testsOf wsX4_testsOf) := goodIn_app (goodIn_sub (sb_c (qq_X4_digest_8 12 rfl) (sb_c (qq_X4_digest_8 13 rfl) (sb_c (qq_X4_digest_8 14 rfl) (sb_c (qq_X4_digest_0 6 rfl) sb_n)))) (by decide +kernel)) ggX4_digest_X4_testsOf
theorem dX4_digest_0 : decode cX4_digest 0 = .ok (.ldc2_w 293, 3) := by decide +kernel
theorem dX4_digest_3 : decode cX4_digest 3 = .ok (.lstore_n 1, 1) := by decide +kernel
theorem dX4_digest_4 : decode cX4_digest 4 = .ok (.iconst 0, 1) := by decide +kernel
theorem dX4_digest_5 : decode cX4_digest 5 = .ok (.istore_n 3, 1) := by decide +kernel
theorem dX4_digest_6 : decode cX4_digest 6 = .ok (.iload_n 3, 1) := by decide +kernel
theorem dX4_digest_7 : decode cX4_digest 7 = .ok (.bipush 8, 2) := by decide +kernel
theorem dX4_digest_9 : decode cX4_digest 9 = .ok (.if_icmp .ge 22, 3) := by decide +kernel
theorem dX4_digest_12 : decode cX4_digest 12 = .ok (.ldc2_w 291, 3) := by decide +kernel
theorem dX4_digest_15 : decode cX4_digest 15 = .ok (.lload_n 1, 1) := by decide +kernel
theorem dX4_digest_16 : decode cX4_digest 16 = .ok (.lmul, 1) := by decide +kernel
theorem dX4_digest_17 : decode cX4_digest 17 = .ok (.aload_n 0, 1) := by decide +kernel
theorem dX4_digest_18 : decode cX4_digest 18 = .ok (.iload_n 3, 1) := by decide +kernel
theorem dX4_digest_19 : decode cX4_digest 19 = .ok (.invokevirtual 295, 3) := by decide +kernel
theorem dX4_digest_22 : decode cX4_digest 22 = .ok (.i2l, 1) := by decide +kernel
theorem dX4_digest_23 : decode cX4_digest 23 = .ok (.ladd, 1) := by decide +kernel
theorem dX4_digest_24 : decode cX4_digest 24 = .ok (.lstore_n 1, 1) := by decide +kernel
theorem dX4_digest_25 : decode cX4_digest 25 = .ok (.iinc 3 1, 3) := by decide +kernel
theorem dX4_digest_28 : decode cX4_digest 28 = .ok (.goto (-22), 3) := by decide +kernel
theorem dX4_digest_31 : decode cX4_digest 31 = .ok (.iconst 0, 1) := by decide +kernel
theorem dX4_digest_32 : decode cX4_digest 32 = .ok (.istore_n 3, 1) := by decide +kernel
theorem dX4_digest_33 : decode cX4_digest 33 = .ok (.iload_n 3, 1) := by decide +kernel
theorem dX4_digest_34 : decode cX4_digest 34 = .ok (.bipush 16, 2) := by decide +kernel
theorem dX4_digest_36 : decode cX4_digest 36 = .ok (.if_icmp .ge 16, 3) := by decide +kernel
theorem dX4_digest_39 : decode cX4_digest 39 = .ok (.aload_n 0, 1) := by decide +kernel
theorem dX4_digest_40 : decode cX4_digest 40 = .ok (.lload_n 1, 1) := by decide +kernel
theorem dX4_digest_41 : decode cX4_digest 41 = .ok (.iload_n 3, 1) := by decide +kernel
theorem dX4_digest_42 : decode cX4_digest 42 = .ok (.invokevirtual 298, 3) := by decide +kernel
theorem dX4_digest_45 : decode cX4_digest 45 = .ok (.lstore_n 1, 1) := by decide +kernel
theorem dX4_digest_46 : decode cX4_digest 46 = .ok (.iinc 3 1, 3) := by decide +kernel
theorem dX4_digest_49 : decode cX4_digest 49 = .ok (.goto (-16), 3) := by decide +kernel
theorem dX4_digest_52 : decode cX4_digest 52 = .ok (.iconst 0, 1) := by decide +kernel
theorem dX4_digest_53 : decode cX4_digest 53 = .ok (.istore_n 3, 1) := by decide +kernel
theorem dX4_digest_54 : decode cX4_digest 54 = .ok (.iload_n 3, 1) := by decide +kernel
theorem dX4_digest_55 : decode cX4_digest 55 = .ok (.aload_n 0, 1) := by decide +kernel
theorem dX4_digest_56 : decode cX4_digest 56 = .ok (.getfield 13, 3) := by decide +kernel
theorem dX4_digest_59 : decode cX4_digest 59 = .ok (.iconst 3, 1) := by decide +kernel
theorem dX4_digest_60 : decode cX4_digest 60 = .ok (.iaload, 1) := by decide +kernel
theorem dX4_digest_61 : decode cX4_digest 61 = .ok (.if_icmp .ge 61, 3) := by decide +kernel
theorem dX4_digest_64 : decode cX4_digest 64 = .ok (.iconst 0, 1) := by decide +kernel
theorem dX4_digest_65 : decode cX4_digest 65 = .ok (.istore 4, 2) := by decide +kernel
theorem dX4_digest_67 : decode cX4_digest 67 = .ok (.iload 4, 2) := by decide +kernel
theorem dX4_digest_69 : decode cX4_digest 69 = .ok (.aload_n 0, 1) := by decide +kernel
theorem dX4_digest_70 : decode cX4_digest 70 = .ok (.getfield 13, 3) := by decide +kernel
theorem dX4_digest_73 : decode cX4_digest 73 = .ok (.iconst 0, 1) := by decide +kernel
theorem dX4_digest_74 : decode cX4_digest 74 = .ok (.iaload, 1) := by decide +kernel
theorem dX4_digest_75 : decode cX4_digest 75 = .ok (.if_icmp .ge 41, 3) := by decide +kernel
theorem dX4_digest_78 : decode cX4_digest 78 = .ok (.iconst 0, 1) := by decide +kernel
theorem dX4_digest_79 : decode cX4_digest 79 = .ok (.istore 5, 2) := by decide +kernel
theorem dX4_digest_81 : decode cX4_digest 81 = .ok (.iload 5, 2) := by decide +kernel
theorem dX4_digest_83 : decode cX4_digest 83 = .ok (.iconst 3, 1) := by decide +kernel
theorem dX4_digest_84 : decode cX4_digest 84 = .ok (.if_icmp .ge 26, 3) := by decide +kernel
theorem dX4_digest_87 : decode cX4_digest 87 = .ok (.ldc2_w 291, 3) := by decide +kernel
theorem dX4_digest_90 : decode cX4_digest 90 = .ok (.lload_n 1, 1) := by decide +kernel
theorem dX4_digest_91 : decode cX4_digest 91 = .ok (.lmul, 1) := by decide +kernel
theorem dX4_digest_92 : decode cX4_digest 92 = .ok (.aload_n 0, 1) := by decide +kernel
theorem dX4_digest_93 : decode cX4_digest 93 = .ok (.iload_n 3, 1) := by decide +kernel
theorem dX4_digest_94 : decode cX4_digest 94 = .ok (.iload 4, 2) := by decide +kernel
theorem dX4_digest_96 : decode cX4_digest 96 = .ok (.iload 5, 2) := by decide +kernel
theorem dX4_digest_98 : decode cX4_digest 98 = .ok (.invokevirtual 200, 3) := by decide +kernel
theorem dX4_digest_101 : decode cX4_digest 101 = .ok (.i2l, 1) := by decide +kernel
theorem dX4_digest_102 : decode cX4_digest 102 = .ok (.ladd, 1) := by decide +kernel
theorem dX4_digest_103 : decode cX4_digest 103 = .ok (.lstore_n 1, 1) := by decide +kernel
theorem dX4_digest_104 : decode cX4_digest 104 = .ok (.iinc 5 1, 3) := by decide +kernel
theorem dX4_digest_107 : decode cX4_digest 107 = .ok (.goto (-26), 3) := by decide +kernel
theorem dX4_digest_110 : decode cX4_digest 110 = .ok (.iinc 4 1, 3) := by decide +kernel
theorem dX4_digest_113 : decode cX4_digest 113 = .ok (.goto (-46), 3) := by decide +kernel
theorem dX4_digest_116 : decode cX4_digest 116 = .ok (.iinc 3 1, 3) := by decide +kernel
theorem dX4_digest_119 : decode cX4_digest 119 = .ok (.goto (-65), 3) := by decide +kernel
theorem dX4_digest_122 : decode cX4_digest 122 = .ok (.iconst 0, 1) := by decide +kernel
theorem dX4_digest_123 : decode cX4_digest 123 = .ok (.istore_n 3, 1) := by decide +kernel
theorem dX4_digest_124 : decode cX4_digest 124 = .ok (.iload_n 3, 1) := by decide +kernel
theorem dX4_digest_125 : decode cX4_digest 125 = .ok (.aload_n 0, 1) := by decide +kernel
theorem dX4_digest_126 : decode cX4_digest 126 = .ok (.getfield 13, 3) := by decide +kernel
theorem dX4_digest_129 : decode cX4_digest 129 = .ok (.iconst 0, 1) := by decide +kernel
theorem dX4_digest_130 : decode cX4_digest 130 = .ok (.iaload, 1) := by decide +kernel
theorem dX4_digest_131 : decode cX4_digest 131 = .ok (.if_icmp .ge 22, 3) := by decide +kernel
theorem dX4_digest_134 : decode cX4_digest 134 = .ok (.ldc2_w 291, 3) := by decide +kernel
theorem dX4_digest_137 : decode cX4_digest 137 = .ok (.lload_n 1, 1) := by decide +kernel
theorem dX4_digest_138 : decode cX4_digest 138 = .ok (.lmul, 1) := by decide +kernel
theorem dX4_digest_139 : decode cX4_digest 139 = .ok (.aload_n 0, 1) := by decide +kernel
theorem dX4_digest_140 : decode cX4_digest 140 = .ok (.iload_n 3, 1) := by decide +kernel
theorem dX4_digest_141 : decode cX4_digest 141 = .ok (.invokevirtual 222, 3) := by decide +kernel
theorem dX4_digest_144 : decode cX4_digest 144 = .ok (.i2l, 1) := by decide +kernel
theorem dX4_digest_145 : decode cX4_digest 145 = .ok (.ladd, 1) := by decide +kernel
theorem dX4_digest_146 : decode cX4_digest 146 = .ok (.lstore_n 1, 1) := by decide +kernel
theorem dX4_digest_147 : decode cX4_digest 147 = .ok (.iinc 3 1, 3) := by decide +kernel
theorem dX4_digest_150 : decode cX4_digest 150 = .ok (.goto (-26), 3) := by decide +kernel
theorem dX4_digest_153 : decode cX4_digest 153 = .ok (.iconst 0, 1) := by decide +kernel
theorem dX4_digest_154 : decode cX4_digest 154 = .ok (.istore_n 3, 1) := by decide +kernel
theorem dX4_digest_155 : decode cX4_digest 155 = .ok (.iload_n 3, 1) := by decide +kernel
theorem dX4_digest_156 : decode cX4_digest 156 = .ok (.iconst 4, 1) := by decide +kernel
theorem dX4_digest_157 : decode cX4_digest 157 = .ok (.if_icmp .ge 22, 3) := by decide +kernel
theorem dX4_digest_160 : decode cX4_digest 160 = .ok (.ldc2_w 291, 3) := by decide +kernel
theorem dX4_digest_163 : decode cX4_digest 163 = .ok (.lload_n 1, 1) := by decide +kernel
theorem dX4_digest_164 : decode cX4_digest 164 = .ok (.lmul, 1) := by decide +kernel
theorem dX4_digest_165 : decode cX4_digest 165 = .ok (.aload_n 0, 1) := by decide +kernel
theorem dX4_digest_166 : decode cX4_digest 166 = .ok (.iload_n 3, 1) := by decide +kernel
theorem dX4_digest_167 : decode cX4_digest 167 = .ok (.invokevirtual 213, 3) := by decide +kernel
theorem dX4_digest_170 : decode cX4_digest 170 = .ok (.i2l, 1) := by decide +kernel
theorem dX4_digest_171 : decode cX4_digest 171 = .ok (.ladd, 1) := by decide +kernel
theorem dX4_digest_172 : decode cX4_digest 172 = .ok (.lstore_n 1, 1) := by decide +kernel
theorem dX4_digest_173 : decode cX4_digest 173 = .ok (.iinc 3 1, 3) := by decide +kernel
theorem dX4_digest_176 : decode cX4_digest 176 = .ok (.goto (-21), 3) := by decide +kernel
theorem dX4_digest_179 : decode cX4_digest 179 = .ok (.iconst 0, 1) := by decide +kernel
theorem dX4_digest_180 : decode cX4_digest 180 = .ok (.istore_n 3, 1) := by decide +kernel
theorem dX4_digest_181 : decode cX4_digest 181 = .ok (.iload_n 3, 1) := by decide +kernel
theorem dX4_digest_182 : decode cX4_digest 182 = .ok (.iconst 3, 1) := by decide +kernel
theorem dX4_digest_183 : decode cX4_digest 183 = .ok (.if_icmp .ge 22, 3) := by decide +kernel
theorem dX4_digest_186 : decode cX4_digest 186 = .ok (.ldc2_w 291, 3) := by decide +kernel
theorem dX4_digest_189 : decode cX4_digest 189 = .ok (.lload_n 1, 1) := by decide +kernel
theorem dX4_digest_190 : decode cX4_digest 190 = .ok (.lmul, 1) := by decide +kernel
theorem dX4_digest_191 : decode cX4_digest 191 = .ok (.aload_n 0, 1) := by decide +kernel
theorem dX4_digest_192 : decode cX4_digest 192 = .ok (.iload_n 3, 1) := by decide +kernel
theorem dX4_digest_193 : decode cX4_digest 193 = .ok (.invokevirtual 225, 3) := by decide +kernel
theorem dX4_digest_196 : decode cX4_digest 196 = .ok (.i2l, 1) := by decide +kernel
theorem dX4_digest_197 : decode cX4_digest 197 = .ok (.ladd, 1) := by decide +kernel
theorem dX4_digest_198 : decode cX4_digest 198 = .ok (.lstore_n 1, 1) := by decide +kernel
theorem dX4_digest_199 : decode cX4_digest 199 = .ok (.iinc 3 1, 3) := by decide +kernel
theorem dX4_digest_202 : decode cX4_digest 202 = .ok (.goto (-21), 3) := by decide +kernel
theorem dX4_digest_205 : decode cX4_digest 205 = .ok (.iconst 0, 1) := by decide +kernel
theorem dX4_digest_206 : decode cX4_digest 206 = .ok (.istore_n 3, 1) := by decide +kernel
theorem dX4_digest_207 : decode cX4_digest 207 = .ok (.iload_n 3, 1) := by decide +kernel
theorem dX4_digest_208 : decode cX4_digest 208 = .ok (.iconst 3, 1) := by decide +kernel
theorem dX4_digest_209 : decode cX4_digest 209 = .ok (.if_icmp .ge 37, 3) := by decide +kernel
theorem dX4_digest_212 : decode cX4_digest 212 = .ok (.ldc2_w 291, 3) := by decide +kernel
theorem dX4_digest_215 : decode cX4_digest 215 = .ok (.lload_n 1, 1) := by decide +kernel
theorem dX4_digest_216 : decode cX4_digest 216 = .ok (.lmul, 1) := by decide +kernel
theorem dX4_digest_217 : decode cX4_digest 217 = .ok (.aload_n 0, 1) := by decide +kernel
theorem dX4_digest_218 : decode cX4_digest 218 = .ok (.iload_n 3, 1) := by decide +kernel
theorem dX4_digest_219 : decode cX4_digest 219 = .ok (.iconst 0, 1) := by decide +kernel
theorem dX4_digest_220 : decode cX4_digest 220 = .ok (.invokevirtual 231, 3) := by decide +kernel
theorem dX4_digest_223 : decode cX4_digest 223 = .ok (.i2l, 1) := by decide +kernel
theorem dX4_digest_224 : decode cX4_digest 224 = .ok (.ladd, 1) := by decide +kernel
theorem dX4_digest_225 : decode cX4_digest 225 = .ok (.lstore_n 1, 1) := by decide +kernel
theorem dX4_digest_226 : decode cX4_digest 226 = .ok (.ldc2_w 291, 3) := by decide +kernel
theorem dX4_digest_229 : decode cX4_digest 229 = .ok (.lload_n 1, 1) := by decide +kernel
theorem dX4_digest_230 : decode cX4_digest 230 = .ok (.lmul, 1) := by decide +kernel
theorem dX4_digest_231 : decode cX4_digest 231 = .ok (.aload_n 0, 1) := by decide +kernel
theorem dX4_digest_232 : decode cX4_digest 232 = .ok (.iload_n 3, 1) := by decide +kernel
theorem dX4_digest_233 : decode cX4_digest 233 = .ok (.iconst 1, 1) := by decide +kernel
theorem dX4_digest_234 : decode cX4_digest 234 = .ok (.invokevirtual 231, 3) := by decide +kernel
theorem dX4_digest_237 : decode cX4_digest 237 = .ok (.i2l, 1) := by decide +kernel
theorem dX4_digest_238 : decode cX4_digest 238 = .ok (.ladd, 1) := by decide +kernel
theorem dX4_digest_239 : decode cX4_digest 239 = .ok (.lstore_n 1, 1) := by decide +kernel
theorem dX4_digest_240 : decode cX4_digest 240 = .ok (.iinc 3 1, 3) := by decide +kernel
theorem dX4_digest_243 : decode cX4_digest 243 = .ok (.goto (-36), 3) := by decide +kernel
theorem dX4_digest_246 : decode cX4_digest 246 = .ok (.aload_n 0, 1) := by decide +kernel
theorem dX4_digest_247 : decode cX4_digest 247 = .ok (.invokevirtual 237, 3) := by decide +kernel
theorem dX4_digest_250 : decode cX4_digest 250 = .ok (.istore_n 3, 1) := by decide +kernel
theorem dX4_digest_251 : decode cX4_digest 251 = .ok (.ldc2_w 291, 3) := by decide +kernel
theorem dX4_digest_254 : decode cX4_digest 254 = .ok (.lload_n 1, 1) := by decide +kernel
theorem dX4_digest_255 : decode cX4_digest 255 = .ok (.lmul, 1) := by decide +kernel
theorem dX4_digest_256 : decode cX4_digest 256 = .ok (.iload_n 3, 1) := by decide +kernel
theorem dX4_digest_257 : decode cX4_digest 257 = .ok (.i2l, 1) := by decide +kernel
theorem dX4_digest_258 : decode cX4_digest 258 = .ok (.ladd, 1) := by decide +kernel
theorem dX4_digest_259 : decode cX4_digest 259 = .ok (.lstore_n 1, 1) := by decide +kernel
theorem dX4_digest_260 : decode cX4_digest 260 = .ok (.ldc2_w 291, 3) := by decide +kernel
theorem dX4_digest_263 : decode cX4_digest 263 = .ok (.lload_n 1, 1) := by decide +kernel
theorem dX4_digest_264 : decode cX4_digest 264 = .ok (.lmul, 1) := by decide +kernel
theorem dX4_digest_265 : decode cX4_digest 265 = .ok (.aload_n 0, 1) := by decide +kernel
theorem dX4_digest_266 : decode cX4_digest 266 = .ok (.iload_n 3, 1) := by decide +kernel
theorem dX4_digest_267 : decode cX4_digest 267 = .ok (.iconst 0, 1) := by decide +kernel
theorem dX4_digest_268 : decode cX4_digest 268 = .ok (.invokevirtual 240, 3) := by decide +kernel
theorem dX4_digest_271 : decode cX4_digest 271 = .ok (.i2l, 1) := by decide +kernel
theorem dX4_digest_272 : decode cX4_digest 272 = .ok (.ladd, 1) := by decide +kernel
theorem dX4_digest_273 : decode cX4_digest 273 = .ok (.lstore_n 1, 1) := by decide +kernel
theorem dX4_digest_274 : decode cX4_digest 274 = .ok (.ldc2_w 291, 3) := by decide +kernel
theorem dX4_digest_277 : decode cX4_digest 277 = .ok (.lload_n 1, 1) := by decide +kernel
theorem dX4_digest_278 : decode cX4_digest 278 = .ok (.lmul, 1) := by decide +kernel
theorem dX4_digest_279 : decode cX4_digest 279 = .ok (.aload_n 0, 1) := by decide +kernel
theorem dX4_digest_280 : decode cX4_digest 280 = .ok (.invokevirtual 250, 3) := by decide +kernel
theorem dX4_digest_283 : decode cX4_digest 283 = .ok (.i2l, 1) := by decide +kernel
theorem dX4_digest_284 : decode cX4_digest 284 = .ok (.ladd, 1) := by decide +kernel
theorem dX4_digest_285 : decode cX4_digest 285 = .ok (.lstore_n 1, 1) := by decide +kernel
theorem dX4_digest_286 : decode cX4_digest 286 = .ok (.ldc2_w 291, 3) := by decide +kernel
theorem dX4_digest_289 : decode cX4_digest 289 = .ok (.lload_n 1, 1) := by decide +kernel
theorem dX4_digest_290 : decode cX4_digest 290 = .ok (.lmul, 1) := by decide +kernel
theorem dX4_digest_291 : decode cX4_digest 291 = .ok (.aload_n 0, 1) := by decide +kernel
theorem dX4_digest_292 : decode cX4_digest 292 = .ok (.invokevirtual 253, 3) := by decide +kernel
theorem dX4_digest_295 : decode cX4_digest 295 = .ok (.i2l, 1) := by decide +kernel
theorem dX4_digest_296 : decode cX4_digest 296 = .ok (.ladd, 1) := by decide +kernel
theorem dX4_digest_297 : decode cX4_digest 297 = .ok (.lstore_n 1, 1) := by decide +kernel
theorem dX4_digest_298 : decode cX4_digest 298 = .ok (.ldc2_w 291, 3) := by decide +kernel
theorem dX4_digest_301 : decode cX4_digest 301 = .ok (.lload_n 1, 1) := by decide +kernel
theorem dX4_digest_302 : decode cX4_digest 302 = .ok (.lmul, 1) := by decide +kernel
theorem dX4_digest_303 : decode cX4_digest 303 = .ok (.aload_n 0, 1) := by decide +kernel
theorem dX4_digest_304 : decode cX4_digest 304 = .ok (.invokevirtual 256, 3) := by decide +kernel
theorem dX4_digest_307 : decode cX4_digest 307 = .ok (.i2l, 1) := by decide +kernel
theorem dX4_digest_308 : decode cX4_digest 308 = .ok (.ladd, 1) := by decide +kernel
theorem dX4_digest_309 : decode cX4_digest 309 = .ok (.lstore_n 1, 1) := by decide +kernel
theorem dX4_digest_310 : decode cX4_digest 310 = .ok (.ldc2_w 291, 3) := by decide +kernel
theorem dX4_digest_313 : decode cX4_digest 313 = .ok (.lload_n 1, 1) := by decide +kernel
theorem dX4_digest_314 : decode cX4_digest 314 = .ok (.lmul, 1) := by decide +kernel
theorem dX4_digest_315 : decode cX4_digest 315 = .ok (.aload_n 0, 1) := by decide +kernel
theorem dX4_digest_316 : decode cX4_digest 316 = .ok (.invokevirtual 259, 3) := by decide +kernel
theorem dX4_digest_319 : decode cX4_digest 319 = .ok (.i2l, 1) := by decide +kernel
theorem dX4_digest_320 : decode cX4_digest 320 = .ok (.ladd, 1) := by decide +kernel
theorem dX4_digest_321 : decode cX4_digest 321 = .ok (.lstore_n 1, 1) := by decide +kernel
theorem dX4_digest_322 : decode cX4_digest 322 = .ok (.ldc2_w 291, 3) := by decide +kernel
theorem dX4_digest_325 : decode cX4_digest 325 = .ok (.lload_n 1, 1) := by decide +kernel
theorem dX4_digest_326 : decode cX4_digest 326 = .ok (.lmul, 1) := by decide +kernel
theorem dX4_digest_327 : decode cX4_digest 327 = .ok (.aload_n 0, 1) := by decide +kernel
theorem dX4_digest_328 : decode cX4_digest 328 = .ok (.iconst 5, 1) := by decide +kernel
theorem dX4_digest_329 : decode cX4_digest 329 = .ok (.iconst 0, 1) := by decide +kernel
theorem dX4_digest_330 : decode cX4_digest 330 = .ok (.invokevirtual 266, 3) := by decide +kernel
theorem dX4_digest_333 : decode cX4_digest 333 = .ok (.ladd, 1) := by decide +kernel
theorem dX4_digest_334 : decode cX4_digest 334 = .ok (.lstore_n 1, 1) := by decide +kernel
theorem dX4_digest_335 : decode cX4_digest 335 = .ok (.ldc2_w 291, 3) := by decide +kernel
theorem dX4_digest_338 : decode cX4_digest 338 = .ok (.lload_n 1, 1) := by decide +kernel
theorem dX4_digest_339 : decode cX4_digest 339 = .ok (.lmul, 1) := by decide +kernel
theorem dX4_digest_340 : decode cX4_digest 340 = .ok (.aload_n 0, 1) := by decide +kernel
theorem dX4_digest_341 : decode cX4_digest 341 = .ok (.iconst 5, 1) := by decide +kernel
theorem dX4_digest_342 : decode cX4_digest 342 = .ok (.iconst 1, 1) := by decide +kernel
theorem dX4_digest_343 : decode cX4_digest 343 = .ok (.invokevirtual 266, 3) := by decide +kernel
theorem dX4_digest_346 : decode cX4_digest 346 = .ok (.ladd, 1) := by decide +kernel
theorem dX4_digest_347 : decode cX4_digest 347 = .ok (.lstore_n 1, 1) := by decide +kernel
theorem dX4_digest_348 : decode cX4_digest 348 = .ok (.ldc2_w 291, 3) := by decide +kernel
theorem dX4_digest_351 : decode cX4_digest 351 = .ok (.lload_n 1, 1) := by decide +kernel
theorem dX4_digest_352 : decode cX4_digest 352 = .ok (.lmul, 1) := by decide +kernel
theorem dX4_digest_353 : decode cX4_digest 353 = .ok (.aload_n 0, 1) := by decide +kernel
theorem dX4_digest_354 : decode cX4_digest 354 = .ok (.bipush 7, 2) := by decide +kernel
theorem dX4_digest_356 : decode cX4_digest 356 = .ok (.bipush 12, 2) := by decide +kernel
theorem dX4_digest_358 : decode cX4_digest 358 = .ok (.iconst 0, 1) := by decide +kernel
theorem dX4_digest_359 : decode cX4_digest 359 = .ok (.invokevirtual 275, 3) := by decide +kernel
theorem dX4_digest_362 : decode cX4_digest 362 = .ok (.i2l, 1) := by decide +kernel
theorem dX4_digest_363 : decode cX4_digest 363 = .ok (.ladd, 1) := by decide +kernel
theorem dX4_digest_364 : decode cX4_digest 364 = .ok (.lstore_n 1, 1) := by decide +kernel
theorem dX4_digest_365 : decode cX4_digest 365 = .ok (.ldc2_w 291, 3) := by decide +kernel
theorem dX4_digest_368 : decode cX4_digest 368 = .ok (.lload_n 1, 1) := by decide +kernel
theorem dX4_digest_369 : decode cX4_digest 369 = .ok (.lmul, 1) := by decide +kernel
theorem dX4_digest_370 : decode cX4_digest 370 = .ok (.aload_n 0, 1) := by decide +kernel
theorem dX4_digest_371 : decode cX4_digest 371 = .ok (.bipush 7, 2) := by decide +kernel
theorem dX4_digest_373 : decode cX4_digest 373 = .ok (.bipush 12, 2) := by decide +kernel
theorem dX4_digest_375 : decode cX4_digest 375 = .ok (.iconst 1, 1) := by decide +kernel
theorem dX4_digest_376 : decode cX4_digest 376 = .ok (.invokevirtual 275, 3) := by decide +kernel
theorem dX4_digest_379 : decode cX4_digest 379 = .ok (.i2l, 1) := by decide +kernel
theorem dX4_digest_380 : decode cX4_digest 380 = .ok (.ladd, 1) := by decide +kernel
theorem dX4_digest_381 : decode cX4_digest 381 = .ok (.lreturn, 1) := by decide +kernel
theorem dJ6_bitCount_0f7a4_0 : decode cJ6_bitCount_0f7a4 0 = .ok (.iload_n 0, 1) := by decide +kernel
theorem dJ6_bitCount_0f7a4_1 : decode cJ6_bitCount_0f7a4 1 = .ok (.iload_n 0, 1) := by decide +kernel
theorem dJ6_bitCount_0f7a4_2 : decode cJ6_bitCount_0f7a4 2 = .ok (.iconst 1, 1) := by decide +kernel
theorem dJ6_bitCount_0f7a4_3 : decode cJ6_bitCount_0f7a4 3 = .ok (.iushr, 1) := by decide +kernel
theorem dJ6_bitCount_0f7a4_4 : decode cJ6_bitCount_0f7a4 4 = .ok (.ldc_w 265, 3) := by decide +kernel
theorem dJ6_bitCount_0f7a4_7 : decode cJ6_bitCount_0f7a4 7 = .ok (.iand, 1) := by decide +kernel
theorem dJ6_bitCount_0f7a4_8 : decode cJ6_bitCount_0f7a4 8 = .ok (.isub, 1) := by decide +kernel
theorem dJ6_bitCount_0f7a4_9 : decode cJ6_bitCount_0f7a4 9 = .ok (.istore_n 0, 1) := by decide +kernel
theorem dJ6_bitCount_0f7a4_10 : decode cJ6_bitCount_0f7a4 10 = .ok (.iload_n 0, 1) := by decide +kernel
theorem dJ6_bitCount_0f7a4_11 : decode cJ6_bitCount_0f7a4 11 = .ok (.ldc_w 266, 3) := by decide +kernel
theorem dJ6_bitCount_0f7a4_14 : decode cJ6_bitCount_0f7a4 14 = .ok (.iand, 1) := by decide +kernel
theorem dJ6_bitCount_0f7a4_15 : decode cJ6_bitCount_0f7a4 15 = .ok (.iload_n 0, 1) := by decide +kernel
theorem dJ6_bitCount_0f7a4_16 : decode cJ6_bitCount_0f7a4 16 = .ok (.iconst 2, 1) := by decide +kernel
theorem dJ6_bitCount_0f7a4_17 : decode cJ6_bitCount_0f7a4 17 = .ok (.iushr, 1) := by decide +kernel
theorem dJ6_bitCount_0f7a4_18 : decode cJ6_bitCount_0f7a4 18 = .ok (.ldc_w 266, 3) := by decide +kernel
theorem dJ6_bitCount_0f7a4_21 : decode cJ6_bitCount_0f7a4 21 = .ok (.iand, 1) := by decide +kernel
theorem dJ6_bitCount_0f7a4_22 : decode cJ6_bitCount_0f7a4 22 = .ok (.iadd, 1) := by decide +kernel
theorem dJ6_bitCount_0f7a4_23 : decode cJ6_bitCount_0f7a4 23 = .ok (.istore_n 0, 1) := by decide +kernel
theorem dJ6_bitCount_0f7a4_24 : decode cJ6_bitCount_0f7a4 24 = .ok (.iload_n 0, 1) := by decide +kernel
theorem dJ6_bitCount_0f7a4_25 : decode cJ6_bitCount_0f7a4 25 = .ok (.iload_n 0, 1) := by decide +kernel
theorem dJ6_bitCount_0f7a4_26 : decode cJ6_bitCount_0f7a4 26 = .ok (.iconst 4, 1) := by decide +kernel
theorem dJ6_bitCount_0f7a4_27 : decode cJ6_bitCount_0f7a4 27 = .ok (.iushr, 1) := by decide +kernel
theorem dJ6_bitCount_0f7a4_28 : decode cJ6_bitCount_0f7a4 28 = .ok (.iadd, 1) := by decide +kernel
theorem dJ6_bitCount_0f7a4_29 : decode cJ6_bitCount_0f7a4 29 = .ok (.ldc_w 267, 3) := by decide +kernel
theorem dJ6_bitCount_0f7a4_32 : decode cJ6_bitCount_0f7a4 32 = .ok (.iand, 1) := by decide +kernel
theorem dJ6_bitCount_0f7a4_33 : decode cJ6_bitCount_0f7a4 33 = .ok (.istore_n 0, 1) := by decide +kernel
theorem dJ6_bitCount_0f7a4_34 : decode cJ6_bitCount_0f7a4 34 = .ok (.iload_n 0, 1) := by decide +kernel
theorem dJ6_bitCount_0f7a4_35 : decode cJ6_bitCount_0f7a4 35 = .ok (.iload_n 0, 1) := by decide +kernel
theorem dJ6_bitCount_0f7a4_36 : decode cJ6_bitCount_0f7a4 36 = .ok (.bipush 8, 2) := by decide +kernel
theorem dJ6_bitCount_0f7a4_38 : decode cJ6_bitCount_0f7a4 38 = .ok (.iushr, 1) := by decide +kernel
theorem dJ6_bitCount_0f7a4_39 : decode cJ6_bitCount_0f7a4 39 = .ok (.iadd, 1) := by decide +kernel
theorem dJ6_bitCount_0f7a4_40 : decode cJ6_bitCount_0f7a4 40 = .ok (.istore_n 0, 1) := by decide +kernel
theorem dJ6_bitCount_0f7a4_41 : decode cJ6_bitCount_0f7a4 41 = .ok (.iload_n 0, 1) := by decide +kernel
theorem dJ6_bitCount_0f7a4_42 : decode cJ6_bitCount_0f7a4 42 = .ok (.iload_n 0, 1) := by decide +kernel
theorem dJ6_bitCount_0f7a4_43 : decode cJ6_bitCount_0f7a4 43 = .ok (.bipush 16, 2) := by decide +kernel
theorem dJ6_bitCount_0f7a4_45 : decode cJ6_bitCount_0f7a4 45 = .ok (.iushr, 1) := by decide +kernel
theorem dJ6_bitCount_0f7a4_46 : decode cJ6_bitCount_0f7a4 46 = .ok (.iadd, 1) := by decide +kernel
theorem dJ6_bitCount_0f7a4_47 : decode cJ6_bitCount_0f7a4 47 = .ok (.istore_n 0, 1) := by decide +kernel
theorem dJ6_bitCount_0f7a4_48 : decode cJ6_bitCount_0f7a4 48 = .ok (.iload_n 0, 1) := by decide +kernel
theorem dJ6_bitCount_0f7a4_49 : decode cJ6_bitCount_0f7a4 49 = .ok (.bipush 63, 2) := by decide +kernel
theorem dJ6_bitCount_0f7a4_51 : decode cJ6_bitCount_0f7a4 51 = .ok (.iand, 1) := by decide +kernel
theorem dJ6_bitCount_0f7a4_52 : decode cJ6_bitCount_0f7a4 52 = .ok (.ireturn, 1) := by decide +kernel
theorem dJ9_max_7cf53_0 : decode cJ9_max_7cf53 0 = .ok (.iload_n 0, 1) := by decide +kernel
theorem dJ9_max_7cf53_1 : decode cJ9_max_7cf53 1 = .ok (.iload_n 1, 1) := by decide +kernel
theorem dJ9_max_7cf53_2 : decode cJ9_max_7cf53 2 = .ok (.if_icmp .lt 7, 3) := by decide +kernel
theorem dJ9_max_7cf53_5 : decode cJ9_max_7cf53 5 = .ok (.iload_n 0, 1) := by decide +kernel
theorem dJ9_max_7cf53_6 : decode cJ9_max_7cf53 6 = .ok (.goto 4, 3) := by decide +kernel
theorem dJ9_max_7cf53_9 : decode cJ9_max_7cf53 9 = .ok (.iload_n 1, 1) := by decide +kernel
theorem dJ9_max_7cf53_10 : decode cJ9_max_7cf53 10 = .ok (.ireturn, 1) := by decide +kernel
theorem dJ9_min_7cf53_0 : decode cJ9_min_7cf53 0 = .ok (.iload_n 0, 1) := by decide +kernel
theorem dJ9_min_7cf53_1 : decode cJ9_min_7cf53 1 = .ok (.iload_n 1, 1) := by decide +kernel
theorem dJ9_min_7cf53_2 : decode cJ9_min_7cf53 2 = .ok (.if_icmp .gt 7, 3) := by decide +kernel
theorem dJ9_min_7cf53_5 : decode cJ9_min_7cf53 5 = .ok (.iload_n 0, 1) := by decide +kernel
theorem dJ9_min_7cf53_6 : decode cJ9_min_7cf53 6 = .ok (.goto 4, 3) := by decide +kernel
theorem dJ9_min_7cf53_9 : decode cJ9_min_7cf53 9 = .ok (.iload_n 1, 1) := by decide +kernel
theorem dJ9_min_7cf53_10 : decode cJ9_min_7cf53 10 = .ok (.ireturn, 1) := by decide +kernel
theorem dJ7_fill_d0a16_0 : decode cJ7_fill_d0a16 0 = .ok (.iconst 0, 1) := by decide +kernel
theorem dJ7_fill_d0a16_1 : decode cJ7_fill_d0a16 1 = .ok (.istore_n 3, 1) := by decide +kernel
theorem dJ7_fill_d0a16_2 : decode cJ7_fill_d0a16 2 = .ok (.aload_n 0, 1) := by decide +kernel
theorem dJ7_fill_d0a16_3 : decode cJ7_fill_d0a16 3 = .ok (.arraylength, 1) := by decide +kernel
theorem dJ7_fill_d0a16_4 : decode cJ7_fill_d0a16 4 = .ok (.istore 4, 2) := by decide +kernel
theorem dJ7_fill_d0a16_6 : decode cJ7_fill_d0a16 6 = .ok (.iload_n 3, 1) := by decide +kernel
theorem dJ7_fill_d0a16_7 : decode cJ7_fill_d0a16 7 = .ok (.iload 4, 2) := by decide +kernel
theorem dJ7_fill_d0a16_9 : decode cJ7_fill_d0a16 9 = .ok (.if_icmp .ge 13, 3) := by decide +kernel
theorem dJ7_fill_d0a16_12 : decode cJ7_fill_d0a16 12 = .ok (.aload_n 0, 1) := by decide +kernel
theorem dJ7_fill_d0a16_13 : decode cJ7_fill_d0a16 13 = .ok (.iload_n 3, 1) := by decide +kernel
theorem dJ7_fill_d0a16_14 : decode cJ7_fill_d0a16 14 = .ok (.lload_n 1, 1) := by decide +kernel
theorem dJ7_fill_d0a16_15 : decode cJ7_fill_d0a16 15 = .ok (.lastore, 1) := by decide +kernel
theorem dJ7_fill_d0a16_16 : decode cJ7_fill_d0a16 16 = .ok (.iinc 3 1, 3) := by decide +kernel
theorem dJ7_fill_d0a16_19 : decode cJ7_fill_d0a16 19 = .ok (.goto (-13), 3) := by decide +kernel
theorem dJ7_fill_d0a16_22 : decode cJ7_fill_d0a16 22 = .ok (.return_, 1) := by decide +kernel
theorem dJ7_fill_53178_0 : decode cJ7_fill_53178 0 = .ok (.iconst 0, 1) := by decide +kernel
theorem dJ7_fill_53178_1 : decode cJ7_fill_53178 1 = .ok (.istore_n 2, 1) := by decide +kernel
theorem dJ7_fill_53178_2 : decode cJ7_fill_53178 2 = .ok (.aload_n 0, 1) := by decide +kernel
theorem dJ7_fill_53178_3 : decode cJ7_fill_53178 3 = .ok (.arraylength, 1) := by decide +kernel
theorem dJ7_fill_53178_4 : decode cJ7_fill_53178 4 = .ok (.istore_n 3, 1) := by decide +kernel
theorem dJ7_fill_53178_5 : decode cJ7_fill_53178 5 = .ok (.iload_n 2, 1) := by decide +kernel
theorem dJ7_fill_53178_6 : decode cJ7_fill_53178 6 = .ok (.iload_n 3, 1) := by decide +kernel
theorem dJ7_fill_53178_7 : decode cJ7_fill_53178 7 = .ok (.if_icmp .ge 13, 3) := by decide +kernel
theorem dJ7_fill_53178_10 : decode cJ7_fill_53178 10 = .ok (.aload_n 0, 1) := by decide +kernel
theorem dJ7_fill_53178_11 : decode cJ7_fill_53178 11 = .ok (.iload_n 2, 1) := by decide +kernel
theorem dJ7_fill_53178_12 : decode cJ7_fill_53178 12 = .ok (.iload_n 1, 1) := by decide +kernel
theorem dJ7_fill_53178_13 : decode cJ7_fill_53178 13 = .ok (.iastore, 1) := by decide +kernel
theorem dJ7_fill_53178_14 : decode cJ7_fill_53178 14 = .ok (.iinc 2 1, 3) := by decide +kernel
theorem dJ7_fill_53178_17 : decode cJ7_fill_53178 17 = .ok (.goto (-12), 3) := by decide +kernel
theorem dJ7_fill_53178_20 : decode cJ7_fill_53178 20 = .ok (.return_, 1) := by decide +kernel

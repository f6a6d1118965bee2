theorem dX4_by_22 : decode cX4_by 22 = .ok (.iload_n 1, 1) := by decide +kernel
theorem dX4_by_23 : decode cX4_by 23 = .ok (.iload_n 2, 1) := by decide +kernel
theorem dX4_by_24 : decode cX4_by 24 = .ok (.iload_n 3, 1) := by decide +kernel
theorem dX4_by_25 : decode cX4_by 25 = .ok (.invokevirtual 181, 3) := by decide +kernel
theorem dX4_by_28 : decode cX4_by 28 = .ok (.goto 5, 3) := by decide +kernel
theorem dX4_by_31 : decode cX4_by 31 = .ok (.bipush (-2), 2) := by decide +kernel
theorem dX4_by_33 : decode cX4_by 33 = .ok (.ireturn, 1) := by decide +kernel
theorem qq_X4_missedOf_0 {c : Cond} (j : Nat) (h : wsX4_missedOf_r1[j]? = some c) : c ∈ wsX4_missedOf := List.mem_cons_of_mem _ (List.mem_append_left _ (List.mem_append_left _ (List.mem_of_getElem? h)))
theorem qq_X4_missedOf_1 {c : Cond} (j : Nat) (h : wsX4_missedOf_r2[j]? = some c) : c ∈ wsX4_missedOf := List.mem_cons_of_mem _ (List.mem_append_left _ (List.mem_append_right _ (List.mem_append_left _ (List.mem_of_getElem? h))))
theorem qq_X4_missedOf_2 {c : Cond} (j : Nat) (h : wsX4_missedOf_r3[j]? = some c) : c ∈ wsX4_missedOf := List.mem_cons_of_mem _ (List.mem_append_left _ (List.mem_append_right _ (List.mem_append_right _ (List.mem_append_left _ (List.mem_of_getElem? h)))))
theorem qq_X4_missedOf_3 {c : Cond} (j : Nat) (h : wsX4_missedOf_r4[j]? = some c) : c ∈ wsX4_missedOf := List.mem_cons_of_mem _ (List.mem_append_left _ (List.mem_append_right _ (List.mem_append_right _ (List.mem_append_right _ (List.mem_of_getElem? h)))))
theorem uq_X4_missedOf_X4 : wsub wsX40 wsX4_missedOf := fun _ h => List.mem_cons_of_mem _ (List.mem_append_right _ (h))
set_option maxRecDepth 20000 in
theorem ggX4_missedOf_X4_runsTold : GoodIn wsX4_missedOf wsX4_runsTold := goodIn_sub (sb_c (qq_X4_missedOf_0 5 rfl) (sb_a (sb_a (sb_c (qq_X4_missedOf_0 6 rfl) (sb_c (qq_X4_missedOf_0 7 rfl) (sb_c (qq_X4_missedOf_0 8 rfl) (sb_c (qq_X4_missedOf_0 4 rfl) (sb_c (qq_X4_missedOf_0 9 rfl) (sb_c (qq_X4_missedOf_0 10 rfl) (sb_c (qq_X4_missedOf_0 11 rfl) (sb_c (qq_X4_missedOf_0 12 rfl) (sb_c (qq_X4_missedOf_0 13 rfl) (sb_c (qq_X4_missedOf_0 14 rfl) (sb_c (qq_X4_missedOf_0 15 rfl) (sb_c (qq_X4_missedOf_0 16 rfl) (sb_c (qq_X4_missedOf_0 17 rfl) (sb_c (qq_X4_missedOf_0 18 rfl) (sb_c (qq_X4_missedOf_0 19 rfl) (sb_c (qq_X4_missedOf_0 20 rfl) (sb_c (qq_X4_missedOf_0 21 rfl) (sb_c (qq_X4_missedOf_0 22 rfl) (sb_c (qq_X4_missedOf_0 0 rfl) (sb_c (qq_X4_missedOf_0 23 rfl) (sb_c (qq_X4_missedOf_1 0 rfl) (sb_c (qq_X4_missedOf_1 1 rfl) (sb_c (qq_X4_missedOf_1 2 rfl) (sb_c (qq_X4_missedOf_1 3 rfl) sb_n)))))))))))))))))))))))) (sb_a (sb_c (qq_X4_missedOf_1 4 rfl) (sb_c (qq_X4_missedOf_1 5 rfl) (sb_c (qq_X4_missedOf_1 6 rfl) (sb_c (qq_X4_missedOf_1 7 rfl) (sb_c (qq_X4_missedOf_1 8 rfl) (sb_c (qq_X4_missedOf_1 9 rfl) (sb_c (qq_X4_missedOf_1 10 rfl) (sb_c (qq_X4_missedOf_1 11 rfl) (sb_c (qq_X4_missedOf_1 12 rfl) (sb_c (qq_X4_missedOf_1 13 rfl) (sb_c (qq_X4_missedOf_1 14 rfl) (sb_c (qq_X4_missedOf_1 15 rfl) (sb_c (qq_X4_missedOf_1 16 rfl) (sb_c (qq_X4_missedOf_1 17 rfl) (sb_c (qq_X4_missedOf_1 18 rfl) (sb_c (qq_X4_missedOf_1 19 rfl) (sb_c (qq_X4_missedOf_1 20 rfl) (sb_c (qq_X4_missedOf_1 21 rfl) (sb_c (qq_X4_missedOf_1 22 rfl) (sb_c (qq_X4_missedOf_1 23 rfl) (sb_c (qq_X4_missedOf_2 0 rfl) (sb_c (qq_X4_missedOf_2 1 rfl) (sb_c (qq_X4_missedOf_2 2 rfl) (sb_c (qq_X4_missedOf_2 3 rfl) sb_n)))))))))))))))))))))))) (sb_c (qq_X4_missedOf_2 4 rfl) (sb_c (qq_X4_missedOf_2 5 rfl) (sb_c (qq_X4_missedOf_2 6 rfl) (sb_c (qq_X4_missedOf_2 7 rfl) (sb_c (qq_X4_missedOf_2 8 rfl) (sb_c (qq_X4_missedOf_2 9 rfl) (sb_c (qq_X4_missedOf_2 10 rfl) (sb_c (qq_X4_missedOf_2 11 rfl) (sb_c (qq_X4_missedOf_2 12 rfl) (sb_c (qq_X4_missedOf_2 13 rfl) (sb_c (qq_X4_missedOf_2 14 rfl) (sb_c (qq_X4_missedOf_2 15 rfl) (sb_c (qq_X4_missedOf_2 16 rfl) (sb_c (qq_X4_missedOf_2 17 rfl) (sb_c (qq_X4_missedOf_2 18 rfl) (sb_c (qq_X4_missedOf_2 19 rfl) (sb_c (qq_X4_missedOf_2 20 rfl) (sb_c (qq_X4_missedOf_2 21 rfl) (sb_c (qq_X4_missedOf_2 22 rfl) (sb_c (qq_X4_missedOf_2 23 rfl) (sb_c (qq_X4_missedOf_3 0 rfl) (sb_c (qq_X4_missedOf_3 1 rfl) (sb_c (qq_X4_missedOf_3 2 rfl) (sb_c (qq_X4_missedOf_3 3 rfl) sb_n)))))))))))))))))))))))))) (uq_X4_missedOf_X4))) gw_X4_runsTold
set_option maxRecDepth 20000 in
theorem gX4_missedOf_X4_runsTold : GoodIn wsX4_missedOf (wsV RX4 168 RX4 yX4_runsTold wsX4_runsTold) := goodIn_app (goodIn_sub (sb_c (qq_X4_missedOf_0 1 rfl) (sb_c (qq_X4_missedOf_0 2 rfl) (sb_c (qq_X4_missedOf_0 3 rfl) (sb_c (qq_X4_missedOf_0 4 rfl) sb_n)))) (by decide +kernel)) ggX4_missedOf_X4_runsTold
theorem dX4_missedOf_0 : decode cX4_missedOf 0 = .ok (.aload_n 0, 1) := by decide +kernel
theorem dX4_missedOf_1 : decode cX4_missedOf 1 = .ok (.invokevirtual 168, 3) := by decide +kernel
theorem dX4_missedOf_4 : decode cX4_missedOf 4 = .ok (.aload_n 0, 1) := by decide +kernel
theorem dX4_missedOf_5 : decode cX4_missedOf 5 = .ok (.getfield 49, 3) := by decide +kernel
theorem dX4_missedOf_8 : decode cX4_missedOf 8 = .ok (.iload_n 1, 1) := by decide +kernel
theorem dX4_missedOf_9 : decode cX4_missedOf 9 = .ok (.iaload, 1) := by decide +kernel
theorem dX4_missedOf_10 : decode cX4_missedOf 10 = .ok (.ireturn, 1) := by decide +kernel
theorem qq_X4_missed_0 {c : Cond} (j : Nat) (h : wsX4_missed_r1[j]? = some c) : c ∈ wsX4_missed := List.mem_cons_of_mem _ (List.mem_append_left _ (List.mem_append_left _ (List.mem_of_getElem? h)))
theorem qq_X4_missed_1 {c : Cond} (j : Nat) (h : wsX4_missed_r2[j]? = some c) : c ∈ wsX4_missed := List.mem_cons_of_mem _ (List.mem_append_left _ (List.mem_append_right _ (List.mem_append_left _ (List.mem_of_getElem? h))))
theorem qq_X4_missed_2 {c : Cond} (j : Nat) (h : wsX4_missed_r3[j]? = some c) : c ∈ wsX4_missed := List.mem_cons_of_mem _ (List.mem_append_left _ (List.mem_append_right _ (List.mem_append_right _ (List.mem_append_left _ (List.mem_of_getElem? h)))))
theorem qq_X4_missed_3 {c : Cond} (j : Nat) (h : wsX4_missed_r4[j]? = some c) : c ∈ wsX4_missed := List.mem_cons_of_mem _ (List.mem_append_left _ (List.mem_append_right _ (List.mem_append_right _ (List.mem_append_right _ (List.mem_of_getElem? h)))))
theorem uq_X4_missed_X4 : wsub wsX40 wsX4_missed := fun _ h => List.mem_cons_of_mem _ (List.mem_append_right _ (h))
set_option maxRecDepth 20000 in
theorem ggX4_missed_X4_isLine : GoodIn wsX4_missed wsX4_isLine := goodIn_sub (sb_c (qq_X4_missed_0 3 rfl) (sb_c (qq_X4_missed_0 4 rfl) (sb_c (qq_X4_missed_0 5 rfl) (sb_c (qq_X4_missed_0 2 rfl) (sb_c (qq_X4_missed_0 6 rfl) sb_n))))) gw_X4_isLine
set_option maxRecDepth 20000 in
theorem gX4_missed_X4_isLine : GoodIn wsX4_missed (va_wsS RX4 99 yX4_isLine wsX4_isLine) := goodIn_app (goodIn_sub (sb_c (qq_X4_missed_0 0 rfl) (sb_c (qq_X4_missed_0 1 rfl) (sb_c (qq_X4_missed_0 2 rfl) sb_n))) (by decide +kernel)) ggX4_missed_X4_isLine
set_option maxRecDepth 20000 in
theorem gw_X4_missedOf : wsX4_missedOf.all goodWord = true := by decide +kernel
set_option maxRecDepth 20000 in
theorem ggX4_missed_X4_missedOf : GoodIn wsX4_missed wsX4_missedOf := goodIn_sub (sb_c (qq_X4_missed_0 10 rfl) (sb_a (sb_a (sb_c (qq_X4_missed_0 11 rfl) (sb_c (qq_X4_missed_0 12 rfl) (sb_c (qq_X4_missed_0 13 rfl) (sb_c (qq_X4_missed_0 14 rfl) (sb_c (qq_X4_missed_0 2 rfl) (sb_c (qq_X4_missed_0 15 rfl) (sb_c (qq_X4_missed_0 16 rfl) (sb_c (qq_X4_missed_0 17 rfl) (sb_c (qq_X4_missed_0 18 rfl) (sb_c (qq_X4_missed_0 19 rfl) (sb_c (qq_X4_missed_0 20 rfl) (sb_c (qq_X4_missed_0 21 rfl) (sb_c (qq_X4_missed_0 22 rfl) (sb_c (qq_X4_missed_0 23 rfl) (sb_c (qq_X4_missed_1 0 rfl) (sb_c (qq_X4_missed_1 1 rfl) (sb_c (qq_X4_missed_1 2 rfl) (sb_c (qq_X4_missed_1 3 rfl) (sb_c (qq_X4_missed_1 4 rfl) (sb_c (qq_X4_missed_1 5 rfl) (sb_c (qq_X4_missed_1 6 rfl) (sb_c (qq_X4_missed_1 7 rfl) (sb_c (qq_X4_missed_1 8 rfl) (sb_c (qq_X4_missed_1 9 rfl) sb_n)))))))))))))))))))))))) (sb_a (sb_c (qq_X4_missed_1 10 rfl) (sb_c (qq_X4_missed_1 11 rfl) (sb_c (qq_X4_missed_1 12 rfl) (sb_c (qq_X4_missed_1 13 rfl) (sb_c (qq_X4_missed_1 14 rfl) (sb_c (qq_X4_missed_1 15 rfl) (sb_c (qq_X4_missed_1 16 rfl) (sb_c (qq_X4_missed_1 17 rfl) (sb_c (qq_X4_missed_1 18 rfl) (sb_c (qq_X4_missed_1 19 rfl) (sb_c (qq_X4_missed_0 0 rfl) (sb_c (qq_X4_missed_0 1 rfl) (sb_c (qq_X4_missed_0 3 rfl) (sb_c (qq_X4_missed_0 4 rfl) (sb_c (qq_X4_missed_0 5 rfl) (sb_c (qq_X4_missed_0 6 rfl) (sb_c (qq_X4_missed_1 20 rfl) (sb_c (qq_X4_missed_1 21 rfl) (sb_c (qq_X4_missed_1 22 rfl) (sb_c (qq_X4_missed_1 23 rfl) (sb_c (qq_X4_missed_2 0 rfl) (sb_c (qq_X4_missed_2 1 rfl) (sb_c (qq_X4_missed_2 2 rfl) (sb_c (qq_X4_missed_2 3 rfl) sb_n)))))))))))))))))))))))) (sb_a (sb_c (qq_X4_missed_2 4 rfl) (sb_c (qq_X4_missed_2 5 rfl) (sb_c (qq_X4_missed_2 6 rfl) (sb_c (qq_X4_missed_2 7 rfl) (sb_c (qq_X4_missed_2 8 rfl) (sb_c (qq_X4_missed_2 9 rfl) (sb_c (qq_X4_missed_2 10 rfl) (sb_c (qq_X4_missed_2 11 rfl) (sb_c (qq_X4_missed_2 12 rfl) (sb_c (qq_X4_missed_2 13 rfl) (sb_c (qq_X4_missed_2 14 rfl) (sb_c (qq_X4_missed_2 15 rfl) (sb_c (qq_X4_missed_2 16 rfl) (sb_c (qq_X4_missed_2 17 rfl) (sb_c (qq_X4_missed_2 18 rfl) (sb_c (qq_X4_missed_2 19 rfl) (sb_c (qq_X4_missed_2 20 rfl) (sb_c (qq_X4_missed_2 21 rfl) (sb_c (qq_X4_missed_2 22 rfl) (sb_c (qq_X4_missed_2 23 rfl) (sb_c (qq_X4_missed_3 0 rfl) (sb_c (qq_X4_missed_3 1 rfl) (sb_c (qq_X4_missed_3 2 rfl) (sb_c (qq_X4_missed_3 3 rfl) sb_n)))))))))))))))))))))))) (sb_c (qq_X4_missed_3 4 rfl) (sb_c (qq_X4_missed_3 5 rfl) (sb_c (qq_X4_missed_3 6 rfl) (sb_c (qq_X4_missed_3 7 rfl) sb_n))))))) (uq_X4_missed_X4))) gw_X4_missedOf
set_option maxRecDepth 20000 in
theorem gX4_missed_X4_missedOf : GoodIn wsX4_missed (wsV RX4 184 RX4 yX4_missedOf wsX4_missedOf) := goodIn_app (goodIn_sub (sb_c (qq_X4_missed_0 7 rfl) (sb_c (qq_X4_missed_0 8 rfl) (sb_c (qq_X4_missed_0 9 rfl) (sb_c (qq_X4_missed_0 2 rfl) sb_n)))) (by decide +kernel)) ggX4_missed_X4_missedOf
theorem dX4_missed_0 : decode cX4_missed 0 = .ok (.iload_n 1, 1) := by decide +kernel
theorem dX4_missed_1 : decode cX4_missed 1 = .ok (.invokestatic 99, 3) := by decide +kernel
theorem dX4_missed_4 : decode cX4_missed 4 = .ok (.ifCond .eq 11, 3) := by decide +kernel
theorem dX4_missed_7 : decode cX4_missed 7 = .ok (.aload_n 0, 1) := by decide +kernel
theorem dX4_missed_8 : decode cX4_missed 8 = .ok (.iload_n 1, 1) := by decide +kernel
theorem dX4_missed_9 : decode cX4_missed 9 = .ok (.invokevirtual 184, 3) := by decide +kernel
theorem dX4_missed_12 : decode cX4_missed 12 = .ok (.goto 5, 3) := by decide +kernel
theorem dX4_missed_15 : decode cX4_missed 15 = .ok (.bipush (-2), 2) := by decide +kernel
theorem dX4_missed_17 : decode cX4_missed 17 = .ok (.ireturn, 1) := by decide +kernel
theorem dX4_passNow_0 : decode cX4_passNow 0 = .ok (.iconst (-1), 1) := by decide +kernel
theorem dX4_passNow_1 : decode cX4_passNow 1 = .ok (.istore_n 3, 1) := by decide +kernel
theorem dX4_passNow_2 : decode cX4_passNow 2 = .ok (.iconst 0, 1) := by decide +kernel
theorem dX4_passNow_3 : decode cX4_passNow 3 = .ok (.istore 4, 2) := by decide +kernel
theorem dX4_passNow_5 : decode cX4_passNow 5 = .ok (.iload 4, 2) := by decide +kernel
theorem dX4_passNow_7 : decode cX4_passNow 7 = .ok (.aload_n 0, 1) := by decide +kernel
theorem dX4_passNow_8 : decode cX4_passNow 8 = .ok (.getfield 31, 3) := by decide +kernel
theorem dX4_passNow_11 : decode cX4_passNow 11 = .ok (.iload_n 1, 1) := by decide +kernel
theorem dX4_passNow_12 : decode cX4_passNow 12 = .ok (.iaload, 1) := by decide +kernel
theorem dX4_passNow_13 : decode cX4_passNow 13 = .ok (.if_icmp .ge 49, 3) := by decide +kernel
theorem dX4_passNow_16 : decode cX4_passNow 16 = .ok (.bipush 12, 2) := by decide +kernel
theorem dX4_passNow_18 : decode cX4_passNow 18 = .ok (.iload_n 1, 1) := by decide +kernel
theorem dX4_passNow_19 : decode cX4_passNow 19 = .ok (.imul, 1) := by decide +kernel
theorem dX4_passNow_20 : decode cX4_passNow 20 = .ok (.iload 4, 2) := by decide +kernel
theorem dX4_passNow_22 : decode cX4_passNow 22 = .ok (.iadd, 1) := by decide +kernel
theorem dX4_passNow_23 : decode cX4_passNow 23 = .ok (.istore 5, 2) := by decide +kernel
theorem dX4_passNow_25 : decode cX4_passNow 25 = .ok (.aload_n 0, 1) := by decide +kernel
theorem dX4_passNow_26 : decode cX4_passNow 26 = .ok (.getfield 40, 3) := by decide +kernel
theorem dX4_passNow_29 : decode cX4_passNow 29 = .ok (.iload 5, 2) := by decide +kernel
theorem dX4_passNow_31 : decode cX4_passNow 31 = .ok (.iaload, 1) := by decide +kernel
theorem dX4_passNow_32 : decode cX4_passNow 32 = .ok (.ifCond .le 22, 3) := by decide +kernel
theorem dX4_passNow_35 : decode cX4_passNow 35 = .ok (.iload_n 2, 1) := by decide +kernel
theorem dX4_passNow_36 : decode cX4_passNow 36 = .ok (.ifCond .ne 8, 3) := by decide +kernel
theorem dX4_passNow_39 : decode cX4_passNow 39 = .ok (.iload_n 3, 1) := by decide +kernel
theorem dX4_passNow_40 : decode cX4_passNow 40 = .ok (.iconst (-1), 1) := by decide +kernel
theorem dX4_passNow_41 : decode cX4_passNow 41 = .ok (.if_icmp .ne 13, 3) := by decide +kernel
theorem dX4_passNow_44 : decode cX4_passNow 44 = .ok (.aload_n 0, 1) := by decide +kernel
theorem dX4_passNow_45 : decode cX4_passNow 45 = .ok (.getfield 34, 3) := by decide +kernel
theorem dX4_passNow_48 : decode cX4_passNow 48 = .ok (.iload 5, 2) := by decide +kernel
theorem dX4_passNow_50 : decode cX4_passNow 50 = .ok (.iaload, 1) := by decide +kernel
theorem dX4_passNow_51 : decode cX4_passNow 51 = .ok (.goto 4, 3) := by decide +kernel
theorem dX4_passNow_54 : decode cX4_passNow 54 = .ok (.iload_n 3, 1) := by decide +kernel
theorem dX4_passNow_55 : decode cX4_passNow 55 = .ok (.istore_n 3, 1) := by decide +kernel
theorem dX4_passNow_56 : decode cX4_passNow 56 = .ok (.iinc 4 1, 3) := by decide +kernel
theorem dX4_passNow_59 : decode cX4_passNow 59 = .ok (.goto (-54), 3) := by decide +kernel
theorem dX4_passNow_62 : decode cX4_passNow 62 = .ok (.iload_n 3, 1) := by decide +kernel
theorem dX4_passNow_63 : decode cX4_passNow 63 = .ok (.ireturn, 1) := by decide +kernel
theorem qq_X4_doneOf_0 {c : Cond} (j : Nat) (h : wsX4_doneOf_r1[j]? = some c) : c ∈ wsX4_doneOf := List.mem_cons_of_mem _ (List.mem_append_left _ (List.mem_append_left _ (List.mem_of_getElem? h)))
theorem qq_X4_doneOf_1 {c : Cond} (j : Nat) (h : wsX4_doneOf_r2[j]? = some c) : c ∈ wsX4_doneOf := List.mem_cons_of_mem _ (List.mem_append_left _ (List.mem_append_right _ (List.mem_append_left _ (List.mem_of_getElem? h))))
theorem qq_X4_doneOf_2 {c : Cond} (j : Nat) (h : wsX4_doneOf_r3[j]? = some c) : c ∈ wsX4_doneOf := List.mem_cons_of_mem _ (List.mem_append_left _ (List.mem_append_right _ (List.mem_append_right _ (List.mem_append_left _ (List.mem_of_getElem? h)))))
theorem qq_X4_doneOf_3 {c : Cond} (j : Nat) (h : wsX4_doneOf_r4[j]? = some c) : c ∈ wsX4_doneOf := List.mem_cons_of_mem _ (List.mem_append_left _ (List.mem_append_right _ (List.mem_append_right _ (List.mem_append_right _ (List.mem_of_getElem? h)))))
theorem uq_X4_doneOf_X4 : wsub wsX40 wsX4_doneOf := fun _ h => List.mem_cons_of_mem _ (List.mem_append_right _ (h))
set_option maxRecDepth 20000 in
theorem ggX4_doneOf_X4_runsTold : GoodIn wsX4_doneOf wsX4_runsTold := goodIn_sub (sb_c (qq_X4_doneOf_0 4 rfl) (sb_a (sb_a (sb_c (qq_X4_doneOf_0 5 rfl) (sb_c (qq_X4_doneOf_0 6 rfl) (sb_c (qq_X4_doneOf_0 7 rfl) (sb_c (qq_X4_doneOf_0 3 rfl) (sb_c (qq_X4_doneOf_0 8 rfl) (sb_c (qq_X4_doneOf_0 9 rfl) (sb_c (qq_X4_doneOf_0 10 rfl) (sb_c (qq_X4_doneOf_0 11 rfl) (sb_c (qq_X4_doneOf_0 12 rfl) (sb_c (qq_X4_doneOf_0 13 rfl) (sb_c (qq_X4_doneOf_0 14 rfl) (sb_c (qq_X4_doneOf_0 15 rfl) (sb_c (qq_X4_doneOf_0 16 rfl) (sb_c (qq_X4_doneOf_0 17 rfl) (sb_c (qq_X4_doneOf_0 18 rfl) (sb_c (qq_X4_doneOf_0 19 rfl) (sb_c (qq_X4_doneOf_0 20 rfl) (sb_c (qq_X4_doneOf_0 21 rfl) (sb_c (qq_X4_doneOf_0 22 rfl) (sb_c (qq_X4_doneOf_0 23 rfl) (sb_c (qq_X4_doneOf_1 0 rfl) (sb_c (qq_X4_doneOf_1 1 rfl) (sb_c (qq_X4_doneOf_1 2 rfl) (sb_c (qq_X4_doneOf_1 3 rfl) sb_n)))))))))))))))))))))))) (sb_a (sb_c (qq_X4_doneOf_1 4 rfl) (sb_c (qq_X4_doneOf_1 5 rfl) (sb_c (qq_X4_doneOf_1 6 rfl) (sb_c (qq_X4_doneOf_1 7 rfl) (sb_c (qq_X4_doneOf_1 8 rfl) (sb_c (qq_X4_doneOf_1 9 rfl) (sb_c (qq_X4_doneOf_1 10 rfl) (sb_c (qq_X4_doneOf_1 11 rfl) (sb_c (qq_X4_doneOf_1 12 rfl) (sb_c (qq_X4_doneOf_1 13 rfl) (sb_c (qq_X4_doneOf_1 14 rfl) (sb_c (qq_X4_doneOf_1 15 rfl) (sb_c (qq_X4_doneOf_1 16 rfl) (sb_c (qq_X4_doneOf_1 17 rfl) (sb_c (qq_X4_doneOf_1 18 rfl) (sb_c (qq_X4_doneOf_1 19 rfl) (sb_c (qq_X4_doneOf_1 20 rfl) (sb_c (qq_X4_doneOf_1 21 rfl) (sb_c (qq_X4_doneOf_1 22 rfl) (sb_c (qq_X4_doneOf_1 23 rfl) (sb_c (qq_X4_doneOf_2 0 rfl) (sb_c (qq_X4_doneOf_2 1 rfl) (sb_c (qq_X4_doneOf_2 2 rfl) (sb_c (qq_X4_doneOf_2 3 rfl) sb_n)))))))))))))))))))))))) (sb_c (qq_X4_doneOf_2 4 rfl) (sb_c (qq_X4_doneOf_2 5 rfl) (sb_c (qq_X4_doneOf_2 6 rfl) (sb_c (qq_X4_doneOf_2 7 rfl) (sb_c (qq_X4_doneOf_2 8 rfl) (sb_c (qq_X4_doneOf_2 9 rfl) (sb_c (qq_X4_doneOf_2 10 rfl) (sb_c (qq_X4_doneOf_2 11 rfl) (sb_c (qq_X4_doneOf_2 12 rfl) (sb_c (qq_X4_doneOf_2 13 rfl) (sb_c (qq_X4_doneOf_2 14 rfl) (sb_c (qq_X4_doneOf_2 15 rfl) (sb_c (qq_X4_doneOf_2 16 rfl) (sb_c (qq_X4_doneOf_2 17 rfl) (sb_c (qq_X4_doneOf_2 18 rfl) (sb_c (qq_X4_doneOf_2 19 rfl) (sb_c (qq_X4_doneOf_2 20 rfl) (sb_c (qq_X4_doneOf_2 21 rfl) (sb_c (qq_X4_doneOf_2 22 rfl) (sb_c (qq_X4_doneOf_2 23 rfl) (sb_c (qq_X4_doneOf_3 0 rfl) (sb_c (qq_X4_doneOf_3 1 rfl) (sb_c (qq_X4_doneOf_3 2 rfl) (sb_c (qq_X4_doneOf_3 3 rfl) sb_n)))))))))))))))))))))))))) (uq_X4_doneOf_X4))) gw_X4_runsTold
set_option maxRecDepth 20000 in
theorem gX4_doneOf_X4_runsTold : GoodIn wsX4_doneOf (wsV RX4 168 RX4 yX4_runsTold wsX4_runsTold) := goodIn_app (goodIn_sub (sb_c (qq_X4_doneOf_0 0 rfl) (sb_c (qq_X4_doneOf_0 1 rfl) (sb_c (qq_X4_doneOf_0 2 rfl) (sb_c (qq_X4_doneOf_0 3 rfl) sb_n)))) (by decide +kernel)) ggX4_doneOf_X4_runsTold
set_option maxRecDepth 20000 in
theorem gw_X4_passNow : wsX4_passNow.all goodWord = true := by decide +kernel
set_option maxRecDepth 20000 in
theorem ggX4_doneOf_X4_passNow : GoodIn wsX4_doneOf wsX4_passNow := goodIn_sub (sb_c (qq_X4_doneOf_3 7 rfl) (sb_a (sb_c (qq_X4_doneOf_1 6 rfl) (sb_c (qq_X4_doneOf_1 9 rfl) (sb_c (qq_X4_doneOf_1 7 rfl) sb_n))) (uq_X4_doneOf_X4))) gw_X4_passNow
set_option maxRecDepth 20000 in
theorem gX4_doneOf_X4_passNow : GoodIn wsX4_doneOf (wsV RX4 187 RX4 yX4_passNow wsX4_passNow) := goodIn_app (goodIn_sub (sb_c (qq_X4_doneOf_3 4 rfl) (sb_c (qq_X4_doneOf_3 5 rfl) (sb_c (qq_X4_doneOf_3 6 rfl) (sb_c (qq_X4_doneOf_0 3 rfl) sb_n)))) (by decide +kernel)) ggX4_doneOf_X4_passNow
theorem dX4_doneOf_0 : decode cX4_doneOf 0 = .ok (.aload_n 0, 1) := by decide +kernel
theorem dX4_doneOf_1 : decode cX4_doneOf 1 = .ok (.invokevirtual 168, 3) := by decide +kernel
theorem dX4_doneOf_4 : decode cX4_doneOf 4 = .ok (.aload_n 0, 1) := by decide +kernel
theorem dX4_doneOf_5 : decode cX4_doneOf 5 = .ok (.iload_n 1, 1) := by decide +kernel
theorem dX4_doneOf_6 : decode cX4_doneOf 6 = .ok (.iconst 1, 1) := by decide +kernel
theorem dX4_doneOf_7 : decode cX4_doneOf 7 = .ok (.invokevirtual 187, 3) := by decide +kernel
theorem dX4_doneOf_10 : decode cX4_doneOf 10 = .ok (.ireturn, 1) := by decide +kernel
theorem qq_X4_done_0 {c : Cond} (j : Nat) (h : wsX4_done_r1[j]? = some c) : c ∈ wsX4_done := List.mem_cons_of_mem _ (List.mem_append_left _ (List.mem_append_left _ (List.mem_of_getElem? h)))
theorem qq_X4_done_1 {c : Cond} (j : Nat) (h : wsX4_done_r2[j]? = some c) : c ∈ wsX4_done := List.mem_cons_of_mem _ (List.mem_append_left _ (List.mem_append_right _ (List.mem_append_left _ (List.mem_of_getElem? h))))
theorem qq_X4_done_2 {c : Cond} (j : Nat) (h : wsX4_done_r3[j]? = some c) : c ∈ wsX4_done := List.mem_cons_of_mem _ (List.mem_append_left _ (List.mem_append_right _ (List.mem_append_right _ (List.mem_append_left _ (List.mem_of_getElem? h)))))
theorem qq_X4_done_3 {c : Cond} (j : Nat) (h : wsX4_done_r4[j]? = some c) : c ∈ wsX4_done := List.mem_cons_of_mem _ (List.mem_append_left _ (List.mem_append_right _ (List.mem_append_right _ (List.mem_append_right _ (List.mem_of_getElem? h)))))
theorem uq_X4_done_X4 : wsub wsX40 wsX4_done := fun _ h => List.mem_cons_of_mem _ (List.mem_append_right _ (h))
set_option maxRecDepth 20000 in
theorem ggX4_done_X4_isLine : GoodIn wsX4_done wsX4_isLine := goodIn_sub (sb_c (qq_X4_done_0 3 rfl) (sb_c (qq_X4_done_0 4 rfl) (sb_c (qq_X4_done_0 5 rfl) (sb_c (qq_X4_done_0 2 rfl) (sb_c (qq_X4_done_0 6 rfl) sb_n))))) gw_X4_isLine
set_option maxRecDepth 20000 in
theorem gX4_done_X4_isLine : GoodIn wsX4_done (va_wsS RX4 99 yX4_isLine wsX4_isLine) := goodIn_app (goodIn_sub (sb_c (qq_X4_done_0 0 rfl) (sb_c (qq_X4_done_0 1 rfl) (sb_c (qq_X4_done_0 2 rfl) sb_n))) (by decide +kernel)) ggX4_done_X4_isLine
set_option maxRecDepth 20000 in
theorem gw_X4_doneOf : wsX4_doneOf.all goodWord = true := by decide +kernel
set_option maxRecDepth 20000 in
theorem ggX4_done_X4_doneOf : GoodIn wsX4_done wsX4_doneOf := goodIn_sub (sb_c (qq_X4_done_0 10 rfl) (sb_a (sb_a (sb_c (qq_X4_done_0 11 rfl) (sb_c (qq_X4_done_0 12 rfl) (sb_c (qq_X4_done_0 13 rfl) (sb_c (qq_X4_done_0 2 rfl) (sb_c (qq_X4_done_0 14 rfl) (sb_c (qq_X4_done_0 15 rfl) (sb_c (qq_X4_done_0 16 rfl) (sb_c (qq_X4_done_0 17 rfl) (sb_c (qq_X4_done_0 18 rfl) (sb_c (qq_X4_done_0 19 rfl) (sb_c (qq_X4_done_0 20 rfl) (sb_c (qq_X4_done_0 21 rfl) (sb_c (qq_X4_done_0 22 rfl) (sb_c (qq_X4_done_0 23 rfl) (sb_c (qq_X4_done_1 0 rfl) (sb_c (qq_X4_done_1 1 rfl) (sb_c (qq_X4_done_1 2 rfl) (sb_c (qq_X4_done_1 3 rfl) (sb_c (qq_X4_done_1 4 rfl) (sb_c (qq_X4_done_1 5 rfl) (sb_c (qq_X4_done_1 6 rfl) (sb_c (qq_X4_done_1 7 rfl) (sb_c (qq_X4_done_1 8 rfl) (sb_c (qq_X4_done_1 9 rfl) sb_n)))))))))))))))))))))))) (sb_a (sb_c (qq_X4_done_1 10 rfl) (sb_c (qq_X4_done_1 11 rfl) (sb_c (qq_X4_done_1 12 rfl) (sb_c (qq_X4_done_1 13 rfl) (sb_c (qq_X4_done_1 14 rfl) (sb_c (qq_X4_done_1 15 rfl) (sb_c (qq_X4_done_1 16 rfl) (sb_c (qq_X4_done_1 17 rfl) (sb_c (qq_X4_done_1 18 rfl) (sb_c (qq_X4_done_1 19 rfl) (sb_c (qq_X4_done_0 0 rfl) (sb_c (qq_X4_done_0 1 rfl) (sb_c (qq_X4_done_0 3 rfl) (sb_c (qq_X4_done_0 4 rfl) (sb_c (qq_X4_done_0 5 rfl) (sb_c (qq_X4_done_0 6 rfl) (sb_c (qq_X4_done_1 20 rfl) (sb_c (qq_X4_done_1 21 rfl) (sb_c (qq_X4_done_1 22 rfl) (sb_c (qq_X4_done_1 23 rfl) (sb_c (qq_X4_done_2 0 rfl) (sb_c (qq_X4_done_2 1 rfl) (sb_c (qq_X4_done_2 2 rfl) (sb_c (qq_X4_done_2 3 rfl) sb_n)))))))))))))))))))))))) (sb_a (sb_c (qq_X4_done_2 4 rfl) (sb_c (qq_X4_done_2 5 rfl) (sb_c (qq_X4_done_2 6 rfl) (sb_c (qq_X4_done_2 7 rfl) (sb_c (qq_X4_done_2 8 rfl) (sb_c (qq_X4_done_2 9 rfl) (sb_c (qq_X4_done_2 10 rfl) (sb_c (qq_X4_done_2 11 rfl) (sb_c (qq_X4_done_2 12 rfl) (sb_c (qq_X4_done_2 13 rfl) (sb_c (qq_X4_done_2 14 rfl) (sb_c (qq_X4_done_2 15 rfl) (sb_c (qq_X4_done_2 16 rfl) (sb_c (qq_X4_done_2 17 rfl) (sb_c (qq_X4_done_2 18 rfl) (sb_c (qq_X4_done_2 19 rfl) (sb_c (qq_X4_done_2 20 rfl) (sb_c (qq_X4_done_2 21 rfl) (sb_c (qq_X4_done_2 22 rfl) (sb_c (qq_X4_done_2 23 rfl) (sb_c (qq_X4_done_3 0 rfl) (sb_c (qq_X4_done_3 1 rfl) (sb_c (qq_X4_done_3 2 rfl) (sb_c (qq_X4_done_3 3 rfl) sb_n)))))))))))))))))))))))) (sb_c (qq_X4_done_3 4 rfl) (sb_c (qq_X4_done_3 5 rfl) (sb_c (qq_X4_done_3 6 rfl) (sb_c (qq_X4_done_3 7 rfl) (sb_c (qq_X4_done_3 8 rfl) (sb_c (qq_X4_done_3 9 rfl) (sb_c (qq_X4_done_3 10 rfl) (sb_c (qq_X4_done_3 11 rfl) sb_n))))))))))) (uq_X4_done_X4))) gw_X4_doneOf
set_option maxRecDepth 20000 in
theorem gX4_done_X4_doneOf : GoodIn wsX4_done (wsV RX4 191 RX4 yX4_doneOf wsX4_doneOf) := goodIn_app (goodIn_sub (sb_c (qq_X4_done_0 7 rfl) (sb_c (qq_X4_done_0 8 rfl) (sb_c (qq_X4_done_0 9 rfl) (sb_c (qq_X4_done_0 2 rfl) sb_n)))) (by decide +kernel)) ggX4_done_X4_doneOf
theorem dX4_done_0 : decode cX4_done 0 = .ok (.iload_n 1, 1) := by decide +kernel
theorem dX4_done_1 : decode cX4_done 1 = .ok (.invokestatic 99, 3) := by decide +kernel
theorem dX4_done_4 : decode cX4_done 4 = .ok (.ifCond .eq 11, 3) := by decide +kernel
theorem dX4_done_7 : decode cX4_done 7 = .ok (.aload_n 0, 1) := by decide +kernel
theorem dX4_done_8 : decode cX4_done 8 = .ok (.iload_n 1, 1) := by decide +kernel
theorem dX4_done_9 : decode cX4_done 9 = .ok (.invokevirtual 191, 3) := by decide +kernel
theorem dX4_done_12 : decode cX4_done 12 = .ok (.goto 5, 3) := by decide +kernel
theorem dX4_done_15 : decode cX4_done 15 = .ok (.bipush (-2), 2) := by decide +kernel
theorem dX4_done_17 : decode cX4_done 17 = .ok (.ireturn, 1) := by decide +kernel
theorem qq_X4_isNozzle_0 {c : Cond} (j : Nat) (h : ([.fieldLink RX4 13 "InkSwathsModel" "head" "[I", .methodLink RX4 95 yX4_in, .static yX4_in, .initialized RX4, .code yX4_in cX4_in 3 (some .boolean)] : List Cond)[j]? = some c) : c ∈ wsX4_isNozzle := List.mem_cons_of_mem _ (List.mem_append_left _ (List.mem_of_getElem? h))
theorem uq_X4_isNozzle_X4 : wsub wsX40 wsX4_isNozzle := fun _ h => List.mem_cons_of_mem _ (List.mem_append_right _ (h))
set_option maxRecDepth 20000 in
theorem ggX4_isNozzle_X4_in : GoodIn wsX4_isNozzle wsX4_in := goodIn_sub (sb_c (qq_X4_isNozzle_0 4 rfl) (sb_n)) gw_X4_in
set_option maxRecDepth 20000 in
theorem gX4_isNozzle_X4_in : GoodIn wsX4_isNozzle (va_wsS RX4 95 yX4_in wsX4_in) := goodIn_app (goodIn_sub (sb_c (qq_X4_isNozzle_0 1 rfl) (sb_c (qq_X4_isNozzle_0 2 rfl) (sb_c (qq_X4_isNozzle_0 3 rfl) sb_n))) (by decide +kernel)) ggX4_isNozzle_X4_in
theorem dX4_isNozzle_0 : decode cX4_isNozzle 0 = .ok (.iload_n 1, 1) := by decide +kernel
theorem dX4_isNozzle_1 : decode cX4_isNozzle 1 = .ok (.iconst 0, 1) := by decide +kernel
theorem dX4_isNozzle_2 : decode cX4_isNozzle 2 = .ok (.aload_n 0, 1) := by decide +kernel
theorem dX4_isNozzle_3 : decode cX4_isNozzle 3 = .ok (.getfield 13, 3) := by decide +kernel
theorem dX4_isNozzle_6 : decode cX4_isNozzle 6 = .ok (.iconst 0, 1) := by decide +kernel
theorem dX4_isNozzle_7 : decode cX4_isNozzle 7 = .ok (.iaload, 1) := by decide +kernel
theorem dX4_isNozzle_8 : decode cX4_isNozzle 8 = .ok (.iconst 1, 1) := by decide +kernel
theorem dX4_isNozzle_9 : decode cX4_isNozzle 9 = .ok (.isub, 1) := by decide +kernel
theorem dX4_isNozzle_10 : decode cX4_isNozzle 10 = .ok (.invokestatic 95, 3) := by decide +kernel
theorem dX4_isNozzle_13 : decode cX4_isNozzle 13 = .ok (.ireturn, 1) := by decide +kernel
theorem qq_X4_passOf_0 {c : Cond} (j : Nat) (h : wsX4_passOf_r1[j]? = some c) : c ∈ wsX4_passOf := List.mem_cons_of_mem _ (List.mem_append_left _ (List.mem_append_left _ (List.mem_of_getElem? h)))
theorem qq_X4_passOf_1 {c : Cond} (j : Nat) (h : wsX4_passOf_r2[j]? = some c) : c ∈ wsX4_passOf := List.mem_cons_of_mem _ (List.mem_append_left _ (List.mem_append_right _ (List.mem_append_left _ (List.mem_of_getElem? h))))
theorem qq_X4_passOf_2 {c : Cond} (j : Nat) (h : wsX4_passOf_r3[j]? = some c) : c ∈ wsX4_passOf := List.mem_cons_of_mem _ (List.mem_append_left _ (List.mem_append_right _ (List.mem_append_right _ (List.mem_append_left _ (List.mem_of_getElem? h)))))
theorem qq_X4_passOf_3 {c : Cond} (j : Nat) (h : wsX4_passOf_r4[j]? = some c) : c ∈ wsX4_passOf := List.mem_cons_of_mem _ (List.mem_append_left _ (List.mem_append_right _ (List.mem_append_right _ (List.mem_append_right _ (List.mem_of_getElem? h)))))
theorem uq_X4_passOf_X4 : wsub wsX40 wsX4_passOf := fun _ h => List.mem_cons_of_mem _ (List.mem_append_right _ (h))
set_option maxRecDepth 20000 in
theorem ggX4_passOf_X4_runsTold : GoodIn wsX4_passOf wsX4_runsTold := goodIn_sub (sb_c (qq_X4_passOf_0 6 rfl) (sb_a (sb_a (sb_c (qq_X4_passOf_0 7 rfl) (sb_c (qq_X4_passOf_0 8 rfl) (sb_c (qq_X4_passOf_0 9 rfl) (sb_c (qq_X4_passOf_0 5 rfl) (sb_c (qq_X4_passOf_0 10 rfl) (sb_c (qq_X4_passOf_0 11 rfl) (sb_c (qq_X4_passOf_0 12 rfl) (sb_c (qq_X4_passOf_0 13 rfl) (sb_c (qq_X4_passOf_0 14 rfl) (sb_c (qq_X4_passOf_0 15 rfl) (sb_c (qq_X4_passOf_0 16 rfl) (sb_c (qq_X4_passOf_0 17 rfl) (sb_c (qq_X4_passOf_0 18 rfl) (sb_c (qq_X4_passOf_0 19 rfl) (sb_c (qq_X4_passOf_0 20 rfl) (sb_c (qq_X4_passOf_0 21 rfl) (sb_c (qq_X4_passOf_0 22 rfl) (sb_c (qq_X4_passOf_0 23 rfl) (sb_c (qq_X4_passOf_1 0 rfl) (sb_c (qq_X4_passOf_0 0 rfl) (sb_c (qq_X4_passOf_0 1 rfl) (sb_c (qq_X4_passOf_1 1 rfl) (sb_c (qq_X4_passOf_1 2 rfl) (sb_c (qq_X4_passOf_1 3 rfl) sb_n)))))))))))))))))))))))) (sb_a (sb_c (qq_X4_passOf_1 4 rfl) (sb_c (qq_X4_passOf_1 5 rfl) (sb_c (qq_X4_passOf_1 6 rfl) (sb_c (qq_X4_passOf_1 7 rfl) (sb_c (qq_X4_passOf_1 8 rfl) (sb_c (qq_X4_passOf_1 9 rfl) (sb_c (qq_X4_passOf_1 10 rfl) (sb_c (qq_X4_passOf_1 11 rfl) (sb_c (qq_X4_passOf_1 12 rfl) (sb_c (qq_X4_passOf_1 13 rfl) (sb_c (qq_X4_passOf_1 14 rfl) (sb_c (qq_X4_passOf_1 15 rfl) (sb_c (qq_X4_passOf_1 16 rfl) (sb_c (qq_X4_passOf_1 17 rfl) (sb_c (qq_X4_passOf_1 18 rfl) (sb_c (qq_X4_passOf_1 19 rfl) (sb_c (qq_X4_passOf_1 20 rfl) (sb_c (qq_X4_passOf_1 21 rfl) (sb_c (qq_X4_passOf_1 22 rfl) (sb_c (qq_X4_passOf_1 23 rfl) (sb_c (qq_X4_passOf_2 0 rfl) (sb_c (qq_X4_passOf_2 1 rfl) (sb_c (qq_X4_passOf_2 2 rfl) (sb_c (qq_X4_passOf_2 3 rfl) sb_n)))))))))))))))))))))))) (sb_c (qq_X4_passOf_2 4 rfl) (sb_c (qq_X4_passOf_2 5 rfl) (sb_c (qq_X4_passOf_2 6 rfl) (sb_c (qq_X4_passOf_2 7 rfl) (sb_c (qq_X4_passOf_2 8 rfl) (sb_c (qq_X4_passOf_2 9 rfl) (sb_c (qq_X4_passOf_2 10 rfl) (sb_c (qq_X4_passOf_2 11 rfl) (sb_c (qq_X4_passOf_2 12 rfl) (sb_c (qq_X4_passOf_2 13 rfl) (sb_c (qq_X4_passOf_2 14 rfl) (sb_c (qq_X4_passOf_2 15 rfl) (sb_c (qq_X4_passOf_2 16 rfl) (sb_c (qq_X4_passOf_2 17 rfl) (sb_c (qq_X4_passOf_2 18 rfl) (sb_c (qq_X4_passOf_2 19 rfl) (sb_c (qq_X4_passOf_2 20 rfl) (sb_c (qq_X4_passOf_2 21 rfl) (sb_c (qq_X4_passOf_2 22 rfl) (sb_c (qq_X4_passOf_2 23 rfl) (sb_c (qq_X4_passOf_3 0 rfl) (sb_c (qq_X4_passOf_3 1 rfl) (sb_c (qq_X4_passOf_3 2 rfl) (sb_c (qq_X4_passOf_3 3 rfl) sb_n)))))))))))))))))))))))))) (uq_X4_passOf_X4))) gw_X4_runsTold
set_option maxRecDepth 20000 in
theorem gX4_passOf_X4_runsTold : GoodIn wsX4_passOf (wsV RX4 168 RX4 yX4_runsTold wsX4_runsTold) := goodIn_app (goodIn_sub (sb_c (qq_X4_passOf_0 2 rfl) (sb_c (qq_X4_passOf_0 3 rfl) (sb_c (qq_X4_passOf_0 4 rfl) (sb_c (qq_X4_passOf_0 5 rfl) sb_n)))) (by decide +kernel)) ggX4_passOf_X4_runsTold
set_option maxRecDepth 20000 in
theorem ggX4_passOf_X4_isAlive : GoodIn wsX4_passOf wsX4_isAlive := goodIn_sub (sb_c (qq_X4_passOf_2 4 rfl) (sb_a (sb_c (qq_X4_passOf_2 5 rfl) (sb_c (qq_X4_passOf_2 6 rfl) (sb_c (qq_X4_passOf_2 7 rfl) (sb_c (qq_X4_passOf_0 15 rfl) (sb_c (qq_X4_passOf_0 16 rfl) (sb_c (qq_X4_passOf_2 8 rfl) (sb_c (qq_X4_passOf_2 9 rfl) (sb_c (qq_X4_passOf_2 10 rfl) (sb_c (qq_X4_passOf_0 5 rfl) (sb_c (qq_X4_passOf_2 11 rfl) sb_n)))))))))) (uq_X4_passOf_X4))) gw_X4_isAlive
set_option maxRecDepth 20000 in
theorem gX4_passOf_X4_isAlive : GoodIn wsX4_passOf (wsV RX4 127 RX4 yX4_isAlive wsX4_isAlive) := goodIn_app (goodIn_sub (sb_c (qq_X4_passOf_2 1 rfl) (sb_c (qq_X4_passOf_2 2 rfl) (sb_c (qq_X4_passOf_2 3 rfl) (sb_c (qq_X4_passOf_0 5 rfl) sb_n)))) (by decide +kernel)) ggX4_passOf_X4_isAlive
theorem dX4_passOf_0 : decode cX4_passOf 0 = .ok (.aload_n 0, 1) := by decide +kernel
theorem dX4_passOf_1 : decode cX4_passOf 1 = .ok (.invokevirtual 168, 3) := by decide +kernel
theorem dX4_passOf_4 : decode cX4_passOf 4 = .ok (.iload_n 3, 1) := by decide +kernel
theorem dX4_passOf_5 : decode cX4_passOf 5 = .ok (.ifCond .ne 17, 3) := by decide +kernel
theorem dX4_passOf_8 : decode cX4_passOf 8 = .ok (.aload_n 0, 1) := by decide +kernel
theorem dX4_passOf_9 : decode cX4_passOf 9 = .ok (.getfield 52, 3) := by decide +kernel
theorem dX4_passOf_12 : decode cX4_passOf 12 = .ok (.bipush 8, 2) := by decide +kernel
theorem dX4_passOf_14 : decode cX4_passOf 14 = .ok (.iload_n 1, 1) := by decide +kernel
theorem dX4_passOf_15 : decode cX4_passOf 15 = .ok (.imul, 1) := by decide +kernel
theorem dX4_passOf_16 : decode cX4_passOf 16 = .ok (.iload_n 2, 1) := by decide +kernel
theorem dX4_passOf_17 : decode cX4_passOf 17 = .ok (.iadd, 1) := by decide +kernel
theorem dX4_passOf_18 : decode cX4_passOf 18 = .ok (.iaload, 1) := by decide +kernel
theorem dX4_passOf_19 : decode cX4_passOf 19 = .ok (.goto 36, 3) := by decide +kernel
theorem dX4_passOf_22 : decode cX4_passOf 22 = .ok (.iload_n 3, 1) := by decide +kernel
theorem dX4_passOf_23 : decode cX4_passOf 23 = .ok (.iconst 1, 1) := by decide +kernel
theorem dX4_passOf_24 : decode cX4_passOf 24 = .ok (.if_icmp .ne 17, 3) := by decide +kernel
theorem dX4_passOf_27 : decode cX4_passOf 27 = .ok (.aload_n 0, 1) := by decide +kernel
theorem dX4_passOf_28 : decode cX4_passOf 28 = .ok (.getfield 55, 3) := by decide +kernel
theorem dX4_passOf_31 : decode cX4_passOf 31 = .ok (.bipush 8, 2) := by decide +kernel
theorem dX4_passOf_33 : decode cX4_passOf 33 = .ok (.iload_n 1, 1) := by decide +kernel
theorem dX4_passOf_34 : decode cX4_passOf 34 = .ok (.imul, 1) := by decide +kernel
theorem dX4_passOf_35 : decode cX4_passOf 35 = .ok (.iload_n 2, 1) := by decide +kernel
theorem dX4_passOf_36 : decode cX4_passOf 36 = .ok (.iadd, 1) := by decide +kernel
theorem dX4_passOf_37 : decode cX4_passOf 37 = .ok (.iaload, 1) := by decide +kernel
theorem dX4_passOf_38 : decode cX4_passOf 38 = .ok (.goto 17, 3) := by decide +kernel
theorem dX4_passOf_41 : decode cX4_passOf 41 = .ok (.aload_n 0, 1) := by decide +kernel
theorem dX4_passOf_42 : decode cX4_passOf 42 = .ok (.iload_n 1, 1) := by decide +kernel
theorem dX4_passOf_43 : decode cX4_passOf 43 = .ok (.iload_n 2, 1) := by decide +kernel
theorem dX4_passOf_44 : decode cX4_passOf 44 = .ok (.invokevirtual 127, 3) := by decide +kernel
theorem dX4_passOf_47 : decode cX4_passOf 47 = .ok (.ifCond .eq 7, 3) := by decide +kernel
theorem dX4_passOf_50 : decode cX4_passOf 50 = .ok (.iconst 1, 1) := by decide +kernel
theorem dX4_passOf_51 : decode cX4_passOf 51 = .ok (.goto 4, 3) := by decide +kernel
theorem dX4_passOf_54 : decode cX4_passOf 54 = .ok (.iconst 0, 1) := by decide +kernel
theorem dX4_passOf_55 : decode cX4_passOf 55 = .ok (.ireturn, 1) := by decide +kernel
theorem qq_X4_pass_0 {c : Cond} (j : Nat) (h : wsX4_pass_r1[j]? = some c) : c ∈ wsX4_pass := List.mem_cons_of_mem _ (List.mem_append_left _ (List.mem_append_left _ (List.mem_of_getElem? h)))
theorem qq_X4_pass_1 {c : Cond} (j : Nat) (h : wsX4_pass_r2[j]? = some c) : c ∈ wsX4_pass := List.mem_cons_of_mem _ (List.mem_append_left _ (List.mem_append_right _ (List.mem_append_left _ (List.mem_of_getElem? h))))
theorem qq_X4_pass_2 {c : Cond} (j : Nat) (h : wsX4_pass_r3[j]? = some c) : c ∈ wsX4_pass := List.mem_cons_of_mem _ (List.mem_append_left _ (List.mem_append_right _ (List.mem_append_right _ (List.mem_append_left _ (List.mem_of_getElem? h)))))
theorem qq_X4_pass_3 {c : Cond} (j : Nat) (h : wsX4_pass_r4[j]? = some c) : c ∈ wsX4_pass := List.mem_cons_of_mem _ (List.mem_append_left _ (List.mem_append_right _ (List.mem_append_right _ (List.mem_append_right _ (List.mem_of_getElem? h)))))
theorem uq_X4_pass_X4 : wsub wsX40 wsX4_pass := fun _ h => List.mem_cons_of_mem _ (List.mem_append_right _ (h))
set_option maxRecDepth 20000 in
theorem ggX4_pass_X4_in : GoodIn wsX4_pass wsX4_in := goodIn_sub (sb_c (qq_X4_pass_0 4 rfl) (sb_n)) gw_X4_in
set_option maxRecDepth 20000 in
theorem gX4_pass_X4_in : GoodIn wsX4_pass (va_wsS RX4 95 yX4_in wsX4_in) := goodIn_app (goodIn_sub (sb_c (qq_X4_pass_0 1 rfl) (sb_c (qq_X4_pass_0 2 rfl) (sb_c (qq_X4_pass_0 3 rfl) sb_n))) (by decide +kernel)) ggX4_pass_X4_in
set_option maxRecDepth 20000 in
theorem gw_X4_isNozzle : wsX4_isNozzle.all goodWord = true := by decide +kernel
set_option maxRecDepth 20000 in
theorem ggX4_pass_X4_isNozzle : GoodIn wsX4_pass wsX4_isNozzle := goodIn_sub (sb_c (qq_X4_pass_0 8 rfl) (sb_a (sb_c (qq_X4_pass_0 0 rfl) (sb_c (qq_X4_pass_0 1 rfl) (sb_c (qq_X4_pass_0 2 rfl) (sb_c (qq_X4_pass_0 3 rfl) (sb_c (qq_X4_pass_0 4 rfl) sb_n))))) (uq_X4_pass_X4))) gw_X4_isNozzle
set_option maxRecDepth 20000 in
theorem gX4_pass_X4_isNozzle : GoodIn wsX4_pass (wsV RX4 194 RX4 yX4_isNozzle wsX4_isNozzle) := goodIn_app (goodIn_sub (sb_c (qq_X4_pass_0 5 rfl) (sb_c (qq_X4_pass_0 6 rfl) (sb_c (qq_X4_pass_0 7 rfl) (sb_c (qq_X4_pass_0 3 rfl) sb_n)))) (by decide +kernel)) ggX4_pass_X4_isNozzle
set_option maxRecDepth 20000 in
theorem gw_X4_isThree : wsX4_isThree.all goodWord = true := by decide +kernel
set_option maxRecDepth 20000 in
theorem ggX4_pass_X4_isThree : GoodIn wsX4_pass wsX4_isThree := goodIn_sub (sb_c (qq_X4_pass_0 11 rfl) (sb_c (qq_X4_pass_0 1 rfl) (sb_c (qq_X4_pass_0 2 rfl) (sb_c (qq_X4_pass_0 3 rfl) (sb_c (qq_X4_pass_0 4 rfl) sb_n))))) gw_X4_isThree
set_option maxRecDepth 20000 in
theorem gX4_pass_X4_isThree : GoodIn wsX4_pass (va_wsS RX4 197 yX4_isThree wsX4_isThree) := goodIn_app (goodIn_sub (sb_c (qq_X4_pass_0 9 rfl) (sb_c (qq_X4_pass_0 10 rfl) (sb_c (qq_X4_pass_0 3 rfl) sb_n))) (by decide +kernel)) ggX4_pass_X4_isThree
set_option maxRecDepth 20000 in
theorem gw_X4_passOf : wsX4_passOf.all goodWord = true := by decide +kernel
set_option maxRecDepth 20000 in
theorem ggX4_pass_X4_passOf : GoodIn wsX4_pass wsX4_passOf := goodIn_sub (sb_c (qq_X4_pass_0 15 rfl) (sb_a (sb_a (sb_c (qq_X4_pass_0 16 rfl) (sb_c (qq_X4_pass_0 17 rfl) (sb_c (qq_X4_pass_0 18 rfl) (sb_c (qq_X4_pass_0 19 rfl) (sb_c (qq_X4_pass_0 20 rfl) (sb_c (qq_X4_pass_0 3 rfl) (sb_c (qq_X4_pass_0 21 rfl) (sb_c (qq_X4_pass_0 22 rfl) (sb_c (qq_X4_pass_0 23 rfl) (sb_c (qq_X4_pass_1 0 rfl) (sb_c (qq_X4_pass_1 1 rfl) (sb_c (qq_X4_pass_1 2 rfl) (sb_c (qq_X4_pass_1 3 rfl) (sb_c (qq_X4_pass_1 4 rfl) (sb_c (qq_X4_pass_0 0 rfl) (sb_c (qq_X4_pass_1 5 rfl) (sb_c (qq_X4_pass_1 6 rfl) (sb_c (qq_X4_pass_1 7 rfl) (sb_c (qq_X4_pass_1 8 rfl) (sb_c (qq_X4_pass_1 9 rfl) (sb_c (qq_X4_pass_1 10 rfl) (sb_c (qq_X4_pass_1 11 rfl) (sb_c (qq_X4_pass_1 12 rfl) (sb_c (qq_X4_pass_1 13 rfl) sb_n)))))))))))))))))))))))) (sb_a (sb_c (qq_X4_pass_1 14 rfl) (sb_c (qq_X4_pass_1 15 rfl) (sb_c (qq_X4_pass_1 16 rfl) (sb_c (qq_X4_pass_1 17 rfl) (sb_c (qq_X4_pass_1 18 rfl) (sb_c (qq_X4_pass_1 19 rfl) (sb_c (qq_X4_pass_1 20 rfl) (sb_c (qq_X4_pass_1 21 rfl) (sb_c (qq_X4_pass_1 22 rfl) (sb_c (qq_X4_pass_1 23 rfl) (sb_c (qq_X4_pass_2 0 rfl) (sb_c (qq_X4_pass_2 1 rfl) (sb_c (qq_X4_pass_2 2 rfl) (sb_c (qq_X4_pass_0 1 rfl) (sb_c (qq_X4_pass_0 2 rfl) (sb_c (qq_X4_pass_0 4 rfl) (sb_c (qq_X4_pass_2 3 rfl) (sb_c (qq_X4_pass_2 4 rfl) (sb_c (qq_X4_pass_2 5 rfl) (sb_c (qq_X4_pass_2 6 rfl) (sb_c (qq_X4_pass_2 7 rfl) (sb_c (qq_X4_pass_2 8 rfl) (sb_c (qq_X4_pass_2 9 rfl) (sb_c (qq_X4_pass_2 10 rfl) sb_n)))))))))))))))))))))))) (sb_a (sb_c (qq_X4_pass_2 11 rfl) (sb_c (qq_X4_pass_2 12 rfl) (sb_c (qq_X4_pass_2 13 rfl) (sb_c (qq_X4_pass_2 14 rfl) (sb_c (qq_X4_pass_2 15 rfl) (sb_c (qq_X4_pass_2 16 rfl) (sb_c (qq_X4_pass_2 17 rfl) (sb_c (qq_X4_pass_2 18 rfl) (sb_c (qq_X4_pass_2 19 rfl) (sb_c (qq_X4_pass_2 20 rfl) (sb_c (qq_X4_pass_2 21 rfl) (sb_c (qq_X4_pass_2 22 rfl) (sb_c (qq_X4_pass_2 23 rfl) (sb_c (qq_X4_pass_3 0 rfl) (sb_c (qq_X4_pass_3 1 rfl) (sb_c (qq_X4_pass_3 2 rfl) (sb_c (qq_X4_pass_3 3 rfl) (sb_c (qq_X4_pass_3 4 rfl) (sb_c (qq_X4_pass_3 5 rfl) (sb_c (qq_X4_pass_3 6 rfl) (sb_c (qq_X4_pass_3 7 rfl) (sb_c (qq_X4_pass_3 8 rfl) (sb_c (qq_X4_pass_3 9 rfl) (sb_c (qq_X4_pass_3 10 rfl) sb_n)))))))))))))))))))))))) (sb_c (qq_X4_pass_3 11 rfl) (sb_c (qq_X4_pass_3 12 rfl) (sb_c (qq_X4_pass_3 13 rfl) (sb_c (qq_X4_pass_3 14 rfl) sb_n))))))) (uq_X4_pass_X4))) gw_X4_passOf
set_option maxRecDepth 20000 in
theorem gX4_pass_X4_passOf : GoodIn wsX4_pass (wsV RX4 200 RX4 yX4_passOf wsX4_passOf) := goodIn_app (goodIn_sub (sb_c (qq_X4_pass_0 12 rfl) (sb_c (qq_X4_pass_0 13 rfl) (sb_c (qq_X4_pass_0 14 rfl) (sb_c (qq_X4_pass_0 3 rfl) sb_n)))) (by decide +kernel)) ggX4_pass_X4_passOf
theorem dX4_pass_0 : decode cX4_pass 0 = .ok (.iload_n 1, 1) := by decide +kernel
theorem dX4_pass_1 : decode cX4_pass 1 = .ok (.iconst 0, 1) := by decide +kernel
theorem dX4_pass_2 : decode cX4_pass 2 = .ok (.aload_n 0, 1) := by decide +kernel
theorem dX4_pass_3 : decode cX4_pass 3 = .ok (.getfield 13, 3) := by decide +kernel
theorem dX4_pass_6 : decode cX4_pass 6 = .ok (.iconst 3, 1) := by decide +kernel
theorem dX4_pass_7 : decode cX4_pass 7 = .ok (.iaload, 1) := by decide +kernel
theorem dX4_pass_8 : decode cX4_pass 8 = .ok (.iconst 1, 1) := by decide +kernel
theorem dX4_pass_9 : decode cX4_pass 9 = .ok (.isub, 1) := by decide +kernel
theorem dX4_pass_10 : decode cX4_pass 10 = .ok (.invokestatic 95, 3) := by decide +kernel
theorem dX4_pass_13 : decode cX4_pass 13 = .ok (.ifCond .eq 28, 3) := by decide +kernel
theorem dX4_pass_16 : decode cX4_pass 16 = .ok (.aload_n 0, 1) := by decide +kernel
theorem dX4_pass_17 : decode cX4_pass 17 = .ok (.iload_n 2, 1) := by decide +kernel
theorem dX4_pass_18 : decode cX4_pass 18 = .ok (.invokevirtual 194, 3) := by decide +kernel
theorem dX4_pass_21 : decode cX4_pass 21 = .ok (.ifCond .eq 20, 3) := by decide +kernel
theorem dX4_pass_24 : decode cX4_pass 24 = .ok (.iload_n 3, 1) := by decide +kernel
theorem dX4_pass_25 : decode cX4_pass 25 = .ok (.invokestatic 197, 3) := by decide +kernel
theorem dX4_pass_28 : decode cX4_pass 28 = .ok (.ifCond .eq 13, 3) := by decide +kernel
theorem dX4_pass_31 : decode cX4_pass 31 = .ok (.aload_n 0, 1) := by decide +kernel
theorem dX4_pass_32 : decode cX4_pass 32 = .ok (.iload_n 1, 1) := by decide +kernel
theorem dX4_pass_33 : decode cX4_pass 33 = .ok (.iload_n 2, 1) := by decide +kernel
theorem dX4_pass_34 : decode cX4_pass 34 = .ok (.iload_n 3, 1) := by decide +kernel
theorem dX4_pass_35 : decode cX4_pass 35 = .ok (.invokevirtual 200, 3) := by decide +kernel
theorem dX4_pass_38 : decode cX4_pass 38 = .ok (.goto 5, 3) := by decide +kernel
theorem dX4_pass_41 : decode cX4_pass 41 = .ok (.bipush (-2), 2) := by decide +kernel
theorem dX4_pass_43 : decode cX4_pass 43 = .ok (.ireturn, 1) := by decide +kernel
theorem dX4_guttersNow_0 : decode cX4_guttersNow 0 = .ok (.iconst 0, 1) := by decide +kernel
theorem dX4_guttersNow_1 : decode cX4_guttersNow 1 = .ok (.istore_n 1, 1) := by decide +kernel
theorem dX4_guttersNow_2 : decode cX4_guttersNow 2 = .ok (.iconst 0, 1) := by decide +kernel
theorem dX4_guttersNow_3 : decode cX4_guttersNow 3 = .ok (.istore_n 2, 1) := by decide +kernel
theorem dX4_guttersNow_4 : decode cX4_guttersNow 4 = .ok (.iload_n 2, 1) := by decide +kernel
theorem dX4_guttersNow_5 : decode cX4_guttersNow 5 = .ok (.bipush 96, 2) := by decide +kernel
theorem dX4_guttersNow_7 : decode cX4_guttersNow 7 = .ok (.if_icmp .ge 18, 3) := by decide +kernel
theorem dX4_guttersNow_10 : decode cX4_guttersNow 10 = .ok (.iload_n 1, 1) := by decide +kernel
theorem dX4_guttersNow_11 : decode cX4_guttersNow 11 = .ok (.aload_n 0, 1) := by decide +kernel
theorem dX4_guttersNow_12 : decode cX4_guttersNow 12 = .ok (.getfield 55, 3) := by decide +kernel
theorem dX4_guttersNow_15 : decode cX4_guttersNow 15 = .ok (.iload_n 2, 1) := by decide +kernel
theorem dX4_guttersNow_16 : decode cX4_guttersNow 16 = .ok (.iaload, 1) := by decide +kernel
theorem dX4_guttersNow_17 : decode cX4_guttersNow 17 = .ok (.iadd, 1) := by decide +kernel
theorem dX4_guttersNow_18 : decode cX4_guttersNow 18 = .ok (.istore_n 1, 1) := by decide +kernel
theorem dX4_guttersNow_19 : decode cX4_guttersNow 19 = .ok (.iinc 2 1, 3) := by decide +kernel
theorem dX4_guttersNow_22 : decode cX4_guttersNow 22 = .ok (.goto (-18), 3) := by decide +kernel
theorem dX4_guttersNow_25 : decode cX4_guttersNow 25 = .ok (.iload_n 1, 1) := by decide +kernel
theorem dX4_guttersNow_26 : decode cX4_guttersNow 26 = .ok (.ireturn, 1) := by decide +kernel
theorem qq_X4_dotsNow_0 {c : Cond} (j : Nat) (h : ([.fieldLink RX4 25 "InkSwathsModel" "dots" "[I", .methodLink RX4 203 yX4_many, .static yX4_many, .initialized RX4, .code yX4_many cX4_many 3 (some .int), .methodLink RX4 91 yX4_isIn, .static yX4_isIn, .code yX4_isIn cX4_isIn 2 (some .boolean)] : List Cond)[j]? = some c) : c ∈ wsX4_dotsNow := List.mem_cons_of_mem _ (List.mem_append_left _ (List.mem_of_getElem? h))
theorem uq_X4_dotsNow_X4 : wsub wsX40 wsX4_dotsNow := fun _ h => List.mem_cons_of_mem _ (List.mem_append_right _ (h))
set_option maxRecDepth 20000 in
theorem gw_X4_many : wsX4_many.all goodWord = true := by decide +kernel
set_option maxRecDepth 20000 in
theorem ggX4_dotsNow_X4_many : GoodIn wsX4_dotsNow wsX4_many := goodIn_sub (sb_c (qq_X4_dotsNow_0 4 rfl) (sb_c (qq_X4_dotsNow_0 5 rfl) (sb_c (qq_X4_dotsNow_0 6 rfl) (sb_c (qq_X4_dotsNow_0 3 rfl) (sb_c (qq_X4_dotsNow_0 7 rfl) sb_n))))) gw_X4_many
set_option maxRecDepth 20000 in
theorem gX4_dotsNow_X4_many : GoodIn wsX4_dotsNow (va_wsS RX4 203 yX4_many wsX4_many) := goodIn_app (goodIn_sub (sb_c (qq_X4_dotsNow_0 1 rfl) (sb_c (qq_X4_dotsNow_0 2 rfl) (sb_c (qq_X4_dotsNow_0 3 rfl) sb_n))) (by decide +kernel)) ggX4_dotsNow_X4_many
theorem dX4_dotsNow_0 : decode cX4_dotsNow 0 = .ok (.iconst 0, 1) := by decide +kernel
theorem dX4_dotsNow_1 : decode cX4_dotsNow 1 = .ok (.istore_n 1, 1) := by decide +kernel
theorem dX4_dotsNow_2 : decode cX4_dotsNow 2 = .ok (.iconst 0, 1) := by decide +kernel
theorem dX4_dotsNow_3 : decode cX4_dotsNow 3 = .ok (.istore_n 2, 1) := by decide +kernel
theorem dX4_dotsNow_4 : decode cX4_dotsNow 4 = .ok (.iload_n 2, 1) := by decide +kernel
theorem dX4_dotsNow_5 : decode cX4_dotsNow 5 = .ok (.bipush 16, 2) := by decide +kernel
theorem dX4_dotsNow_7 : decode cX4_dotsNow 7 = .ok (.if_icmp .ge 21, 3) := by decide +kernel
theorem dX4_dotsNow_10 : decode cX4_dotsNow 10 = .ok (.iload_n 1, 1) := by decide +kernel
theorem dX4_dotsNow_11 : decode cX4_dotsNow 11 = .ok (.aload_n 0, 1) := by decide +kernel
theorem dX4_dotsNow_12 : decode cX4_dotsNow 12 = .ok (.getfield 25, 3) := by decide +kernel
theorem dX4_dotsNow_15 : decode cX4_dotsNow 15 = .ok (.iload_n 2, 1) := by decide +kernel
theorem dX4_dotsNow_16 : decode cX4_dotsNow 16 = .ok (.iaload, 1) := by decide +kernel
theorem dX4_dotsNow_17 : decode cX4_dotsNow 17 = .ok (.invokestatic 203, 3) := by decide +kernel
theorem dX4_dotsNow_20 : decode cX4_dotsNow 20 = .ok (.iadd, 1) := by decide +kernel
theorem dX4_dotsNow_21 : decode cX4_dotsNow 21 = .ok (.istore_n 1, 1) := by decide +kernel
theorem dX4_dotsNow_22 : decode cX4_dotsNow 22 = .ok (.iinc 2 1, 3) := by decide +kernel
theorem dX4_dotsNow_25 : decode cX4_dotsNow 25 = .ok (.goto (-21), 3) := by decide +kernel
theorem dX4_dotsNow_28 : decode cX4_dotsNow 28 = .ok (.iload_n 1, 1) := by decide +kernel
theorem dX4_dotsNow_29 : decode cX4_dotsNow 29 = .ok (.ireturn, 1) := by decide +kernel
theorem qq_X4_sumOf_0 {c : Cond} (j : Nat) (h : wsX4_sumOf_r1[j]? = some c) : c ∈ wsX4_sumOf := List.mem_cons_of_mem _ (List.mem_append_left _ (List.mem_append_left _ (List.mem_of_getElem? h)))
theorem qq_X4_sumOf_1 {c : Cond} (j : Nat) (h : wsX4_sumOf_r2[j]? = some c) : c ∈ wsX4_sumOf := List.mem_cons_of_mem _ (List.mem_append_left _ (List.mem_append_right _ (List.mem_append_left _ (List.mem_of_getElem? h))))
theorem qq_X4_sumOf_2 {c : Cond} (j : Nat) (h : wsX4_sumOf_r3[j]? = some c) : c ∈ wsX4_sumOf := List.mem_cons_of_mem _ (List.mem_append_left _ (List.mem_append_right _ (List.mem_append_right _ (List.mem_append_left _ (List.mem_of_getElem? h)))))
theorem qq_X4_sumOf_3 {c : Cond} (j : Nat) (h : wsX4_sumOf_r4[j]? = some c) : c ∈ wsX4_sumOf := List.mem_cons_of_mem _ (List.mem_append_left _ (List.mem_append_right _ (List.mem_append_right _ (List.mem_append_right _ (List.mem_of_getElem? h)))))
theorem uq_X4_sumOf_X4 : wsub wsX40 wsX4_sumOf := fun _ h => List.mem_cons_of_mem _ (List.mem_append_right _ (h))
set_option maxRecDepth 20000 in
theorem ggX4_sumOf_X4_runsTold : GoodIn wsX4_sumOf wsX4_runsTold := goodIn_sub (sb_c (qq_X4_sumOf_0 7 rfl) (sb_a (sb_a (sb_c (qq_X4_sumOf_0 8 rfl) (sb_c (qq_X4_sumOf_0 9 rfl) (sb_c (qq_X4_sumOf_0 10 rfl) (sb_c (qq_X4_sumOf_0 6 rfl) (sb_c (qq_X4_sumOf_0 11 rfl) (sb_c (qq_X4_sumOf_0 12 rfl) (sb_c (qq_X4_sumOf_0 13 rfl) (sb_c (qq_X4_sumOf_0 14 rfl) (sb_c (qq_X4_sumOf_0 15 rfl) (sb_c (qq_X4_sumOf_0 16 rfl) (sb_c (qq_X4_sumOf_0 17 rfl) (sb_c (qq_X4_sumOf_0 18 rfl) (sb_c (qq_X4_sumOf_0 19 rfl) (sb_c (qq_X4_sumOf_0 20 rfl) (sb_c (qq_X4_sumOf_0 21 rfl) (sb_c (qq_X4_sumOf_0 0 rfl) (sb_c (qq_X4_sumOf_0 2 rfl) (sb_c (qq_X4_sumOf_0 1 rfl) (sb_c (qq_X4_sumOf_0 22 rfl) (sb_c (qq_X4_sumOf_0 23 rfl) (sb_c (qq_X4_sumOf_1 0 rfl) (sb_c (qq_X4_sumOf_1 1 rfl) (sb_c (qq_X4_sumOf_1 2 rfl) (sb_c (qq_X4_sumOf_1 3 rfl) sb_n)))))))))))))))))))))))) (sb_a (sb_c (qq_X4_sumOf_1 4 rfl) (sb_c (qq_X4_sumOf_1 5 rfl) (sb_c (qq_X4_sumOf_1 6 rfl) (sb_c (qq_X4_sumOf_1 7 rfl) (sb_c (qq_X4_sumOf_1 8 rfl) (sb_c (qq_X4_sumOf_1 9 rfl) (sb_c (qq_X4_sumOf_1 10 rfl) (sb_c (qq_X4_sumOf_1 11 rfl) (sb_c (qq_X4_sumOf_1 12 rfl) (sb_c (qq_X4_sumOf_1 13 rfl) (sb_c (qq_X4_sumOf_1 14 rfl) (sb_c (qq_X4_sumOf_1 15 rfl) (sb_c (qq_X4_sumOf_1 16 rfl) (sb_c (qq_X4_sumOf_1 17 rfl) (sb_c (qq_X4_sumOf_1 18 rfl) (sb_c (qq_X4_sumOf_1 19 rfl) (sb_c (qq_X4_sumOf_1 20 rfl) (sb_c (qq_X4_sumOf_1 21 rfl) (sb_c (qq_X4_sumOf_1 22 rfl) (sb_c (qq_X4_sumOf_1 23 rfl) (sb_c (qq_X4_sumOf_2 0 rfl) (sb_c (qq_X4_sumOf_2 1 rfl) (sb_c (qq_X4_sumOf_2 2 rfl) (sb_c (qq_X4_sumOf_2 3 rfl) sb_n)))))))))))))))))))))))) (sb_c (qq_X4_sumOf_2 4 rfl) (sb_c (qq_X4_sumOf_2 5 rfl) (sb_c (qq_X4_sumOf_2 6 rfl) (sb_c (qq_X4_sumOf_2 7 rfl) (sb_c (qq_X4_sumOf_2 8 rfl) (sb_c (qq_X4_sumOf_2 9 rfl) (sb_c (qq_X4_sumOf_2 10 rfl) (sb_c (qq_X4_sumOf_2 11 rfl) (sb_c (qq_X4_sumOf_2 12 rfl) (sb_c (qq_X4_sumOf_2 13 rfl) (sb_c (qq_X4_sumOf_2 14 rfl) (sb_c (qq_X4_sumOf_2 15 rfl) (sb_c (qq_X4_sumOf_2 16 rfl) (sb_c (qq_X4_sumOf_2 17 rfl) (sb_c (qq_X4_sumOf_2 18 rfl) (sb_c (qq_X4_sumOf_2 19 rfl) (sb_c (qq_X4_sumOf_2 20 rfl) (sb_c (qq_X4_sumOf_2 21 rfl) (sb_c (qq_X4_sumOf_2 22 rfl) (sb_c (qq_X4_sumOf_2 23 rfl) (sb_c (qq_X4_sumOf_3 0 rfl) (sb_c (qq_X4_sumOf_3 1 rfl) (sb_c (qq_X4_sumOf_3 2 rfl) (sb_c (qq_X4_sumOf_3 3 rfl) sb_n)))))))))))))))))))))))))) (uq_X4_sumOf_X4))) gw_X4_runsTold
set_option maxRecDepth 20000 in
theorem gX4_sumOf_X4_runsTold : GoodIn wsX4_sumOf (wsV RX4 168 RX4 yX4_runsTold wsX4_runsTold) := goodIn_app (goodIn_sub (sb_c (qq_X4_sumOf_0 3 rfl) (sb_c (qq_X4_sumOf_0 4 rfl) (sb_c (qq_X4_sumOf_0 5 rfl) (sb_c (qq_X4_sumOf_0 6 rfl) sb_n)))) (by decide +kernel)) ggX4_sumOf_X4_runsTold
set_option maxRecDepth 20000 in
theorem gw_X4_dotsNow : wsX4_dotsNow.all goodWord = true := by decide +kernel
set_option maxRecDepth 20000 in
theorem ggX4_sumOf_X4_dotsNow : GoodIn wsX4_sumOf wsX4_dotsNow := goodIn_sub (sb_c (qq_X4_sumOf_3 7 rfl) (sb_a (sb_c (qq_X4_sumOf_0 12 rfl) (sb_c (qq_X4_sumOf_3 8 rfl) (sb_c (qq_X4_sumOf_3 9 rfl) (sb_c (qq_X4_sumOf_0 6 rfl) (sb_c (qq_X4_sumOf_3 10 rfl) (sb_c (qq_X4_sumOf_2 9 rfl) (sb_c (qq_X4_sumOf_2 10 rfl) (sb_c (qq_X4_sumOf_2 11 rfl) sb_n)))))))) (uq_X4_sumOf_X4))) gw_X4_dotsNow
set_option maxRecDepth 20000 in
theorem gX4_sumOf_X4_dotsNow : GoodIn wsX4_sumOf (wsV RX4 206 RX4 yX4_dotsNow wsX4_dotsNow) := goodIn_app (goodIn_sub (sb_c (qq_X4_sumOf_3 4 rfl) (sb_c (qq_X4_sumOf_3 5 rfl) (sb_c (qq_X4_sumOf_3 6 rfl) (sb_c (qq_X4_sumOf_0 6 rfl) sb_n)))) (by decide +kernel)) ggX4_sumOf_X4_dotsNow
set_option maxRecDepth 20000 in
theorem gw_X4_guttersNow : wsX4_guttersNow.all goodWord = true := by decide +kernel
set_option maxRecDepth 20000 in
theorem ggX4_sumOf_X4_guttersNow : GoodIn wsX4_sumOf wsX4_guttersNow := goodIn_sub (sb_c (qq_X4_sumOf_3 14 rfl) (sb_a (sb_c (qq_X4_sumOf_1 0 rfl) sb_n) (uq_X4_sumOf_X4))) gw_X4_guttersNow
set_option maxRecDepth 20000 in
theorem gX4_sumOf_X4_guttersNow : GoodIn wsX4_sumOf (wsV RX4 210 RX4 yX4_guttersNow wsX4_guttersNow) := goodIn_app (goodIn_sub (sb_c (qq_X4_sumOf_3 11 rfl) (sb_c (qq_X4_sumOf_3 12 rfl) (sb_c (qq_X4_sumOf_3 13 rfl) (sb_c (qq_X4_sumOf_0 6 rfl) sb_n)))) (by decide +kernel)) ggX4_sumOf_X4_guttersNow
theorem dX4_sumOf_0 : decode cX4_sumOf 0 = .ok (.aload_n 0, 1) := by decide +kernel
theorem dX4_sumOf_1 : decode cX4_sumOf 1 = .ok (.invokevirtual 168, 3) := by decide +kernel
theorem dX4_sumOf_4 : decode cX4_sumOf 4 = .ok (.iload_n 1, 1) := by decide +kernel
theorem dX4_sumOf_5 : decode cX4_sumOf 5 = .ok (.ifCond .ne 10, 3) := by decide +kernel
theorem dX4_sumOf_8 : decode cX4_sumOf 8 = .ok (.aload_n 0, 1) := by decide +kernel
theorem dX4_sumOf_9 : decode cX4_sumOf 9 = .ok (.invokevirtual 206, 3) := by decide +kernel
theorem dX4_sumOf_12 : decode cX4_sumOf 12 = .ok (.goto 36, 3) := by decide +kernel
theorem dX4_sumOf_15 : decode cX4_sumOf 15 = .ok (.iload_n 1, 1) := by decide +kernel
theorem dX4_sumOf_16 : decode cX4_sumOf 16 = .ok (.iconst 1, 1) := by decide +kernel
theorem dX4_sumOf_17 : decode cX4_sumOf 17 = .ok (.if_icmp .ne 10, 3) := by decide +kernel
theorem dX4_sumOf_20 : decode cX4_sumOf 20 = .ok (.aload_n 0, 1) := by decide +kernel
theorem dX4_sumOf_21 : decode cX4_sumOf 21 = .ok (.getfield 146, 3) := by decide +kernel
theorem dX4_sumOf_24 : decode cX4_sumOf 24 = .ok (.goto 24, 3) := by decide +kernel
theorem dX4_sumOf_27 : decode cX4_sumOf 27 = .ok (.iload_n 1, 1) := by decide +kernel
theorem dX4_sumOf_28 : decode cX4_sumOf 28 = .ok (.iconst 2, 1) := by decide +kernel
theorem dX4_sumOf_29 : decode cX4_sumOf 29 = .ok (.if_icmp .ne 15, 3) := by decide +kernel
theorem dX4_sumOf_32 : decode cX4_sumOf 32 = .ok (.aload_n 0, 1) := by decide +kernel
theorem dX4_sumOf_33 : decode cX4_sumOf 33 = .ok (.getfield 140, 3) := by decide +kernel
theorem dX4_sumOf_36 : decode cX4_sumOf 36 = .ok (.aload_n 0, 1) := by decide +kernel
theorem dX4_sumOf_37 : decode cX4_sumOf 37 = .ok (.getfield 143, 3) := by decide +kernel
theorem dX4_sumOf_40 : decode cX4_sumOf 40 = .ok (.isub, 1) := by decide +kernel
theorem dX4_sumOf_41 : decode cX4_sumOf 41 = .ok (.goto 7, 3) := by decide +kernel
theorem dX4_sumOf_44 : decode cX4_sumOf 44 = .ok (.aload_n 0, 1) := by decide +kernel
theorem dX4_sumOf_45 : decode cX4_sumOf 45 = .ok (.invokevirtual 210, 3) := by decide +kernel
theorem dX4_sumOf_48 : decode cX4_sumOf 48 = .ok (.ireturn, 1) := by decide +kernel
theorem qq_X4_sum_0 {c : Cond} (j : Nat) (h : wsX4_sum_r1[j]? = some c) : c ∈ wsX4_sum := List.mem_cons_of_mem _ (List.mem_append_left _ (List.mem_append_left _ (List.mem_of_getElem? h)))
theorem qq_X4_sum_1 {c : Cond} (j : Nat) (h : wsX4_sum_r2[j]? = some c) : c ∈ wsX4_sum := List.mem_cons_of_mem _ (List.mem_append_left _ (List.mem_append_right _ (List.mem_append_left _ (List.mem_of_getElem? h))))
theorem qq_X4_sum_2 {c : Cond} (j : Nat) (h : wsX4_sum_r3[j]? = some c) : c ∈ wsX4_sum := List.mem_cons_of_mem _ (List.mem_append_left _ (List.mem_append_right _ (List.mem_append_right _ (List.mem_append_left _ (List.mem_of_getElem? h)))))
theorem qq_X4_sum_3 {c : Cond} (j : Nat) (h : wsX4_sum_r4[j]? = some c) : c ∈ wsX4_sum := List.mem_cons_of_mem _ (List.mem_append_left _ (List.mem_append_right _ (List.mem_append_right _ (List.mem_append_right _ (List.mem_of_getElem? h)))))
theorem uq_X4_sum_X4 : wsub wsX40 wsX4_sum := fun _ h => List.mem_cons_of_mem _ (List.mem_append_right _ (h))
set_option maxRecDepth 20000 in
theorem ggX4_sum_X4_in : GoodIn wsX4_sum wsX4_in := goodIn_sub (sb_c (qq_X4_sum_0 3 rfl) (sb_n)) gw_X4_in
set_option maxRecDepth 20000 in
theorem gX4_sum_X4_in : GoodIn wsX4_sum (va_wsS RX4 95 yX4_in wsX4_in) := goodIn_app (goodIn_sub (sb_c (qq_X4_sum_0 0 rfl) (sb_c (qq_X4_sum_0 1 rfl) (sb_c (qq_X4_sum_0 2 rfl) sb_n))) (by decide +kernel)) ggX4_sum_X4_in
set_option maxRecDepth 20000 in
theorem gw_X4_sumOf : wsX4_sumOf.all goodWord = true := by decide +kernel
set_option maxRecDepth 20000 in
theorem ggX4_sum_X4_sumOf : GoodIn wsX4_sum wsX4_sumOf := goodIn_sub (sb_c (qq_X4_sum_0 7 rfl) (sb_a (sb_a (sb_c (qq_X4_sum_0 8 rfl) (sb_c (qq_X4_sum_0 9 rfl) (sb_c (qq_X4_sum_0 10 rfl) (sb_c (qq_X4_sum_0 11 rfl) (sb_c (qq_X4_sum_0 12 rfl) (sb_c (qq_X4_sum_0 13 rfl) (sb_c (qq_X4_sum_0 2 rfl) (sb_c (qq_X4_sum_0 14 rfl) (sb_c (qq_X4_sum_0 15 rfl) (sb_c (qq_X4_sum_0 16 rfl) (sb_c (qq_X4_sum_0 17 rfl) (sb_c (qq_X4_sum_0 18 rfl) (sb_c (qq_X4_sum_0 19 rfl) (sb_c (qq_X4_sum_0 20 rfl) (sb_c (qq_X4_sum_0 21 rfl) (sb_c (qq_X4_sum_0 22 rfl) (sb_c (qq_X4_sum_0 23 rfl) (sb_c (qq_X4_sum_1 0 rfl) (sb_c (qq_X4_sum_1 1 rfl) (sb_c (qq_X4_sum_1 2 rfl) (sb_c (qq_X4_sum_1 3 rfl) (sb_c (qq_X4_sum_1 4 rfl) (sb_c (qq_X4_sum_1 5 rfl) (sb_c (qq_X4_sum_1 6 rfl) sb_n)))))))))))))))))))))))) (sb_a (sb_c (qq_X4_sum_1 7 rfl) (sb_c (qq_X4_sum_1 8 rfl) (sb_c (qq_X4_sum_1 9 rfl) (sb_c (qq_X4_sum_1 10 rfl) (sb_c (qq_X4_sum_1 11 rfl) (sb_c (qq_X4_sum_1 12 rfl) (sb_c (qq_X4_sum_1 13 rfl) (sb_c (qq_X4_sum_1 14 rfl) (sb_c (qq_X4_sum_1 15 rfl) (sb_c (qq_X4_sum_1 16 rfl) (sb_c (qq_X4_sum_1 17 rfl) (sb_c (qq_X4_sum_1 18 rfl) (sb_c (qq_X4_sum_1 19 rfl) (sb_c (qq_X4_sum_0 0 rfl) (sb_c (qq_X4_sum_0 1 rfl) (sb_c (qq_X4_sum_0 3 rfl) (sb_c (qq_X4_sum_1 20 rfl) (sb_c (qq_X4_sum_1 21 rfl) (sb_c (qq_X4_sum_1 22 rfl) (sb_c (qq_X4_sum_1 23 rfl) (sb_c (qq_X4_sum_2 0 rfl) (sb_c (qq_X4_sum_2 1 rfl) (sb_c (qq_X4_sum_2 2 rfl) (sb_c (qq_X4_sum_2 3 rfl) sb_n)))))))))))))))))))))))) (sb_a (sb_c (qq_X4_sum_2 4 rfl) (sb_c (qq_X4_sum_2 5 rfl) (sb_c (qq_X4_sum_2 6 rfl) (sb_c (qq_X4_sum_2 7 rfl) (sb_c (qq_X4_sum_2 8 rfl) (sb_c (qq_X4_sum_2 9 rfl) (sb_c (qq_X4_sum_2 10 rfl) (sb_c (qq_X4_sum_2 11 rfl) (sb_c (qq_X4_sum_2 12 rfl) (sb_c (qq_X4_sum_2 13 rfl) (sb_c (qq_X4_sum_2 14 rfl) (sb_c (qq_X4_sum_2 15 rfl) (sb_c (qq_X4_sum_2 16 rfl) (sb_c (qq_X4_sum_2 17 rfl) (sb_c (qq_X4_sum_2 18 rfl) (sb_c (qq_X4_sum_2 19 rfl) (sb_c (qq_X4_sum_2 20 rfl) (sb_c (qq_X4_sum_2 21 rfl) (sb_c (qq_X4_sum_2 22 rfl) (sb_c (qq_X4_sum_2 23 rfl) (sb_c (qq_X4_sum_3 0 rfl) (sb_c (qq_X4_sum_3 1 rfl) (sb_c (qq_X4_sum_3 2 rfl) (sb_c (qq_X4_sum_3 3 rfl) sb_n)))))))))))))))))))))))) (sb_c (qq_X4_sum_3 4 rfl) (sb_c (qq_X4_sum_3 5 rfl) (sb_c (qq_X4_sum_3 6 rfl) (sb_c (qq_X4_sum_3 7 rfl) (sb_c (qq_X4_sum_3 8 rfl) (sb_c (qq_X4_sum_3 9 rfl) (sb_c (qq_X4_sum_3 10 rfl) (sb_c (qq_X4_sum_3 11 rfl) (sb_c (qq_X4_sum_3 12 rfl) (sb_c (qq_X4_sum_3 13 rfl) (sb_c (qq_X4_sum_3 14 rfl) (sb_c (qq_X4_sum_3 15 rfl) (sb_c (qq_X4_sum_3 16 rfl) (sb_c (qq_X4_sum_3 17 rfl) (sb_c (qq_X4_sum_3 18 rfl) sb_n)))))))))))))))))) (uq_X4_sum_X4))) gw_X4_sumOf
set_option maxRecDepth 20000 in
theorem gX4_sum_X4_sumOf : GoodIn wsX4_sum (wsV RX4 213 RX4 yX4_sumOf wsX4_sumOf) := goodIn_app (goodIn_sub (sb_c (qq_X4_sum_0 4 rfl) (sb_c (qq_X4_sum_0 5 rfl) (sb_c (qq_X4_sum_0 6 rfl) (sb_c (qq_X4_sum_0 2 rfl) sb_n)))) (by decide +kernel)) ggX4_sum_X4_sumOf
theorem dX4_sum_0 : decode cX4_sum 0 = .ok (.iload_n 1, 1) := by decide +kernel
theorem dX4_sum_1 : decode cX4_sum 1 = .ok (.iconst 0, 1) := by decide +kernel
theorem dX4_sum_2 : decode cX4_sum 2 = .ok (.iconst 3, 1) := by decide +kernel
theorem dX4_sum_3 : decode cX4_sum 3 = .ok (.invokestatic 95, 3) := by decide +kernel
theorem dX4_sum_6 : decode cX4_sum 6 = .ok (.ifCond .eq 11, 3) := by decide +kernel
theorem dX4_sum_9 : decode cX4_sum 9 = .ok (.aload_n 0, 1) := by decide +kernel
theorem dX4_sum_10 : decode cX4_sum 10 = .ok (.iload_n 1, 1) := by decide +kernel
theorem dX4_sum_11 : decode cX4_sum 11 = .ok (.invokevirtual 213, 3) := by decide +kernel
theorem dX4_sum_14 : decode cX4_sum 14 = .ok (.goto 5, 3) := by decide +kernel
theorem dX4_sum_17 : decode cX4_sum 17 = .ok (.bipush (-2), 2) := by decide +kernel
theorem dX4_sum_19 : decode cX4_sum 19 = .ok (.ireturn, 1) := by decide +kernel
theorem qq_X4_leastIn_0 {c : Cond} (j : Nat) (h : wsX4_leastIn_r1[j]? = some c) : c ∈ wsX4_leastIn := List.mem_cons_of_mem _ (List.mem_append_left _ (List.mem_append_left _ (List.mem_of_getElem? h)))
theorem qq_X4_leastIn_1 {c : Cond} (j : Nat) (h : wsX4_leastIn_r2[j]? = some c) : c ∈ wsX4_leastIn := List.mem_cons_of_mem _ (List.mem_append_left _ (List.mem_append_right _ (List.mem_of_getElem? h)))
theorem uq_X4_leastIn_X4 : wsub wsX40 wsX4_leastIn := fun _ h => List.mem_cons_of_mem _ (List.mem_append_right _ (h))
set_option maxRecDepth 20000 in
theorem ggX4_leastIn_X4_isAble : GoodIn wsX4_leastIn wsX4_isAble := goodIn_sub (sb_c (qq_X4_leastIn_0 8 rfl) (sb_a (sb_c (qq_X4_leastIn_0 9 rfl) (sb_c (qq_X4_leastIn_0 10 rfl) (sb_c (qq_X4_leastIn_0 11 rfl) (sb_c (qq_X4_leastIn_0 12 rfl) (sb_c (qq_X4_leastIn_0 13 rfl) (sb_c (qq_X4_leastIn_0 7 rfl) (sb_c (qq_X4_leastIn_0 14 rfl) (sb_c (qq_X4_leastIn_0 15 rfl) (sb_c (qq_X4_leastIn_0 16 rfl) (sb_c (qq_X4_leastIn_0 17 rfl) (sb_c (qq_X4_leastIn_0 18 rfl) (sb_c (qq_X4_leastIn_0 19 rfl) (sb_c (qq_X4_leastIn_0 20 rfl) (sb_c (qq_X4_leastIn_0 21 rfl) (sb_c (qq_X4_leastIn_0 22 rfl) (sb_c (qq_X4_leastIn_0 23 rfl) (sb_c (qq_X4_leastIn_1 0 rfl) (sb_c (qq_X4_leastIn_1 1 rfl) (sb_c (qq_X4_leastIn_1 2 rfl) (sb_c (qq_X4_leastIn_1 3 rfl) (sb_c (qq_X4_leastIn_0 3 rfl) sb_n))))))))))))))))))))) (uq_X4_leastIn_X4))) gw_X4_isAble
set_option maxRecDepth 20000 in
theorem gX4_leastIn_X4_isAble : GoodIn wsX4_leastIn (wsV RX4 133 RX4 yX4_isAble wsX4_isAble) := goodIn_app (goodIn_sub (sb_c (qq_X4_leastIn_0 4 rfl) (sb_c (qq_X4_leastIn_0 5 rfl) (sb_c (qq_X4_leastIn_0 6 rfl) (sb_c (qq_X4_leastIn_0 7 rfl) sb_n)))) (by decide +kernel)) ggX4_leastIn_X4_isAble
set_option maxRecDepth 20000 in
theorem ggX4_leastIn_X4_isIn : GoodIn wsX4_leastIn wsX4_isIn := goodIn_sub (sb_c (qq_X4_leastIn_0 23 rfl) (sb_n)) gw_X4_isIn
set_option maxRecDepth 20000 in
theorem gX4_leastIn_X4_isIn : GoodIn wsX4_leastIn (va_wsS RX4 91 yX4_isIn wsX4_isIn) := goodIn_app (goodIn_sub (sb_c (qq_X4_leastIn_0 21 rfl) (sb_c (qq_X4_leastIn_0 22 rfl) (sb_c (qq_X4_leastIn_0 7 rfl) sb_n))) (by decide +kernel)) ggX4_leastIn_X4_isIn
set_option maxRecDepth 20000 in
theorem ggX4_leastIn_X4_many : GoodIn wsX4_leastIn wsX4_many := goodIn_sub (sb_c (qq_X4_leastIn_1 6 rfl) (sb_c (qq_X4_leastIn_0 21 rfl) (sb_c (qq_X4_leastIn_0 22 rfl) (sb_c (qq_X4_leastIn_0 7 rfl) (sb_c (qq_X4_leastIn_0 23 rfl) sb_n))))) gw_X4_many
set_option maxRecDepth 20000 in
theorem gX4_leastIn_X4_many : GoodIn wsX4_leastIn (va_wsS RX4 203 yX4_many wsX4_many) := goodIn_app (goodIn_sub (sb_c (qq_X4_leastIn_1 4 rfl) (sb_c (qq_X4_leastIn_1 5 rfl) (sb_c (qq_X4_leastIn_0 7 rfl) sb_n))) (by decide +kernel)) ggX4_leastIn_X4_many
theorem dX4_leastIn_0 : decode cX4_leastIn 0 = .ok (.iconst 0, 1) := by decide +kernel
theorem dX4_leastIn_1 : decode cX4_leastIn 1 = .ok (.istore_n 2, 1) := by decide +kernel
theorem dX4_leastIn_2 : decode cX4_leastIn 2 = .ok (.iconst 0, 1) := by decide +kernel
theorem dX4_leastIn_3 : decode cX4_leastIn 3 = .ok (.istore_n 3, 1) := by decide +kernel
theorem dX4_leastIn_4 : decode cX4_leastIn 4 = .ok (.iload_n 3, 1) := by decide +kernel
theorem dX4_leastIn_5 : decode cX4_leastIn 5 = .ok (.bipush 8, 2) := by decide +kernel
theorem dX4_leastIn_7 : decode cX4_leastIn 7 = .ok (.if_icmp .ge 64, 3) := by decide +kernel
theorem dX4_leastIn_10 : decode cX4_leastIn 10 = .ok (.aload_n 0, 1) := by decide +kernel
theorem dX4_leastIn_11 : decode cX4_leastIn 11 = .ok (.getfield 58, 3) := by decide +kernel
theorem dX4_leastIn_14 : decode cX4_leastIn 14 = .ok (.iload_n 3, 1) := by decide +kernel
theorem dX4_leastIn_15 : decode cX4_leastIn 15 = .ok (.iconst 0, 1) := by decide +kernel
theorem dX4_leastIn_16 : decode cX4_leastIn 16 = .ok (.iastore, 1) := by decide +kernel
theorem dX4_leastIn_17 : decode cX4_leastIn 17 = .ok (.iconst 0, 1) := by decide +kernel
theorem dX4_leastIn_18 : decode cX4_leastIn 18 = .ok (.istore 4, 2) := by decide +kernel
theorem dX4_leastIn_20 : decode cX4_leastIn 20 = .ok (.iload 4, 2) := by decide +kernel
theorem dX4_leastIn_22 : decode cX4_leastIn 22 = .ok (.aload_n 0, 1) := by decide +kernel
theorem dX4_leastIn_23 : decode cX4_leastIn 23 = .ok (.getfield 31, 3) := by decide +kernel
theorem dX4_leastIn_26 : decode cX4_leastIn 26 = .ok (.iload_n 1, 1) := by decide +kernel
theorem dX4_leastIn_27 : decode cX4_leastIn 27 = .ok (.iaload, 1) := by decide +kernel
theorem dX4_leastIn_28 : decode cX4_leastIn 28 = .ok (.if_icmp .ge 37, 3) := by decide +kernel
theorem dX4_leastIn_31 : decode cX4_leastIn 31 = .ok (.aload_n 0, 1) := by decide +kernel
theorem dX4_leastIn_32 : decode cX4_leastIn 32 = .ok (.getfield 58, 3) := by decide +kernel
theorem dX4_leastIn_35 : decode cX4_leastIn 35 = .ok (.iload_n 3, 1) := by decide +kernel
theorem dX4_leastIn_36 : decode cX4_leastIn 36 = .ok (.dup2, 1) := by decide +kernel
theorem dX4_leastIn_37 : decode cX4_leastIn 37 = .ok (.iaload, 1) := by decide +kernel
theorem dX4_leastIn_38 : decode cX4_leastIn 38 = .ok (.aload_n 0, 1) := by decide +kernel
theorem dX4_leastIn_39 : decode cX4_leastIn 39 = .ok (.iload_n 1, 1) := by decide +kernel
theorem dX4_leastIn_40 : decode cX4_leastIn 40 = .ok (.iload 4, 2) := by decide +kernel
theorem dX4_leastIn_42 : decode cX4_leastIn 42 = .ok (.iload_n 3, 1) := by decide +kernel
theorem dX4_leastIn_43 : decode cX4_leastIn 43 = .ok (.invokevirtual 133, 3) := by decide +kernel
theorem dX4_leastIn_46 : decode cX4_leastIn 46 = .ok (.ifCond .eq 10, 3) := by decide +kernel
theorem dX4_leastIn_49 : decode cX4_leastIn 49 = .ok (.iconst 1, 1) := by decide +kernel
theorem dX4_leastIn_50 : decode cX4_leastIn 50 = .ok (.iload 4, 2) := by decide +kernel
theorem dX4_leastIn_52 : decode cX4_leastIn 52 = .ok (.ishl, 1) := by decide +kernel
theorem dX4_leastIn_53 : decode cX4_leastIn 53 = .ok (.goto 4, 3) := by decide +kernel
theorem dX4_leastIn_56 : decode cX4_leastIn 56 = .ok (.iconst 0, 1) := by decide +kernel
theorem dX4_leastIn_57 : decode cX4_leastIn 57 = .ok (.ior, 1) := by decide +kernel
theorem dX4_leastIn_58 : decode cX4_leastIn 58 = .ok (.iastore, 1) := by decide +kernel
theorem dX4_leastIn_59 : decode cX4_leastIn 59 = .ok (.iinc 4 1, 3) := by decide +kernel
theorem dX4_leastIn_62 : decode cX4_leastIn 62 = .ok (.goto (-42), 3) := by decide +kernel
theorem dX4_leastIn_65 : decode cX4_leastIn 65 = .ok (.iinc 3 1, 3) := by decide +kernel
theorem dX4_leastIn_68 : decode cX4_leastIn 68 = .ok (.goto (-64), 3) := by decide +kernel
theorem dX4_leastIn_71 : decode cX4_leastIn 71 = .ok (.iconst 1, 1) := by decide +kernel
theorem dX4_leastIn_72 : decode cX4_leastIn 72 = .ok (.istore_n 3, 1) := by decide +kernel
theorem dX4_leastIn_73 : decode cX4_leastIn 73 = .ok (.iload_n 3, 1) := by decide +kernel
theorem dX4_leastIn_74 : decode cX4_leastIn 74 = .ok (.sipush 256, 3) := by decide +kernel
theorem dX4_leastIn_77 : decode cX4_leastIn 77 = .ok (.if_icmp .ge 102, 3) := by decide +kernel
theorem dX4_leastIn_80 : decode cX4_leastIn 80 = .ok (.iconst 0, 1) := by decide +kernel
theorem dX4_leastIn_81 : decode cX4_leastIn 81 = .ok (.istore 4, 2) := by decide +kernel
theorem dX4_leastIn_83 : decode cX4_leastIn 83 = .ok (.iconst 0, 1) := by decide +kernel
theorem dX4_leastIn_84 : decode cX4_leastIn 84 = .ok (.istore 5, 2) := by decide +kernel
theorem dX4_leastIn_86 : decode cX4_leastIn 86 = .ok (.iload 5, 2) := by decide +kernel
theorem dX4_leastIn_88 : decode cX4_leastIn 88 = .ok (.bipush 8, 2) := by decide +kernel
theorem dX4_leastIn_90 : decode cX4_leastIn 90 = .ok (.if_icmp .ge 34, 3) := by decide +kernel
theorem dX4_leastIn_93 : decode cX4_leastIn 93 = .ok (.iload 4, 2) := by decide +kernel
theorem dX4_leastIn_95 : decode cX4_leastIn 95 = .ok (.iload_n 3, 1) := by decide +kernel
theorem dX4_leastIn_96 : decode cX4_leastIn 96 = .ok (.iload 5, 2) := by decide +kernel
theorem dX4_leastIn_98 : decode cX4_leastIn 98 = .ok (.invokestatic 91, 3) := by decide +kernel
theorem dX4_leastIn_101 : decode cX4_leastIn 101 = .ok (.ifCond .eq 13, 3) := by decide +kernel
theorem dX4_leastIn_104 : decode cX4_leastIn 104 = .ok (.aload_n 0, 1) := by decide +kernel
theorem dX4_leastIn_105 : decode cX4_leastIn 105 = .ok (.getfield 58, 3) := by decide +kernel
theorem dX4_leastIn_108 : decode cX4_leastIn 108 = .ok (.iload 5, 2) := by decide +kernel
theorem dX4_leastIn_110 : decode cX4_leastIn 110 = .ok (.iaload, 1) := by decide +kernel
theorem dX4_leastIn_111 : decode cX4_leastIn 111 = .ok (.goto 4, 3) := by decide +kernel
theorem dX4_leastIn_114 : decode cX4_leastIn 114 = .ok (.iconst 0, 1) := by decide +kernel
theorem dX4_leastIn_115 : decode cX4_leastIn 115 = .ok (.ior, 1) := by decide +kernel
theorem dX4_leastIn_116 : decode cX4_leastIn 116 = .ok (.istore 4, 2) := by decide +kernel
theorem dX4_leastIn_118 : decode cX4_leastIn 118 = .ok (.iinc 5 1, 3) := by decide +kernel
theorem dX4_leastIn_121 : decode cX4_leastIn 121 = .ok (.goto (-35), 3) := by decide +kernel
theorem dX4_leastIn_124 : decode cX4_leastIn 124 = .ok (.iload_n 3, 1) := by decide +kernel
theorem dX4_leastIn_125 : decode cX4_leastIn 125 = .ok (.aload_n 0, 1) := by decide +kernel
theorem dX4_leastIn_126 : decode cX4_leastIn 126 = .ok (.getfield 25, 3) := by decide +kernel
theorem dX4_leastIn_129 : decode cX4_leastIn 129 = .ok (.iload_n 1, 1) := by decide +kernel
theorem dX4_leastIn_130 : decode cX4_leastIn 130 = .ok (.iaload, 1) := by decide +kernel
theorem dX4_leastIn_131 : decode cX4_leastIn 131 = .ok (.iconst (-1), 1) := by decide +kernel
theorem dX4_leastIn_132 : decode cX4_leastIn 132 = .ok (.ixor, 1) := by decide +kernel
theorem dX4_leastIn_133 : decode cX4_leastIn 133 = .ok (.iand, 1) := by decide +kernel
theorem dX4_leastIn_134 : decode cX4_leastIn 134 = .ok (.ifCond .ne 23, 3) := by decide +kernel
theorem dX4_leastIn_137 : decode cX4_leastIn 137 = .ok (.iload_n 3, 1) := by decide +kernel
theorem dX4_leastIn_138 : decode cX4_leastIn 138 = .ok (.invokestatic 203, 3) := by decide +kernel
theorem dX4_leastIn_141 : decode cX4_leastIn 141 = .ok (.aload_n 0, 1) := by decide +kernel
theorem dX4_leastIn_142 : decode cX4_leastIn 142 = .ok (.getfield 28, 3) := by decide +kernel
theorem dX4_leastIn_145 : decode cX4_leastIn 145 = .ok (.iconst 5, 1) := by decide +kernel
theorem dX4_leastIn_146 : decode cX4_leastIn 146 = .ok (.iaload, 1) := by decide +kernel
theorem dX4_leastIn_147 : decode cX4_leastIn 147 = .ok (.iload 4, 2) := by decide +kernel
theorem dX4_leastIn_149 : decode cX4_leastIn 149 = .ok (.invokestatic 203, 3) := by decide +kernel
theorem dX4_leastIn_152 : decode cX4_leastIn 152 = .ok (.imul, 1) := by decide +kernel
theorem dX4_leastIn_153 : decode cX4_leastIn 153 = .ok (.isub, 1) := by decide +kernel
theorem dX4_leastIn_154 : decode cX4_leastIn 154 = .ok (.goto 4, 3) := by decide +kernel
theorem dX4_leastIn_157 : decode cX4_leastIn 157 = .ok (.iconst 0, 1) := by decide +kernel
theorem dX4_leastIn_158 : decode cX4_leastIn 158 = .ok (.istore 5, 2) := by decide +kernel
theorem dX4_leastIn_160 : decode cX4_leastIn 160 = .ok (.iload 5, 2) := by decide +kernel
theorem dX4_leastIn_162 : decode cX4_leastIn 162 = .ok (.iload_n 2, 1) := by decide +kernel
theorem dX4_leastIn_163 : decode cX4_leastIn 163 = .ok (.if_icmp .le 8, 3) := by decide +kernel
theorem dX4_leastIn_166 : decode cX4_leastIn 166 = .ok (.iload 5, 2) := by decide +kernel
theorem dX4_leastIn_168 : decode cX4_leastIn 168 = .ok (.goto 4, 3) := by decide +kernel
theorem dX4_leastIn_171 : decode cX4_leastIn 171 = .ok (.iload_n 2, 1) := by decide +kernel
theorem dX4_leastIn_172 : decode cX4_leastIn 172 = .ok (.istore_n 2, 1) := by decide +kernel
theorem dX4_leastIn_173 : decode cX4_leastIn 173 = .ok (.iinc 3 1, 3) := by decide +kernel
theorem dX4_leastIn_176 : decode cX4_leastIn 176 = .ok (.goto (-103), 3) := by decide +kernel
theorem dX4_leastIn_179 : decode cX4_leastIn 179 = .ok (.iload_n 2, 1) := by decide +kernel
theorem dX4_leastIn_180 : decode cX4_leastIn 180 = .ok (.ireturn, 1) := by decide +kernel
theorem qq_X4_leastOf_0 {c : Cond} (j : Nat) (h : wsX4_leastOf_r1[j]? = some c) : c ∈ wsX4_leastOf := List.mem_cons_of_mem _ (List.mem_append_left _ (List.mem_append_left _ (List.mem_of_getElem? h)))
theorem qq_X4_leastOf_1 {c : Cond} (j : Nat) (h : wsX4_leastOf_r2[j]? = some c) : c ∈ wsX4_leastOf := List.mem_cons_of_mem _ (List.mem_append_left _ (List.mem_append_right _ (List.mem_append_left _ (List.mem_of_getElem? h))))
theorem qq_X4_leastOf_2 {c : Cond} (j : Nat) (h : wsX4_leastOf_r3[j]? = some c) : c ∈ wsX4_leastOf := List.mem_cons_of_mem _ (List.mem_append_left _ (List.mem_append_right _ (List.mem_append_right _ (List.mem_append_left _ (List.mem_of_getElem? h)))))
theorem qq_X4_leastOf_3 {c : Cond} (j : Nat) (h : wsX4_leastOf_r4[j]? = some c) : c ∈ wsX4_leastOf := List.mem_cons_of_mem _ (List.mem_append_left _ (List.mem_append_right _ (List.mem_append_right _ (List.mem_append_right _ (List.mem_of_getElem? h)))))
theorem uq_X4_leastOf_X4 : wsub wsX40 wsX4_leastOf := fun _ h => List.mem_cons_of_mem _ (List.mem_append_right _ (h))
set_option maxRecDepth 20000 in
theorem ggX4_leastOf_X4_runsTold : GoodIn wsX4_leastOf wsX4_runsTold := goodIn_sub (sb_c (qq_X4_leastOf_0 4 rfl) (sb_a (sb_a (sb_c (qq_X4_leastOf_0 5 rfl) (sb_c (qq_X4_leastOf_0 6 rfl) (sb_c (qq_X4_leastOf_0 7 rfl) (sb_c (qq_X4_leastOf_0 3 rfl) (sb_c (qq_X4_leastOf_0 8 rfl) (sb_c (qq_X4_leastOf_0 9 rfl) (sb_c (qq_X4_leastOf_0 10 rfl) (sb_c (qq_X4_leastOf_0 11 rfl) (sb_c (qq_X4_leastOf_0 12 rfl) (sb_c (qq_X4_leastOf_0 13 rfl) (sb_c (qq_X4_leastOf_0 14 rfl) (sb_c (qq_X4_leastOf_0 15 rfl) (sb_c (qq_X4_leastOf_0 16 rfl) (sb_c (qq_X4_leastOf_0 17 rfl) (sb_c (qq_X4_leastOf_0 18 rfl) (sb_c (qq_X4_leastOf_0 19 rfl) (sb_c (qq_X4_leastOf_0 20 rfl) (sb_c (qq_X4_leastOf_0 21 rfl) (sb_c (qq_X4_leastOf_0 22 rfl) (sb_c (qq_X4_leastOf_0 23 rfl) (sb_c (qq_X4_leastOf_1 0 rfl) (sb_c (qq_X4_leastOf_1 1 rfl) (sb_c (qq_X4_leastOf_1 2 rfl) (sb_c (qq_X4_leastOf_1 3 rfl) sb_n)))))))))))))))))))))))) (sb_a (sb_c (qq_X4_leastOf_1 4 rfl) (sb_c (qq_X4_leastOf_1 5 rfl) (sb_c (qq_X4_leastOf_1 6 rfl) (sb_c (qq_X4_leastOf_1 7 rfl) (sb_c (qq_X4_leastOf_1 8 rfl) (sb_c (qq_X4_leastOf_1 9 rfl) (sb_c (qq_X4_leastOf_1 10 rfl) (sb_c (qq_X4_leastOf_1 11 rfl) (sb_c (qq_X4_leastOf_1 12 rfl) (sb_c (qq_X4_leastOf_1 13 rfl) (sb_c (qq_X4_leastOf_1 14 rfl) (sb_c (qq_X4_leastOf_1 15 rfl) (sb_c (qq_X4_leastOf_1 16 rfl) (sb_c (qq_X4_leastOf_1 17 rfl) (sb_c (qq_X4_leastOf_1 18 rfl) (sb_c (qq_X4_leastOf_1 19 rfl) (sb_c (qq_X4_leastOf_1 20 rfl) (sb_c (qq_X4_leastOf_1 21 rfl) (sb_c (qq_X4_leastOf_1 22 rfl) (sb_c (qq_X4_leastOf_1 23 rfl) (sb_c (qq_X4_leastOf_2 0 rfl) (sb_c (qq_X4_leastOf_2 1 rfl) (sb_c (qq_X4_leastOf_2 2 rfl) (sb_c (qq_X4_leastOf_2 3 rfl) sb_n)))))))))))))))))))))))) (sb_c (qq_X4_leastOf_2 4 rfl) (sb_c (qq_X4_leastOf_2 5 rfl) (sb_c (qq_X4_leastOf_2 6 rfl) (sb_c (qq_X4_leastOf_2 7 rfl) (sb_c (qq_X4_leastOf_2 8 rfl) (sb_c (qq_X4_leastOf_2 9 rfl) (sb_c (qq_X4_leastOf_2 10 rfl) (sb_c (qq_X4_leastOf_2 11 rfl) (sb_c (qq_X4_leastOf_2 12 rfl) (sb_c (qq_X4_leastOf_2 13 rfl) (sb_c (qq_X4_leastOf_2 14 rfl) (sb_c (qq_X4_leastOf_2 15 rfl) (sb_c (qq_X4_leastOf_2 16 rfl) (sb_c (qq_X4_leastOf_2 17 rfl) (sb_c (qq_X4_leastOf_2 18 rfl) (sb_c (qq_X4_leastOf_2 19 rfl) (sb_c (qq_X4_leastOf_2 20 rfl) (sb_c (qq_X4_leastOf_2 21 rfl) (sb_c (qq_X4_leastOf_2 22 rfl) (sb_c (qq_X4_leastOf_2 23 rfl) (sb_c (qq_X4_leastOf_3 0 rfl) (sb_c (qq_X4_leastOf_3 1 rfl) (sb_c (qq_X4_leastOf_3 2 rfl) (sb_c (qq_X4_leastOf_3 3 rfl) sb_n)))))))))))))))))))))))))) (uq_X4_leastOf_X4))) gw_X4_runsTold
set_option maxRecDepth 20000 in
theorem gX4_leastOf_X4_runsTold : GoodIn wsX4_leastOf (wsV RX4 168 RX4 yX4_runsTold wsX4_runsTold) := goodIn_app (goodIn_sub (sb_c (qq_X4_leastOf_0 0 rfl) (sb_c (qq_X4_leastOf_0 1 rfl) (sb_c (qq_X4_leastOf_0 2 rfl) (sb_c (qq_X4_leastOf_0 3 rfl) sb_n)))) (by decide +kernel)) ggX4_leastOf_X4_runsTold
set_option maxRecDepth 20000 in
theorem gw_X4_leastIn : wsX4_leastIn.all goodWord = true := by decide +kernel
set_option maxRecDepth 20000 in
theorem ggX4_leastOf_X4_leastIn : GoodIn wsX4_leastOf wsX4_leastIn := goodIn_sub (sb_c (qq_X4_leastOf_3 7 rfl) (sb_a (sb_a (sb_c (qq_X4_leastOf_3 8 rfl) (sb_c (qq_X4_leastOf_1 6 rfl) (sb_c (qq_X4_leastOf_0 9 rfl) (sb_c (qq_X4_leastOf_0 11 rfl) (sb_c (qq_X4_leastOf_1 21 rfl) (sb_c (qq_X4_leastOf_1 22 rfl) (sb_c (qq_X4_leastOf_1 23 rfl) (sb_c (qq_X4_leastOf_0 3 rfl) (sb_c (qq_X4_leastOf_2 0 rfl) (sb_c (qq_X4_leastOf_1 7 rfl) (sb_c (qq_X4_leastOf_1 8 rfl) (sb_c (qq_X4_leastOf_2 1 rfl) (sb_c (qq_X4_leastOf_2 2 rfl) (sb_c (qq_X4_leastOf_2 3 rfl) (sb_c (qq_X4_leastOf_2 4 rfl) (sb_c (qq_X4_leastOf_2 5 rfl) (sb_c (qq_X4_leastOf_2 6 rfl) (sb_c (qq_X4_leastOf_2 7 rfl) (sb_c (qq_X4_leastOf_0 13 rfl) (sb_c (qq_X4_leastOf_0 14 rfl) (sb_c (qq_X4_leastOf_2 8 rfl) (sb_c (qq_X4_leastOf_2 9 rfl) (sb_c (qq_X4_leastOf_2 10 rfl) (sb_c (qq_X4_leastOf_2 11 rfl) sb_n)))))))))))))))))))))))) (sb_c (qq_X4_leastOf_2 12 rfl) (sb_c (qq_X4_leastOf_2 13 rfl) (sb_c (qq_X4_leastOf_2 14 rfl) (sb_c (qq_X4_leastOf_2 15 rfl) (sb_c (qq_X4_leastOf_3 9 rfl) (sb_c (qq_X4_leastOf_3 10 rfl) (sb_c (qq_X4_leastOf_3 11 rfl) sb_n)))))))) (uq_X4_leastOf_X4))) gw_X4_leastIn
set_option maxRecDepth 20000 in
theorem gX4_leastOf_X4_leastIn : GoodIn wsX4_leastOf (wsV RX4 216 RX4 yX4_leastIn wsX4_leastIn) := goodIn_app (goodIn_sub (sb_c (qq_X4_leastOf_3 4 rfl) (sb_c (qq_X4_leastOf_3 5 rfl) (sb_c (qq_X4_leastOf_3 6 rfl) (sb_c (qq_X4_leastOf_0 3 rfl) sb_n)))) (by decide +kernel)) ggX4_leastOf_X4_leastIn
theorem dX4_leastOf_0 : decode cX4_leastOf 0 = .ok (.aload_n 0, 1) := by decide +kernel
theorem dX4_leastOf_1 : decode cX4_leastOf 1 = .ok (.invokevirtual 168, 3) := by decide +kernel
theorem dX4_leastOf_4 : decode cX4_leastOf 4 = .ok (.iconst 0, 1) := by decide +kernel
theorem dX4_leastOf_5 : decode cX4_leastOf 5 = .ok (.istore_n 1, 1) := by decide +kernel
theorem dX4_leastOf_6 : decode cX4_leastOf 6 = .ok (.iconst 0, 1) := by decide +kernel
theorem dX4_leastOf_7 : decode cX4_leastOf 7 = .ok (.istore_n 2, 1) := by decide +kernel
theorem dX4_leastOf_8 : decode cX4_leastOf 8 = .ok (.iload_n 2, 1) := by decide +kernel
theorem dX4_leastOf_9 : decode cX4_leastOf 9 = .ok (.bipush 16, 2) := by decide +kernel
theorem dX4_leastOf_11 : decode cX4_leastOf 11 = .ok (.if_icmp .ge 17, 3) := by decide +kernel
theorem dX4_leastOf_14 : decode cX4_leastOf 14 = .ok (.iload_n 1, 1) := by decide +kernel
theorem dX4_leastOf_15 : decode cX4_leastOf 15 = .ok (.aload_n 0, 1) := by decide +kernel
theorem dX4_leastOf_16 : decode cX4_leastOf 16 = .ok (.iload_n 2, 1) := by decide +kernel
theorem dX4_leastOf_17 : decode cX4_leastOf 17 = .ok (.invokevirtual 216, 3) := by decide +kernel
theorem dX4_leastOf_20 : decode cX4_leastOf 20 = .ok (.iadd, 1) := by decide +kernel
theorem dX4_leastOf_21 : decode cX4_leastOf 21 = .ok (.istore_n 1, 1) := by decide +kernel
theorem dX4_leastOf_22 : decode cX4_leastOf 22 = .ok (.iinc 2 1, 3) := by decide +kernel
theorem dX4_leastOf_25 : decode cX4_leastOf 25 = .ok (.goto (-17), 3) := by decide +kernel
theorem dX4_leastOf_28 : decode cX4_leastOf 28 = .ok (.iload_n 1, 1) := by decide +kernel
theorem dX4_leastOf_29 : decode cX4_leastOf 29 = .ok (.ireturn, 1) := by decide +kernel
theorem qq_X4_least_0 {c : Cond} (j : Nat) (h : wsX4_least_r1[j]? = some c) : c ∈ wsX4_least := List.mem_cons_of_mem _ (List.mem_append_left _ (List.mem_append_left _ (List.mem_of_getElem? h)))
theorem qq_X4_least_1 {c : Cond} (j : Nat) (h : wsX4_least_r2[j]? = some c) : c ∈ wsX4_least := List.mem_cons_of_mem _ (List.mem_append_left _ (List.mem_append_right _ (List.mem_append_left _ (List.mem_of_getElem? h))))
theorem qq_X4_least_2 {c : Cond} (j : Nat) (h : wsX4_least_r3[j]? = some c) : c ∈ wsX4_least := List.mem_cons_of_mem _ (List.mem_append_left _ (List.mem_append_right _ (List.mem_append_right _ (List.mem_append_left _ (List.mem_of_getElem? h)))))
theorem qq_X4_least_3 {c : Cond} (j : Nat) (h : wsX4_least_r4[j]? = some c) : c ∈ wsX4_least := List.mem_cons_of_mem _ (List.mem_append_left _ (List.mem_append_right _ (List.mem_append_right _ (List.mem_append_right _ (List.mem_of_getElem? h)))))
theorem uq_X4_least_X4 : wsub wsX40 wsX4_least := fun _ h => List.mem_cons_of_mem _ (List.mem_append_right _ (h))
set_option maxRecDepth 20000 in
theorem gw_X4_leastOf : wsX4_leastOf.all goodWord = true := by decide +kernel
set_option maxRecDepth 20000 in
theorem ggX4_least_X4_leastOf : GoodIn wsX4_least wsX4_leastOf := goodIn_sub (sb_c (qq_X4_least_0 4 rfl) (sb_a (sb_a (sb_c (qq_X4_least_0 5 rfl) (sb_c (qq_X4_least_0 6 rfl) (sb_c (qq_X4_least_0 7 rfl) (sb_c (qq_X4_least_0 3 rfl) (sb_c (qq_X4_least_0 8 rfl) (sb_c (qq_X4_least_0 9 rfl) (sb_c (qq_X4_least_0 10 rfl) (sb_c (qq_X4_least_0 11 rfl) (sb_c (qq_X4_least_0 12 rfl) (sb_c (qq_X4_least_0 13 rfl) (sb_c (qq_X4_least_0 14 rfl) (sb_c (qq_X4_least_0 15 rfl) (sb_c (qq_X4_least_0 16 rfl) (sb_c (qq_X4_least_0 17 rfl) (sb_c (qq_X4_least_0 18 rfl) (sb_c (qq_X4_least_0 19 rfl) (sb_c (qq_X4_least_0 20 rfl) (sb_c (qq_X4_least_0 21 rfl) (sb_c (qq_X4_least_0 22 rfl) (sb_c (qq_X4_least_0 23 rfl) (sb_c (qq_X4_least_1 0 rfl) (sb_c (qq_X4_least_1 1 rfl) (sb_c (qq_X4_least_1 2 rfl) (sb_c (qq_X4_least_1 3 rfl) sb_n)))))))))))))))))))))))) (sb_a (sb_c (qq_X4_least_1 4 rfl) (sb_c (qq_X4_least_1 5 rfl) (sb_c (qq_X4_least_1 6 rfl) (sb_c (qq_X4_least_1 7 rfl) (sb_c (qq_X4_least_1 8 rfl) (sb_c (qq_X4_least_1 9 rfl) (sb_c (qq_X4_least_1 10 rfl) (sb_c (qq_X4_least_1 11 rfl) (sb_c (qq_X4_least_1 12 rfl) (sb_c (qq_X4_least_1 13 rfl) (sb_c (qq_X4_least_1 14 rfl) (sb_c (qq_X4_least_1 15 rfl) (sb_c (qq_X4_least_1 16 rfl) (sb_c (qq_X4_least_1 17 rfl) (sb_c (qq_X4_least_1 18 rfl) (sb_c (qq_X4_least_1 19 rfl) (sb_c (qq_X4_least_1 20 rfl) (sb_c (qq_X4_least_1 21 rfl) (sb_c (qq_X4_least_1 22 rfl) (sb_c (qq_X4_least_1 23 rfl) (sb_c (qq_X4_least_2 0 rfl) (sb_c (qq_X4_least_2 1 rfl) (sb_c (qq_X4_least_2 2 rfl) (sb_c (qq_X4_least_2 3 rfl) sb_n)))))))))))))))))))))))) (sb_a (sb_c (qq_X4_least_2 4 rfl) (sb_c (qq_X4_least_2 5 rfl) (sb_c (qq_X4_least_2 6 rfl) (sb_c (qq_X4_least_2 7 rfl) (sb_c (qq_X4_least_2 8 rfl) (sb_c (qq_X4_least_2 9 rfl) (sb_c (qq_X4_least_2 10 rfl) (sb_c (qq_X4_least_2 11 rfl) (sb_c (qq_X4_least_2 12 rfl) (sb_c (qq_X4_least_2 13 rfl) (sb_c (qq_X4_least_2 14 rfl) (sb_c (qq_X4_least_2 15 rfl) (sb_c (qq_X4_least_2 16 rfl) (sb_c (qq_X4_least_2 17 rfl) (sb_c (qq_X4_least_2 18 rfl) (sb_c (qq_X4_least_2 19 rfl) (sb_c (qq_X4_least_2 20 rfl) (sb_c (qq_X4_least_2 21 rfl) (sb_c (qq_X4_least_2 22 rfl) (sb_c (qq_X4_least_2 23 rfl) (sb_c (qq_X4_least_3 0 rfl) (sb_c (qq_X4_least_3 1 rfl) (sb_c (qq_X4_least_3 2 rfl) (sb_c (qq_X4_least_3 3 rfl) sb_n)))))))))))))))))))))))) (sb_c (qq_X4_least_3 4 rfl) (sb_c (qq_X4_least_3 5 rfl) (sb_c (qq_X4_least_3 6 rfl) (sb_c (qq_X4_least_3 7 rfl) (sb_c (qq_X4_least_3 8 rfl) (sb_c (qq_X4_least_3 9 rfl) (sb_c (qq_X4_least_3 10 rfl) (sb_c (qq_X4_least_3 11 rfl) (sb_c (qq_X4_least_3 12 rfl) (sb_c (qq_X4_least_3 13 rfl) (sb_c (qq_X4_least_3 14 rfl) (sb_c (qq_X4_least_3 15 rfl) sb_n))))))))))))))) (uq_X4_least_X4))) gw_X4_leastOf
set_option maxRecDepth 20000 in
theorem gX4_least_X4_leastOf : GoodIn wsX4_least (wsV RX4 219 RX4 yX4_leastOf wsX4_leastOf) := goodIn_app (goodIn_sub (sb_c (qq_X4_least_0 0 rfl) (sb_c (qq_X4_least_0 1 rfl) (sb_c (qq_X4_least_0 2 rfl) (sb_c (qq_X4_least_0 3 rfl) sb_n)))) (by decide +kernel)) ggX4_least_X4_leastOf
theorem dX4_least_0 : decode cX4_least 0 = .ok (.aload_n 0, 1) := by decide +kernel
theorem dX4_least_1 : decode cX4_least 1 = .ok (.invokevirtual 219, 3) := by decide +kernel
theorem dX4_least_4 : decode cX4_least 4 = .ok (.ireturn, 1) := by decide +kernel
theorem qq_X4_dropsOf_0 {c : Cond} (j : Nat) (h : wsX4_dropsOf_r1[j]? = some c) : c ∈ wsX4_dropsOf := List.mem_cons_of_mem _ (List.mem_append_left _ (List.mem_append_left _ (List.mem_of_getElem? h)))
theorem qq_X4_dropsOf_1 {c : Cond} (j : Nat) (h : wsX4_dropsOf_r2[j]? = some c) : c ∈ wsX4_dropsOf := List.mem_cons_of_mem _ (List.mem_append_left _ (List.mem_append_right _ (List.mem_append_left _ (List.mem_of_getElem? h))))
theorem qq_X4_dropsOf_2 {c : Cond} (j : Nat) (h : wsX4_dropsOf_r3[j]? = some c) : c ∈ wsX4_dropsOf := List.mem_cons_of_mem _ (List.mem_append_left _ (List.mem_append_right _ (List.mem_append_right _ (List.mem_append_left _ (List.mem_of_getElem? h)))))
theorem qq_X4_dropsOf_3 {c : Cond} (j : Nat) (h : wsX4_dropsOf_r4[j]? = some c) : c ∈ wsX4_dropsOf := List.mem_cons_of_mem _ (List.mem_append_left _ (List.mem_append_right _ (List.mem_append_right _ (List.mem_append_right _ (List.mem_of_getElem? h)))))
theorem uq_X4_dropsOf_X4 : wsub wsX40 wsX4_dropsOf := fun _ h => List.mem_cons_of_mem _ (List.mem_append_right _ (h))
set_option maxRecDepth 20000 in
theorem ggX4_dropsOf_X4_runsTold : GoodIn wsX4_dropsOf wsX4_runsTold := goodIn_sub (sb_c (qq_X4_dropsOf_0 6 rfl) (sb_a (sb_a (sb_c (qq_X4_dropsOf_0 7 rfl) (sb_c (qq_X4_dropsOf_0 8 rfl) (sb_c (qq_X4_dropsOf_0 9 rfl) (sb_c (qq_X4_dropsOf_0 5 rfl) (sb_c (qq_X4_dropsOf_0 10 rfl) (sb_c (qq_X4_dropsOf_0 11 rfl) (sb_c (qq_X4_dropsOf_0 12 rfl) (sb_c (qq_X4_dropsOf_0 13 rfl) (sb_c (qq_X4_dropsOf_0 14 rfl) (sb_c (qq_X4_dropsOf_0 15 rfl) (sb_c (qq_X4_dropsOf_0 16 rfl) (sb_c (qq_X4_dropsOf_0 17 rfl) (sb_c (qq_X4_dropsOf_0 18 rfl) (sb_c (qq_X4_dropsOf_0 19 rfl) (sb_c (qq_X4_dropsOf_0 20 rfl) (sb_c (qq_X4_dropsOf_0 21 rfl) (sb_c (qq_X4_dropsOf_0 22 rfl) (sb_c (qq_X4_dropsOf_0 23 rfl) (sb_c (qq_X4_dropsOf_1 0 rfl) (sb_c (qq_X4_dropsOf_0 0 rfl) (sb_c (qq_X4_dropsOf_0 1 rfl) (sb_c (qq_X4_dropsOf_1 1 rfl) (sb_c (qq_X4_dropsOf_1 2 rfl) (sb_c (qq_X4_dropsOf_1 3 rfl) sb_n)))))))))))))))))))))))) (sb_a (sb_c (qq_X4_dropsOf_1 4 rfl) (sb_c (qq_X4_dropsOf_1 5 rfl) (sb_c (qq_X4_dropsOf_1 6 rfl) (sb_c (qq_X4_dropsOf_1 7 rfl) (sb_c (qq_X4_dropsOf_1 8 rfl) (sb_c (qq_X4_dropsOf_1 9 rfl) (sb_c (qq_X4_dropsOf_1 10 rfl) (sb_c (qq_X4_dropsOf_1 11 rfl) (sb_c (qq_X4_dropsOf_1 12 rfl) (sb_c (qq_X4_dropsOf_1 13 rfl) (sb_c (qq_X4_dropsOf_1 14 rfl) (sb_c (qq_X4_dropsOf_1 15 rfl) (sb_c (qq_X4_dropsOf_1 16 rfl) (sb_c (qq_X4_dropsOf_1 17 rfl) (sb_c (qq_X4_dropsOf_1 18 rfl) (sb_c (qq_X4_dropsOf_1 19 rfl) (sb_c (qq_X4_dropsOf_1 20 rfl) (sb_c (qq_X4_dropsOf_1 21 rfl) (sb_c (qq_X4_dropsOf_1 22 rfl) (sb_c (qq_X4_dropsOf_1 23 rfl) (sb_c (qq_X4_dropsOf_2 0 rfl) (sb_c (qq_X4_dropsOf_2 1 rfl) (sb_c (qq_X4_dropsOf_2 2 rfl) (sb_c (qq_X4_dropsOf_2 3 rfl) sb_n)))))))))))))))))))))))) (sb_c (qq_X4_dropsOf_2 4 rfl) (sb_c (qq_X4_dropsOf_2 5 rfl) (sb_c (qq_X4_dropsOf_2 6 rfl) (sb_c (qq_X4_dropsOf_2 7 rfl) (sb_c (qq_X4_dropsOf_2 8 rfl) (sb_c (qq_X4_dropsOf_2 9 rfl) (sb_c (qq_X4_dropsOf_2 10 rfl) (sb_c (qq_X4_dropsOf_2 11 rfl) (sb_c (qq_X4_dropsOf_2 12 rfl) (sb_c (qq_X4_dropsOf_2 13 rfl) (sb_c (qq_X4_dropsOf_2 14 rfl) (sb_c (qq_X4_dropsOf_2 15 rfl) (sb_c (qq_X4_dropsOf_2 16 rfl) (sb_c (qq_X4_dropsOf_2 17 rfl) (sb_c (qq_X4_dropsOf_2 18 rfl) (sb_c (qq_X4_dropsOf_2 19 rfl) (sb_c (qq_X4_dropsOf_2 20 rfl) (sb_c (qq_X4_dropsOf_2 21 rfl) (sb_c (qq_X4_dropsOf_2 22 rfl) (sb_c (qq_X4_dropsOf_2 23 rfl) (sb_c (qq_X4_dropsOf_3 0 rfl) (sb_c (qq_X4_dropsOf_3 1 rfl) (sb_c (qq_X4_dropsOf_3 2 rfl) (sb_c (qq_X4_dropsOf_3 3 rfl) sb_n)))))))))))))))))))))))))) (uq_X4_dropsOf_X4))) gw_X4_runsTold
set_option maxRecDepth 20000 in
theorem gX4_dropsOf_X4_runsTold : GoodIn wsX4_dropsOf (wsV RX4 168 RX4 yX4_runsTold wsX4_runsTold) := goodIn_app (goodIn_sub (sb_c (qq_X4_dropsOf_0 2 rfl) (sb_c (qq_X4_dropsOf_0 3 rfl) (sb_c (qq_X4_dropsOf_0 4 rfl) (sb_c (qq_X4_dropsOf_0 5 rfl) sb_n)))) (by decide +kernel)) ggX4_dropsOf_X4_runsTold
theorem dX4_dropsOf_0 : decode cX4_dropsOf 0 = .ok (.aload_n 0, 1) := by decide +kernel
theorem dX4_dropsOf_1 : decode cX4_dropsOf 1 = .ok (.invokevirtual 168, 3) := by decide +kernel
theorem dX4_dropsOf_4 : decode cX4_dropsOf 4 = .ok (.iconst 0, 1) := by decide +kernel
theorem dX4_dropsOf_5 : decode cX4_dropsOf 5 = .ok (.istore_n 2, 1) := by decide +kernel
theorem dX4_dropsOf_6 : decode cX4_dropsOf 6 = .ok (.iconst 0, 1) := by decide +kernel
theorem dX4_dropsOf_7 : decode cX4_dropsOf 7 = .ok (.istore_n 3, 1) := by decide +kernel
theorem dX4_dropsOf_8 : decode cX4_dropsOf 8 = .ok (.iload_n 3, 1) := by decide +kernel
theorem dX4_dropsOf_9 : decode cX4_dropsOf 9 = .ok (.bipush 12, 2) := by decide +kernel
theorem dX4_dropsOf_11 : decode cX4_dropsOf 11 = .ok (.if_icmp .ge 35, 3) := by decide +kernel
theorem dX4_dropsOf_14 : decode cX4_dropsOf 14 = .ok (.iload_n 2, 1) := by decide +kernel
theorem dX4_dropsOf_15 : decode cX4_dropsOf 15 = .ok (.aload_n 0, 1) := by decide +kernel
theorem dX4_dropsOf_16 : decode cX4_dropsOf 16 = .ok (.getfield 52, 3) := by decide +kernel
theorem dX4_dropsOf_19 : decode cX4_dropsOf 19 = .ok (.bipush 8, 2) := by decide +kernel
theorem dX4_dropsOf_21 : decode cX4_dropsOf 21 = .ok (.iload_n 3, 1) := by decide +kernel
theorem dX4_dropsOf_22 : decode cX4_dropsOf 22 = .ok (.imul, 1) := by decide +kernel
theorem dX4_dropsOf_23 : decode cX4_dropsOf 23 = .ok (.iload_n 1, 1) := by decide +kernel
theorem dX4_dropsOf_24 : decode cX4_dropsOf 24 = .ok (.iadd, 1) := by decide +kernel
theorem dX4_dropsOf_25 : decode cX4_dropsOf 25 = .ok (.iaload, 1) := by decide +kernel
theorem dX4_dropsOf_26 : decode cX4_dropsOf 26 = .ok (.aload_n 0, 1) := by decide +kernel
theorem dX4_dropsOf_27 : decode cX4_dropsOf 27 = .ok (.getfield 55, 3) := by decide +kernel
theorem dX4_dropsOf_30 : decode cX4_dropsOf 30 = .ok (.bipush 8, 2) := by decide +kernel
theorem dX4_dropsOf_32 : decode cX4_dropsOf 32 = .ok (.iload_n 3, 1) := by decide +kernel
theorem dX4_dropsOf_33 : decode cX4_dropsOf 33 = .ok (.imul, 1) := by decide +kernel
theorem dX4_dropsOf_34 : decode cX4_dropsOf 34 = .ok (.iload_n 1, 1) := by decide +kernel
theorem dX4_dropsOf_35 : decode cX4_dropsOf 35 = .ok (.iadd, 1) := by decide +kernel
theorem dX4_dropsOf_36 : decode cX4_dropsOf 36 = .ok (.iaload, 1) := by decide +kernel
theorem dX4_dropsOf_37 : decode cX4_dropsOf 37 = .ok (.iadd, 1) := by decide +kernel
theorem dX4_dropsOf_38 : decode cX4_dropsOf 38 = .ok (.iadd, 1) := by decide +kernel
theorem dX4_dropsOf_39 : decode cX4_dropsOf 39 = .ok (.istore_n 2, 1) := by decide +kernel
theorem dX4_dropsOf_40 : decode cX4_dropsOf 40 = .ok (.iinc 3 1, 3) := by decide +kernel
theorem dX4_dropsOf_43 : decode cX4_dropsOf 43 = .ok (.goto (-35), 3) := by decide +kernel
theorem dX4_dropsOf_46 : decode cX4_dropsOf 46 = .ok (.iload_n 2, 1) := by decide +kernel
theorem dX4_dropsOf_47 : decode cX4_dropsOf 47 = .ok (.ireturn, 1) := by decide +kernel
theorem qq_X4_drops_0 {c : Cond} (j : Nat) (h : wsX4_drops_r1[j]? = some c) : c ∈ wsX4_drops := List.mem_cons_of_mem _ (List.mem_append_left _ (List.mem_append_left _ (List.mem_of_getElem? h)))
theorem qq_X4_drops_1 {c : Cond} (j : Nat) (h : wsX4_drops_r2[j]? = some c) : c ∈ wsX4_drops := List.mem_cons_of_mem _ (List.mem_append_left _ (List.mem_append_right _ (List.mem_append_left _ (List.mem_of_getElem? h))))
theorem qq_X4_drops_2 {c : Cond} (j : Nat) (h : wsX4_drops_r3[j]? = some c) : c ∈ wsX4_drops := List.mem_cons_of_mem _ (List.mem_append_left _ (List.mem_append_right _ (List.mem_append_right _ (List.mem_append_left _ (List.mem_of_getElem? h)))))
theorem qq_X4_drops_3 {c : Cond} (j : Nat) (h : wsX4_drops_r4[j]? = some c) : c ∈ wsX4_drops := List.mem_cons_of_mem _ (List.mem_append_left _ (List.mem_append_right _ (List.mem_append_right _ (List.mem_append_right _ (List.mem_of_getElem? h)))))
theorem uq_X4_drops_X4 : wsub wsX40 wsX4_drops := fun _ h => List.mem_cons_of_mem _ (List.mem_append_right _ (h))
set_option maxRecDepth 20000 in
theorem ggX4_drops_X4_isNozzle : GoodIn wsX4_drops wsX4_isNozzle := goodIn_sub (sb_c (qq_X4_drops_0 4 rfl) (sb_a (sb_c (qq_X4_drops_0 5 rfl) (sb_c (qq_X4_drops_0 6 rfl) (sb_c (qq_X4_drops_0 7 rfl) (sb_c (qq_X4_drops_0 3 rfl) (sb_c (qq_X4_drops_0 8 rfl) sb_n))))) (uq_X4_drops_X4))) gw_X4_isNozzle
set_option maxRecDepth 20000 in
theorem gX4_drops_X4_isNozzle : GoodIn wsX4_drops (wsV RX4 194 RX4 yX4_isNozzle wsX4_isNozzle) := goodIn_app (goodIn_sub (sb_c (qq_X4_drops_0 0 rfl) (sb_c (qq_X4_drops_0 1 rfl) (sb_c (qq_X4_drops_0 2 rfl) (sb_c (qq_X4_drops_0 3 rfl) sb_n)))) (by decide +kernel)) ggX4_drops_X4_isNozzle
set_option maxRecDepth 20000 in
theorem gw_X4_dropsOf : wsX4_dropsOf.all goodWord = true := by decide +kernel
set_option maxRecDepth 20000 in
theorem ggX4_drops_X4_dropsOf : GoodIn wsX4_drops wsX4_dropsOf := goodIn_sub (sb_c (qq_X4_drops_0 12 rfl) (sb_a (sb_a (sb_c (qq_X4_drops_0 13 rfl) (sb_c (qq_X4_drops_0 14 rfl) (sb_c (qq_X4_drops_0 15 rfl) (sb_c (qq_X4_drops_0 16 rfl) (sb_c (qq_X4_drops_0 17 rfl) (sb_c (qq_X4_drops_0 3 rfl) (sb_c (qq_X4_drops_0 18 rfl) (sb_c (qq_X4_drops_0 19 rfl) (sb_c (qq_X4_drops_0 20 rfl) (sb_c (qq_X4_drops_0 21 rfl) (sb_c (qq_X4_drops_0 22 rfl) (sb_c (qq_X4_drops_0 23 rfl) (sb_c (qq_X4_drops_1 0 rfl) (sb_c (qq_X4_drops_1 1 rfl) (sb_c (qq_X4_drops_0 5 rfl) (sb_c (qq_X4_drops_1 2 rfl) (sb_c (qq_X4_drops_1 3 rfl) (sb_c (qq_X4_drops_1 4 rfl) (sb_c (qq_X4_drops_1 5 rfl) (sb_c (qq_X4_drops_1 6 rfl) (sb_c (qq_X4_drops_1 7 rfl) (sb_c (qq_X4_drops_1 8 rfl) (sb_c (qq_X4_drops_1 9 rfl) (sb_c (qq_X4_drops_1 10 rfl) sb_n)))))))))))))))))))))))) (sb_a (sb_c (qq_X4_drops_1 11 rfl) (sb_c (qq_X4_drops_1 12 rfl) (sb_c (qq_X4_drops_1 13 rfl) (sb_c (qq_X4_drops_1 14 rfl) (sb_c (qq_X4_drops_1 15 rfl) (sb_c (qq_X4_drops_1 16 rfl) (sb_c (qq_X4_drops_1 17 rfl) (sb_c (qq_X4_drops_1 18 rfl) (sb_c (qq_X4_drops_1 19 rfl) (sb_c (qq_X4_drops_1 20 rfl) (sb_c (qq_X4_drops_1 21 rfl) (sb_c (qq_X4_drops_1 22 rfl) (sb_c (qq_X4_drops_1 23 rfl) (sb_c (qq_X4_drops_0 6 rfl) (sb_c (qq_X4_drops_0 7 rfl) (sb_c (qq_X4_drops_0 8 rfl) (sb_c (qq_X4_drops_2 0 rfl) (sb_c (qq_X4_drops_2 1 rfl) (sb_c (qq_X4_drops_2 2 rfl) (sb_c (qq_X4_drops_2 3 rfl) (sb_c (qq_X4_drops_2 4 rfl) (sb_c (qq_X4_drops_2 5 rfl) (sb_c (qq_X4_drops_2 6 rfl) (sb_c (qq_X4_drops_2 7 rfl) sb_n)))))))))))))))))))))))) (sb_a (sb_c (qq_X4_drops_2 8 rfl) (sb_c (qq_X4_drops_2 9 rfl) (sb_c (qq_X4_drops_2 10 rfl) (sb_c (qq_X4_drops_2 11 rfl) (sb_c (qq_X4_drops_2 12 rfl) (sb_c (qq_X4_drops_2 13 rfl) (sb_c (qq_X4_drops_2 14 rfl) (sb_c (qq_X4_drops_2 15 rfl) (sb_c (qq_X4_drops_2 16 rfl) (sb_c (qq_X4_drops_2 17 rfl) (sb_c (qq_X4_drops_2 18 rfl) (sb_c (qq_X4_drops_2 19 rfl) (sb_c (qq_X4_drops_2 20 rfl) (sb_c (qq_X4_drops_2 21 rfl) (sb_c (qq_X4_drops_2 22 rfl) (sb_c (qq_X4_drops_2 23 rfl) (sb_c (qq_X4_drops_3 0 rfl) (sb_c (qq_X4_drops_3 1 rfl) (sb_c (qq_X4_drops_3 2 rfl) (sb_c (qq_X4_drops_3 3 rfl) (sb_c (qq_X4_drops_3 4 rfl) (sb_c (qq_X4_drops_3 5 rfl) (sb_c (qq_X4_drops_3 6 rfl) (sb_c (qq_X4_drops_3 7 rfl) sb_n)))))))))))))))))))))))) (sb_c (qq_X4_drops_3 8 rfl) (sb_c (qq_X4_drops_3 9 rfl) (sb_c (qq_X4_drops_3 10 rfl) (sb_c (qq_X4_drops_3 11 rfl) sb_n))))))) (uq_X4_drops_X4))) gw_X4_dropsOf
set_option maxRecDepth 20000 in
theorem gX4_drops_X4_dropsOf : GoodIn wsX4_drops (wsV RX4 222 RX4 yX4_dropsOf wsX4_dropsOf) := goodIn_app (goodIn_sub (sb_c (qq_X4_drops_0 9 rfl) (sb_c (qq_X4_drops_0 10 rfl) (sb_c (qq_X4_drops_0 11 rfl) (sb_c (qq_X4_drops_0 3 rfl) sb_n)))) (by decide +kernel)) ggX4_drops_X4_dropsOf
theorem dX4_drops_0 : decode cX4_drops 0 = .ok (.aload_n 0, 1) := by decide +kernel
theorem dX4_drops_1 : decode cX4_drops 1 = .ok (.iload_n 1, 1) := by decide +kernel
theorem dX4_drops_2 : decode cX4_drops 2 = .ok (.invokevirtual 194, 3) := by decide +kernel
theorem dX4_drops_5 : decode cX4_drops 5 = .ok (.ifCond .eq 11, 3) := by decide +kernel
theorem dX4_drops_8 : decode cX4_drops 8 = .ok (.aload_n 0, 1) := by decide +kernel
theorem dX4_drops_9 : decode cX4_drops 9 = .ok (.iload_n 1, 1) := by decide +kernel
theorem dX4_drops_10 : decode cX4_drops 10 = .ok (.invokevirtual 222, 3) := by decide +kernel
theorem dX4_drops_13 : decode cX4_drops 13 = .ok (.goto 5, 3) := by decide +kernel
theorem dX4_drops_16 : decode cX4_drops 16 = .ok (.bipush (-2), 2) := by decide +kernel
theorem dX4_drops_18 : decode cX4_drops 18 = .ok (.ireturn, 1) := by decide +kernel
theorem qq_X4_evenOf_0 {c : Cond} (j : Nat) (h : wsX4_evenOf_r1[j]? = some c) : c ∈ wsX4_evenOf := List.mem_cons_of_mem _ (List.mem_append_left _ (List.mem_append_left _ (List.mem_of_getElem? h)))
theorem qq_X4_evenOf_1 {c : Cond} (j : Nat) (h : wsX4_evenOf_r2[j]? = some c) : c ∈ wsX4_evenOf := List.mem_cons_of_mem _ (List.mem_append_left _ (List.mem_append_right _ (List.mem_append_left _ (List.mem_of_getElem? h))))
theorem qq_X4_evenOf_2 {c : Cond} (j : Nat) (h : wsX4_evenOf_r3[j]? = some c) : c ∈ wsX4_evenOf := List.mem_cons_of_mem _ (List.mem_append_left _ (List.mem_append_right _ (List.mem_append_right _ (List.mem_append_left _ (List.mem_of_getElem? h)))))
theorem qq_X4_evenOf_3 {c : Cond} (j : Nat) (h : wsX4_evenOf_r4[j]? = some c) : c ∈ wsX4_evenOf := List.mem_cons_of_mem _ (List.mem_append_left _ (List.mem_append_right _ (List.mem_append_right _ (List.mem_append_right _ (List.mem_of_getElem? h)))))
theorem uq_X4_evenOf_X4 : wsub wsX40 wsX4_evenOf := fun _ h => List.mem_cons_of_mem _ (List.mem_append_right _ (h))
set_option maxRecDepth 20000 in
theorem ggX4_evenOf_X4_runsTold : GoodIn wsX4_evenOf wsX4_runsTold := goodIn_sub (sb_c (qq_X4_evenOf_0 5 rfl) (sb_a (sb_a (sb_c (qq_X4_evenOf_0 6 rfl) (sb_c (qq_X4_evenOf_0 7 rfl) (sb_c (qq_X4_evenOf_0 8 rfl) (sb_c (qq_X4_evenOf_0 4 rfl) (sb_c (qq_X4_evenOf_0 9 rfl) (sb_c (qq_X4_evenOf_0 10 rfl) (sb_c (qq_X4_evenOf_0 11 rfl) (sb_c (qq_X4_evenOf_0 12 rfl) (sb_c (qq_X4_evenOf_0 13 rfl) (sb_c (qq_X4_evenOf_0 14 rfl) (sb_c (qq_X4_evenOf_0 15 rfl) (sb_c (qq_X4_evenOf_0 16 rfl) (sb_c (qq_X4_evenOf_0 17 rfl) (sb_c (qq_X4_evenOf_0 18 rfl) (sb_c (qq_X4_evenOf_0 19 rfl) (sb_c (qq_X4_evenOf_0 20 rfl) (sb_c (qq_X4_evenOf_0 21 rfl) (sb_c (qq_X4_evenOf_0 22 rfl) (sb_c (qq_X4_evenOf_0 23 rfl) (sb_c (qq_X4_evenOf_1 0 rfl) (sb_c (qq_X4_evenOf_1 1 rfl) (sb_c (qq_X4_evenOf_1 2 rfl) (sb_c (qq_X4_evenOf_1 3 rfl) (sb_c (qq_X4_evenOf_1 4 rfl) sb_n)))))))))))))))))))))))) (sb_a (sb_c (qq_X4_evenOf_1 5 rfl) (sb_c (qq_X4_evenOf_1 6 rfl) (sb_c (qq_X4_evenOf_0 0 rfl) (sb_c (qq_X4_evenOf_1 7 rfl) (sb_c (qq_X4_evenOf_1 8 rfl) (sb_c (qq_X4_evenOf_1 9 rfl) (sb_c (qq_X4_evenOf_1 10 rfl) (sb_c (qq_X4_evenOf_1 11 rfl) (sb_c (qq_X4_evenOf_1 12 rfl) (sb_c (qq_X4_evenOf_1 13 rfl) (sb_c (qq_X4_evenOf_1 14 rfl) (sb_c (qq_X4_evenOf_1 15 rfl) (sb_c (qq_X4_evenOf_1 16 rfl) (sb_c (qq_X4_evenOf_1 17 rfl) (sb_c (qq_X4_evenOf_1 18 rfl) (sb_c (qq_X4_evenOf_1 19 rfl) (sb_c (qq_X4_evenOf_1 20 rfl) (sb_c (qq_X4_evenOf_1 21 rfl) (sb_c (qq_X4_evenOf_1 22 rfl) (sb_c (qq_X4_evenOf_1 23 rfl) (sb_c (qq_X4_evenOf_2 0 rfl) (sb_c (qq_X4_evenOf_2 1 rfl) (sb_c (qq_X4_evenOf_2 2 rfl) (sb_c (qq_X4_evenOf_2 3 rfl) sb_n)))))))))))))))))))))))) (sb_c (qq_X4_evenOf_2 4 rfl) (sb_c (qq_X4_evenOf_2 5 rfl) (sb_c (qq_X4_evenOf_2 6 rfl) (sb_c (qq_X4_evenOf_2 7 rfl) (sb_c (qq_X4_evenOf_2 8 rfl) (sb_c (qq_X4_evenOf_2 9 rfl) (sb_c (qq_X4_evenOf_2 10 rfl) (sb_c (qq_X4_evenOf_2 11 rfl) (sb_c (qq_X4_evenOf_2 12 rfl) (sb_c (qq_X4_evenOf_2 13 rfl) (sb_c (qq_X4_evenOf_2 14 rfl) (sb_c (qq_X4_evenOf_2 15 rfl) (sb_c (qq_X4_evenOf_2 16 rfl) (sb_c (qq_X4_evenOf_2 17 rfl) (sb_c (qq_X4_evenOf_2 18 rfl) (sb_c (qq_X4_evenOf_2 19 rfl) (sb_c (qq_X4_evenOf_2 20 rfl) (sb_c (qq_X4_evenOf_2 21 rfl) (sb_c (qq_X4_evenOf_2 22 rfl) (sb_c (qq_X4_evenOf_2 23 rfl) (sb_c (qq_X4_evenOf_3 0 rfl) (sb_c (qq_X4_evenOf_3 1 rfl) (sb_c (qq_X4_evenOf_3 2 rfl) (sb_c (qq_X4_evenOf_3 3 rfl) sb_n)))))))))))))))))))))))))) (uq_X4_evenOf_X4))) gw_X4_runsTold
set_option maxRecDepth 20000 in
theorem gX4_evenOf_X4_runsTold : GoodIn wsX4_evenOf (wsV RX4 168 RX4 yX4_runsTold wsX4_runsTold) := goodIn_app (goodIn_sub (sb_c (qq_X4_evenOf_0 1 rfl) (sb_c (qq_X4_evenOf_0 2 rfl) (sb_c (qq_X4_evenOf_0 3 rfl) (sb_c (qq_X4_evenOf_0 4 rfl) sb_n)))) (by decide +kernel)) ggX4_evenOf_X4_runsTold
theorem dX4_evenOf_0 : decode cX4_evenOf 0 = .ok (.aload_n 0, 1) := by decide +kernel
theorem dX4_evenOf_1 : decode cX4_evenOf 1 = .ok (.invokevirtual 168, 3) := by decide +kernel
theorem dX4_evenOf_4 : decode cX4_evenOf 4 = .ok (.bipush 99, 2) := by decide +kernel
theorem dX4_evenOf_6 : decode cX4_evenOf 6 = .ok (.istore_n 2, 1) := by decide +kernel
theorem dX4_evenOf_7 : decode cX4_evenOf 7 = .ok (.iconst 0, 1) := by decide +kernel
theorem dX4_evenOf_8 : decode cX4_evenOf 8 = .ok (.istore_n 3, 1) := by decide +kernel
theorem dX4_evenOf_9 : decode cX4_evenOf 9 = .ok (.iconst 0, 1) := by decide +kernel
theorem dX4_evenOf_10 : decode cX4_evenOf 10 = .ok (.istore 4, 2) := by decide +kernel
theorem dX4_evenOf_12 : decode cX4_evenOf 12 = .ok (.iconst 0, 1) := by decide +kernel
theorem dX4_evenOf_13 : decode cX4_evenOf 13 = .ok (.istore 5, 2) := by decide +kernel
theorem dX4_evenOf_15 : decode cX4_evenOf 15 = .ok (.iload 5, 2) := by decide +kernel
theorem dX4_evenOf_17 : decode cX4_evenOf 17 = .ok (.bipush 16, 2) := by decide +kernel
theorem dX4_evenOf_19 : decode cX4_evenOf 19 = .ok (.if_icmp .ge 76, 3) := by decide +kernel
theorem dX4_evenOf_22 : decode cX4_evenOf 22 = .ok (.aload_n 0, 1) := by decide +kernel
theorem dX4_evenOf_23 : decode cX4_evenOf 23 = .ok (.getfield 31, 3) := by decide +kernel
theorem dX4_evenOf_26 : decode cX4_evenOf 26 = .ok (.iload 5, 2) := by decide +kernel
theorem dX4_evenOf_28 : decode cX4_evenOf 28 = .ok (.iaload, 1) := by decide +kernel
theorem dX4_evenOf_29 : decode cX4_evenOf 29 = .ok (.iload_n 2, 1) := by decide +kernel
theorem dX4_evenOf_30 : decode cX4_evenOf 30 = .ok (.if_icmp .ge 13, 3) := by decide +kernel
theorem dX4_evenOf_33 : decode cX4_evenOf 33 = .ok (.aload_n 0, 1) := by decide +kernel
theorem dX4_evenOf_34 : decode cX4_evenOf 34 = .ok (.getfield 31, 3) := by decide +kernel
theorem dX4_evenOf_37 : decode cX4_evenOf 37 = .ok (.iload 5, 2) := by decide +kernel
theorem dX4_evenOf_39 : decode cX4_evenOf 39 = .ok (.iaload, 1) := by decide +kernel
theorem dX4_evenOf_40 : decode cX4_evenOf 40 = .ok (.goto 4, 3) := by decide +kernel
theorem dX4_evenOf_43 : decode cX4_evenOf 43 = .ok (.iload_n 2, 1) := by decide +kernel
theorem dX4_evenOf_44 : decode cX4_evenOf 44 = .ok (.istore_n 2, 1) := by decide +kernel
theorem dX4_evenOf_45 : decode cX4_evenOf 45 = .ok (.aload_n 0, 1) := by decide +kernel
theorem dX4_evenOf_46 : decode cX4_evenOf 46 = .ok (.getfield 31, 3) := by decide +kernel
theorem dX4_evenOf_49 : decode cX4_evenOf 49 = .ok (.iload 5, 2) := by decide +kernel
theorem dX4_evenOf_51 : decode cX4_evenOf 51 = .ok (.iaload, 1) := by decide +kernel
theorem dX4_evenOf_52 : decode cX4_evenOf 52 = .ok (.iload_n 3, 1) := by decide +kernel
theorem dX4_evenOf_53 : decode cX4_evenOf 53 = .ok (.if_icmp .le 13, 3) := by decide +kernel
theorem dX4_evenOf_56 : decode cX4_evenOf 56 = .ok (.aload_n 0, 1) := by decide +kernel
theorem dX4_evenOf_57 : decode cX4_evenOf 57 = .ok (.getfield 31, 3) := by decide +kernel
theorem dX4_evenOf_60 : decode cX4_evenOf 60 = .ok (.iload 5, 2) := by decide +kernel
theorem dX4_evenOf_62 : decode cX4_evenOf 62 = .ok (.iaload, 1) := by decide +kernel
theorem dX4_evenOf_63 : decode cX4_evenOf 63 = .ok (.goto 4, 3) := by decide +kernel
theorem dX4_evenOf_66 : decode cX4_evenOf 66 = .ok (.iload_n 3, 1) := by decide +kernel
theorem dX4_evenOf_67 : decode cX4_evenOf 67 = .ok (.istore_n 3, 1) := by decide +kernel
theorem dX4_evenOf_68 : decode cX4_evenOf 68 = .ok (.iload 4, 2) := by decide +kernel
theorem dX4_evenOf_70 : decode cX4_evenOf 70 = .ok (.aload_n 0, 1) := by decide +kernel
theorem dX4_evenOf_71 : decode cX4_evenOf 71 = .ok (.getfield 31, 3) := by decide +kernel
theorem dX4_evenOf_74 : decode cX4_evenOf 74 = .ok (.iload 5, 2) := by decide +kernel
theorem dX4_evenOf_76 : decode cX4_evenOf 76 = .ok (.iaload, 1) := by decide +kernel
theorem dX4_evenOf_77 : decode cX4_evenOf 77 = .ok (.iconst 1, 1) := by decide +kernel
theorem dX4_evenOf_78 : decode cX4_evenOf 78 = .ok (.if_icmp .ne 7, 3) := by decide +kernel
theorem dX4_evenOf_81 : decode cX4_evenOf 81 = .ok (.iconst 1, 1) := by decide +kernel
theorem dX4_evenOf_82 : decode cX4_evenOf 82 = .ok (.goto 4, 3) := by decide +kernel
theorem dX4_evenOf_85 : decode cX4_evenOf 85 = .ok (.iconst 0, 1) := by decide +kernel
theorem dX4_evenOf_86 : decode cX4_evenOf 86 = .ok (.iadd, 1) := by decide +kernel
theorem dX4_evenOf_87 : decode cX4_evenOf 87 = .ok (.istore 4, 2) := by decide +kernel
theorem dX4_evenOf_89 : decode cX4_evenOf 89 = .ok (.iinc 5 1, 3) := by decide +kernel
theorem dX4_evenOf_92 : decode cX4_evenOf 92 = .ok (.goto (-77), 3) := by decide +kernel
theorem dX4_evenOf_95 : decode cX4_evenOf 95 = .ok (.iload_n 1, 1) := by decide +kernel
theorem dX4_evenOf_96 : decode cX4_evenOf 96 = .ok (.ifCond .ne 7, 3) := by decide +kernel
theorem dX4_evenOf_99 : decode cX4_evenOf 99 = .ok (.iload_n 2, 1) := by decide +kernel
theorem dX4_evenOf_100 : decode cX4_evenOf 100 = .ok (.goto 14, 3) := by decide +kernel
theorem dX4_evenOf_103 : decode cX4_evenOf 103 = .ok (.iload_n 1, 1) := by decide +kernel
theorem dX4_evenOf_104 : decode cX4_evenOf 104 = .ok (.iconst 1, 1) := by decide +kernel
theorem dX4_evenOf_105 : decode cX4_evenOf 105 = .ok (.if_icmp .ne 7, 3) := by decide +kernel
theorem dX4_evenOf_108 : decode cX4_evenOf 108 = .ok (.iload_n 3, 1) := by decide +kernel
theorem dX4_evenOf_109 : decode cX4_evenOf 109 = .ok (.goto 5, 3) := by decide +kernel
theorem dX4_evenOf_112 : decode cX4_evenOf 112 = .ok (.iload 4, 2) := by decide +kernel
theorem dX4_evenOf_114 : decode cX4_evenOf 114 = .ok (.ireturn, 1) := by decide +kernel
theorem qq_X4_even_0 {c : Cond} (j : Nat) (h : wsX4_even_r1[j]? = some c) : c ∈ wsX4_even := List.mem_cons_of_mem _ (List.mem_append_left _ (List.mem_append_left _ (List.mem_of_getElem? h)))
theorem qq_X4_even_1 {c : Cond} (j : Nat) (h : wsX4_even_r2[j]? = some c) : c ∈ wsX4_even := List.mem_cons_of_mem _ (List.mem_append_left _ (List.mem_append_right _ (List.mem_append_left _ (List.mem_of_getElem? h))))
theorem qq_X4_even_2 {c : Cond} (j : Nat) (h : wsX4_even_r3[j]? = some c) : c ∈ wsX4_even := List.mem_cons_of_mem _ (List.mem_append_left _ (List.mem_append_right _ (List.mem_append_right _ (List.mem_append_left _ (List.mem_of_getElem? h)))))
theorem qq_X4_even_3 {c : Cond} (j : Nat) (h : wsX4_even_r4[j]? = some c) : c ∈ wsX4_even := List.mem_cons_of_mem _ (List.mem_append_left _ (List.mem_append_right _ (List.mem_append_right _ (List.mem_append_right _ (List.mem_of_getElem? h)))))
theorem uq_X4_even_X4 : wsub wsX40 wsX4_even := fun _ h => List.mem_cons_of_mem _ (List.mem_append_right _ (h))
set_option maxRecDepth 20000 in
theorem ggX4_even_X4_isThree : GoodIn wsX4_even wsX4_isThree := goodIn_sub (sb_c (qq_X4_even_0 3 rfl) (sb_c (qq_X4_even_0 4 rfl) (sb_c (qq_X4_even_0 5 rfl) (sb_c (qq_X4_even_0 2 rfl) (sb_c (qq_X4_even_0 6 rfl) sb_n))))) gw_X4_isThree
set_option maxRecDepth 20000 in
theorem gX4_even_X4_isThree : GoodIn wsX4_even (va_wsS RX4 197 yX4_isThree wsX4_isThree) := goodIn_app (goodIn_sub (sb_c (qq_X4_even_0 0 rfl) (sb_c (qq_X4_even_0 1 rfl) (sb_c (qq_X4_even_0 2 rfl) sb_n))) (by decide +kernel)) ggX4_even_X4_isThree
set_option maxRecDepth 20000 in
theorem gw_X4_evenOf : wsX4_evenOf.all goodWord = true := by decide +kernel
set_option maxRecDepth 20000 in
theorem ggX4_even_X4_evenOf : GoodIn wsX4_even wsX4_evenOf := goodIn_sub (sb_c (qq_X4_even_0 10 rfl) (sb_a (sb_a (sb_c (qq_X4_even_0 11 rfl) (sb_c (qq_X4_even_0 12 rfl) (sb_c (qq_X4_even_0 13 rfl) (sb_c (qq_X4_even_0 14 rfl) (sb_c (qq_X4_even_0 2 rfl) (sb_c (qq_X4_even_0 15 rfl) (sb_c (qq_X4_even_0 16 rfl) (sb_c (qq_X4_even_0 17 rfl) (sb_c (qq_X4_even_0 18 rfl) (sb_c (qq_X4_even_0 19 rfl) (sb_c (qq_X4_even_0 20 rfl) (sb_c (qq_X4_even_0 21 rfl) (sb_c (qq_X4_even_0 22 rfl) (sb_c (qq_X4_even_0 23 rfl) (sb_c (qq_X4_even_1 0 rfl) (sb_c (qq_X4_even_1 1 rfl) (sb_c (qq_X4_even_1 2 rfl) (sb_c (qq_X4_even_1 3 rfl) (sb_c (qq_X4_even_1 4 rfl) (sb_c (qq_X4_even_1 5 rfl) (sb_c (qq_X4_even_1 6 rfl) (sb_c (qq_X4_even_1 7 rfl) (sb_c (qq_X4_even_1 8 rfl) (sb_c (qq_X4_even_1 9 rfl) sb_n)))))))))))))))))))))))) (sb_a (sb_c (qq_X4_even_1 10 rfl) (sb_c (qq_X4_even_1 11 rfl) (sb_c (qq_X4_even_1 12 rfl) (sb_c (qq_X4_even_1 13 rfl) (sb_c (qq_X4_even_1 14 rfl) (sb_c (qq_X4_even_1 15 rfl) (sb_c (qq_X4_even_1 16 rfl) (sb_c (qq_X4_even_1 17 rfl) (sb_c (qq_X4_even_1 18 rfl) (sb_c (qq_X4_even_1 19 rfl) (sb_c (qq_X4_even_1 20 rfl) (sb_c (qq_X4_even_1 21 rfl) (sb_c (qq_X4_even_1 22 rfl) (sb_c (qq_X4_even_0 4 rfl) (sb_c (qq_X4_even_0 5 rfl) (sb_c (qq_X4_even_0 6 rfl) (sb_c (qq_X4_even_1 23 rfl) (sb_c (qq_X4_even_2 0 rfl) (sb_c (qq_X4_even_2 1 rfl) (sb_c (qq_X4_even_2 2 rfl) (sb_c (qq_X4_even_2 3 rfl) (sb_c (qq_X4_even_2 4 rfl) (sb_c (qq_X4_even_2 5 rfl) (sb_c (qq_X4_even_2 6 rfl) sb_n)))))))))))))))))))))))) (sb_a (sb_c (qq_X4_even_2 7 rfl) (sb_c (qq_X4_even_2 8 rfl) (sb_c (qq_X4_even_2 9 rfl) (sb_c (qq_X4_even_2 10 rfl) (sb_c (qq_X4_even_2 11 rfl) (sb_c (qq_X4_even_2 12 rfl) (sb_c (qq_X4_even_2 13 rfl) (sb_c (qq_X4_even_2 14 rfl) (sb_c (qq_X4_even_2 15 rfl) (sb_c (qq_X4_even_2 16 rfl) (sb_c (qq_X4_even_2 17 rfl) (sb_c (qq_X4_even_2 18 rfl) (sb_c (qq_X4_even_2 19 rfl) (sb_c (qq_X4_even_2 20 rfl) (sb_c (qq_X4_even_2 21 rfl) (sb_c (qq_X4_even_2 22 rfl) (sb_c (qq_X4_even_2 23 rfl) (sb_c (qq_X4_even_3 0 rfl) (sb_c (qq_X4_even_3 1 rfl) (sb_c (qq_X4_even_3 2 rfl) (sb_c (qq_X4_even_3 3 rfl) (sb_c (qq_X4_even_3 4 rfl) (sb_c (qq_X4_even_3 5 rfl) (sb_c (qq_X4_even_3 6 rfl) sb_n)))))))))))))))))))))))) (sb_c (qq_X4_even_3 7 rfl) (sb_c (qq_X4_even_3 8 rfl) (sb_c (qq_X4_even_3 9 rfl) (sb_c (qq_X4_even_3 10 rfl) sb_n))))))) (uq_X4_even_X4))) gw_X4_evenOf
set_option maxRecDepth 20000 in
theorem gX4_even_X4_evenOf : GoodIn wsX4_even (wsV RX4 225 RX4 yX4_evenOf wsX4_evenOf) := goodIn_app (goodIn_sub (sb_c (qq_X4_even_0 7 rfl) (sb_c (qq_X4_even_0 8 rfl) (sb_c (qq_X4_even_0 9 rfl) (sb_c (qq_X4_even_0 2 rfl) sb_n)))) (by decide +kernel)) ggX4_even_X4_evenOf
theorem dX4_even_0 : decode cX4_even 0 = .ok (.iload_n 1, 1) := by decide +kernel
theorem dX4_even_1 : decode cX4_even 1 = .ok (.invokestatic 197, 3) := by decide +kernel
theorem dX4_even_4 : decode cX4_even 4 = .ok (.ifCond .eq 11, 3) := by decide +kernel
theorem dX4_even_7 : decode cX4_even 7 = .ok (.aload_n 0, 1) := by decide +kernel
theorem dX4_even_8 : decode cX4_even 8 = .ok (.iload_n 1, 1) := by decide +kernel
theorem dX4_even_9 : decode cX4_even 9 = .ok (.invokevirtual 225, 3) := by decide +kernel
theorem dX4_even_12 : decode cX4_even 12 = .ok (.goto 5, 3) := by decide +kernel
theorem dX4_even_15 : decode cX4_even 15 = .ok (.bipush (-2), 2) := by decide +kernel
theorem dX4_even_17 : decode cX4_even 17 = .ok (.ireturn, 1) := by decide +kernel
theorem qq_X4_openOf_0 {c : Cond} (j : Nat) (h : wsX4_openOf_r1[j]? = some c) : c ∈ wsX4_openOf := List.mem_cons_of_mem _ (List.mem_append_left _ (List.mem_append_left _ (List.mem_of_getElem? h)))
theorem qq_X4_openOf_1 {c : Cond} (j : Nat) (h : wsX4_openOf_r2[j]? = some c) : c ∈ wsX4_openOf := List.mem_cons_of_mem _ (List.mem_append_left _ (List.mem_append_right _ (List.mem_append_left _ (List.mem_of_getElem? h))))
theorem qq_X4_openOf_2 {c : Cond} (j : Nat) (h : wsX4_openOf_r3[j]? = some c) : c ∈ wsX4_openOf := List.mem_cons_of_mem _ (List.mem_append_left _ (List.mem_append_right _ (List.mem_append_right _ (List.mem_append_left _ (List.mem_of_getElem? h)))))
theorem qq_X4_openOf_3 {c : Cond} (j : Nat) (h : wsX4_openOf_r4[j]? = some c) : c ∈ wsX4_openOf := List.mem_cons_of_mem _ (List.mem_append_left _ (List.mem_append_right _ (List.mem_append_right _ (List.mem_append_right _ (List.mem_of_getElem? h)))))
theorem uq_X4_openOf_X4 : wsub wsX40 wsX4_openOf := fun _ h => List.mem_cons_of_mem _ (List.mem_append_right _ (h))
set_option maxRecDepth 20000 in
theorem ggX4_openOf_X4_runsTold : GoodIn wsX4_openOf wsX4_runsTold := goodIn_sub (sb_c (qq_X4_openOf_0 5 rfl) (sb_a (sb_a (sb_c (qq_X4_openOf_0 6 rfl) (sb_c (qq_X4_openOf_0 7 rfl) (sb_c (qq_X4_openOf_0 8 rfl) (sb_c (qq_X4_openOf_0 4 rfl) (sb_c (qq_X4_openOf_0 9 rfl) (sb_c (qq_X4_openOf_0 10 rfl) (sb_c (qq_X4_openOf_0 11 rfl) (sb_c (qq_X4_openOf_0 0 rfl) (sb_c (qq_X4_openOf_0 12 rfl) (sb_c (qq_X4_openOf_0 13 rfl) (sb_c (qq_X4_openOf_0 14 rfl) (sb_c (qq_X4_openOf_0 15 rfl) (sb_c (qq_X4_openOf_0 16 rfl) (sb_c (qq_X4_openOf_0 17 rfl) (sb_c (qq_X4_openOf_0 18 rfl) (sb_c (qq_X4_openOf_0 19 rfl) (sb_c (qq_X4_openOf_0 20 rfl) (sb_c (qq_X4_openOf_0 21 rfl) (sb_c (qq_X4_openOf_0 22 rfl) (sb_c (qq_X4_openOf_0 23 rfl) (sb_c (qq_X4_openOf_1 0 rfl) (sb_c (qq_X4_openOf_1 1 rfl) (sb_c (qq_X4_openOf_1 2 rfl) (sb_c (qq_X4_openOf_1 3 rfl) sb_n)))))))))))))))))))))))) (sb_a (sb_c (qq_X4_openOf_1 4 rfl) (sb_c (qq_X4_openOf_1 5 rfl) (sb_c (qq_X4_openOf_1 6 rfl) (sb_c (qq_X4_openOf_1 7 rfl) (sb_c (qq_X4_openOf_1 8 rfl) (sb_c (qq_X4_openOf_1 9 rfl) (sb_c (qq_X4_openOf_1 10 rfl) (sb_c (qq_X4_openOf_1 11 rfl) (sb_c (qq_X4_openOf_1 12 rfl) (sb_c (qq_X4_openOf_1 13 rfl) (sb_c (qq_X4_openOf_1 14 rfl) (sb_c (qq_X4_openOf_1 15 rfl) (sb_c (qq_X4_openOf_1 16 rfl) (sb_c (qq_X4_openOf_1 17 rfl) (sb_c (qq_X4_openOf_1 18 rfl) (sb_c (qq_X4_openOf_1 19 rfl) (sb_c (qq_X4_openOf_1 20 rfl) (sb_c (qq_X4_openOf_1 21 rfl) (sb_c (qq_X4_openOf_1 22 rfl) (sb_c (qq_X4_openOf_1 23 rfl) (sb_c (qq_X4_openOf_2 0 rfl) (sb_c (qq_X4_openOf_2 1 rfl) (sb_c (qq_X4_openOf_2 2 rfl) (sb_c (qq_X4_openOf_2 3 rfl) sb_n)))))))))))))))))))))))) (sb_c (qq_X4_openOf_2 4 rfl) (sb_c (qq_X4_openOf_2 5 rfl) (sb_c (qq_X4_openOf_2 6 rfl) (sb_c (qq_X4_openOf_2 7 rfl) (sb_c (qq_X4_openOf_2 8 rfl) (sb_c (qq_X4_openOf_2 9 rfl) (sb_c (qq_X4_openOf_2 10 rfl) (sb_c (qq_X4_openOf_2 11 rfl) (sb_c (qq_X4_openOf_2 12 rfl) (sb_c (qq_X4_openOf_2 13 rfl) (sb_c (qq_X4_openOf_2 14 rfl) (sb_c (qq_X4_openOf_2 15 rfl) (sb_c (qq_X4_openOf_2 16 rfl) (sb_c (qq_X4_openOf_2 17 rfl) (sb_c (qq_X4_openOf_2 18 rfl) (sb_c (qq_X4_openOf_2 19 rfl) (sb_c (qq_X4_openOf_2 20 rfl) (sb_c (qq_X4_openOf_2 21 rfl) (sb_c (qq_X4_openOf_2 22 rfl) (sb_c (qq_X4_openOf_2 23 rfl) (sb_c (qq_X4_openOf_3 0 rfl) (sb_c (qq_X4_openOf_3 1 rfl) (sb_c (qq_X4_openOf_3 2 rfl) (sb_c (qq_X4_openOf_3 3 rfl) sb_n)))))))))))))))))))))))))) (uq_X4_openOf_X4))) gw_X4_runsTold
set_option maxRecDepth 20000 in
theorem gX4_openOf_X4_runsTold : GoodIn wsX4_openOf (wsV RX4 168 RX4 yX4_runsTold wsX4_runsTold) := goodIn_app (goodIn_sub (sb_c (qq_X4_openOf_0 1 rfl) (sb_c (qq_X4_openOf_0 2 rfl) (sb_c (qq_X4_openOf_0 3 rfl) (sb_c (qq_X4_openOf_0 4 rfl) sb_n)))) (by decide +kernel)) ggX4_openOf_X4_runsTold
set_option maxRecDepth 20000 in
theorem ggX4_openOf_X4_passNow : GoodIn wsX4_openOf wsX4_passNow := goodIn_sub (sb_c (qq_X4_openOf_3 7 rfl) (sb_a (sb_c (qq_X4_openOf_1 6 rfl) (sb_c (qq_X4_openOf_1 9 rfl) (sb_c (qq_X4_openOf_1 7 rfl) sb_n))) (uq_X4_openOf_X4))) gw_X4_passNow
set_option maxRecDepth 20000 in
theorem gX4_openOf_X4_passNow : GoodIn wsX4_openOf (wsV RX4 187 RX4 yX4_passNow wsX4_passNow) := goodIn_app (goodIn_sub (sb_c (qq_X4_openOf_3 4 rfl) (sb_c (qq_X4_openOf_3 5 rfl) (sb_c (qq_X4_openOf_3 6 rfl) (sb_c (qq_X4_openOf_0 4 rfl) sb_n)))) (by decide +kernel)) ggX4_openOf_X4_passNow
theorem dX4_openOf_0 : decode cX4_openOf 0 = .ok (.aload_n 0, 1) := by decide +kernel
theorem dX4_openOf_1 : decode cX4_openOf 1 = .ok (.invokevirtual 168, 3) := by decide +kernel
theorem dX4_openOf_4 : decode cX4_openOf 4 = .ok (.iconst 0, 1) := by decide +kernel
theorem dX4_openOf_5 : decode cX4_openOf 5 = .ok (.istore_n 1, 1) := by decide +kernel
theorem dX4_openOf_6 : decode cX4_openOf 6 = .ok (.iconst 0, 1) := by decide +kernel
theorem dX4_openOf_7 : decode cX4_openOf 7 = .ok (.istore_n 2, 1) := by decide +kernel
theorem dX4_openOf_8 : decode cX4_openOf 8 = .ok (.iload_n 2, 1) := by decide +kernel
theorem dX4_openOf_9 : decode cX4_openOf 9 = .ok (.aload_n 0, 1) := by decide +kernel
theorem dX4_openOf_10 : decode cX4_openOf 10 = .ok (.getfield 28, 3) := by decide +kernel
theorem dX4_openOf_13 : decode cX4_openOf 13 = .ok (.iconst 3, 1) := by decide +kernel
theorem dX4_openOf_14 : decode cX4_openOf 14 = .ok (.iaload, 1) := by decide +kernel
theorem dX4_openOf_15 : decode cX4_openOf 15 = .ok (.if_icmp .ge 78, 3) := by decide +kernel
theorem dX4_openOf_18 : decode cX4_openOf 18 = .ok (.iconst 0, 1) := by decide +kernel
theorem dX4_openOf_19 : decode cX4_openOf 19 = .ok (.istore_n 3, 1) := by decide +kernel
theorem dX4_openOf_20 : decode cX4_openOf 20 = .ok (.iconst 0, 1) := by decide +kernel
theorem dX4_openOf_21 : decode cX4_openOf 21 = .ok (.istore 4, 2) := by decide +kernel
theorem dX4_openOf_23 : decode cX4_openOf 23 = .ok (.iload 4, 2) := by decide +kernel
theorem dX4_openOf_25 : decode cX4_openOf 25 = .ok (.bipush 16, 2) := by decide +kernel
theorem dX4_openOf_27 : decode cX4_openOf 27 = .ok (.if_icmp .ge 49, 3) := by decide +kernel
theorem dX4_openOf_30 : decode cX4_openOf 30 = .ok (.aload_n 0, 1) := by decide +kernel
theorem dX4_openOf_31 : decode cX4_openOf 31 = .ok (.iload 4, 2) := by decide +kernel
theorem dX4_openOf_33 : decode cX4_openOf 33 = .ok (.iconst 0, 1) := by decide +kernel
theorem dX4_openOf_34 : decode cX4_openOf 34 = .ok (.invokevirtual 187, 3) := by decide +kernel
theorem dX4_openOf_37 : decode cX4_openOf 37 = .ok (.istore 5, 2) := by decide +kernel
theorem dX4_openOf_39 : decode cX4_openOf 39 = .ok (.iload_n 3, 1) := by decide +kernel
theorem dX4_openOf_40 : decode cX4_openOf 40 = .ok (.iload 5, 2) := by decide +kernel
theorem dX4_openOf_42 : decode cX4_openOf 42 = .ok (.iconst (-1), 1) := by decide +kernel
theorem dX4_openOf_43 : decode cX4_openOf 43 = .ok (.if_icmp .eq 24, 3) := by decide +kernel
theorem dX4_openOf_46 : decode cX4_openOf 46 = .ok (.iload 5, 2) := by decide +kernel
theorem dX4_openOf_48 : decode cX4_openOf 48 = .ok (.iload_n 2, 1) := by decide +kernel
theorem dX4_openOf_49 : decode cX4_openOf 49 = .ok (.if_icmp .gt 18, 3) := by decide +kernel
theorem dX4_openOf_52 : decode cX4_openOf 52 = .ok (.aload_n 0, 1) := by decide +kernel
theorem dX4_openOf_53 : decode cX4_openOf 53 = .ok (.iload 4, 2) := by decide +kernel
theorem dX4_openOf_55 : decode cX4_openOf 55 = .ok (.iconst 1, 1) := by decide +kernel
theorem dX4_openOf_56 : decode cX4_openOf 56 = .ok (.invokevirtual 187, 3) := by decide +kernel
theorem dX4_openOf_59 : decode cX4_openOf 59 = .ok (.iload_n 2, 1) := by decide +kernel
theorem dX4_openOf_60 : decode cX4_openOf 60 = .ok (.if_icmp .lt 7, 3) := by decide +kernel
theorem dX4_openOf_63 : decode cX4_openOf 63 = .ok (.iconst 1, 1) := by decide +kernel
theorem dX4_openOf_64 : decode cX4_openOf 64 = .ok (.goto 4, 3) := by decide +kernel
theorem dX4_openOf_67 : decode cX4_openOf 67 = .ok (.iconst 0, 1) := by decide +kernel
theorem dX4_openOf_68 : decode cX4_openOf 68 = .ok (.iadd, 1) := by decide +kernel
theorem dX4_openOf_69 : decode cX4_openOf 69 = .ok (.istore_n 3, 1) := by decide +kernel
theorem dX4_openOf_70 : decode cX4_openOf 70 = .ok (.iinc 4 1, 3) := by decide +kernel
theorem dX4_openOf_73 : decode cX4_openOf 73 = .ok (.goto (-50), 3) := by decide +kernel
theorem dX4_openOf_76 : decode cX4_openOf 76 = .ok (.iload_n 3, 1) := by decide +kernel
theorem dX4_openOf_77 : decode cX4_openOf 77 = .ok (.iload_n 1, 1) := by decide +kernel
theorem dX4_openOf_78 : decode cX4_openOf 78 = .ok (.if_icmp .le 7, 3) := by decide +kernel
theorem dX4_openOf_81 : decode cX4_openOf 81 = .ok (.iload_n 3, 1) := by decide +kernel
theorem dX4_openOf_82 : decode cX4_openOf 82 = .ok (.goto 4, 3) := by decide +kernel
theorem dX4_openOf_85 : decode cX4_openOf 85 = .ok (.iload_n 1, 1) := by decide +kernel
theorem dX4_openOf_86 : decode cX4_openOf 86 = .ok (.istore_n 1, 1) := by decide +kernel
theorem dX4_openOf_87 : decode cX4_openOf 87 = .ok (.iinc 2 1, 3) := by decide +kernel
theorem dX4_openOf_90 : decode cX4_openOf 90 = .ok (.goto (-82), 3) := by decide +kernel
theorem dX4_openOf_93 : decode cX4_openOf 93 = .ok (.iload_n 1, 1) := by decide +kernel
theorem dX4_openOf_94 : decode cX4_openOf 94 = .ok (.ireturn, 1) := by decide +kernel
theorem qq_X4_open_0 {c : Cond} (j : Nat) (h : wsX4_open_r1[j]? = some c) : c ∈ wsX4_open := List.mem_cons_of_mem _ (List.mem_append_left _ (List.mem_append_left _ (List.mem_of_getElem? h)))
theorem qq_X4_open_1 {c : Cond} (j : Nat) (h : wsX4_open_r2[j]? = some c) : c ∈ wsX4_open := List.mem_cons_of_mem _ (List.mem_append_left _ (List.mem_append_right _ (List.mem_append_left _ (List.mem_of_getElem? h))))
theorem qq_X4_open_2 {c : Cond} (j : Nat) (h : wsX4_open_r3[j]? = some c) : c ∈ wsX4_open := List.mem_cons_of_mem _ (List.mem_append_left _ (List.mem_append_right _ (List.mem_append_right _ (List.mem_append_left _ (List.mem_of_getElem? h)))))
theorem qq_X4_open_3 {c : Cond} (j : Nat) (h : wsX4_open_r4[j]? = some c) : c ∈ wsX4_open := List.mem_cons_of_mem _ (List.mem_append_left _ (List.mem_append_right _ (List.mem_append_right _ (List.mem_append_right _ (List.mem_of_getElem? h)))))
theorem uq_X4_open_X4 : wsub wsX40 wsX4_open := fun _ h => List.mem_cons_of_mem _ (List.mem_append_right _ (h))
set_option maxRecDepth 20000 in
theorem gw_X4_openOf : wsX4_openOf.all goodWord = true := by decide +kernel
set_option maxRecDepth 20000 in
theorem ggX4_open_X4_openOf : GoodIn wsX4_open wsX4_openOf := goodIn_sub (sb_c (qq_X4_open_0 4 rfl) (sb_a (sb_a (sb_c (qq_X4_open_0 5 rfl) (sb_c (qq_X4_open_0 6 rfl) (sb_c (qq_X4_open_0 7 rfl) (sb_c (qq_X4_open_0 8 rfl) (sb_c (qq_X4_open_0 3 rfl) (sb_c (qq_X4_open_0 9 rfl) (sb_c (qq_X4_open_0 10 rfl) (sb_c (qq_X4_open_0 11 rfl) (sb_c (qq_X4_open_0 12 rfl) (sb_c (qq_X4_open_0 13 rfl) (sb_c (qq_X4_open_0 14 rfl) (sb_c (qq_X4_open_0 15 rfl) (sb_c (qq_X4_open_0 16 rfl) (sb_c (qq_X4_open_0 17 rfl) (sb_c (qq_X4_open_0 18 rfl) (sb_c (qq_X4_open_0 19 rfl) (sb_c (qq_X4_open_0 20 rfl) (sb_c (qq_X4_open_0 21 rfl) (sb_c (qq_X4_open_0 22 rfl) (sb_c (qq_X4_open_0 23 rfl) (sb_c (qq_X4_open_1 0 rfl) (sb_c (qq_X4_open_1 1 rfl) (sb_c (qq_X4_open_1 2 rfl) (sb_c (qq_X4_open_1 3 rfl) sb_n)))))))))))))))))))))))) (sb_a (sb_c (qq_X4_open_1 4 rfl) (sb_c (qq_X4_open_1 5 rfl) (sb_c (qq_X4_open_1 6 rfl) (sb_c (qq_X4_open_1 7 rfl) (sb_c (qq_X4_open_1 8 rfl) (sb_c (qq_X4_open_1 9 rfl) (sb_c (qq_X4_open_1 10 rfl) (sb_c (qq_X4_open_1 11 rfl) (sb_c (qq_X4_open_1 12 rfl) (sb_c (qq_X4_open_1 13 rfl) (sb_c (qq_X4_open_1 14 rfl) (sb_c (qq_X4_open_1 15 rfl) (sb_c (qq_X4_open_1 16 rfl) (sb_c (qq_X4_open_1 17 rfl) (sb_c (qq_X4_open_1 18 rfl) (sb_c (qq_X4_open_1 19 rfl) (sb_c (qq_X4_open_1 20 rfl) (sb_c (qq_X4_open_1 21 rfl) (sb_c (qq_X4_open_1 22 rfl) (sb_c (qq_X4_open_1 23 rfl) (sb_c (qq_X4_open_2 0 rfl) (sb_c (qq_X4_open_2 1 rfl) (sb_c (qq_X4_open_2 2 rfl) (sb_c (qq_X4_open_2 3 rfl) sb_n)))))))))))))))))))))))) (sb_a (sb_c (qq_X4_open_2 4 rfl) (sb_c (qq_X4_open_2 5 rfl) (sb_c (qq_X4_open_2 6 rfl) (sb_c (qq_X4_open_2 7 rfl) (sb_c (qq_X4_open_2 8 rfl) (sb_c (qq_X4_open_2 9 rfl) (sb_c (qq_X4_open_2 10 rfl) (sb_c (qq_X4_open_2 11 rfl) (sb_c (qq_X4_open_2 12 rfl) (sb_c (qq_X4_open_2 13 rfl) (sb_c (qq_X4_open_2 14 rfl) (sb_c (qq_X4_open_2 15 rfl) (sb_c (qq_X4_open_2 16 rfl) (sb_c (qq_X4_open_2 17 rfl) (sb_c (qq_X4_open_2 18 rfl) (sb_c (qq_X4_open_2 19 rfl) (sb_c (qq_X4_open_2 20 rfl) (sb_c (qq_X4_open_2 21 rfl) (sb_c (qq_X4_open_2 22 rfl) (sb_c (qq_X4_open_2 23 rfl) (sb_c (qq_X4_open_3 0 rfl) (sb_c (qq_X4_open_3 1 rfl) (sb_c (qq_X4_open_3 2 rfl) (sb_c (qq_X4_open_3 3 rfl) sb_n)))))))))))))))))))))))) (sb_c (qq_X4_open_3 4 rfl) (sb_c (qq_X4_open_3 5 rfl) (sb_c (qq_X4_open_3 6 rfl) (sb_c (qq_X4_open_3 7 rfl) (sb_c (qq_X4_open_3 8 rfl) (sb_c (qq_X4_open_3 9 rfl) (sb_c (qq_X4_open_3 10 rfl) (sb_c (qq_X4_open_3 11 rfl) sb_n))))))))))) (uq_X4_open_X4))) gw_X4_openOf
set_option maxRecDepth 20000 in
theorem gX4_open_X4_openOf : GoodIn wsX4_open (wsV RX4 228 RX4 yX4_openOf wsX4_openOf) := goodIn_app (goodIn_sub (sb_c (qq_X4_open_0 0 rfl) (sb_c (qq_X4_open_0 1 rfl) (sb_c (qq_X4_open_0 2 rfl) (sb_c (qq_X4_open_0 3 rfl) sb_n)))) (by decide +kernel)) ggX4_open_X4_openOf
theorem dX4_open_0 : decode cX4_open 0 = .ok (.aload_n 0, 1) := by decide +kernel
theorem dX4_open_1 : decode cX4_open 1 = .ok (.invokevirtual 228, 3) := by decide +kernel
theorem dX4_open_4 : decode cX4_open 4 = .ok (.ireturn, 1) := by decide +kernel
theorem qq_X4_betterOf_0 {c : Cond} (j : Nat) (h : wsX4_betterOf_r1[j]? = some c) : c ∈ wsX4_betterOf := List.mem_cons_of_mem _ (List.mem_append_left _ (List.mem_append_left _ (List.mem_of_getElem? h)))
theorem qq_X4_betterOf_1 {c : Cond} (j : Nat) (h : wsX4_betterOf_r2[j]? = some c) : c ∈ wsX4_betterOf := List.mem_cons_of_mem _ (List.mem_append_left _ (List.mem_append_right _ (List.mem_append_left _ (List.mem_of_getElem? h))))
theorem qq_X4_betterOf_2 {c : Cond} (j : Nat) (h : wsX4_betterOf_r3[j]? = some c) : c ∈ wsX4_betterOf := List.mem_cons_of_mem _ (List.mem_append_left _ (List.mem_append_right _ (List.mem_append_right _ (List.mem_append_left _ (List.mem_of_getElem? h)))))
theorem qq_X4_betterOf_3 {c : Cond} (j : Nat) (h : wsX4_betterOf_r4[j]? = some c) : c ∈ wsX4_betterOf := List.mem_cons_of_mem _ (List.mem_append_left _ (List.mem_append_right _ (List.mem_append_right _ (List.mem_append_right _ (List.mem_of_getElem? h)))))
theorem uq_X4_betterOf_X4 : wsub wsX40 wsX4_betterOf := fun _ h => List.mem_cons_of_mem _ (List.mem_append_right _ (h))
set_option maxRecDepth 20000 in
theorem ggX4_betterOf_X4_asTold : GoodIn wsX4_betterOf wsX4_asTold := goodIn_sub (sb_c (qq_X4_betterOf_0 8 rfl) (sb_a (sb_c (qq_X4_betterOf_0 9 rfl) (sb_c (qq_X4_betterOf_0 10 rfl) (sb_c (qq_X4_betterOf_0 1 rfl) (sb_c (qq_X4_betterOf_0 11 rfl) (sb_c (qq_X4_betterOf_0 12 rfl) (sb_c (qq_X4_betterOf_0 13 rfl) sb_n)))))) (uq_X4_betterOf_X4))) gw_X4_asTold
set_option maxRecDepth 20000 in
theorem gX4_betterOf_X4_asTold : GoodIn wsX4_betterOf (wsV RX4 162 RX4 yX4_asTold wsX4_asTold) := goodIn_app (goodIn_sub (sb_c (qq_X4_betterOf_0 4 rfl) (sb_c (qq_X4_betterOf_0 5 rfl) (sb_c (qq_X4_betterOf_0 6 rfl) (sb_c (qq_X4_betterOf_0 7 rfl) sb_n)))) (by decide +kernel)) ggX4_betterOf_X4_asTold
set_option maxRecDepth 20000 in
theorem ggX4_betterOf_X4_runs : GoodIn wsX4_betterOf wsX4_runs := goodIn_sub (sb_c (qq_X4_betterOf_0 17 rfl) (sb_a (sb_a (sb_c (qq_X4_betterOf_0 2 rfl) (sb_c (qq_X4_betterOf_0 3 rfl) (sb_c (qq_X4_betterOf_0 18 rfl) (sb_c (qq_X4_betterOf_0 19 rfl) (sb_c (qq_X4_betterOf_0 20 rfl) (sb_c (qq_X4_betterOf_0 21 rfl) (sb_c (qq_X4_betterOf_0 9 rfl) (sb_c (qq_X4_betterOf_0 22 rfl) (sb_c (qq_X4_betterOf_0 23 rfl) (sb_c (qq_X4_betterOf_1 0 rfl) (sb_c (qq_X4_betterOf_1 1 rfl) (sb_c (qq_X4_betterOf_0 7 rfl) (sb_c (qq_X4_betterOf_1 2 rfl) (sb_c (qq_X4_betterOf_1 3 rfl) (sb_c (qq_X4_betterOf_0 1 rfl) (sb_c (qq_X4_betterOf_1 4 rfl) (sb_c (qq_X4_betterOf_1 5 rfl) (sb_c (qq_X4_betterOf_1 6 rfl) (sb_c (qq_X4_betterOf_1 7 rfl) (sb_c (qq_X4_betterOf_1 8 rfl) (sb_c (qq_X4_betterOf_1 9 rfl) (sb_c (qq_X4_betterOf_1 10 rfl) (sb_c (qq_X4_betterOf_1 11 rfl) (sb_c (qq_X4_betterOf_1 12 rfl) sb_n)))))))))))))))))))))))) (sb_a (sb_c (qq_X4_betterOf_1 13 rfl) (sb_c (qq_X4_betterOf_1 14 rfl) (sb_c (qq_X4_betterOf_1 15 rfl) (sb_c (qq_X4_betterOf_1 16 rfl) (sb_c (qq_X4_betterOf_1 17 rfl) (sb_c (qq_X4_betterOf_1 18 rfl) (sb_c (qq_X4_betterOf_1 19 rfl) (sb_c (qq_X4_betterOf_1 20 rfl) (sb_c (qq_X4_betterOf_1 21 rfl) (sb_c (qq_X4_betterOf_1 22 rfl) (sb_c (qq_X4_betterOf_1 23 rfl) (sb_c (qq_X4_betterOf_2 0 rfl) (sb_c (qq_X4_betterOf_2 1 rfl) (sb_c (qq_X4_betterOf_2 2 rfl) (sb_c (qq_X4_betterOf_2 3 rfl) (sb_c (qq_X4_betterOf_2 4 rfl) (sb_c (qq_X4_betterOf_0 12 rfl) (sb_c (qq_X4_betterOf_0 13 rfl) (sb_c (qq_X4_betterOf_2 5 rfl) (sb_c (qq_X4_betterOf_2 6 rfl) (sb_c (qq_X4_betterOf_2 7 rfl) (sb_c (qq_X4_betterOf_2 8 rfl) (sb_c (qq_X4_betterOf_2 9 rfl) (sb_c (qq_X4_betterOf_2 10 rfl) sb_n)))))))))))))))))))))))) (sb_c (qq_X4_betterOf_2 11 rfl) (sb_c (qq_X4_betterOf_2 12 rfl) (sb_c (qq_X4_betterOf_2 13 rfl) (sb_c (qq_X4_betterOf_2 14 rfl) (sb_c (qq_X4_betterOf_2 15 rfl) (sb_c (qq_X4_betterOf_2 16 rfl) (sb_c (qq_X4_betterOf_2 17 rfl) (sb_c (qq_X4_betterOf_2 18 rfl) (sb_c (qq_X4_betterOf_2 19 rfl) (sb_c (qq_X4_betterOf_2 20 rfl) (sb_c (qq_X4_betterOf_2 21 rfl) (sb_c (qq_X4_betterOf_2 22 rfl) (sb_c (qq_X4_betterOf_2 23 rfl) (sb_c (qq_X4_betterOf_3 0 rfl) sb_n)))))))))))))))) (uq_X4_betterOf_X4))) gw_X4_runs
set_option maxRecDepth 20000 in
theorem gX4_betterOf_X4_runs : GoodIn wsX4_betterOf (wsV RX4 165 RX4 yX4_runs wsX4_runs) := goodIn_app (goodIn_sub (sb_c (qq_X4_betterOf_0 14 rfl) (sb_c (qq_X4_betterOf_0 15 rfl) (sb_c (qq_X4_betterOf_0 16 rfl) (sb_c (qq_X4_betterOf_0 7 rfl) sb_n)))) (by decide +kernel)) ggX4_betterOf_X4_runs
theorem dX4_betterOf_0 : decode cX4_betterOf 0 = .ok (.aload_n 0, 1) := by decide +kernel
theorem dX4_betterOf_1 : decode cX4_betterOf 1 = .ok (.invokevirtual 162, 3) := by decide +kernel
theorem dX4_betterOf_4 : decode cX4_betterOf 4 = .ok (.iload_n 1, 1) := by decide +kernel
theorem dX4_betterOf_5 : decode cX4_betterOf 5 = .ok (.ifCond .ne 7, 3) := by decide +kernel
theorem dX4_betterOf_8 : decode cX4_betterOf 8 = .ok (.iconst 2, 1) := by decide +kernel
theorem dX4_betterOf_9 : decode cX4_betterOf 9 = .ok (.goto 14, 3) := by decide +kernel
theorem dX4_betterOf_12 : decode cX4_betterOf 12 = .ok (.iload_n 1, 1) := by decide +kernel
theorem dX4_betterOf_13 : decode cX4_betterOf 13 = .ok (.iconst 1, 1) := by decide +kernel
theorem dX4_betterOf_14 : decode cX4_betterOf 14 = .ok (.if_icmp .ne 8, 3) := by decide +kernel
theorem dX4_betterOf_17 : decode cX4_betterOf 17 = .ok (.bipush 8, 2) := by decide +kernel
theorem dX4_betterOf_19 : decode cX4_betterOf 19 = .ok (.goto 4, 3) := by decide +kernel
theorem dX4_betterOf_22 : decode cX4_betterOf 22 = .ok (.iconst 4, 1) := by decide +kernel
theorem dX4_betterOf_23 : decode cX4_betterOf 23 = .ok (.istore_n 3, 1) := by decide +kernel
theorem dX4_betterOf_24 : decode cX4_betterOf 24 = .ok (.iload_n 1, 1) := by decide +kernel
theorem dX4_betterOf_25 : decode cX4_betterOf 25 = .ok (.ifCond .ne 7, 3) := by decide +kernel
theorem dX4_betterOf_28 : decode cX4_betterOf 28 = .ok (.iconst 1, 1) := by decide +kernel
theorem dX4_betterOf_29 : decode cX4_betterOf 29 = .ok (.goto 14, 3) := by decide +kernel
theorem dX4_betterOf_32 : decode cX4_betterOf 32 = .ok (.iload_n 1, 1) := by decide +kernel
theorem dX4_betterOf_33 : decode cX4_betterOf 33 = .ok (.iconst 1, 1) := by decide +kernel
theorem dX4_betterOf_34 : decode cX4_betterOf 34 = .ok (.if_icmp .ne 7, 3) := by decide +kernel
theorem dX4_betterOf_37 : decode cX4_betterOf 37 = .ok (.iconst 0, 1) := by decide +kernel
theorem dX4_betterOf_38 : decode cX4_betterOf 38 = .ok (.goto 5, 3) := by decide +kernel
theorem dX4_betterOf_41 : decode cX4_betterOf 41 = .ok (.bipush (-20), 2) := by decide +kernel
theorem dX4_betterOf_43 : decode cX4_betterOf 43 = .ok (.istore 4, 2) := by decide +kernel
theorem dX4_betterOf_45 : decode cX4_betterOf 45 = .ok (.iload_n 1, 1) := by decide +kernel
theorem dX4_betterOf_46 : decode cX4_betterOf 46 = .ok (.ifCond .ne 8, 3) := by decide +kernel
theorem dX4_betterOf_49 : decode cX4_betterOf 49 = .ok (.bipush 12, 2) := by decide +kernel
theorem dX4_betterOf_51 : decode cX4_betterOf 51 = .ok (.goto 13, 3) := by decide +kernel
theorem dX4_betterOf_54 : decode cX4_betterOf 54 = .ok (.iload_n 1, 1) := by decide +kernel
theorem dX4_betterOf_55 : decode cX4_betterOf 55 = .ok (.iconst 1, 1) := by decide +kernel
theorem dX4_betterOf_56 : decode cX4_betterOf 56 = .ok (.if_icmp .ne 7, 3) := by decide +kernel
theorem dX4_betterOf_59 : decode cX4_betterOf 59 = .ok (.iconst 3, 1) := by decide +kernel
theorem dX4_betterOf_60 : decode cX4_betterOf 60 = .ok (.goto 4, 3) := by decide +kernel
theorem dX4_betterOf_63 : decode cX4_betterOf 63 = .ok (.iconst 0, 1) := by decide +kernel
theorem dX4_betterOf_64 : decode cX4_betterOf 64 = .ok (.istore 5, 2) := by decide +kernel
theorem dX4_betterOf_66 : decode cX4_betterOf 66 = .ok (.ldc 106, 2) := by decide +kernel
theorem dX4_betterOf_68 : decode cX4_betterOf 68 = .ok (.istore 6, 2) := by decide +kernel
theorem dX4_betterOf_70 : decode cX4_betterOf 70 = .ok (.iconst 0, 1) := by decide +kernel
theorem dX4_betterOf_71 : decode cX4_betterOf 71 = .ok (.istore 7, 2) := by decide +kernel
theorem dX4_betterOf_73 : decode cX4_betterOf 73 = .ok (.iconst 0, 1) := by decide +kernel
theorem dX4_betterOf_74 : decode cX4_betterOf 74 = .ok (.istore 8, 2) := by decide +kernel
theorem dX4_betterOf_76 : decode cX4_betterOf 76 = .ok (.iload 4, 2) := by decide +kernel
theorem dX4_betterOf_78 : decode cX4_betterOf 78 = .ok (.istore 9, 2) := by decide +kernel
theorem dX4_betterOf_80 : decode cX4_betterOf 80 = .ok (.iload 9, 2) := by decide +kernel
theorem dX4_betterOf_82 : decode cX4_betterOf 82 = .ok (.iload 5, 2) := by decide +kernel
theorem dX4_betterOf_84 : decode cX4_betterOf 84 = .ok (.if_icmp .gt 71, 3) := by decide +kernel
theorem dX4_betterOf_87 : decode cX4_betterOf 87 = .ok (.aload_n 0, 1) := by decide +kernel
theorem dX4_betterOf_88 : decode cX4_betterOf 88 = .ok (.getfield 28, 3) := by decide +kernel
theorem dX4_betterOf_91 : decode cX4_betterOf 91 = .ok (.iload_n 3, 1) := by decide +kernel
theorem dX4_betterOf_92 : decode cX4_betterOf 92 = .ok (.iload 9, 2) := by decide +kernel
theorem dX4_betterOf_94 : decode cX4_betterOf 94 = .ok (.iastore, 1) := by decide +kernel
theorem dX4_betterOf_95 : decode cX4_betterOf 95 = .ok (.aload_n 0, 1) := by decide +kernel
theorem dX4_betterOf_96 : decode cX4_betterOf 96 = .ok (.invokevirtual 165, 3) := by decide +kernel
theorem dX4_betterOf_99 : decode cX4_betterOf 99 = .ok (.iload 6, 2) := by decide +kernel
theorem dX4_betterOf_101 : decode cX4_betterOf 101 = .ok (.ldc 106, 2) := by decide +kernel
theorem dX4_betterOf_103 : decode cX4_betterOf 103 = .ok (.if_icmp .eq 30, 3) := by decide +kernel
theorem dX4_betterOf_106 : decode cX4_betterOf 106 = .ok (.aload_n 0, 1) := by decide +kernel
theorem dX4_betterOf_107 : decode cX4_betterOf 107 = .ok (.getfield 146, 3) := by decide +kernel
theorem dX4_betterOf_110 : decode cX4_betterOf 110 = .ok (.iload 7, 2) := by decide +kernel
theorem dX4_betterOf_112 : decode cX4_betterOf 112 = .ok (.if_icmp .lt 21, 3) := by decide +kernel
theorem dX4_betterOf_115 : decode cX4_betterOf 115 = .ok (.aload_n 0, 1) := by decide +kernel
theorem dX4_betterOf_116 : decode cX4_betterOf 116 = .ok (.getfield 146, 3) := by decide +kernel
theorem dX4_betterOf_119 : decode cX4_betterOf 119 = .ok (.iload 7, 2) := by decide +kernel
theorem dX4_betterOf_121 : decode cX4_betterOf 121 = .ok (.if_icmp .ne 28, 3) := by decide +kernel
theorem dX4_betterOf_124 : decode cX4_betterOf 124 = .ok (.aload_n 0, 1) := by decide +kernel
theorem dX4_betterOf_125 : decode cX4_betterOf 125 = .ok (.getfield 143, 3) := by decide +kernel
theorem dX4_betterOf_128 : decode cX4_betterOf 128 = .ok (.iload 8, 2) := by decide +kernel
theorem dX4_betterOf_130 : decode cX4_betterOf 130 = .ok (.if_icmp .le 19, 3) := by decide +kernel
theorem dX4_betterOf_133 : decode cX4_betterOf 133 = .ok (.iload 9, 2) := by decide +kernel
theorem dX4_betterOf_135 : decode cX4_betterOf 135 = .ok (.istore 6, 2) := by decide +kernel
theorem dX4_betterOf_137 : decode cX4_betterOf 137 = .ok (.aload_n 0, 1) := by decide +kernel
theorem dX4_betterOf_138 : decode cX4_betterOf 138 = .ok (.getfield 146, 3) := by decide +kernel
theorem dX4_betterOf_141 : decode cX4_betterOf 141 = .ok (.istore 7, 2) := by decide +kernel
theorem dX4_betterOf_143 : decode cX4_betterOf 143 = .ok (.aload_n 0, 1) := by decide +kernel
theorem dX4_betterOf_144 : decode cX4_betterOf 144 = .ok (.getfield 143, 3) := by decide +kernel
theorem dX4_betterOf_147 : decode cX4_betterOf 147 = .ok (.istore 8, 2) := by decide +kernel
theorem dX4_betterOf_149 : decode cX4_betterOf 149 = .ok (.iinc 9 1, 3) := by decide +kernel
theorem dX4_betterOf_152 : decode cX4_betterOf 152 = .ok (.goto (-72), 3) := by decide +kernel
theorem dX4_betterOf_155 : decode cX4_betterOf 155 = .ok (.iload_n 2, 1) := by decide +kernel
theorem dX4_betterOf_156 : decode cX4_betterOf 156 = .ok (.ifCond .ne 8, 3) := by decide +kernel
theorem dX4_betterOf_159 : decode cX4_betterOf 159 = .ok (.iload 6, 2) := by decide +kernel
theorem dX4_betterOf_161 : decode cX4_betterOf 161 = .ok (.goto 5, 3) := by decide +kernel
theorem dX4_betterOf_164 : decode cX4_betterOf 164 = .ok (.iload 7, 2) := by decide +kernel
theorem dX4_betterOf_166 : decode cX4_betterOf 166 = .ok (.ireturn, 1) := by decide +kernel
theorem qq_X4_better_0 {c : Cond} (j : Nat) (h : wsX4_better_r1[j]? = some c) : c ∈ wsX4_better := List.mem_cons_of_mem _ (List.mem_append_left _ (List.mem_append_left _ (List.mem_of_getElem? h)))
theorem qq_X4_better_1 {c : Cond} (j : Nat) (h : wsX4_better_r2[j]? = some c) : c ∈ wsX4_better := List.mem_cons_of_mem _ (List.mem_append_left _ (List.mem_append_right _ (List.mem_append_left _ (List.mem_of_getElem? h))))
theorem qq_X4_better_2 {c : Cond} (j : Nat) (h : wsX4_better_r3[j]? = some c) : c ∈ wsX4_better := List.mem_cons_of_mem _ (List.mem_append_left _ (List.mem_append_right _ (List.mem_append_right _ (List.mem_append_left _ (List.mem_of_getElem? h)))))
theorem qq_X4_better_3 {c : Cond} (j : Nat) (h : wsX4_better_r4[j]? = some c) : c ∈ wsX4_better := List.mem_cons_of_mem _ (List.mem_append_left _ (List.mem_append_right _ (List.mem_append_right _ (List.mem_append_right _ (List.mem_of_getElem? h)))))
theorem uq_X4_better_X4 : wsub wsX40 wsX4_better := fun _ h => List.mem_cons_of_mem _ (List.mem_append_right _ (h))
set_option maxRecDepth 20000 in
theorem ggX4_better_X4_isThree : GoodIn wsX4_better wsX4_isThree := goodIn_sub (sb_c (qq_X4_better_0 4 rfl) (sb_c (qq_X4_better_0 5 rfl) (sb_c (qq_X4_better_0 6 rfl) (sb_c (qq_X4_better_0 3 rfl) (sb_c (qq_X4_better_0 7 rfl) sb_n))))) gw_X4_isThree
set_option maxRecDepth 20000 in
theorem gX4_better_X4_isThree : GoodIn wsX4_better (va_wsS RX4 197 yX4_isThree wsX4_isThree) := goodIn_app (goodIn_sub (sb_c (qq_X4_better_0 1 rfl) (sb_c (qq_X4_better_0 2 rfl) (sb_c (qq_X4_better_0 3 rfl) sb_n))) (by decide +kernel)) ggX4_better_X4_isThree
set_option maxRecDepth 20000 in
theorem ggX4_better_X4_isTwo : GoodIn wsX4_better wsX4_isTwo := goodIn_sub (sb_c (qq_X4_better_0 10 rfl) (sb_c (qq_X4_better_0 5 rfl) (sb_c (qq_X4_better_0 6 rfl) (sb_c (qq_X4_better_0 3 rfl) (sb_c (qq_X4_better_0 7 rfl) sb_n))))) gw_X4_isTwo
set_option maxRecDepth 20000 in
theorem gX4_better_X4_isTwo : GoodIn wsX4_better (va_wsS RX4 107 yX4_isTwo wsX4_isTwo) := goodIn_app (goodIn_sub (sb_c (qq_X4_better_0 8 rfl) (sb_c (qq_X4_better_0 9 rfl) (sb_c (qq_X4_better_0 3 rfl) sb_n))) (by decide +kernel)) ggX4_better_X4_isTwo
set_option maxRecDepth 20000 in
theorem gw_X4_betterOf : wsX4_betterOf.all goodWord = true := by decide +kernel
set_option maxRecDepth 20000 in
theorem ggX4_better_X4_betterOf : GoodIn wsX4_better wsX4_betterOf := goodIn_sub (sb_c (qq_X4_better_0 14 rfl) (sb_a (sb_a (sb_c (qq_X4_better_0 0 rfl) (sb_c (qq_X4_better_0 15 rfl) (sb_c (qq_X4_better_0 16 rfl) (sb_c (qq_X4_better_0 17 rfl) (sb_c (qq_X4_better_0 18 rfl) (sb_c (qq_X4_better_0 19 rfl) (sb_c (qq_X4_better_0 20 rfl) (sb_c (qq_X4_better_0 3 rfl) (sb_c (qq_X4_better_0 21 rfl) (sb_c (qq_X4_better_0 22 rfl) (sb_c (qq_X4_better_0 23 rfl) (sb_c (qq_X4_better_1 0 rfl) (sb_c (qq_X4_better_1 1 rfl) (sb_c (qq_X4_better_1 2 rfl) (sb_c (qq_X4_better_1 3 rfl) (sb_c (qq_X4_better_1 4 rfl) (sb_c (qq_X4_better_1 5 rfl) (sb_c (qq_X4_better_1 6 rfl) (sb_c (qq_X4_better_1 7 rfl) (sb_c (qq_X4_better_1 8 rfl) (sb_c (qq_X4_better_1 9 rfl) (sb_c (qq_X4_better_1 10 rfl) (sb_c (qq_X4_better_1 11 rfl) (sb_c (qq_X4_better_1 12 rfl) sb_n)))))))))))))))))))))))) (sb_a (sb_c (qq_X4_better_1 13 rfl) (sb_c (qq_X4_better_1 14 rfl) (sb_c (qq_X4_better_1 15 rfl) (sb_c (qq_X4_better_1 16 rfl) (sb_c (qq_X4_better_1 17 rfl) (sb_c (qq_X4_better_1 18 rfl) (sb_c (qq_X4_better_1 19 rfl) (sb_c (qq_X4_better_1 20 rfl) (sb_c (qq_X4_better_1 21 rfl) (sb_c (qq_X4_better_1 22 rfl) (sb_c (qq_X4_better_0 5 rfl) (sb_c (qq_X4_better_0 6 rfl) (sb_c (qq_X4_better_0 7 rfl) (sb_c (qq_X4_better_1 23 rfl) (sb_c (qq_X4_better_2 0 rfl) (sb_c (qq_X4_better_2 1 rfl) (sb_c (qq_X4_better_2 2 rfl) (sb_c (qq_X4_better_2 3 rfl) (sb_c (qq_X4_better_2 4 rfl) (sb_c (qq_X4_better_2 5 rfl) (sb_c (qq_X4_better_2 6 rfl) (sb_c (qq_X4_better_2 7 rfl) (sb_c (qq_X4_better_2 8 rfl) (sb_c (qq_X4_better_2 9 rfl) sb_n)))))))))))))))))))))))) (sb_a (sb_c (qq_X4_better_2 10 rfl) (sb_c (qq_X4_better_2 11 rfl) (sb_c (qq_X4_better_2 12 rfl) (sb_c (qq_X4_better_2 13 rfl) (sb_c (qq_X4_better_2 14 rfl) (sb_c (qq_X4_better_2 15 rfl) (sb_c (qq_X4_better_2 16 rfl) (sb_c (qq_X4_better_2 17 rfl) (sb_c (qq_X4_better_2 18 rfl) (sb_c (qq_X4_better_2 19 rfl) (sb_c (qq_X4_better_2 20 rfl) (sb_c (qq_X4_better_2 21 rfl) (sb_c (qq_X4_better_2 22 rfl) (sb_c (qq_X4_better_2 23 rfl) (sb_c (qq_X4_better_3 0 rfl) (sb_c (qq_X4_better_3 1 rfl) (sb_c (qq_X4_better_3 2 rfl) (sb_c (qq_X4_better_3 3 rfl) (sb_c (qq_X4_better_3 4 rfl) (sb_c (qq_X4_better_3 5 rfl) (sb_c (qq_X4_better_3 6 rfl) (sb_c (qq_X4_better_3 7 rfl) (sb_c (qq_X4_better_3 8 rfl) (sb_c (qq_X4_better_3 9 rfl) sb_n)))))))))))))))))))))))) (sb_c (qq_X4_better_3 10 rfl) sb_n)))) (uq_X4_better_X4))) gw_X4_betterOf
set_option maxRecDepth 20000 in
theorem gX4_better_X4_betterOf : GoodIn wsX4_better (wsV RX4 231 RX4 yX4_betterOf wsX4_betterOf) := goodIn_app (goodIn_sub (sb_c (qq_X4_better_0 11 rfl) (sb_c (qq_X4_better_0 12 rfl) (sb_c (qq_X4_better_0 13 rfl) (sb_c (qq_X4_better_0 3 rfl) sb_n)))) (by decide +kernel)) ggX4_better_X4_betterOf
theorem dX4_better_0 : decode cX4_better 0 = .ok (.iload_n 1, 1) := by decide +kernel
theorem dX4_better_1 : decode cX4_better 1 = .ok (.invokestatic 197, 3) := by decide +kernel
theorem dX4_better_4 : decode cX4_better 4 = .ok (.ifCond .eq 19, 3) := by decide +kernel
theorem dX4_better_7 : decode cX4_better 7 = .ok (.iload_n 2, 1) := by decide +kernel
theorem dX4_better_8 : decode cX4_better 8 = .ok (.invokestatic 107, 3) := by decide +kernel
theorem dX4_better_11 : decode cX4_better 11 = .ok (.ifCond .eq 12, 3) := by decide +kernel
theorem dX4_better_14 : decode cX4_better 14 = .ok (.aload_n 0, 1) := by decide +kernel
theorem dX4_better_15 : decode cX4_better 15 = .ok (.iload_n 1, 1) := by decide +kernel
theorem dX4_better_16 : decode cX4_better 16 = .ok (.iload_n 2, 1) := by decide +kernel
theorem dX4_better_17 : decode cX4_better 17 = .ok (.invokevirtual 231, 3) := by decide +kernel
theorem dX4_better_20 : decode cX4_better 20 = .ok (.goto 5, 3) := by decide +kernel
theorem dX4_better_23 : decode cX4_better 23 = .ok (.ldc 106, 2) := by decide +kernel
theorem dX4_better_25 : decode cX4_better 25 = .ok (.ireturn, 1) := by decide +kernel
theorem qq_X4_isSpared_0 {c : Cond} (j : Nat) (h : wsX4_isSpared_r1[j]? = some c) : c ∈ wsX4_isSpared := List.mem_cons_of_mem _ (List.mem_append_left _ (List.mem_append_left _ (List.mem_of_getElem? h)))
theorem qq_X4_isSpared_1 {c : Cond} (j : Nat) (h : wsX4_isSpared_r2[j]? = some c) : c ∈ wsX4_isSpared := List.mem_cons_of_mem _ (List.mem_append_left _ (List.mem_append_right _ (List.mem_append_left _ (List.mem_of_getElem? h))))
theorem qq_X4_isSpared_2 {c : Cond} (j : Nat) (h : wsX4_isSpared_r3[j]? = some c) : c ∈ wsX4_isSpared := List.mem_cons_of_mem _ (List.mem_append_left _ (List.mem_append_right _ (List.mem_append_right _ (List.mem_of_getElem? h))))
theorem uq_X4_isSpared_X4 : wsub wsX40 wsX4_isSpared := fun _ h => List.mem_cons_of_mem _ (List.mem_append_right _ (h))
set_option maxRecDepth 20000 in
theorem ggX4_isSpared_X4_runs : GoodIn wsX4_isSpared wsX4_runs := goodIn_sub (sb_c (qq_X4_isSpared_0 6 rfl) (sb_a (sb_a (sb_c (qq_X4_isSpared_0 1 rfl) (sb_c (qq_X4_isSpared_0 7 rfl) (sb_c (qq_X4_isSpared_0 8 rfl) (sb_c (qq_X4_isSpared_0 9 rfl) (sb_c (qq_X4_isSpared_0 10 rfl) (sb_c (qq_X4_isSpared_0 11 rfl) (sb_c (qq_X4_isSpared_0 12 rfl) (sb_c (qq_X4_isSpared_0 13 rfl) (sb_c (qq_X4_isSpared_0 14 rfl) (sb_c (qq_X4_isSpared_0 15 rfl) (sb_c (qq_X4_isSpared_0 16 rfl) (sb_c (qq_X4_isSpared_0 5 rfl) (sb_c (qq_X4_isSpared_0 17 rfl) (sb_c (qq_X4_isSpared_0 18 rfl) (sb_c (qq_X4_isSpared_0 19 rfl) (sb_c (qq_X4_isSpared_0 20 rfl) (sb_c (qq_X4_isSpared_0 21 rfl) (sb_c (qq_X4_isSpared_0 22 rfl) (sb_c (qq_X4_isSpared_0 23 rfl) (sb_c (qq_X4_isSpared_1 0 rfl) (sb_c (qq_X4_isSpared_1 1 rfl) (sb_c (qq_X4_isSpared_1 2 rfl) (sb_c (qq_X4_isSpared_1 3 rfl) (sb_c (qq_X4_isSpared_1 4 rfl) sb_n)))))))))))))))))))))))) (sb_a (sb_c (qq_X4_isSpared_1 5 rfl) (sb_c (qq_X4_isSpared_1 6 rfl) (sb_c (qq_X4_isSpared_1 7 rfl) (sb_c (qq_X4_isSpared_1 8 rfl) (sb_c (qq_X4_isSpared_1 9 rfl) (sb_c (qq_X4_isSpared_1 10 rfl) (sb_c (qq_X4_isSpared_1 11 rfl) (sb_c (qq_X4_isSpared_1 12 rfl) (sb_c (qq_X4_isSpared_1 13 rfl) (sb_c (qq_X4_isSpared_1 14 rfl) (sb_c (qq_X4_isSpared_1 15 rfl) (sb_c (qq_X4_isSpared_1 16 rfl) (sb_c (qq_X4_isSpared_1 17 rfl) (sb_c (qq_X4_isSpared_1 18 rfl) (sb_c (qq_X4_isSpared_1 19 rfl) (sb_c (qq_X4_isSpared_1 20 rfl) (sb_c (qq_X4_isSpared_0 0 rfl) (sb_c (qq_X4_isSpared_1 21 rfl) (sb_c (qq_X4_isSpared_1 22 rfl) (sb_c (qq_X4_isSpared_1 23 rfl) (sb_c (qq_X4_isSpared_2 0 rfl) (sb_c (qq_X4_isSpared_2 1 rfl) (sb_c (qq_X4_isSpared_2 2 rfl) (sb_c (qq_X4_isSpared_2 3 rfl) sb_n)))))))))))))))))))))))) (sb_c (qq_X4_isSpared_2 4 rfl) (sb_c (qq_X4_isSpared_2 5 rfl) (sb_c (qq_X4_isSpared_2 6 rfl) (sb_c (qq_X4_isSpared_2 7 rfl) (sb_c (qq_X4_isSpared_2 8 rfl) (sb_c (qq_X4_isSpared_2 9 rfl) (sb_c (qq_X4_isSpared_2 10 rfl) (sb_c (qq_X4_isSpared_2 11 rfl) (sb_c (qq_X4_isSpared_2 12 rfl) (sb_c (qq_X4_isSpared_2 13 rfl) (sb_c (qq_X4_isSpared_2 14 rfl) (sb_c (qq_X4_isSpared_2 15 rfl) (sb_c (qq_X4_isSpared_2 16 rfl) (sb_c (qq_X4_isSpared_2 17 rfl) sb_n)))))))))))))))) (uq_X4_isSpared_X4))) gw_X4_runs
set_option maxRecDepth 20000 in
theorem gX4_isSpared_X4_runs : GoodIn wsX4_isSpared (wsV RX4 165 RX4 yX4_runs wsX4_runs) := goodIn_app (goodIn_sub (sb_c (qq_X4_isSpared_0 2 rfl) (sb_c (qq_X4_isSpared_0 3 rfl) (sb_c (qq_X4_isSpared_0 4 rfl) (sb_c (qq_X4_isSpared_0 5 rfl) sb_n)))) (by decide +kernel)) ggX4_isSpared_X4_runs
theorem dX4_isSpared_0 : decode cX4_isSpared 0 = .ok (.aload_n 0, 1) := by decide +kernel
theorem dX4_isSpared_1 : decode cX4_isSpared 1 = .ok (.iload_n 1, 1) := by decide +kernel
theorem dX4_isSpared_2 : decode cX4_isSpared 2 = .ok (.putfield 121, 3) := by decide +kernel
theorem dX4_isSpared_5 : decode cX4_isSpared 5 = .ok (.aload_n 0, 1) := by decide +kernel
theorem dX4_isSpared_6 : decode cX4_isSpared 6 = .ok (.invokevirtual 165, 3) := by decide +kernel
theorem dX4_isSpared_9 : decode cX4_isSpared 9 = .ok (.aload_n 0, 1) := by decide +kernel
theorem dX4_isSpared_10 : decode cX4_isSpared 10 = .ok (.getfield 146, 3) := by decide +kernel
theorem dX4_isSpared_13 : decode cX4_isSpared 13 = .ok (.ifCond .ne 7, 3) := by decide +kernel
theorem dX4_isSpared_16 : decode cX4_isSpared 16 = .ok (.iconst 1, 1) := by decide +kernel
theorem dX4_isSpared_17 : decode cX4_isSpared 17 = .ok (.goto 4, 3) := by decide +kernel
theorem dX4_isSpared_20 : decode cX4_isSpared 20 = .ok (.iconst 0, 1) := by decide +kernel
theorem dX4_isSpared_21 : decode cX4_isSpared 21 = .ok (.ireturn, 1) := by decide +kernel
theorem qq_X4_spareBy_0 {c : Cond} (j : Nat) (h : wsX4_spareBy_r1[j]? = some c) : c ∈ wsX4_spareBy := List.mem_cons_of_mem _ (List.mem_append_left _ (List.mem_append_left _ (List.mem_of_getElem? h)))
theorem qq_X4_spareBy_1 {c : Cond} (j : Nat) (h : wsX4_spareBy_r2[j]? = some c) : c ∈ wsX4_spareBy := List.mem_cons_of_mem _ (List.mem_append_left _ (List.mem_append_right _ (List.mem_append_left _ (List.mem_of_getElem? h))))
theorem qq_X4_spareBy_2 {c : Cond} (j : Nat) (h : wsX4_spareBy_r3[j]? = some c) : c ∈ wsX4_spareBy := List.mem_cons_of_mem _ (List.mem_append_left _ (List.mem_append_right _ (List.mem_append_right _ (List.mem_append_left _ (List.mem_of_getElem? h)))))
theorem qq_X4_spareBy_3 {c : Cond} (j : Nat) (h : wsX4_spareBy_r4[j]? = some c) : c ∈ wsX4_spareBy := List.mem_cons_of_mem _ (List.mem_append_left _ (List.mem_append_right _ (List.mem_append_right _ (List.mem_append_right _ (List.mem_of_getElem? h)))))
theorem uq_X4_spareBy_X4 : wsub wsX40 wsX4_spareBy := fun _ h => List.mem_cons_of_mem _ (List.mem_append_right _ (h))
set_option maxRecDepth 20000 in
theorem ggX4_spareBy_X4_asTold : GoodIn wsX4_spareBy wsX4_asTold := goodIn_sub (sb_c (qq_X4_spareBy_0 6 rfl) (sb_a (sb_c (qq_X4_spareBy_0 7 rfl) (sb_c (qq_X4_spareBy_0 8 rfl) (sb_c (qq_X4_spareBy_0 9 rfl) (sb_c (qq_X4_spareBy_0 10 rfl) (sb_c (qq_X4_spareBy_0 11 rfl) (sb_c (qq_X4_spareBy_0 12 rfl) sb_n)))))) (uq_X4_spareBy_X4))) gw_X4_asTold
set_option maxRecDepth 20000 in
theorem gX4_spareBy_X4_asTold : GoodIn wsX4_spareBy (wsV RX4 162 RX4 yX4_asTold wsX4_asTold) := goodIn_app (goodIn_sub (sb_c (qq_X4_spareBy_0 2 rfl) (sb_c (qq_X4_spareBy_0 3 rfl) (sb_c (qq_X4_spareBy_0 4 rfl) (sb_c (qq_X4_spareBy_0 5 rfl) sb_n)))) (by decide +kernel)) ggX4_spareBy_X4_asTold
set_option maxRecDepth 20000 in
theorem gw_X4_isSpared : wsX4_isSpared.all goodWord = true := by decide +kernel
set_option maxRecDepth 20000 in
theorem ggX4_spareBy_X4_isSpared : GoodIn wsX4_spareBy wsX4_isSpared := goodIn_sub (sb_c (qq_X4_spareBy_0 16 rfl) (sb_a (sb_a (sb_c (qq_X4_spareBy_0 11 rfl) (sb_c (qq_X4_spareBy_0 17 rfl) (sb_c (qq_X4_spareBy_0 18 rfl) (sb_c (qq_X4_spareBy_0 19 rfl) (sb_c (qq_X4_spareBy_0 20 rfl) (sb_c (qq_X4_spareBy_0 5 rfl) (sb_c (qq_X4_spareBy_0 21 rfl) (sb_c (qq_X4_spareBy_0 22 rfl) (sb_c (qq_X4_spareBy_0 23 rfl) (sb_c (qq_X4_spareBy_1 0 rfl) (sb_c (qq_X4_spareBy_1 1 rfl) (sb_c (qq_X4_spareBy_1 2 rfl) (sb_c (qq_X4_spareBy_0 7 rfl) (sb_c (qq_X4_spareBy_1 3 rfl) (sb_c (qq_X4_spareBy_1 4 rfl) (sb_c (qq_X4_spareBy_1 5 rfl) (sb_c (qq_X4_spareBy_1 6 rfl) (sb_c (qq_X4_spareBy_1 7 rfl) (sb_c (qq_X4_spareBy_1 8 rfl) (sb_c (qq_X4_spareBy_0 9 rfl) (sb_c (qq_X4_spareBy_1 9 rfl) (sb_c (qq_X4_spareBy_1 10 rfl) (sb_c (qq_X4_spareBy_1 11 rfl) (sb_c (qq_X4_spareBy_1 12 rfl) sb_n)))))))))))))))))))))))) (sb_a (sb_c (qq_X4_spareBy_1 13 rfl) (sb_c (qq_X4_spareBy_1 14 rfl) (sb_c (qq_X4_spareBy_1 15 rfl) (sb_c (qq_X4_spareBy_1 16 rfl) (sb_c (qq_X4_spareBy_1 17 rfl) (sb_c (qq_X4_spareBy_1 18 rfl) (sb_c (qq_X4_spareBy_1 19 rfl) (sb_c (qq_X4_spareBy_1 20 rfl) (sb_c (qq_X4_spareBy_1 21 rfl) (sb_c (qq_X4_spareBy_1 22 rfl) (sb_c (qq_X4_spareBy_1 23 rfl) (sb_c (qq_X4_spareBy_2 0 rfl) (sb_c (qq_X4_spareBy_2 1 rfl) (sb_c (qq_X4_spareBy_2 2 rfl) (sb_c (qq_X4_spareBy_2 3 rfl) (sb_c (qq_X4_spareBy_2 4 rfl) (sb_c (qq_X4_spareBy_2 5 rfl) (sb_c (qq_X4_spareBy_2 6 rfl) (sb_c (qq_X4_spareBy_0 0 rfl) (sb_c (qq_X4_spareBy_2 7 rfl) (sb_c (qq_X4_spareBy_2 8 rfl) (sb_c (qq_X4_spareBy_0 12 rfl) (sb_c (qq_X4_spareBy_2 9 rfl) (sb_c (qq_X4_spareBy_2 10 rfl) sb_n)))))))))))))))))))))))) (sb_c (qq_X4_spareBy_2 11 rfl) (sb_c (qq_X4_spareBy_2 12 rfl) (sb_c (qq_X4_spareBy_2 13 rfl) (sb_c (qq_X4_spareBy_2 14 rfl) (sb_c (qq_X4_spareBy_2 15 rfl) (sb_c (qq_X4_spareBy_2 16 rfl) (sb_c (qq_X4_spareBy_2 17 rfl) (sb_c (qq_X4_spareBy_2 18 rfl) (sb_c (qq_X4_spareBy_2 19 rfl) (sb_c (qq_X4_spareBy_2 20 rfl) (sb_c (qq_X4_spareBy_2 21 rfl) (sb_c (qq_X4_spareBy_2 22 rfl) (sb_c (qq_X4_spareBy_2 23 rfl) (sb_c (qq_X4_spareBy_3 0 rfl) (sb_c (qq_X4_spareBy_3 1 rfl) (sb_c (qq_X4_spareBy_3 2 rfl) (sb_c (qq_X4_spareBy_3 3 rfl) (sb_c (qq_X4_spareBy_3 4 rfl) sb_n)))))))))))))))))))) (uq_X4_spareBy_X4))) gw_X4_isSpared
set_option maxRecDepth 20000 in
theorem gX4_spareBy_X4_isSpared : GoodIn wsX4_spareBy (wsV RX4 234 RX4 yX4_isSpared wsX4_isSpared) := goodIn_app (goodIn_sub (sb_c (qq_X4_spareBy_0 13 rfl) (sb_c (qq_X4_spareBy_0 14 rfl) (sb_c (qq_X4_spareBy_0 15 rfl) (sb_c (qq_X4_spareBy_0 5 rfl) sb_n)))) (by decide +kernel)) ggX4_spareBy_X4_isSpared
theorem dX4_spareBy_0 : decode cX4_spareBy 0 = .ok (.aload_n 0, 1) := by decide +kernel
theorem dX4_spareBy_1 : decode cX4_spareBy 1 = .ok (.invokevirtual 162, 3) := by decide +kernel
theorem dX4_spareBy_4 : decode cX4_spareBy 4 = .ok (.aload_n 0, 1) := by decide +kernel
theorem dX4_spareBy_5 : decode cX4_spareBy 5 = .ok (.iconst 0, 1) := by decide +kernel
theorem dX4_spareBy_6 : decode cX4_spareBy 6 = .ok (.invokevirtual 234, 3) := by decide +kernel
theorem dX4_spareBy_9 : decode cX4_spareBy 9 = .ok (.ifCond .eq 5, 3) := by decide +kernel
theorem dX4_spareBy_12 : decode cX4_spareBy 12 = .ok (.iconst 0, 1) := by decide +kernel
theorem dX4_spareBy_13 : decode cX4_spareBy 13 = .ok (.ireturn, 1) := by decide +kernel
theorem dX4_spareBy_14 : decode cX4_spareBy 14 = .ok (.iconst 0, 1) := by decide +kernel
theorem dX4_spareBy_15 : decode cX4_spareBy 15 = .ok (.istore_n 1, 1) := by decide +kernel
theorem dX4_spareBy_16 : decode cX4_spareBy 16 = .ok (.iload_n 1, 1) := by decide +kernel
theorem dX4_spareBy_17 : decode cX4_spareBy 17 = .ok (.aload_n 0, 1) := by decide +kernel
theorem dX4_spareBy_18 : decode cX4_spareBy 18 = .ok (.getfield 110, 3) := by decide +kernel
theorem dX4_spareBy_21 : decode cX4_spareBy 21 = .ok (.if_icmp .ge 28, 3) := by decide +kernel
theorem dX4_spareBy_24 : decode cX4_spareBy 24 = .ok (.aload_n 0, 1) := by decide +kernel
theorem dX4_spareBy_25 : decode cX4_spareBy 25 = .ok (.getfield 61, 3) := by decide +kernel
theorem dX4_spareBy_28 : decode cX4_spareBy 28 = .ok (.iconst 0, 1) := by decide +kernel
theorem dX4_spareBy_29 : decode cX4_spareBy 29 = .ok (.iload_n 1, 1) := by decide +kernel
theorem dX4_spareBy_30 : decode cX4_spareBy 30 = .ok (.iastore, 1) := by decide +kernel
theorem dX4_spareBy_31 : decode cX4_spareBy 31 = .ok (.aload_n 0, 1) := by decide +kernel
theorem dX4_spareBy_32 : decode cX4_spareBy 32 = .ok (.iconst 1, 1) := by decide +kernel
theorem dX4_spareBy_33 : decode cX4_spareBy 33 = .ok (.iload_n 1, 1) := by decide +kernel
theorem dX4_spareBy_34 : decode cX4_spareBy 34 = .ok (.ishl, 1) := by decide +kernel
theorem dX4_spareBy_35 : decode cX4_spareBy 35 = .ok (.invokevirtual 234, 3) := by decide +kernel
theorem dX4_spareBy_38 : decode cX4_spareBy 38 = .ok (.ifCond .eq 5, 3) := by decide +kernel
theorem dX4_spareBy_41 : decode cX4_spareBy 41 = .ok (.iconst 1, 1) := by decide +kernel
theorem dX4_spareBy_42 : decode cX4_spareBy 42 = .ok (.ireturn, 1) := by decide +kernel
theorem dX4_spareBy_43 : decode cX4_spareBy 43 = .ok (.iinc 1 1, 3) := by decide +kernel
theorem dX4_spareBy_46 : decode cX4_spareBy 46 = .ok (.goto (-30), 3) := by decide +kernel
theorem dX4_spareBy_49 : decode cX4_spareBy 49 = .ok (.iconst 0, 1) := by decide +kernel
theorem dX4_spareBy_50 : decode cX4_spareBy 50 = .ok (.istore_n 1, 1) := by decide +kernel
theorem dX4_spareBy_51 : decode cX4_spareBy 51 = .ok (.iload_n 1, 1) := by decide +kernel
theorem dX4_spareBy_52 : decode cX4_spareBy 52 = .ok (.aload_n 0, 1) := by decide +kernel
theorem dX4_spareBy_53 : decode cX4_spareBy 53 = .ok (.getfield 110, 3) := by decide +kernel
theorem dX4_spareBy_56 : decode cX4_spareBy 56 = .ok (.if_icmp .ge 57, 3) := by decide +kernel
theorem dX4_spareBy_59 : decode cX4_spareBy 59 = .ok (.iload_n 1, 1) := by decide +kernel
theorem dX4_spareBy_60 : decode cX4_spareBy 60 = .ok (.iconst 1, 1) := by decide +kernel
theorem dX4_spareBy_61 : decode cX4_spareBy 61 = .ok (.iadd, 1) := by decide +kernel
theorem dX4_spareBy_62 : decode cX4_spareBy 62 = .ok (.istore_n 2, 1) := by decide +kernel
theorem dX4_spareBy_63 : decode cX4_spareBy 63 = .ok (.iload_n 2, 1) := by decide +kernel
theorem dX4_spareBy_64 : decode cX4_spareBy 64 = .ok (.aload_n 0, 1) := by decide +kernel
theorem dX4_spareBy_65 : decode cX4_spareBy 65 = .ok (.getfield 110, 3) := by decide +kernel
theorem dX4_spareBy_68 : decode cX4_spareBy 68 = .ok (.if_icmp .ge 39, 3) := by decide +kernel
theorem dX4_spareBy_71 : decode cX4_spareBy 71 = .ok (.aload_n 0, 1) := by decide +kernel
theorem dX4_spareBy_72 : decode cX4_spareBy 72 = .ok (.getfield 61, 3) := by decide +kernel
theorem dX4_spareBy_75 : decode cX4_spareBy 75 = .ok (.iconst 0, 1) := by decide +kernel
theorem dX4_spareBy_76 : decode cX4_spareBy 76 = .ok (.iload_n 1, 1) := by decide +kernel
theorem dX4_spareBy_77 : decode cX4_spareBy 77 = .ok (.iastore, 1) := by decide +kernel
theorem dX4_spareBy_78 : decode cX4_spareBy 78 = .ok (.aload_n 0, 1) := by decide +kernel
theorem dX4_spareBy_79 : decode cX4_spareBy 79 = .ok (.getfield 61, 3) := by decide +kernel
theorem dX4_spareBy_82 : decode cX4_spareBy 82 = .ok (.iconst 1, 1) := by decide +kernel
theorem dX4_spareBy_83 : decode cX4_spareBy 83 = .ok (.iload_n 2, 1) := by decide +kernel
theorem dX4_spareBy_84 : decode cX4_spareBy 84 = .ok (.iastore, 1) := by decide +kernel
theorem dX4_spareBy_85 : decode cX4_spareBy 85 = .ok (.aload_n 0, 1) := by decide +kernel
theorem dX4_spareBy_86 : decode cX4_spareBy 86 = .ok (.iconst 1, 1) := by decide +kernel
theorem dX4_spareBy_87 : decode cX4_spareBy 87 = .ok (.iload_n 1, 1) := by decide +kernel
theorem dX4_spareBy_88 : decode cX4_spareBy 88 = .ok (.ishl, 1) := by decide +kernel
theorem dX4_spareBy_89 : decode cX4_spareBy 89 = .ok (.iconst 1, 1) := by decide +kernel
theorem dX4_spareBy_90 : decode cX4_spareBy 90 = .ok (.iload_n 2, 1) := by decide +kernel
theorem dX4_spareBy_91 : decode cX4_spareBy 91 = .ok (.ishl, 1) := by decide +kernel
theorem dX4_spareBy_92 : decode cX4_spareBy 92 = .ok (.ior, 1) := by decide +kernel
theorem dX4_spareBy_93 : decode cX4_spareBy 93 = .ok (.invokevirtual 234, 3) := by decide +kernel
theorem dX4_spareBy_96 : decode cX4_spareBy 96 = .ok (.ifCond .eq 5, 3) := by decide +kernel
theorem dX4_spareBy_99 : decode cX4_spareBy 99 = .ok (.iconst 2, 1) := by decide +kernel
theorem dX4_spareBy_100 : decode cX4_spareBy 100 = .ok (.ireturn, 1) := by decide +kernel
theorem dX4_spareBy_101 : decode cX4_spareBy 101 = .ok (.iinc 2 1, 3) := by decide +kernel
theorem dX4_spareBy_104 : decode cX4_spareBy 104 = .ok (.goto (-41), 3) := by decide +kernel
theorem dX4_spareBy_107 : decode cX4_spareBy 107 = .ok (.iinc 1 1, 3) := by decide +kernel
theorem dX4_spareBy_110 : decode cX4_spareBy 110 = .ok (.goto (-59), 3) := by decide +kernel
theorem dX4_spareBy_113 : decode cX4_spareBy 113 = .ok (.iconst (-1), 1) := by decide +kernel
theorem dX4_spareBy_114 : decode cX4_spareBy 114 = .ok (.ireturn, 1) := by decide +kernel
theorem dX4_ofRow_0 : decode cX4_ofRow 0 = .ok (.iload_n 2, 1) := by decide +kernel
theorem dX4_ofRow_1 : decode cX4_ofRow 1 = .ok (.iconst (-1), 1) := by decide +kernel
theorem dX4_ofRow_2 : decode cX4_ofRow 2 = .ok (.if_icmp .ne 7, 3) := by decide +kernel
theorem dX4_ofRow_5 : decode cX4_ofRow 5 = .ok (.iload_n 1, 1) := by decide +kernel
theorem dX4_ofRow_6 : decode cX4_ofRow 6 = .ok (.goto 18, 3) := by decide +kernel
theorem dX4_ofRow_9 : decode cX4_ofRow 9 = .ok (.iload_n 2, 1) := by decide +kernel
theorem dX4_ofRow_10 : decode cX4_ofRow 10 = .ok (.iload_n 1, 1) := by decide +kernel
theorem dX4_ofRow_11 : decode cX4_ofRow 11 = .ok (.if_icmp .ge 12, 3) := by decide +kernel
theorem dX4_ofRow_14 : decode cX4_ofRow 14 = .ok (.aload_n 0, 1) := by decide +kernel
theorem dX4_ofRow_15 : decode cX4_ofRow 15 = .ok (.getfield 61, 3) := by decide +kernel
theorem dX4_ofRow_18 : decode cX4_ofRow 18 = .ok (.iload_n 2, 1) := by decide +kernel
theorem dX4_ofRow_19 : decode cX4_ofRow 19 = .ok (.iaload, 1) := by decide +kernel
theorem dX4_ofRow_20 : decode cX4_ofRow 20 = .ok (.goto 4, 3) := by decide +kernel
theorem dX4_ofRow_23 : decode cX4_ofRow 23 = .ok (.iconst (-1), 1) := by decide +kernel
theorem dX4_ofRow_24 : decode cX4_ofRow 24 = .ok (.ireturn, 1) := by decide +kernel
theorem qq_X4_spare_0 {c : Cond} (j : Nat) (h : wsX4_spare_r1[j]? = some c) : c ∈ wsX4_spare := List.mem_cons_of_mem _ (List.mem_append_left _ (List.mem_append_left _ (List.mem_of_getElem? h)))
theorem qq_X4_spare_1 {c : Cond} (j : Nat) (h : wsX4_spare_r2[j]? = some c) : c ∈ wsX4_spare := List.mem_cons_of_mem _ (List.mem_append_left _ (List.mem_append_right _ (List.mem_append_left _ (List.mem_of_getElem? h))))
theorem qq_X4_spare_2 {c : Cond} (j : Nat) (h : wsX4_spare_r3[j]? = some c) : c ∈ wsX4_spare := List.mem_cons_of_mem _ (List.mem_append_left _ (List.mem_append_right _ (List.mem_append_right _ (List.mem_append_left _ (List.mem_of_getElem? h)))))
theorem qq_X4_spare_3 {c : Cond} (j : Nat) (h : wsX4_spare_r4[j]? = some c) : c ∈ wsX4_spare := List.mem_cons_of_mem _ (List.mem_append_left _ (List.mem_append_right _ (List.mem_append_right _ (List.mem_append_right _ (List.mem_of_getElem? h)))))
theorem uq_X4_spare_X4 : wsub wsX40 wsX4_spare := fun _ h => List.mem_cons_of_mem _ (List.mem_append_right _ (h))
set_option maxRecDepth 20000 in
theorem ggX4_spare_X4_in : GoodIn wsX4_spare wsX4_in := goodIn_sub (sb_c (qq_X4_spare_0 3 rfl) (sb_n)) gw_X4_in
set_option maxRecDepth 20000 in
theorem gX4_spare_X4_in : GoodIn wsX4_spare (va_wsS RX4 95 yX4_in wsX4_in) := goodIn_app (goodIn_sub (sb_c (qq_X4_spare_0 0 rfl) (sb_c (qq_X4_spare_0 1 rfl) (sb_c (qq_X4_spare_0 2 rfl) sb_n))) (by decide +kernel)) ggX4_spare_X4_in
set_option maxRecDepth 20000 in
theorem gw_X4_spareBy : wsX4_spareBy.all goodWord = true := by decide +kernel
set_option maxRecDepth 20000 in
theorem ggX4_spare_X4_spareBy : GoodIn wsX4_spare wsX4_spareBy := goodIn_sub (sb_c (qq_X4_spare_0 7 rfl) (sb_a (sb_a (sb_c (qq_X4_spare_0 8 rfl) (sb_c (qq_X4_spare_0 9 rfl) (sb_c (qq_X4_spare_0 10 rfl) (sb_c (qq_X4_spare_0 11 rfl) (sb_c (qq_X4_spare_0 12 rfl) (sb_c (qq_X4_spare_0 2 rfl) (sb_c (qq_X4_spare_0 13 rfl) (sb_c (qq_X4_spare_0 14 rfl) (sb_c (qq_X4_spare_0 15 rfl) (sb_c (qq_X4_spare_0 16 rfl) (sb_c (qq_X4_spare_0 17 rfl) (sb_c (qq_X4_spare_0 18 rfl) (sb_c (qq_X4_spare_0 19 rfl) (sb_c (qq_X4_spare_0 20 rfl) (sb_c (qq_X4_spare_0 21 rfl) (sb_c (qq_X4_spare_0 22 rfl) (sb_c (qq_X4_spare_0 23 rfl) (sb_c (qq_X4_spare_1 0 rfl) (sb_c (qq_X4_spare_1 1 rfl) (sb_c (qq_X4_spare_1 2 rfl) (sb_c (qq_X4_spare_1 3 rfl) (sb_c (qq_X4_spare_1 4 rfl) (sb_c (qq_X4_spare_1 5 rfl) (sb_c (qq_X4_spare_1 6 rfl) sb_n)))))))))))))))))))))))) (sb_a (sb_c (qq_X4_spare_1 7 rfl) (sb_c (qq_X4_spare_1 8 rfl) (sb_c (qq_X4_spare_1 9 rfl) (sb_c (qq_X4_spare_1 10 rfl) (sb_c (qq_X4_spare_1 11 rfl) (sb_c (qq_X4_spare_1 12 rfl) (sb_c (qq_X4_spare_1 13 rfl) (sb_c (qq_X4_spare_1 14 rfl) (sb_c (qq_X4_spare_1 15 rfl) (sb_c (qq_X4_spare_1 16 rfl) (sb_c (qq_X4_spare_1 17 rfl) (sb_c (qq_X4_spare_1 18 rfl) (sb_c (qq_X4_spare_1 19 rfl) (sb_c (qq_X4_spare_1 20 rfl) (sb_c (qq_X4_spare_1 21 rfl) (sb_c (qq_X4_spare_0 0 rfl) (sb_c (qq_X4_spare_0 1 rfl) (sb_c (qq_X4_spare_0 3 rfl) (sb_c (qq_X4_spare_1 22 rfl) (sb_c (qq_X4_spare_1 23 rfl) (sb_c (qq_X4_spare_2 0 rfl) (sb_c (qq_X4_spare_2 1 rfl) (sb_c (qq_X4_spare_2 2 rfl) (sb_c (qq_X4_spare_2 3 rfl) sb_n)))))))))))))))))))))))) (sb_a (sb_c (qq_X4_spare_2 4 rfl) (sb_c (qq_X4_spare_2 5 rfl) (sb_c (qq_X4_spare_2 6 rfl) (sb_c (qq_X4_spare_2 7 rfl) (sb_c (qq_X4_spare_2 8 rfl) (sb_c (qq_X4_spare_2 9 rfl) (sb_c (qq_X4_spare_2 10 rfl) (sb_c (qq_X4_spare_2 11 rfl) (sb_c (qq_X4_spare_2 12 rfl) (sb_c (qq_X4_spare_2 13 rfl) (sb_c (qq_X4_spare_2 14 rfl) (sb_c (qq_X4_spare_2 15 rfl) (sb_c (qq_X4_spare_2 16 rfl) (sb_c (qq_X4_spare_2 17 rfl) (sb_c (qq_X4_spare_2 18 rfl) (sb_c (qq_X4_spare_2 19 rfl) (sb_c (qq_X4_spare_2 20 rfl) (sb_c (qq_X4_spare_2 21 rfl) (sb_c (qq_X4_spare_2 22 rfl) (sb_c (qq_X4_spare_2 23 rfl) (sb_c (qq_X4_spare_3 0 rfl) (sb_c (qq_X4_spare_3 1 rfl) (sb_c (qq_X4_spare_3 2 rfl) (sb_c (qq_X4_spare_3 3 rfl) sb_n)))))))))))))))))))))))) (sb_c (qq_X4_spare_3 4 rfl) (sb_c (qq_X4_spare_3 5 rfl) (sb_c (qq_X4_spare_3 6 rfl) (sb_c (qq_X4_spare_3 7 rfl) (sb_c (qq_X4_spare_3 8 rfl) sb_n)))))))) (uq_X4_spare_X4))) gw_X4_spareBy
set_option maxRecDepth 20000 in
theorem gX4_spare_X4_spareBy : GoodIn wsX4_spare (wsV RX4 237 RX4 yX4_spareBy wsX4_spareBy) := goodIn_app (goodIn_sub (sb_c (qq_X4_spare_0 4 rfl) (sb_c (qq_X4_spare_0 5 rfl) (sb_c (qq_X4_spare_0 6 rfl) (sb_c (qq_X4_spare_0 2 rfl) sb_n)))) (by decide +kernel)) ggX4_spare_X4_spareBy
set_option maxRecDepth 20000 in
theorem gw_X4_ofRow : wsX4_ofRow.all goodWord = true := by decide +kernel
set_option maxRecDepth 20000 in
theorem ggX4_spare_X4_ofRow : GoodIn wsX4_spare wsX4_ofRow := goodIn_sub (sb_c (qq_X4_spare_3 12 rfl) (sb_a (sb_c (qq_X4_spare_0 9 rfl) sb_n) (uq_X4_spare_X4))) gw_X4_ofRow
set_option maxRecDepth 20000 in
theorem gX4_spare_X4_ofRow : GoodIn wsX4_spare (wsV RX4 240 RX4 yX4_ofRow wsX4_ofRow) := goodIn_app (goodIn_sub (sb_c (qq_X4_spare_3 9 rfl) (sb_c (qq_X4_spare_3 10 rfl) (sb_c (qq_X4_spare_3 11 rfl) (sb_c (qq_X4_spare_0 2 rfl) sb_n)))) (by decide +kernel)) ggX4_spare_X4_ofRow
theorem dX4_spare_0 : decode cX4_spare 0 = .ok (.iload_n 1, 1) := by decide +kernel
theorem dX4_spare_1 : decode cX4_spare 1 = .ok (.iconst (-1), 1) := by decide +kernel
theorem dX4_spare_2 : decode cX4_spare 2 = .ok (.iconst 1, 1) := by decide +kernel
theorem dX4_spare_3 : decode cX4_spare 3 = .ok (.invokestatic 95, 3) := by decide +kernel
theorem dX4_spare_6 : decode cX4_spare 6 = .ok (.ifCond .eq 15, 3) := by decide +kernel
theorem dX4_spare_9 : decode cX4_spare 9 = .ok (.aload_n 0, 1) := by decide +kernel
theorem dX4_spare_10 : decode cX4_spare 10 = .ok (.aload_n 0, 1) := by decide +kernel
theorem dX4_spare_11 : decode cX4_spare 11 = .ok (.invokevirtual 237, 3) := by decide +kernel
theorem dX4_spare_14 : decode cX4_spare 14 = .ok (.iload_n 1, 1) := by decide +kernel
theorem dX4_spare_15 : decode cX4_spare 15 = .ok (.invokevirtual 240, 3) := by decide +kernel
theorem dX4_spare_18 : decode cX4_spare 18 = .ok (.goto 5, 3) := by decide +kernel
theorem dX4_spare_21 : decode cX4_spare 21 = .ok (.bipush (-2), 2) := by decide +kernel
theorem dX4_spare_23 : decode cX4_spare 23 = .ok (.ireturn, 1) := by decide +kernel
theorem qq_X4_seen_0 {c : Cond} (j : Nat) (h : ([.fieldLink RX4 243 "InkSwathsModel" "seens" "I", .fieldLink RX4 64 "InkSwathsModel" "seenLine" "[I", .fieldLink RX4 67 "InkSwathsModel" "seenMany" "[I", .methodLink RX4 99 yX4_isLine, .static yX4_isLine, .initialized RX4, .code yX4_isLine cX4_isLine 1 (some .boolean), .methodLink RX4 95 yX4_in, .static yX4_in, .code yX4_in cX4_in 3 (some .boolean)] : List Cond)[j]? = some c) : c ∈ wsX4_seen := List.mem_cons_of_mem _ (List.mem_append_left _ (List.mem_of_getElem? h))
theorem uq_X4_seen_X4 : wsub wsX40 wsX4_seen := fun _ h => List.mem_cons_of_mem _ (List.mem_append_right _ (h))
set_option maxRecDepth 20000 in
theorem ggX4_seen_X4_isLine : GoodIn wsX4_seen wsX4_isLine := goodIn_sub (sb_c (qq_X4_seen_0 6 rfl) (sb_c (qq_X4_seen_0 7 rfl) (sb_c (qq_X4_seen_0 8 rfl) (sb_c (qq_X4_seen_0 5 rfl) (sb_c (qq_X4_seen_0 9 rfl) sb_n))))) gw_X4_isLine
set_option maxRecDepth 20000 in
theorem gX4_seen_X4_isLine : GoodIn wsX4_seen (va_wsS RX4 99 yX4_isLine wsX4_isLine) := goodIn_app (goodIn_sub (sb_c (qq_X4_seen_0 3 rfl) (sb_c (qq_X4_seen_0 4 rfl) (sb_c (qq_X4_seen_0 5 rfl) sb_n))) (by decide +kernel)) ggX4_seen_X4_isLine
set_option maxRecDepth 20000 in
theorem ggX4_seen_X4_in : GoodIn wsX4_seen wsX4_in := goodIn_sub (sb_c (qq_X4_seen_0 9 rfl) (sb_n)) gw_X4_in
set_option maxRecDepth 20000 in
theorem gX4_seen_X4_in : GoodIn wsX4_seen (va_wsS RX4 95 yX4_in wsX4_in) := goodIn_app (goodIn_sub (sb_c (qq_X4_seen_0 7 rfl) (sb_c (qq_X4_seen_0 8 rfl) (sb_c (qq_X4_seen_0 5 rfl) sb_n))) (by decide +kernel)) ggX4_seen_X4_in
theorem dX4_seen_0 : decode cX4_seen 0 = .ok (.iload_n 1, 1) := by decide +kernel
theorem dX4_seen_1 : decode cX4_seen 1 = .ok (.invokestatic 99, 3) := by decide +kernel
theorem dX4_seen_4 : decode cX4_seen 4 = .ok (.ifCond .eq 13, 3) := by decide +kernel
theorem dX4_seen_7 : decode cX4_seen 7 = .ok (.iload_n 2, 1) := by decide +kernel
theorem dX4_seen_8 : decode cX4_seen 8 = .ok (.iconst 0, 1) := by decide +kernel
theorem dX4_seen_9 : decode cX4_seen 9 = .ok (.bipush 8, 2) := by decide +kernel
theorem dX4_seen_11 : decode cX4_seen 11 = .ok (.invokestatic 95, 3) := by decide +kernel
theorem dX4_seen_14 : decode cX4_seen 14 = .ok (.ifCond .ne 6, 3) := by decide +kernel
theorem dX4_seen_17 : decode cX4_seen 17 = .ok (.bipush (-2), 2) := by decide +kernel
theorem dX4_seen_19 : decode cX4_seen 19 = .ok (.ireturn, 1) := by decide +kernel
theorem dX4_seen_20 : decode cX4_seen 20 = .ok (.aload_n 0, 1) := by decide +kernel
theorem dX4_seen_21 : decode cX4_seen 21 = .ok (.getfield 243, 3) := by decide +kernel
theorem dX4_seen_24 : decode cX4_seen 24 = .ok (.bipush 8, 2) := by decide +kernel
theorem dX4_seen_26 : decode cX4_seen 26 = .ok (.if_icmp .ne 6, 3) := by decide +kernel
theorem dX4_seen_29 : decode cX4_seen 29 = .ok (.bipush (-4), 2) := by decide +kernel
theorem dX4_seen_31 : decode cX4_seen 31 = .ok (.ireturn, 1) := by decide +kernel
theorem dX4_seen_32 : decode cX4_seen 32 = .ok (.aload_n 0, 1) := by decide +kernel
theorem dX4_seen_33 : decode cX4_seen 33 = .ok (.getfield 64, 3) := by decide +kernel
theorem dX4_seen_36 : decode cX4_seen 36 = .ok (.aload_n 0, 1) := by decide +kernel
theorem dX4_seen_37 : decode cX4_seen 37 = .ok (.getfield 243, 3) := by decide +kernel
theorem dX4_seen_40 : decode cX4_seen 40 = .ok (.iload_n 1, 1) := by decide +kernel
theorem dX4_seen_41 : decode cX4_seen 41 = .ok (.iastore, 1) := by decide +kernel
theorem dX4_seen_42 : decode cX4_seen 42 = .ok (.aload_n 0, 1) := by decide +kernel
theorem dX4_seen_43 : decode cX4_seen 43 = .ok (.getfield 67, 3) := by decide +kernel
theorem dX4_seen_46 : decode cX4_seen 46 = .ok (.aload_n 0, 1) := by decide +kernel
theorem dX4_seen_47 : decode cX4_seen 47 = .ok (.getfield 243, 3) := by decide +kernel
theorem dX4_seen_50 : decode cX4_seen 50 = .ok (.iload_n 2, 1) := by decide +kernel
theorem dX4_seen_51 : decode cX4_seen 51 = .ok (.iastore, 1) := by decide +kernel
theorem dX4_seen_52 : decode cX4_seen 52 = .ok (.aload_n 0, 1) := by decide +kernel
theorem dX4_seen_53 : decode cX4_seen 53 = .ok (.dup, 1) := by decide +kernel
theorem dX4_seen_54 : decode cX4_seen 54 = .ok (.getfield 243, 3) := by decide +kernel
theorem dX4_seen_57 : decode cX4_seen 57 = .ok (.iconst 1, 1) := by decide +kernel
theorem dX4_seen_58 : decode cX4_seen 58 = .ok (.iadd, 1) := by decide +kernel
theorem dX4_seen_59 : decode cX4_seen 59 = .ok (.putfield 243, 3) := by decide +kernel
theorem dX4_seen_62 : decode cX4_seen 62 = .ok (.aload_n 0, 1) := by decide +kernel
theorem dX4_seen_63 : decode cX4_seen 63 = .ok (.getfield 243, 3) := by decide +kernel
theorem dX4_seen_66 : decode cX4_seen 66 = .ok (.ireturn, 1) := by decide +kernel
theorem dX4_forget_0 : decode cX4_forget 0 = .ok (.aload_n 0, 1) := by decide +kernel
theorem dX4_forget_1 : decode cX4_forget 1 = .ok (.getfield 243, 3) := by decide +kernel
theorem dX4_forget_4 : decode cX4_forget 4 = .ok (.istore_n 1, 1) := by decide +kernel
theorem dX4_forget_5 : decode cX4_forget 5 = .ok (.aload_n 0, 1) := by decide +kernel
theorem dX4_forget_6 : decode cX4_forget 6 = .ok (.iconst 0, 1) := by decide +kernel
theorem dX4_forget_7 : decode cX4_forget 7 = .ok (.putfield 243, 3) := by decide +kernel
theorem dX4_forget_10 : decode cX4_forget 10 = .ok (.iload_n 1, 1) := by decide +kernel
theorem dX4_forget_11 : decode cX4_forget 11 = .ok (.ireturn, 1) := by decide +kernel
theorem qq_X4_isSeen_0 {c : Cond} (j : Nat) (h : wsX4_isSeen_r1[j]? = some c) : c ∈ wsX4_isSeen := List.mem_cons_of_mem _ (List.mem_append_left _ (List.mem_append_left _ (List.mem_of_getElem? h)))
theorem qq_X4_isSeen_1 {c : Cond} (j : Nat) (h : wsX4_isSeen_r2[j]? = some c) : c ∈ wsX4_isSeen := List.mem_cons_of_mem _ (List.mem_append_left _ (List.mem_append_right _ (List.mem_append_left _ (List.mem_of_getElem? h))))
theorem qq_X4_isSeen_2 {c : Cond} (j : Nat) (h : wsX4_isSeen_r3[j]? = some c) : c ∈ wsX4_isSeen := List.mem_cons_of_mem _ (List.mem_append_left _ (List.mem_append_right _ (List.mem_append_right _ (List.mem_of_getElem? h))))
theorem uq_X4_isSeen_X4 : wsub wsX40 wsX4_isSeen := fun _ h => List.mem_cons_of_mem _ (List.mem_append_right _ (h))
set_option maxRecDepth 20000 in
theorem ggX4_isSeen_X4_runs : GoodIn wsX4_isSeen wsX4_runs := goodIn_sub (sb_c (qq_X4_isSeen_0 8 rfl) (sb_a (sb_a (sb_c (qq_X4_isSeen_0 9 rfl) (sb_c (qq_X4_isSeen_0 10 rfl) (sb_c (qq_X4_isSeen_0 11 rfl) (sb_c (qq_X4_isSeen_0 1 rfl) (sb_c (qq_X4_isSeen_0 12 rfl) (sb_c (qq_X4_isSeen_0 13 rfl) (sb_c (qq_X4_isSeen_0 14 rfl) (sb_c (qq_X4_isSeen_0 15 rfl) (sb_c (qq_X4_isSeen_0 16 rfl) (sb_c (qq_X4_isSeen_0 17 rfl) (sb_c (qq_X4_isSeen_0 18 rfl) (sb_c (qq_X4_isSeen_0 7 rfl) (sb_c (qq_X4_isSeen_0 19 rfl) (sb_c (qq_X4_isSeen_0 20 rfl) (sb_c (qq_X4_isSeen_0 21 rfl) (sb_c (qq_X4_isSeen_0 22 rfl) (sb_c (qq_X4_isSeen_0 23 rfl) (sb_c (qq_X4_isSeen_1 0 rfl) (sb_c (qq_X4_isSeen_1 1 rfl) (sb_c (qq_X4_isSeen_1 2 rfl) (sb_c (qq_X4_isSeen_1 3 rfl) (sb_c (qq_X4_isSeen_1 4 rfl) (sb_c (qq_X4_isSeen_1 5 rfl) (sb_c (qq_X4_isSeen_1 6 rfl) sb_n)))))))))))))))))))))))) (sb_a (sb_c (qq_X4_isSeen_1 7 rfl) (sb_c (qq_X4_isSeen_1 8 rfl) (sb_c (qq_X4_isSeen_1 9 rfl) (sb_c (qq_X4_isSeen_1 10 rfl) (sb_c (qq_X4_isSeen_1 11 rfl) (sb_c (qq_X4_isSeen_1 12 rfl) (sb_c (qq_X4_isSeen_1 13 rfl) (sb_c (qq_X4_isSeen_1 14 rfl) (sb_c (qq_X4_isSeen_1 15 rfl) (sb_c (qq_X4_isSeen_1 16 rfl) (sb_c (qq_X4_isSeen_1 17 rfl) (sb_c (qq_X4_isSeen_1 18 rfl) (sb_c (qq_X4_isSeen_1 19 rfl) (sb_c (qq_X4_isSeen_1 20 rfl) (sb_c (qq_X4_isSeen_1 21 rfl) (sb_c (qq_X4_isSeen_1 22 rfl) (sb_c (qq_X4_isSeen_1 23 rfl) (sb_c (qq_X4_isSeen_2 0 rfl) (sb_c (qq_X4_isSeen_2 1 rfl) (sb_c (qq_X4_isSeen_2 2 rfl) (sb_c (qq_X4_isSeen_2 3 rfl) (sb_c (qq_X4_isSeen_2 4 rfl) (sb_c (qq_X4_isSeen_2 5 rfl) (sb_c (qq_X4_isSeen_2 6 rfl) sb_n)))))))))))))))))))))))) (sb_c (qq_X4_isSeen_2 7 rfl) (sb_c (qq_X4_isSeen_2 8 rfl) (sb_c (qq_X4_isSeen_2 9 rfl) (sb_c (qq_X4_isSeen_2 10 rfl) (sb_c (qq_X4_isSeen_2 11 rfl) (sb_c (qq_X4_isSeen_2 12 rfl) (sb_c (qq_X4_isSeen_2 13 rfl) (sb_c (qq_X4_isSeen_2 14 rfl) (sb_c (qq_X4_isSeen_2 15 rfl) (sb_c (qq_X4_isSeen_2 16 rfl) (sb_c (qq_X4_isSeen_2 17 rfl) (sb_c (qq_X4_isSeen_2 18 rfl) (sb_c (qq_X4_isSeen_2 19 rfl) (sb_c (qq_X4_isSeen_2 20 rfl) sb_n)))))))))))))))) (uq_X4_isSeen_X4))) gw_X4_runs
set_option maxRecDepth 20000 in
theorem gX4_isSeen_X4_runs : GoodIn wsX4_isSeen (wsV RX4 165 RX4 yX4_runs wsX4_runs) := goodIn_app (goodIn_sub (sb_c (qq_X4_isSeen_0 4 rfl) (sb_c (qq_X4_isSeen_0 5 rfl) (sb_c (qq_X4_isSeen_0 6 rfl) (sb_c (qq_X4_isSeen_0 7 rfl) sb_n)))) (by decide +kernel)) ggX4_isSeen_X4_runs
set_option maxRecDepth 20000 in
theorem ggX4_isSeen_X4_many : GoodIn wsX4_isSeen wsX4_many := goodIn_sub (sb_c (qq_X4_isSeen_2 23 rfl) (sb_c (qq_X4_isSeen_2 2 rfl) (sb_c (qq_X4_isSeen_2 3 rfl) (sb_c (qq_X4_isSeen_0 7 rfl) (sb_c (qq_X4_isSeen_2 4 rfl) sb_n))))) gw_X4_many
set_option maxRecDepth 20000 in
theorem gX4_isSeen_X4_many : GoodIn wsX4_isSeen (va_wsS RX4 203 yX4_many wsX4_many) := goodIn_app (goodIn_sub (sb_c (qq_X4_isSeen_2 21 rfl) (sb_c (qq_X4_isSeen_2 22 rfl) (sb_c (qq_X4_isSeen_0 7 rfl) sb_n))) (by decide +kernel)) ggX4_isSeen_X4_many
theorem dX4_isSeen_0 : decode cX4_isSeen 0 = .ok (.aload_n 0, 1) := by decide +kernel
theorem dX4_isSeen_1 : decode cX4_isSeen 1 = .ok (.invokevirtual 165, 3) := by decide +kernel
theorem dX4_isSeen_4 : decode cX4_isSeen 4 = .ok (.iconst 1, 1) := by decide +kernel
theorem dX4_isSeen_5 : decode cX4_isSeen 5 = .ok (.istore_n 1, 1) := by decide +kernel
theorem dX4_isSeen_6 : decode cX4_isSeen 6 = .ok (.iconst 0, 1) := by decide +kernel
theorem dX4_isSeen_7 : decode cX4_isSeen 7 = .ok (.istore_n 2, 1) := by decide +kernel
theorem dX4_isSeen_8 : decode cX4_isSeen 8 = .ok (.iload_n 2, 1) := by decide +kernel
theorem dX4_isSeen_9 : decode cX4_isSeen 9 = .ok (.aload_n 0, 1) := by decide +kernel
theorem dX4_isSeen_10 : decode cX4_isSeen 10 = .ok (.getfield 243, 3) := by decide +kernel
theorem dX4_isSeen_13 : decode cX4_isSeen 13 = .ok (.if_icmp .ge 42, 3) := by decide +kernel
theorem dX4_isSeen_16 : decode cX4_isSeen 16 = .ok (.iload_n 1, 1) := by decide +kernel
theorem dX4_isSeen_17 : decode cX4_isSeen 17 = .ok (.ifCond .eq 38, 3) := by decide +kernel
theorem dX4_isSeen_20 : decode cX4_isSeen 20 = .ok (.aload_n 0, 1) := by decide +kernel
theorem dX4_isSeen_21 : decode cX4_isSeen 21 = .ok (.getfield 49, 3) := by decide +kernel
theorem dX4_isSeen_24 : decode cX4_isSeen 24 = .ok (.aload_n 0, 1) := by decide +kernel
theorem dX4_isSeen_25 : decode cX4_isSeen 25 = .ok (.getfield 64, 3) := by decide +kernel
theorem dX4_isSeen_28 : decode cX4_isSeen 28 = .ok (.iload_n 2, 1) := by decide +kernel
theorem dX4_isSeen_29 : decode cX4_isSeen 29 = .ok (.iaload, 1) := by decide +kernel
theorem dX4_isSeen_30 : decode cX4_isSeen 30 = .ok (.iaload, 1) := by decide +kernel
theorem dX4_isSeen_31 : decode cX4_isSeen 31 = .ok (.invokestatic 203, 3) := by decide +kernel
theorem dX4_isSeen_34 : decode cX4_isSeen 34 = .ok (.aload_n 0, 1) := by decide +kernel
theorem dX4_isSeen_35 : decode cX4_isSeen 35 = .ok (.getfield 67, 3) := by decide +kernel
theorem dX4_isSeen_38 : decode cX4_isSeen 38 = .ok (.iload_n 2, 1) := by decide +kernel
theorem dX4_isSeen_39 : decode cX4_isSeen 39 = .ok (.iaload, 1) := by decide +kernel
theorem dX4_isSeen_40 : decode cX4_isSeen 40 = .ok (.if_icmp .ne 7, 3) := by decide +kernel
theorem dX4_isSeen_43 : decode cX4_isSeen 43 = .ok (.iconst 1, 1) := by decide +kernel
theorem dX4_isSeen_44 : decode cX4_isSeen 44 = .ok (.goto 4, 3) := by decide +kernel
theorem dX4_isSeen_47 : decode cX4_isSeen 47 = .ok (.iconst 0, 1) := by decide +kernel
theorem dX4_isSeen_48 : decode cX4_isSeen 48 = .ok (.istore_n 1, 1) := by decide +kernel
theorem dX4_isSeen_49 : decode cX4_isSeen 49 = .ok (.iinc 2 1, 3) := by decide +kernel
theorem dX4_isSeen_52 : decode cX4_isSeen 52 = .ok (.goto (-44), 3) := by decide +kernel
theorem dX4_isSeen_55 : decode cX4_isSeen 55 = .ok (.iload_n 1, 1) := by decide +kernel
theorem dX4_isSeen_56 : decode cX4_isSeen 56 = .ok (.ireturn, 1) := by decide +kernel
theorem qq_X4_neverNow_0 {c : Cond} (j : Nat) (h : wsX4_neverNow_r1[j]? = some c) : c ∈ wsX4_neverNow := List.mem_cons_of_mem _ (List.mem_append_left _ (List.mem_append_left _ (List.mem_of_getElem? h)))
theorem qq_X4_neverNow_1 {c : Cond} (j : Nat) (h : wsX4_neverNow_r2[j]? = some c) : c ∈ wsX4_neverNow := List.mem_cons_of_mem _ (List.mem_append_left _ (List.mem_append_right _ (List.mem_append_left _ (List.mem_of_getElem? h))))
theorem qq_X4_neverNow_2 {c : Cond} (j : Nat) (h : wsX4_neverNow_r3[j]? = some c) : c ∈ wsX4_neverNow := List.mem_cons_of_mem _ (List.mem_append_left _ (List.mem_append_right _ (List.mem_append_right _ (List.mem_append_left _ (List.mem_of_getElem? h)))))
theorem qq_X4_neverNow_3 {c : Cond} (j : Nat) (h : wsX4_neverNow_r4[j]? = some c) : c ∈ wsX4_neverNow := List.mem_cons_of_mem _ (List.mem_append_left _ (List.mem_append_right _ (List.mem_append_right _ (List.mem_append_right _ (List.mem_of_getElem? h)))))
theorem uq_X4_neverNow_X4 : wsub wsX40 wsX4_neverNow := fun _ h => List.mem_cons_of_mem _ (List.mem_append_right _ (h))
set_option maxRecDepth 20000 in
theorem ggX4_neverNow_X4_asTold : GoodIn wsX4_neverNow wsX4_asTold := goodIn_sub (sb_c (qq_X4_neverNow_0 6 rfl) (sb_a (sb_c (qq_X4_neverNow_0 7 rfl) (sb_c (qq_X4_neverNow_0 8 rfl) (sb_c (qq_X4_neverNow_0 9 rfl) (sb_c (qq_X4_neverNow_0 10 rfl) (sb_c (qq_X4_neverNow_0 1 rfl) (sb_c (qq_X4_neverNow_0 11 rfl) sb_n)))))) (uq_X4_neverNow_X4))) gw_X4_asTold
set_option maxRecDepth 20000 in
theorem gX4_neverNow_X4_asTold : GoodIn wsX4_neverNow (wsV RX4 162 RX4 yX4_asTold wsX4_asTold) := goodIn_app (goodIn_sub (sb_c (qq_X4_neverNow_0 2 rfl) (sb_c (qq_X4_neverNow_0 3 rfl) (sb_c (qq_X4_neverNow_0 4 rfl) (sb_c (qq_X4_neverNow_0 5 rfl) sb_n)))) (by decide +kernel)) ggX4_neverNow_X4_asTold
set_option maxRecDepth 20000 in
theorem gw_X4_isSeen : wsX4_isSeen.all goodWord = true := by decide +kernel
set_option maxRecDepth 20000 in
theorem ggX4_neverNow_X4_isSeen : GoodIn wsX4_neverNow wsX4_isSeen := goodIn_sub (sb_c (qq_X4_neverNow_0 15 rfl) (sb_a (sb_a (sb_c (qq_X4_neverNow_0 16 rfl) (sb_c (qq_X4_neverNow_0 17 rfl) (sb_c (qq_X4_neverNow_0 18 rfl) (sb_c (qq_X4_neverNow_0 19 rfl) (sb_c (qq_X4_neverNow_0 20 rfl) (sb_c (qq_X4_neverNow_0 21 rfl) (sb_c (qq_X4_neverNow_0 22 rfl) (sb_c (qq_X4_neverNow_0 5 rfl) (sb_c (qq_X4_neverNow_0 23 rfl) (sb_c (qq_X4_neverNow_1 0 rfl) (sb_c (qq_X4_neverNow_1 1 rfl) (sb_c (qq_X4_neverNow_1 2 rfl) (sb_c (qq_X4_neverNow_1 3 rfl) (sb_c (qq_X4_neverNow_1 4 rfl) (sb_c (qq_X4_neverNow_0 7 rfl) (sb_c (qq_X4_neverNow_1 5 rfl) (sb_c (qq_X4_neverNow_1 6 rfl) (sb_c (qq_X4_neverNow_1 7 rfl) (sb_c (qq_X4_neverNow_1 8 rfl) (sb_c (qq_X4_neverNow_1 9 rfl) (sb_c (qq_X4_neverNow_1 10 rfl) (sb_c (qq_X4_neverNow_0 9 rfl) (sb_c (qq_X4_neverNow_1 11 rfl) (sb_c (qq_X4_neverNow_1 12 rfl) sb_n)))))))))))))))))))))))) (sb_a (sb_c (qq_X4_neverNow_1 13 rfl) (sb_c (qq_X4_neverNow_1 14 rfl) (sb_c (qq_X4_neverNow_1 15 rfl) (sb_c (qq_X4_neverNow_1 16 rfl) (sb_c (qq_X4_neverNow_1 17 rfl) (sb_c (qq_X4_neverNow_1 18 rfl) (sb_c (qq_X4_neverNow_1 19 rfl) (sb_c (qq_X4_neverNow_1 20 rfl) (sb_c (qq_X4_neverNow_1 21 rfl) (sb_c (qq_X4_neverNow_1 22 rfl) (sb_c (qq_X4_neverNow_1 23 rfl) (sb_c (qq_X4_neverNow_2 0 rfl) (sb_c (qq_X4_neverNow_2 1 rfl) (sb_c (qq_X4_neverNow_2 2 rfl) (sb_c (qq_X4_neverNow_2 3 rfl) (sb_c (qq_X4_neverNow_2 4 rfl) (sb_c (qq_X4_neverNow_2 5 rfl) (sb_c (qq_X4_neverNow_2 6 rfl) (sb_c (qq_X4_neverNow_2 7 rfl) (sb_c (qq_X4_neverNow_2 8 rfl) (sb_c (qq_X4_neverNow_0 0 rfl) (sb_c (qq_X4_neverNow_2 9 rfl) (sb_c (qq_X4_neverNow_2 10 rfl) (sb_c (qq_X4_neverNow_0 1 rfl) sb_n)))))))))))))))))))))))) (sb_c (qq_X4_neverNow_0 11 rfl) (sb_c (qq_X4_neverNow_2 11 rfl) (sb_c (qq_X4_neverNow_2 12 rfl) (sb_c (qq_X4_neverNow_2 13 rfl) (sb_c (qq_X4_neverNow_2 14 rfl) (sb_c (qq_X4_neverNow_2 15 rfl) (sb_c (qq_X4_neverNow_2 16 rfl) (sb_c (qq_X4_neverNow_2 17 rfl) (sb_c (qq_X4_neverNow_2 18 rfl) (sb_c (qq_X4_neverNow_2 19 rfl) (sb_c (qq_X4_neverNow_2 20 rfl) (sb_c (qq_X4_neverNow_2 21 rfl) (sb_c (qq_X4_neverNow_2 22 rfl) (sb_c (qq_X4_neverNow_2 23 rfl) (sb_c (qq_X4_neverNow_3 0 rfl) (sb_c (qq_X4_neverNow_3 1 rfl) (sb_c (qq_X4_neverNow_3 2 rfl) (sb_c (qq_X4_neverNow_3 3 rfl) (sb_c (qq_X4_neverNow_3 4 rfl) (sb_c (qq_X4_neverNow_3 5 rfl) (sb_c (qq_X4_neverNow_3 6 rfl) (sb_c (qq_X4_neverNow_3 7 rfl) (sb_c (qq_X4_neverNow_3 8 rfl) (sb_c (qq_X4_neverNow_3 9 rfl) sb_n)))))))))))))))))))))))))) (uq_X4_neverNow_X4))) gw_X4_isSeen
set_option maxRecDepth 20000 in
theorem gX4_neverNow_X4_isSeen : GoodIn wsX4_neverNow (wsV RX4 246 RX4 yX4_isSeen wsX4_isSeen) := goodIn_app (goodIn_sub (sb_c (qq_X4_neverNow_0 12 rfl) (sb_c (qq_X4_neverNow_0 13 rfl) (sb_c (qq_X4_neverNow_0 14 rfl) (sb_c (qq_X4_neverNow_0 5 rfl) sb_n)))) (by decide +kernel)) ggX4_neverNow_X4_isSeen
theorem dX4_neverNow_0 : decode cX4_neverNow 0 = .ok (.aload_n 0, 1) := by decide +kernel
theorem dX4_neverNow_1 : decode cX4_neverNow 1 = .ok (.invokevirtual 162, 3) := by decide +kernel
theorem dX4_neverNow_4 : decode cX4_neverNow 4 = .ok (.iconst 0, 1) := by decide +kernel
theorem dX4_neverNow_5 : decode cX4_neverNow 5 = .ok (.istore_n 1, 1) := by decide +kernel
theorem dX4_neverNow_6 : decode cX4_neverNow 6 = .ok (.iconst 0, 1) := by decide +kernel
theorem dX4_neverNow_7 : decode cX4_neverNow 7 = .ok (.istore_n 2, 1) := by decide +kernel
theorem dX4_neverNow_8 : decode cX4_neverNow 8 = .ok (.iload_n 2, 1) := by decide +kernel
theorem dX4_neverNow_9 : decode cX4_neverNow 9 = .ok (.aload_n 0, 1) := by decide +kernel
theorem dX4_neverNow_10 : decode cX4_neverNow 10 = .ok (.getfield 110, 3) := by decide +kernel
theorem dX4_neverNow_13 : decode cX4_neverNow 13 = .ok (.if_icmp .ge 33, 3) := by decide +kernel
theorem dX4_neverNow_16 : decode cX4_neverNow 16 = .ok (.aload_n 0, 1) := by decide +kernel
theorem dX4_neverNow_17 : decode cX4_neverNow 17 = .ok (.iconst 1, 1) := by decide +kernel
theorem dX4_neverNow_18 : decode cX4_neverNow 18 = .ok (.iload_n 2, 1) := by decide +kernel
theorem dX4_neverNow_19 : decode cX4_neverNow 19 = .ok (.ishl, 1) := by decide +kernel
theorem dX4_neverNow_20 : decode cX4_neverNow 20 = .ok (.putfield 121, 3) := by decide +kernel
theorem dX4_neverNow_23 : decode cX4_neverNow 23 = .ok (.iload_n 1, 1) := by decide +kernel
theorem dX4_neverNow_24 : decode cX4_neverNow 24 = .ok (.aload_n 0, 1) := by decide +kernel
theorem dX4_neverNow_25 : decode cX4_neverNow 25 = .ok (.invokevirtual 246, 3) := by decide +kernel
theorem dX4_neverNow_28 : decode cX4_neverNow 28 = .ok (.ifCond .eq 9, 3) := by decide +kernel
theorem dX4_neverNow_31 : decode cX4_neverNow 31 = .ok (.iconst 1, 1) := by decide +kernel
theorem dX4_neverNow_32 : decode cX4_neverNow 32 = .ok (.iload_n 2, 1) := by decide +kernel
theorem dX4_neverNow_33 : decode cX4_neverNow 33 = .ok (.ishl, 1) := by decide +kernel
theorem dX4_neverNow_34 : decode cX4_neverNow 34 = .ok (.goto 4, 3) := by decide +kernel
theorem dX4_neverNow_37 : decode cX4_neverNow 37 = .ok (.iconst 0, 1) := by decide +kernel
theorem dX4_neverNow_38 : decode cX4_neverNow 38 = .ok (.ior, 1) := by decide +kernel
theorem dX4_neverNow_39 : decode cX4_neverNow 39 = .ok (.istore_n 1, 1) := by decide +kernel
theorem dX4_neverNow_40 : decode cX4_neverNow 40 = .ok (.iinc 2 1, 3) := by decide +kernel
theorem dX4_neverNow_43 : decode cX4_neverNow 43 = .ok (.goto (-35), 3) := by decide +kernel
theorem dX4_neverNow_46 : decode cX4_neverNow 46 = .ok (.iload_n 1, 1) := by decide +kernel
theorem dX4_neverNow_47 : decode cX4_neverNow 47 = .ok (.ireturn, 1) := by decide +kernel
theorem qq_X4_never_0 {c : Cond} (j : Nat) (h : wsX4_never_r1[j]? = some c) : c ∈ wsX4_never := List.mem_cons_of_mem _ (List.mem_append_left _ (List.mem_append_left _ (List.mem_of_getElem? h)))
theorem qq_X4_never_1 {c : Cond} (j : Nat) (h : wsX4_never_r2[j]? = some c) : c ∈ wsX4_never := List.mem_cons_of_mem _ (List.mem_append_left _ (List.mem_append_right _ (List.mem_append_left _ (List.mem_of_getElem? h))))
theorem qq_X4_never_2 {c : Cond} (j : Nat) (h : wsX4_never_r3[j]? = some c) : c ∈ wsX4_never := List.mem_cons_of_mem _ (List.mem_append_left _ (List.mem_append_right _ (List.mem_append_right _ (List.mem_append_left _ (List.mem_of_getElem? h)))))
theorem qq_X4_never_3 {c : Cond} (j : Nat) (h : wsX4_never_r4[j]? = some c) : c ∈ wsX4_never := List.mem_cons_of_mem _ (List.mem_append_left _ (List.mem_append_right _ (List.mem_append_right _ (List.mem_append_right _ (List.mem_of_getElem? h)))))
theorem uq_X4_never_X4 : wsub wsX40 wsX4_never := fun _ h => List.mem_cons_of_mem _ (List.mem_append_right _ (h))
set_option maxRecDepth 20000 in
theorem gw_X4_neverNow : wsX4_neverNow.all goodWord = true := by decide +kernel
set_option maxRecDepth 20000 in
theorem ggX4_never_X4_neverNow : GoodIn wsX4_never wsX4_neverNow := goodIn_sub (sb_c (qq_X4_never_0 4 rfl) (sb_a (sb_a (sb_c (qq_X4_never_0 5 rfl) (sb_c (qq_X4_never_0 6 rfl) (sb_c (qq_X4_never_0 7 rfl) (sb_c (qq_X4_never_0 8 rfl) (sb_c (qq_X4_never_0 9 rfl) (sb_c (qq_X4_never_0 3 rfl) (sb_c (qq_X4_never_0 10 rfl) (sb_c (qq_X4_never_0 11 rfl) (sb_c (qq_X4_never_0 12 rfl) (sb_c (qq_X4_never_0 13 rfl) (sb_c (qq_X4_never_0 14 rfl) (sb_c (qq_X4_never_0 15 rfl) (sb_c (qq_X4_never_0 16 rfl) (sb_c (qq_X4_never_0 17 rfl) (sb_c (qq_X4_never_0 18 rfl) (sb_c (qq_X4_never_0 19 rfl) (sb_c (qq_X4_never_0 20 rfl) (sb_c (qq_X4_never_0 21 rfl) (sb_c (qq_X4_never_0 22 rfl) (sb_c (qq_X4_never_0 23 rfl) (sb_c (qq_X4_never_1 0 rfl) (sb_c (qq_X4_never_1 1 rfl) (sb_c (qq_X4_never_1 2 rfl) (sb_c (qq_X4_never_1 3 rfl) sb_n)))))))))))))))))))))))) (sb_a (sb_c (qq_X4_never_1 4 rfl) (sb_c (qq_X4_never_1 5 rfl) (sb_c (qq_X4_never_1 6 rfl) (sb_c (qq_X4_never_1 7 rfl) (sb_c (qq_X4_never_1 8 rfl) (sb_c (qq_X4_never_1 9 rfl) (sb_c (qq_X4_never_1 10 rfl) (sb_c (qq_X4_never_1 11 rfl) (sb_c (qq_X4_never_1 12 rfl) (sb_c (qq_X4_never_1 13 rfl) (sb_c (qq_X4_never_1 14 rfl) (sb_c (qq_X4_never_1 15 rfl) (sb_c (qq_X4_never_1 16 rfl) (sb_c (qq_X4_never_1 17 rfl) (sb_c (qq_X4_never_1 18 rfl) (sb_c (qq_X4_never_1 19 rfl) (sb_c (qq_X4_never_1 20 rfl) (sb_c (qq_X4_never_1 21 rfl) (sb_c (qq_X4_never_1 22 rfl) (sb_c (qq_X4_never_1 23 rfl) (sb_c (qq_X4_never_2 0 rfl) (sb_c (qq_X4_never_2 1 rfl) (sb_c (qq_X4_never_2 2 rfl) (sb_c (qq_X4_never_2 3 rfl) sb_n)))))))))))))))))))))))) (sb_a (sb_c (qq_X4_never_2 4 rfl) (sb_c (qq_X4_never_2 5 rfl) (sb_c (qq_X4_never_2 6 rfl) (sb_c (qq_X4_never_2 7 rfl) (sb_c (qq_X4_never_2 8 rfl) (sb_c (qq_X4_never_2 9 rfl) (sb_c (qq_X4_never_2 10 rfl) (sb_c (qq_X4_never_2 11 rfl) (sb_c (qq_X4_never_2 12 rfl) (sb_c (qq_X4_never_2 13 rfl) (sb_c (qq_X4_never_2 14 rfl) (sb_c (qq_X4_never_2 15 rfl) (sb_c (qq_X4_never_2 16 rfl) (sb_c (qq_X4_never_2 17 rfl) (sb_c (qq_X4_never_2 18 rfl) (sb_c (qq_X4_never_2 19 rfl) (sb_c (qq_X4_never_2 20 rfl) (sb_c (qq_X4_never_2 21 rfl) (sb_c (qq_X4_never_2 22 rfl) (sb_c (qq_X4_never_2 23 rfl) (sb_c (qq_X4_never_3 0 rfl) (sb_c (qq_X4_never_3 1 rfl) (sb_c (qq_X4_never_3 2 rfl) (sb_c (qq_X4_never_3 3 rfl) sb_n)))))))))))))))))))))))) (sb_c (qq_X4_never_3 4 rfl) (sb_c (qq_X4_never_3 5 rfl) (sb_c (qq_X4_never_3 6 rfl) (sb_c (qq_X4_never_3 7 rfl) (sb_c (qq_X4_never_3 8 rfl) (sb_c (qq_X4_never_3 9 rfl) (sb_c (qq_X4_never_3 10 rfl) (sb_c (qq_X4_never_3 11 rfl) (sb_c (qq_X4_never_3 12 rfl) (sb_c (qq_X4_never_3 13 rfl) sb_n))))))))))))) (uq_X4_never_X4))) gw_X4_neverNow
set_option maxRecDepth 20000 in
theorem gX4_never_X4_neverNow : GoodIn wsX4_never (wsV RX4 250 RX4 yX4_neverNow wsX4_neverNow) := goodIn_app (goodIn_sub (sb_c (qq_X4_never_0 0 rfl) (sb_c (qq_X4_never_0 1 rfl) (sb_c (qq_X4_never_0 2 rfl) (sb_c (qq_X4_never_0 3 rfl) sb_n)))) (by decide +kernel)) ggX4_never_X4_neverNow
theorem dX4_never_0 : decode cX4_never 0 = .ok (.aload_n 0, 1) := by decide +kernel
theorem dX4_never_1 : decode cX4_never 1 = .ok (.invokevirtual 250, 3) := by decide +kernel
theorem dX4_never_4 : decode cX4_never 4 = .ok (.ireturn, 1) := by decide +kernel
theorem qq_X4_deadsBy_0 {c : Cond} (j : Nat) (h : wsX4_deadsBy_r1[j]? = some c) : c ∈ wsX4_deadsBy := List.mem_cons_of_mem _ (List.mem_append_left _ (List.mem_append_left _ (List.mem_of_getElem? h)))
theorem qq_X4_deadsBy_1 {c : Cond} (j : Nat) (h : wsX4_deadsBy_r2[j]? = some c) : c ∈ wsX4_deadsBy := List.mem_cons_of_mem _ (List.mem_append_left _ (List.mem_append_right _ (List.mem_append_left _ (List.mem_of_getElem? h))))
theorem qq_X4_deadsBy_2 {c : Cond} (j : Nat) (h : wsX4_deadsBy_r3[j]? = some c) : c ∈ wsX4_deadsBy := List.mem_cons_of_mem _ (List.mem_append_left _ (List.mem_append_right _ (List.mem_append_right _ (List.mem_append_left _ (List.mem_of_getElem? h)))))
theorem qq_X4_deadsBy_3 {c : Cond} (j : Nat) (h : wsX4_deadsBy_r4[j]? = some c) : c ∈ wsX4_deadsBy := List.mem_cons_of_mem _ (List.mem_append_left _ (List.mem_append_right _ (List.mem_append_right _ (List.mem_append_right _ (List.mem_of_getElem? h)))))
theorem uq_X4_deadsBy_X4 : wsub wsX40 wsX4_deadsBy := fun _ h => List.mem_cons_of_mem _ (List.mem_append_right _ (h))
set_option maxRecDepth 20000 in
theorem ggX4_deadsBy_X4_asTold : GoodIn wsX4_deadsBy wsX4_asTold := goodIn_sub (sb_c (qq_X4_deadsBy_0 9 rfl) (sb_a (sb_c (qq_X4_deadsBy_0 10 rfl) (sb_c (qq_X4_deadsBy_0 11 rfl) (sb_c (qq_X4_deadsBy_0 1 rfl) (sb_c (qq_X4_deadsBy_0 12 rfl) (sb_c (qq_X4_deadsBy_0 0 rfl) (sb_c (qq_X4_deadsBy_0 2 rfl) sb_n)))))) (uq_X4_deadsBy_X4))) gw_X4_asTold
set_option maxRecDepth 20000 in
theorem gX4_deadsBy_X4_asTold : GoodIn wsX4_deadsBy (wsV RX4 162 RX4 yX4_asTold wsX4_asTold) := goodIn_app (goodIn_sub (sb_c (qq_X4_deadsBy_0 5 rfl) (sb_c (qq_X4_deadsBy_0 6 rfl) (sb_c (qq_X4_deadsBy_0 7 rfl) (sb_c (qq_X4_deadsBy_0 8 rfl) sb_n)))) (by decide +kernel)) ggX4_deadsBy_X4_asTold
set_option maxRecDepth 20000 in
theorem ggX4_deadsBy_X4_isSeen : GoodIn wsX4_deadsBy wsX4_isSeen := goodIn_sub (sb_c (qq_X4_deadsBy_0 16 rfl) (sb_a (sb_a (sb_c (qq_X4_deadsBy_0 17 rfl) (sb_c (qq_X4_deadsBy_0 4 rfl) (sb_c (qq_X4_deadsBy_0 18 rfl) (sb_c (qq_X4_deadsBy_0 19 rfl) (sb_c (qq_X4_deadsBy_0 20 rfl) (sb_c (qq_X4_deadsBy_0 21 rfl) (sb_c (qq_X4_deadsBy_0 22 rfl) (sb_c (qq_X4_deadsBy_0 8 rfl) (sb_c (qq_X4_deadsBy_0 23 rfl) (sb_c (qq_X4_deadsBy_1 0 rfl) (sb_c (qq_X4_deadsBy_1 1 rfl) (sb_c (qq_X4_deadsBy_1 2 rfl) (sb_c (qq_X4_deadsBy_1 3 rfl) (sb_c (qq_X4_deadsBy_1 4 rfl) (sb_c (qq_X4_deadsBy_0 10 rfl) (sb_c (qq_X4_deadsBy_1 5 rfl) (sb_c (qq_X4_deadsBy_1 6 rfl) (sb_c (qq_X4_deadsBy_1 7 rfl) (sb_c (qq_X4_deadsBy_1 8 rfl) (sb_c (qq_X4_deadsBy_1 9 rfl) (sb_c (qq_X4_deadsBy_1 10 rfl) (sb_c (qq_X4_deadsBy_0 1 rfl) (sb_c (qq_X4_deadsBy_1 11 rfl) (sb_c (qq_X4_deadsBy_1 12 rfl) sb_n)))))))))))))))))))))))) (sb_a (sb_c (qq_X4_deadsBy_1 13 rfl) (sb_c (qq_X4_deadsBy_1 14 rfl) (sb_c (qq_X4_deadsBy_1 15 rfl) (sb_c (qq_X4_deadsBy_1 16 rfl) (sb_c (qq_X4_deadsBy_1 17 rfl) (sb_c (qq_X4_deadsBy_1 18 rfl) (sb_c (qq_X4_deadsBy_1 19 rfl) (sb_c (qq_X4_deadsBy_1 20 rfl) (sb_c (qq_X4_deadsBy_1 21 rfl) (sb_c (qq_X4_deadsBy_1 22 rfl) (sb_c (qq_X4_deadsBy_1 23 rfl) (sb_c (qq_X4_deadsBy_2 0 rfl) (sb_c (qq_X4_deadsBy_2 1 rfl) (sb_c (qq_X4_deadsBy_2 2 rfl) (sb_c (qq_X4_deadsBy_2 3 rfl) (sb_c (qq_X4_deadsBy_2 4 rfl) (sb_c (qq_X4_deadsBy_2 5 rfl) (sb_c (qq_X4_deadsBy_2 6 rfl) (sb_c (qq_X4_deadsBy_2 7 rfl) (sb_c (qq_X4_deadsBy_2 8 rfl) (sb_c (qq_X4_deadsBy_2 9 rfl) (sb_c (qq_X4_deadsBy_2 10 rfl) (sb_c (qq_X4_deadsBy_2 11 rfl) (sb_c (qq_X4_deadsBy_0 0 rfl) sb_n)))))))))))))))))))))))) (sb_c (qq_X4_deadsBy_0 2 rfl) (sb_c (qq_X4_deadsBy_2 12 rfl) (sb_c (qq_X4_deadsBy_2 13 rfl) (sb_c (qq_X4_deadsBy_2 14 rfl) (sb_c (qq_X4_deadsBy_2 15 rfl) (sb_c (qq_X4_deadsBy_2 16 rfl) (sb_c (qq_X4_deadsBy_2 17 rfl) (sb_c (qq_X4_deadsBy_2 18 rfl) (sb_c (qq_X4_deadsBy_2 19 rfl) (sb_c (qq_X4_deadsBy_2 20 rfl) (sb_c (qq_X4_deadsBy_2 21 rfl) (sb_c (qq_X4_deadsBy_2 22 rfl) (sb_c (qq_X4_deadsBy_2 23 rfl) (sb_c (qq_X4_deadsBy_3 0 rfl) (sb_c (qq_X4_deadsBy_3 1 rfl) (sb_c (qq_X4_deadsBy_3 2 rfl) (sb_c (qq_X4_deadsBy_3 3 rfl) (sb_c (qq_X4_deadsBy_3 4 rfl) (sb_c (qq_X4_deadsBy_3 5 rfl) (sb_c (qq_X4_deadsBy_3 6 rfl) (sb_c (qq_X4_deadsBy_3 7 rfl) (sb_c (qq_X4_deadsBy_3 8 rfl) (sb_c (qq_X4_deadsBy_3 9 rfl) (sb_c (qq_X4_deadsBy_3 10 rfl) sb_n)))))))))))))))))))))))))) (uq_X4_deadsBy_X4))) gw_X4_isSeen
set_option maxRecDepth 20000 in
theorem gX4_deadsBy_X4_isSeen : GoodIn wsX4_deadsBy (wsV RX4 246 RX4 yX4_isSeen wsX4_isSeen) := goodIn_app (goodIn_sub (sb_c (qq_X4_deadsBy_0 13 rfl) (sb_c (qq_X4_deadsBy_0 14 rfl) (sb_c (qq_X4_deadsBy_0 15 rfl) (sb_c (qq_X4_deadsBy_0 8 rfl) sb_n)))) (by decide +kernel)) ggX4_deadsBy_X4_isSeen
set_option maxRecDepth 20000 in
theorem ggX4_deadsBy_X4_many : GoodIn wsX4_deadsBy wsX4_many := goodIn_sub (sb_c (qq_X4_deadsBy_3 10 rfl) (sb_c (qq_X4_deadsBy_2 13 rfl) (sb_c (qq_X4_deadsBy_2 14 rfl) (sb_c (qq_X4_deadsBy_0 8 rfl) (sb_c (qq_X4_deadsBy_2 15 rfl) sb_n))))) gw_X4_many
set_option maxRecDepth 20000 in
theorem gX4_deadsBy_X4_many : GoodIn wsX4_deadsBy (va_wsS RX4 203 yX4_many wsX4_many) := goodIn_app (goodIn_sub (sb_c (qq_X4_deadsBy_3 8 rfl) (sb_c (qq_X4_deadsBy_3 9 rfl) (sb_c (qq_X4_deadsBy_0 8 rfl) sb_n))) (by decide +kernel)) ggX4_deadsBy_X4_many
theorem dX4_deadsBy_0 : decode cX4_deadsBy 0 = .ok (.aload_n 0, 1) := by decide +kernel
theorem dX4_deadsBy_1 : decode cX4_deadsBy 1 = .ok (.invokevirtual 162, 3) := by decide +kernel
theorem dX4_deadsBy_4 : decode cX4_deadsBy 4 = .ok (.aload_n 0, 1) := by decide +kernel
theorem dX4_deadsBy_5 : decode cX4_deadsBy 5 = .ok (.sipush 255, 3) := by decide +kernel
theorem dX4_deadsBy_8 : decode cX4_deadsBy 8 = .ok (.putfield 121, 3) := by decide +kernel
theorem dX4_deadsBy_11 : decode cX4_deadsBy 11 = .ok (.iconst 0, 1) := by decide +kernel
theorem dX4_deadsBy_12 : decode cX4_deadsBy 12 = .ok (.istore_n 1, 1) := by decide +kernel
theorem dX4_deadsBy_13 : decode cX4_deadsBy 13 = .ok (.iconst 0, 1) := by decide +kernel
theorem dX4_deadsBy_14 : decode cX4_deadsBy 14 = .ok (.istore_n 2, 1) := by decide +kernel
theorem dX4_deadsBy_15 : decode cX4_deadsBy 15 = .ok (.iload_n 2, 1) := by decide +kernel
theorem dX4_deadsBy_16 : decode cX4_deadsBy 16 = .ok (.aload_n 0, 1) := by decide +kernel
theorem dX4_deadsBy_17 : decode cX4_deadsBy 17 = .ok (.getfield 28, 3) := by decide +kernel
theorem dX4_deadsBy_20 : decode cX4_deadsBy 20 = .ok (.iconst 0, 1) := by decide +kernel
theorem dX4_deadsBy_21 : decode cX4_deadsBy 21 = .ok (.iaload, 1) := by decide +kernel
theorem dX4_deadsBy_22 : decode cX4_deadsBy 22 = .ok (.if_icmp .ge 65, 3) := by decide +kernel
theorem dX4_deadsBy_25 : decode cX4_deadsBy 25 = .ok (.aload_n 0, 1) := by decide +kernel
theorem dX4_deadsBy_26 : decode cX4_deadsBy 26 = .ok (.iload_n 2, 1) := by decide +kernel
theorem dX4_deadsBy_27 : decode cX4_deadsBy 27 = .ok (.putfield 124, 3) := by decide +kernel
theorem dX4_deadsBy_30 : decode cX4_deadsBy 30 = .ok (.iload_n 1, 1) := by decide +kernel
theorem dX4_deadsBy_31 : decode cX4_deadsBy 31 = .ok (.aload_n 0, 1) := by decide +kernel
theorem dX4_deadsBy_32 : decode cX4_deadsBy 32 = .ok (.invokevirtual 246, 3) := by decide +kernel
theorem dX4_deadsBy_35 : decode cX4_deadsBy 35 = .ok (.ifCond .eq 9, 3) := by decide +kernel
theorem dX4_deadsBy_38 : decode cX4_deadsBy 38 = .ok (.iconst 1, 1) := by decide +kernel
theorem dX4_deadsBy_39 : decode cX4_deadsBy 39 = .ok (.iload_n 2, 1) := by decide +kernel
theorem dX4_deadsBy_40 : decode cX4_deadsBy 40 = .ok (.ishl, 1) := by decide +kernel
theorem dX4_deadsBy_41 : decode cX4_deadsBy 41 = .ok (.goto 4, 3) := by decide +kernel
theorem dX4_deadsBy_44 : decode cX4_deadsBy 44 = .ok (.iconst 0, 1) := by decide +kernel
theorem dX4_deadsBy_45 : decode cX4_deadsBy 45 = .ok (.ior, 1) := by decide +kernel
theorem dX4_deadsBy_46 : decode cX4_deadsBy 46 = .ok (.istore_n 1, 1) := by decide +kernel
theorem dX4_deadsBy_47 : decode cX4_deadsBy 47 = .ok (.iconst 0, 1) := by decide +kernel
theorem dX4_deadsBy_48 : decode cX4_deadsBy 48 = .ok (.istore_n 3, 1) := by decide +kernel
theorem dX4_deadsBy_49 : decode cX4_deadsBy 49 = .ok (.iload_n 3, 1) := by decide +kernel
theorem dX4_deadsBy_50 : decode cX4_deadsBy 50 = .ok (.bipush 16, 2) := by decide +kernel
theorem dX4_deadsBy_52 : decode cX4_deadsBy 52 = .ok (.if_icmp .ge 29, 3) := by decide +kernel
theorem dX4_deadsBy_55 : decode cX4_deadsBy 55 = .ok (.aload_n 0, 1) := by decide +kernel
theorem dX4_deadsBy_56 : decode cX4_deadsBy 56 = .ok (.getfield 70, 3) := by decide +kernel
theorem dX4_deadsBy_59 : decode cX4_deadsBy 59 = .ok (.bipush 16, 2) := by decide +kernel
theorem dX4_deadsBy_61 : decode cX4_deadsBy 61 = .ok (.iload_n 2, 1) := by decide +kernel
theorem dX4_deadsBy_62 : decode cX4_deadsBy 62 = .ok (.imul, 1) := by decide +kernel
theorem dX4_deadsBy_63 : decode cX4_deadsBy 63 = .ok (.iload_n 3, 1) := by decide +kernel
theorem dX4_deadsBy_64 : decode cX4_deadsBy 64 = .ok (.iadd, 1) := by decide +kernel
theorem dX4_deadsBy_65 : decode cX4_deadsBy 65 = .ok (.aload_n 0, 1) := by decide +kernel
theorem dX4_deadsBy_66 : decode cX4_deadsBy 66 = .ok (.getfield 49, 3) := by decide +kernel
theorem dX4_deadsBy_69 : decode cX4_deadsBy 69 = .ok (.iload_n 3, 1) := by decide +kernel
theorem dX4_deadsBy_70 : decode cX4_deadsBy 70 = .ok (.iaload, 1) := by decide +kernel
theorem dX4_deadsBy_71 : decode cX4_deadsBy 71 = .ok (.invokestatic 203, 3) := by decide +kernel
theorem dX4_deadsBy_74 : decode cX4_deadsBy 74 = .ok (.iastore, 1) := by decide +kernel
theorem dX4_deadsBy_75 : decode cX4_deadsBy 75 = .ok (.iinc 3 1, 3) := by decide +kernel
theorem dX4_deadsBy_78 : decode cX4_deadsBy 78 = .ok (.goto (-29), 3) := by decide +kernel
theorem dX4_deadsBy_81 : decode cX4_deadsBy 81 = .ok (.iinc 2 1, 3) := by decide +kernel
theorem dX4_deadsBy_84 : decode cX4_deadsBy 84 = .ok (.goto (-69), 3) := by decide +kernel
theorem dX4_deadsBy_87 : decode cX4_deadsBy 87 = .ok (.iload_n 1, 1) := by decide +kernel
theorem dX4_deadsBy_88 : decode cX4_deadsBy 88 = .ok (.ireturn, 1) := by decide +kernel
theorem qq_X4_capsBy_0 {c : Cond} (j : Nat) (h : wsX4_capsBy_r1[j]? = some c) : c ∈ wsX4_capsBy := List.mem_cons_of_mem _ (List.mem_append_left _ (List.mem_append_left _ (List.mem_of_getElem? h)))
theorem qq_X4_capsBy_1 {c : Cond} (j : Nat) (h : wsX4_capsBy_r2[j]? = some c) : c ∈ wsX4_capsBy := List.mem_cons_of_mem _ (List.mem_append_left _ (List.mem_append_right _ (List.mem_append_left _ (List.mem_of_getElem? h))))
theorem qq_X4_capsBy_2 {c : Cond} (j : Nat) (h : wsX4_capsBy_r3[j]? = some c) : c ∈ wsX4_capsBy := List.mem_cons_of_mem _ (List.mem_append_left _ (List.mem_append_right _ (List.mem_append_right _ (List.mem_append_left _ (List.mem_of_getElem? h)))))
theorem qq_X4_capsBy_3 {c : Cond} (j : Nat) (h : wsX4_capsBy_r4[j]? = some c) : c ∈ wsX4_capsBy := List.mem_cons_of_mem _ (List.mem_append_left _ (List.mem_append_right _ (List.mem_append_right _ (List.mem_append_right _ (List.mem_of_getElem? h)))))
theorem uq_X4_capsBy_X4 : wsub wsX40 wsX4_capsBy := fun _ h => List.mem_cons_of_mem _ (List.mem_append_right _ (h))
set_option maxRecDepth 20000 in
theorem ggX4_capsBy_X4_asTold : GoodIn wsX4_capsBy wsX4_asTold := goodIn_sub (sb_c (qq_X4_capsBy_0 5 rfl) (sb_a (sb_c (qq_X4_capsBy_0 6 rfl) (sb_c (qq_X4_capsBy_0 7 rfl) (sb_c (qq_X4_capsBy_0 0 rfl) (sb_c (qq_X4_capsBy_0 8 rfl) (sb_c (qq_X4_capsBy_0 9 rfl) (sb_c (qq_X4_capsBy_0 10 rfl) sb_n)))))) (uq_X4_capsBy_X4))) gw_X4_asTold
set_option maxRecDepth 20000 in
theorem gX4_capsBy_X4_asTold : GoodIn wsX4_capsBy (wsV RX4 162 RX4 yX4_asTold wsX4_asTold) := goodIn_app (goodIn_sub (sb_c (qq_X4_capsBy_0 1 rfl) (sb_c (qq_X4_capsBy_0 2 rfl) (sb_c (qq_X4_capsBy_0 3 rfl) (sb_c (qq_X4_capsBy_0 4 rfl) sb_n)))) (by decide +kernel)) ggX4_capsBy_X4_asTold
set_option maxRecDepth 20000 in
theorem ggX4_capsBy_X4_isSeen : GoodIn wsX4_capsBy wsX4_isSeen := goodIn_sub (sb_c (qq_X4_capsBy_0 14 rfl) (sb_a (sb_a (sb_c (qq_X4_capsBy_0 15 rfl) (sb_c (qq_X4_capsBy_0 16 rfl) (sb_c (qq_X4_capsBy_0 17 rfl) (sb_c (qq_X4_capsBy_0 18 rfl) (sb_c (qq_X4_capsBy_0 19 rfl) (sb_c (qq_X4_capsBy_0 20 rfl) (sb_c (qq_X4_capsBy_0 21 rfl) (sb_c (qq_X4_capsBy_0 4 rfl) (sb_c (qq_X4_capsBy_0 22 rfl) (sb_c (qq_X4_capsBy_0 23 rfl) (sb_c (qq_X4_capsBy_1 0 rfl) (sb_c (qq_X4_capsBy_1 1 rfl) (sb_c (qq_X4_capsBy_1 2 rfl) (sb_c (qq_X4_capsBy_1 3 rfl) (sb_c (qq_X4_capsBy_0 6 rfl) (sb_c (qq_X4_capsBy_1 4 rfl) (sb_c (qq_X4_capsBy_1 5 rfl) (sb_c (qq_X4_capsBy_1 6 rfl) (sb_c (qq_X4_capsBy_1 7 rfl) (sb_c (qq_X4_capsBy_1 8 rfl) (sb_c (qq_X4_capsBy_1 9 rfl) (sb_c (qq_X4_capsBy_0 0 rfl) (sb_c (qq_X4_capsBy_1 10 rfl) (sb_c (qq_X4_capsBy_1 11 rfl) sb_n)))))))))))))))))))))))) (sb_a (sb_c (qq_X4_capsBy_1 12 rfl) (sb_c (qq_X4_capsBy_1 13 rfl) (sb_c (qq_X4_capsBy_1 14 rfl) (sb_c (qq_X4_capsBy_1 15 rfl) (sb_c (qq_X4_capsBy_1 16 rfl) (sb_c (qq_X4_capsBy_1 17 rfl) (sb_c (qq_X4_capsBy_1 18 rfl) (sb_c (qq_X4_capsBy_1 19 rfl) (sb_c (qq_X4_capsBy_1 20 rfl) (sb_c (qq_X4_capsBy_1 21 rfl) (sb_c (qq_X4_capsBy_1 22 rfl) (sb_c (qq_X4_capsBy_1 23 rfl) (sb_c (qq_X4_capsBy_2 0 rfl) (sb_c (qq_X4_capsBy_2 1 rfl) (sb_c (qq_X4_capsBy_2 2 rfl) (sb_c (qq_X4_capsBy_2 3 rfl) (sb_c (qq_X4_capsBy_2 4 rfl) (sb_c (qq_X4_capsBy_2 5 rfl) (sb_c (qq_X4_capsBy_2 6 rfl) (sb_c (qq_X4_capsBy_2 7 rfl) (sb_c (qq_X4_capsBy_2 8 rfl) (sb_c (qq_X4_capsBy_2 9 rfl) (sb_c (qq_X4_capsBy_2 10 rfl) (sb_c (qq_X4_capsBy_0 9 rfl) sb_n)))))))))))))))))))))))) (sb_c (qq_X4_capsBy_0 10 rfl) (sb_c (qq_X4_capsBy_2 11 rfl) (sb_c (qq_X4_capsBy_2 12 rfl) (sb_c (qq_X4_capsBy_2 13 rfl) (sb_c (qq_X4_capsBy_2 14 rfl) (sb_c (qq_X4_capsBy_2 15 rfl) (sb_c (qq_X4_capsBy_2 16 rfl) (sb_c (qq_X4_capsBy_2 17 rfl) (sb_c (qq_X4_capsBy_2 18 rfl) (sb_c (qq_X4_capsBy_2 19 rfl) (sb_c (qq_X4_capsBy_2 20 rfl) (sb_c (qq_X4_capsBy_2 21 rfl) (sb_c (qq_X4_capsBy_2 22 rfl) (sb_c (qq_X4_capsBy_2 23 rfl) (sb_c (qq_X4_capsBy_3 0 rfl) (sb_c (qq_X4_capsBy_3 1 rfl) (sb_c (qq_X4_capsBy_3 2 rfl) (sb_c (qq_X4_capsBy_3 3 rfl) (sb_c (qq_X4_capsBy_3 4 rfl) (sb_c (qq_X4_capsBy_3 5 rfl) (sb_c (qq_X4_capsBy_3 6 rfl) (sb_c (qq_X4_capsBy_3 7 rfl) (sb_c (qq_X4_capsBy_3 8 rfl) (sb_c (qq_X4_capsBy_3 9 rfl) sb_n)))))))))))))))))))))))))) (uq_X4_capsBy_X4))) gw_X4_isSeen
set_option maxRecDepth 20000 in
theorem gX4_capsBy_X4_isSeen : GoodIn wsX4_capsBy (wsV RX4 246 RX4 yX4_isSeen wsX4_isSeen) := goodIn_app (goodIn_sub (sb_c (qq_X4_capsBy_0 11 rfl) (sb_c (qq_X4_capsBy_0 12 rfl) (sb_c (qq_X4_capsBy_0 13 rfl) (sb_c (qq_X4_capsBy_0 4 rfl) sb_n)))) (by decide +kernel)) ggX4_capsBy_X4_isSeen
theorem dX4_capsBy_0 : decode cX4_capsBy 0 = .ok (.aload_n 0, 1) := by decide +kernel
theorem dX4_capsBy_1 : decode cX4_capsBy 1 = .ok (.invokevirtual 162, 3) := by decide +kernel
theorem dX4_capsBy_4 : decode cX4_capsBy 4 = .ok (.iconst 0, 1) := by decide +kernel
theorem dX4_capsBy_5 : decode cX4_capsBy 5 = .ok (.istore_n 1, 1) := by decide +kernel
theorem dX4_capsBy_6 : decode cX4_capsBy 6 = .ok (.iconst 1, 1) := by decide +kernel
theorem dX4_capsBy_7 : decode cX4_capsBy 7 = .ok (.istore_n 2, 1) := by decide +kernel
theorem dX4_capsBy_8 : decode cX4_capsBy 8 = .ok (.iload_n 2, 1) := by decide +kernel
theorem dX4_capsBy_9 : decode cX4_capsBy 9 = .ok (.bipush 9, 2) := by decide +kernel
theorem dX4_capsBy_11 : decode cX4_capsBy 11 = .ok (.if_icmp .ge 33, 3) := by decide +kernel
theorem dX4_capsBy_14 : decode cX4_capsBy 14 = .ok (.aload_n 0, 1) := by decide +kernel
theorem dX4_capsBy_15 : decode cX4_capsBy 15 = .ok (.getfield 28, 3) := by decide +kernel
theorem dX4_capsBy_18 : decode cX4_capsBy 18 = .ok (.iconst 5, 1) := by decide +kernel
theorem dX4_capsBy_19 : decode cX4_capsBy 19 = .ok (.iload_n 2, 1) := by decide +kernel
theorem dX4_capsBy_20 : decode cX4_capsBy 20 = .ok (.iastore, 1) := by decide +kernel
theorem dX4_capsBy_21 : decode cX4_capsBy 21 = .ok (.iload_n 1, 1) := by decide +kernel
theorem dX4_capsBy_22 : decode cX4_capsBy 22 = .ok (.aload_n 0, 1) := by decide +kernel
theorem dX4_capsBy_23 : decode cX4_capsBy 23 = .ok (.invokevirtual 246, 3) := by decide +kernel
theorem dX4_capsBy_26 : decode cX4_capsBy 26 = .ok (.ifCond .eq 9, 3) := by decide +kernel
theorem dX4_capsBy_29 : decode cX4_capsBy 29 = .ok (.iconst 1, 1) := by decide +kernel
theorem dX4_capsBy_30 : decode cX4_capsBy 30 = .ok (.iload_n 2, 1) := by decide +kernel
theorem dX4_capsBy_31 : decode cX4_capsBy 31 = .ok (.ishl, 1) := by decide +kernel
theorem dX4_capsBy_32 : decode cX4_capsBy 32 = .ok (.goto 4, 3) := by decide +kernel
theorem dX4_capsBy_35 : decode cX4_capsBy 35 = .ok (.iconst 0, 1) := by decide +kernel
theorem dX4_capsBy_36 : decode cX4_capsBy 36 = .ok (.ior, 1) := by decide +kernel
theorem dX4_capsBy_37 : decode cX4_capsBy 37 = .ok (.istore_n 1, 1) := by decide +kernel
theorem dX4_capsBy_38 : decode cX4_capsBy 38 = .ok (.iinc 2 1, 3) := by decide +kernel
theorem dX4_capsBy_41 : decode cX4_capsBy 41 = .ok (.goto (-33), 3) := by decide +kernel
theorem dX4_capsBy_44 : decode cX4_capsBy 44 = .ok (.iload_n 1, 1) := by decide +kernel
theorem dX4_capsBy_45 : decode cX4_capsBy 45 = .ok (.ireturn, 1) := by decide +kernel
theorem qq_X4_was_0 {c : Cond} (j : Nat) (h : wsX4_was_r1[j]? = some c) : c ∈ wsX4_was := List.mem_cons_of_mem _ (List.mem_append_left _ (List.mem_append_left _ (List.mem_of_getElem? h)))
theorem qq_X4_was_1 {c : Cond} (j : Nat) (h : wsX4_was_r2[j]? = some c) : c ∈ wsX4_was := List.mem_cons_of_mem _ (List.mem_append_left _ (List.mem_append_right _ (List.mem_append_left _ (List.mem_of_getElem? h))))
theorem qq_X4_was_2 {c : Cond} (j : Nat) (h : wsX4_was_r3[j]? = some c) : c ∈ wsX4_was := List.mem_cons_of_mem _ (List.mem_append_left _ (List.mem_append_right _ (List.mem_append_right _ (List.mem_append_left _ (List.mem_of_getElem? h)))))
theorem qq_X4_was_3 {c : Cond} (j : Nat) (h : wsX4_was_r4[j]? = some c) : c ∈ wsX4_was := List.mem_cons_of_mem _ (List.mem_append_left _ (List.mem_append_right _ (List.mem_append_right _ (List.mem_append_right _ (List.mem_of_getElem? h)))))
theorem uq_X4_was_X4 : wsub wsX40 wsX4_was := fun _ h => List.mem_cons_of_mem _ (List.mem_append_right _ (h))
set_option maxRecDepth 20000 in
theorem ggX4_was_X4_isTwo : GoodIn wsX4_was wsX4_isTwo := goodIn_sub (sb_c (qq_X4_was_0 3 rfl) (sb_c (qq_X4_was_0 4 rfl) (sb_c (qq_X4_was_0 5 rfl) (sb_c (qq_X4_was_0 2 rfl) (sb_c (qq_X4_was_0 6 rfl) sb_n))))) gw_X4_isTwo
set_option maxRecDepth 20000 in
theorem gX4_was_X4_isTwo : GoodIn wsX4_was (va_wsS RX4 107 yX4_isTwo wsX4_isTwo) := goodIn_app (goodIn_sub (sb_c (qq_X4_was_0 0 rfl) (sb_c (qq_X4_was_0 1 rfl) (sb_c (qq_X4_was_0 2 rfl) sb_n))) (by decide +kernel)) ggX4_was_X4_isTwo
set_option maxRecDepth 20000 in
theorem gw_X4_deadsBy : wsX4_deadsBy.all goodWord = true := by decide +kernel
set_option maxRecDepth 20000 in
theorem ggX4_was_X4_deadsBy : GoodIn wsX4_was wsX4_deadsBy := goodIn_sub (sb_c (qq_X4_was_0 10 rfl) (sb_a (sb_a (sb_c (qq_X4_was_0 11 rfl) (sb_c (qq_X4_was_0 12 rfl) (sb_c (qq_X4_was_0 13 rfl) (sb_c (qq_X4_was_0 14 rfl) (sb_c (qq_X4_was_0 15 rfl) (sb_c (qq_X4_was_0 16 rfl) (sb_c (qq_X4_was_0 17 rfl) (sb_c (qq_X4_was_0 18 rfl) (sb_c (qq_X4_was_0 2 rfl) (sb_c (qq_X4_was_0 19 rfl) (sb_c (qq_X4_was_0 20 rfl) (sb_c (qq_X4_was_0 21 rfl) (sb_c (qq_X4_was_0 22 rfl) (sb_c (qq_X4_was_0 23 rfl) (sb_c (qq_X4_was_1 0 rfl) (sb_c (qq_X4_was_1 1 rfl) (sb_c (qq_X4_was_1 2 rfl) (sb_c (qq_X4_was_1 3 rfl) (sb_c (qq_X4_was_1 4 rfl) (sb_c (qq_X4_was_1 5 rfl) (sb_c (qq_X4_was_1 6 rfl) (sb_c (qq_X4_was_1 7 rfl) (sb_c (qq_X4_was_1 8 rfl) (sb_c (qq_X4_was_1 9 rfl) sb_n)))))))))))))))))))))))) (sb_a (sb_c (qq_X4_was_1 10 rfl) (sb_c (qq_X4_was_1 11 rfl) (sb_c (qq_X4_was_1 12 rfl) (sb_c (qq_X4_was_1 13 rfl) (sb_c (qq_X4_was_1 14 rfl) (sb_c (qq_X4_was_1 15 rfl) (sb_c (qq_X4_was_1 16 rfl) (sb_c (qq_X4_was_1 17 rfl) (sb_c (qq_X4_was_1 18 rfl) (sb_c (qq_X4_was_1 19 rfl) (sb_c (qq_X4_was_1 20 rfl) (sb_c (qq_X4_was_1 21 rfl) (sb_c (qq_X4_was_1 22 rfl) (sb_c (qq_X4_was_1 23 rfl) (sb_c (qq_X4_was_2 0 rfl) (sb_c (qq_X4_was_2 1 rfl) (sb_c (qq_X4_was_2 2 rfl) (sb_c (qq_X4_was_0 4 rfl) (sb_c (qq_X4_was_0 5 rfl) (sb_c (qq_X4_was_0 6 rfl) (sb_c (qq_X4_was_2 3 rfl) (sb_c (qq_X4_was_2 4 rfl) (sb_c (qq_X4_was_2 5 rfl) (sb_c (qq_X4_was_2 6 rfl) sb_n)))))))))))))))))))))))) (sb_a (sb_c (qq_X4_was_2 7 rfl) (sb_c (qq_X4_was_2 8 rfl) (sb_c (qq_X4_was_2 9 rfl) (sb_c (qq_X4_was_2 10 rfl) (sb_c (qq_X4_was_2 11 rfl) (sb_c (qq_X4_was_2 12 rfl) (sb_c (qq_X4_was_2 13 rfl) (sb_c (qq_X4_was_2 14 rfl) (sb_c (qq_X4_was_2 15 rfl) (sb_c (qq_X4_was_2 16 rfl) (sb_c (qq_X4_was_2 17 rfl) (sb_c (qq_X4_was_2 18 rfl) (sb_c (qq_X4_was_2 19 rfl) (sb_c (qq_X4_was_2 20 rfl) (sb_c (qq_X4_was_2 21 rfl) (sb_c (qq_X4_was_2 22 rfl) (sb_c (qq_X4_was_2 23 rfl) (sb_c (qq_X4_was_3 0 rfl) (sb_c (qq_X4_was_3 1 rfl) (sb_c (qq_X4_was_3 2 rfl) (sb_c (qq_X4_was_3 3 rfl) (sb_c (qq_X4_was_3 4 rfl) (sb_c (qq_X4_was_3 5 rfl) (sb_c (qq_X4_was_3 6 rfl) sb_n)))))))))))))))))))))))) (sb_c (qq_X4_was_3 7 rfl) (sb_c (qq_X4_was_3 8 rfl) (sb_c (qq_X4_was_3 9 rfl) (sb_c (qq_X4_was_3 10 rfl) (sb_c (qq_X4_was_3 11 rfl) (sb_c (qq_X4_was_3 12 rfl) (sb_c (qq_X4_was_3 13 rfl) (sb_c (qq_X4_was_3 14 rfl) (sb_c (qq_X4_was_3 15 rfl) (sb_c (qq_X4_was_3 16 rfl) (sb_c (qq_X4_was_3 17 rfl) sb_n)))))))))))))) (uq_X4_was_X4))) gw_X4_deadsBy
set_option maxRecDepth 20000 in
theorem gX4_was_X4_deadsBy : GoodIn wsX4_was (wsV RX4 253 RX4 yX4_deadsBy wsX4_deadsBy) := goodIn_app (goodIn_sub (sb_c (qq_X4_was_0 7 rfl) (sb_c (qq_X4_was_0 8 rfl) (sb_c (qq_X4_was_0 9 rfl) (sb_c (qq_X4_was_0 2 rfl) sb_n)))) (by decide +kernel)) ggX4_was_X4_deadsBy
set_option maxRecDepth 20000 in
theorem gw_X4_capsBy : wsX4_capsBy.all goodWord = true := by decide +kernel
set_option maxRecDepth 20000 in
theorem ggX4_was_X4_capsBy : GoodIn wsX4_was wsX4_capsBy := goodIn_sub (sb_c (qq_X4_was_3 21 rfl) (sb_a (sb_a (sb_c (qq_X4_was_0 12 rfl) (sb_c (qq_X4_was_0 16 rfl) (sb_c (qq_X4_was_0 17 rfl) (sb_c (qq_X4_was_0 18 rfl) (sb_c (qq_X4_was_0 2 rfl) (sb_c (qq_X4_was_0 19 rfl) (sb_c (qq_X4_was_0 20 rfl) (sb_c (qq_X4_was_0 21 rfl) (sb_c (qq_X4_was_0 22 rfl) (sb_c (qq_X4_was_0 11 rfl) (sb_c (qq_X4_was_0 13 rfl) (sb_c (qq_X4_was_0 23 rfl) (sb_c (qq_X4_was_1 0 rfl) (sb_c (qq_X4_was_1 1 rfl) (sb_c (qq_X4_was_1 2 rfl) (sb_c (qq_X4_was_1 3 rfl) (sb_c (qq_X4_was_0 15 rfl) (sb_c (qq_X4_was_1 4 rfl) (sb_c (qq_X4_was_1 5 rfl) (sb_c (qq_X4_was_1 6 rfl) (sb_c (qq_X4_was_1 7 rfl) (sb_c (qq_X4_was_1 8 rfl) (sb_c (qq_X4_was_1 9 rfl) (sb_c (qq_X4_was_1 10 rfl) sb_n)))))))))))))))))))))))) (sb_a (sb_c (qq_X4_was_1 11 rfl) (sb_c (qq_X4_was_1 12 rfl) (sb_c (qq_X4_was_1 13 rfl) (sb_c (qq_X4_was_1 14 rfl) (sb_c (qq_X4_was_1 15 rfl) (sb_c (qq_X4_was_1 16 rfl) (sb_c (qq_X4_was_1 17 rfl) (sb_c (qq_X4_was_1 18 rfl) (sb_c (qq_X4_was_1 19 rfl) (sb_c (qq_X4_was_1 20 rfl) (sb_c (qq_X4_was_1 21 rfl) (sb_c (qq_X4_was_1 22 rfl) (sb_c (qq_X4_was_1 23 rfl) (sb_c (qq_X4_was_2 0 rfl) (sb_c (qq_X4_was_2 1 rfl) (sb_c (qq_X4_was_2 2 rfl) (sb_c (qq_X4_was_0 4 rfl) (sb_c (qq_X4_was_0 5 rfl) (sb_c (qq_X4_was_0 6 rfl) (sb_c (qq_X4_was_2 3 rfl) (sb_c (qq_X4_was_2 4 rfl) (sb_c (qq_X4_was_2 5 rfl) (sb_c (qq_X4_was_2 6 rfl) (sb_c (qq_X4_was_2 7 rfl) sb_n)))))))))))))))))))))))) (sb_a (sb_c (qq_X4_was_2 8 rfl) (sb_c (qq_X4_was_2 9 rfl) (sb_c (qq_X4_was_2 10 rfl) (sb_c (qq_X4_was_2 11 rfl) (sb_c (qq_X4_was_2 12 rfl) (sb_c (qq_X4_was_2 13 rfl) (sb_c (qq_X4_was_2 14 rfl) (sb_c (qq_X4_was_2 15 rfl) (sb_c (qq_X4_was_2 16 rfl) (sb_c (qq_X4_was_2 17 rfl) (sb_c (qq_X4_was_2 18 rfl) (sb_c (qq_X4_was_2 19 rfl) (sb_c (qq_X4_was_2 20 rfl) (sb_c (qq_X4_was_2 21 rfl) (sb_c (qq_X4_was_2 22 rfl) (sb_c (qq_X4_was_2 23 rfl) (sb_c (qq_X4_was_3 0 rfl) (sb_c (qq_X4_was_3 1 rfl) (sb_c (qq_X4_was_3 2 rfl) (sb_c (qq_X4_was_3 3 rfl) (sb_c (qq_X4_was_3 4 rfl) (sb_c (qq_X4_was_3 5 rfl) (sb_c (qq_X4_was_3 6 rfl) (sb_c (qq_X4_was_3 7 rfl) sb_n)))))))))))))))))))))))) (sb_c (qq_X4_was_3 8 rfl) (sb_c (qq_X4_was_3 9 rfl) (sb_c (qq_X4_was_3 10 rfl) (sb_c (qq_X4_was_3 11 rfl) (sb_c (qq_X4_was_3 12 rfl) (sb_c (qq_X4_was_3 13 rfl) (sb_c (qq_X4_was_3 14 rfl) (sb_c (qq_X4_was_3 15 rfl) (sb_c (qq_X4_was_3 16 rfl) (sb_c (qq_X4_was_3 17 rfl) sb_n))))))))))))) (uq_X4_was_X4))) gw_X4_capsBy
set_option maxRecDepth 20000 in
theorem gX4_was_X4_capsBy : GoodIn wsX4_was (wsV RX4 256 RX4 yX4_capsBy wsX4_capsBy) := goodIn_app (goodIn_sub (sb_c (qq_X4_was_3 18 rfl) (sb_c (qq_X4_was_3 19 rfl) (sb_c (qq_X4_was_3 20 rfl) (sb_c (qq_X4_was_0 2 rfl) sb_n)))) (by decide +kernel)) ggX4_was_X4_capsBy
theorem dX4_was_0 : decode cX4_was 0 = .ok (.iload_n 1, 1) := by decide +kernel
theorem dX4_was_1 : decode cX4_was 1 = .ok (.invokestatic 107, 3) := by decide +kernel
theorem dX4_was_4 : decode cX4_was 4 = .ok (.ifCond .eq 21, 3) := by decide +kernel
theorem dX4_was_7 : decode cX4_was 7 = .ok (.iload_n 1, 1) := by decide +kernel
theorem dX4_was_8 : decode cX4_was 8 = .ok (.ifCond .ne 10, 3) := by decide +kernel
theorem dX4_was_11 : decode cX4_was 11 = .ok (.aload_n 0, 1) := by decide +kernel
theorem dX4_was_12 : decode cX4_was 12 = .ok (.invokevirtual 253, 3) := by decide +kernel
theorem dX4_was_15 : decode cX4_was 15 = .ok (.goto 12, 3) := by decide +kernel
theorem dX4_was_18 : decode cX4_was 18 = .ok (.aload_n 0, 1) := by decide +kernel
theorem dX4_was_19 : decode cX4_was 19 = .ok (.invokevirtual 256, 3) := by decide +kernel
theorem dX4_was_22 : decode cX4_was 22 = .ok (.goto 5, 3) := by decide +kernel
theorem dX4_was_25 : decode cX4_was 25 = .ok (.bipush (-2), 2) := by decide +kernel
theorem dX4_was_27 : decode cX4_was 27 = .ok (.ireturn, 1) := by decide +kernel
theorem qq_X4_askOf_0 {c : Cond} (j : Nat) (h : wsX4_askOf_r1[j]? = some c) : c ∈ wsX4_askOf := List.mem_cons_of_mem _ (List.mem_append_left _ (List.mem_append_left _ (List.mem_of_getElem? h)))
theorem qq_X4_askOf_1 {c : Cond} (j : Nat) (h : wsX4_askOf_r2[j]? = some c) : c ∈ wsX4_askOf := List.mem_cons_of_mem _ (List.mem_append_left _ (List.mem_append_right _ (List.mem_append_left _ (List.mem_of_getElem? h))))
theorem qq_X4_askOf_2 {c : Cond} (j : Nat) (h : wsX4_askOf_r3[j]? = some c) : c ∈ wsX4_askOf := List.mem_cons_of_mem _ (List.mem_append_left _ (List.mem_append_right _ (List.mem_append_right _ (List.mem_append_left _ (List.mem_of_getElem? h)))))
theorem qq_X4_askOf_3 {c : Cond} (j : Nat) (h : wsX4_askOf_r4[j]? = some c) : c ∈ wsX4_askOf := List.mem_cons_of_mem _ (List.mem_append_left _ (List.mem_append_right _ (List.mem_append_right _ (List.mem_append_right _ (List.mem_of_getElem? h)))))
theorem uq_X4_askOf_X4 : wsub wsX40 wsX4_askOf := fun _ h => List.mem_cons_of_mem _ (List.mem_append_right _ (h))
set_option maxRecDepth 20000 in
theorem ggX4_askOf_X4_deadsBy : GoodIn wsX4_askOf wsX4_deadsBy := goodIn_sub (sb_c (qq_X4_askOf_0 5 rfl) (sb_a (sb_a (sb_c (qq_X4_askOf_0 6 rfl) (sb_c (qq_X4_askOf_0 7 rfl) (sb_c (qq_X4_askOf_0 8 rfl) (sb_c (qq_X4_askOf_0 0 rfl) (sb_c (qq_X4_askOf_0 9 rfl) (sb_c (qq_X4_askOf_0 10 rfl) (sb_c (qq_X4_askOf_0 11 rfl) (sb_c (qq_X4_askOf_0 12 rfl) (sb_c (qq_X4_askOf_0 4 rfl) (sb_c (qq_X4_askOf_0 13 rfl) (sb_c (qq_X4_askOf_0 14 rfl) (sb_c (qq_X4_askOf_0 15 rfl) (sb_c (qq_X4_askOf_0 16 rfl) (sb_c (qq_X4_askOf_0 17 rfl) (sb_c (qq_X4_askOf_0 18 rfl) (sb_c (qq_X4_askOf_0 19 rfl) (sb_c (qq_X4_askOf_0 20 rfl) (sb_c (qq_X4_askOf_0 21 rfl) (sb_c (qq_X4_askOf_0 22 rfl) (sb_c (qq_X4_askOf_0 23 rfl) (sb_c (qq_X4_askOf_1 0 rfl) (sb_c (qq_X4_askOf_1 1 rfl) (sb_c (qq_X4_askOf_1 2 rfl) (sb_c (qq_X4_askOf_1 3 rfl) sb_n)))))))))))))))))))))))) (sb_a (sb_c (qq_X4_askOf_1 4 rfl) (sb_c (qq_X4_askOf_1 5 rfl) (sb_c (qq_X4_askOf_1 6 rfl) (sb_c (qq_X4_askOf_1 7 rfl) (sb_c (qq_X4_askOf_1 8 rfl) (sb_c (qq_X4_askOf_1 9 rfl) (sb_c (qq_X4_askOf_1 10 rfl) (sb_c (qq_X4_askOf_1 11 rfl) (sb_c (qq_X4_askOf_1 12 rfl) (sb_c (qq_X4_askOf_1 13 rfl) (sb_c (qq_X4_askOf_1 14 rfl) (sb_c (qq_X4_askOf_1 15 rfl) (sb_c (qq_X4_askOf_1 16 rfl) (sb_c (qq_X4_askOf_1 17 rfl) (sb_c (qq_X4_askOf_1 18 rfl) (sb_c (qq_X4_askOf_1 19 rfl) (sb_c (qq_X4_askOf_1 20 rfl) (sb_c (qq_X4_askOf_1 21 rfl) (sb_c (qq_X4_askOf_1 22 rfl) (sb_c (qq_X4_askOf_1 23 rfl) (sb_c (qq_X4_askOf_2 0 rfl) (sb_c (qq_X4_askOf_2 1 rfl) (sb_c (qq_X4_askOf_2 2 rfl) (sb_c (qq_X4_askOf_2 3 rfl) sb_n)))))))))))))))))))))))) (sb_a (sb_c (qq_X4_askOf_2 4 rfl) (sb_c (qq_X4_askOf_2 5 rfl) (sb_c (qq_X4_askOf_2 6 rfl) (sb_c (qq_X4_askOf_2 7 rfl) (sb_c (qq_X4_askOf_2 8 rfl) (sb_c (qq_X4_askOf_2 9 rfl) (sb_c (qq_X4_askOf_2 10 rfl) (sb_c (qq_X4_askOf_2 11 rfl) (sb_c (qq_X4_askOf_2 12 rfl) (sb_c (qq_X4_askOf_2 13 rfl) (sb_c (qq_X4_askOf_2 14 rfl) (sb_c (qq_X4_askOf_2 15 rfl) (sb_c (qq_X4_askOf_2 16 rfl) (sb_c (qq_X4_askOf_2 17 rfl) (sb_c (qq_X4_askOf_2 18 rfl) (sb_c (qq_X4_askOf_2 19 rfl) (sb_c (qq_X4_askOf_2 20 rfl) (sb_c (qq_X4_askOf_2 21 rfl) (sb_c (qq_X4_askOf_2 22 rfl) (sb_c (qq_X4_askOf_2 23 rfl) (sb_c (qq_X4_askOf_3 0 rfl) (sb_c (qq_X4_askOf_3 1 rfl) (sb_c (qq_X4_askOf_3 2 rfl) (sb_c (qq_X4_askOf_3 3 rfl) sb_n)))))))))))))))))))))))) (sb_c (qq_X4_askOf_3 4 rfl) (sb_c (qq_X4_askOf_3 5 rfl) (sb_c (qq_X4_askOf_3 6 rfl) (sb_c (qq_X4_askOf_3 7 rfl) (sb_c (qq_X4_askOf_3 8 rfl) (sb_c (qq_X4_askOf_3 9 rfl) (sb_c (qq_X4_askOf_3 10 rfl) (sb_c (qq_X4_askOf_3 11 rfl) (sb_c (qq_X4_askOf_3 12 rfl) (sb_c (qq_X4_askOf_3 13 rfl) (sb_c (qq_X4_askOf_3 14 rfl) sb_n)))))))))))))) (uq_X4_askOf_X4))) gw_X4_deadsBy
set_option maxRecDepth 20000 in
theorem gX4_askOf_X4_deadsBy : GoodIn wsX4_askOf (wsV RX4 253 RX4 yX4_deadsBy wsX4_deadsBy) := goodIn_app (goodIn_sub (sb_c (qq_X4_askOf_0 1 rfl) (sb_c (qq_X4_askOf_0 2 rfl) (sb_c (qq_X4_askOf_0 3 rfl) (sb_c (qq_X4_askOf_0 4 rfl) sb_n)))) (by decide +kernel)) ggX4_askOf_X4_deadsBy
set_option maxRecDepth 20000 in
theorem ggX4_askOf_X4_isIn : GoodIn wsX4_askOf wsX4_isIn := goodIn_sub (sb_c (qq_X4_askOf_2 19 rfl) (sb_n)) gw_X4_isIn
set_option maxRecDepth 20000 in
theorem gX4_askOf_X4_isIn : GoodIn wsX4_askOf (va_wsS RX4 91 yX4_isIn wsX4_isIn) := goodIn_app (goodIn_sub (sb_c (qq_X4_askOf_2 17 rfl) (sb_c (qq_X4_askOf_2 18 rfl) (sb_c (qq_X4_askOf_0 4 rfl) sb_n))) (by decide +kernel)) ggX4_askOf_X4_isIn
theorem dX4_askOf_0 : decode cX4_askOf 0 = .ok (.aload_n 0, 1) := by decide +kernel
theorem dX4_askOf_1 : decode cX4_askOf 1 = .ok (.invokevirtual 253, 3) := by decide +kernel
theorem dX4_askOf_4 : decode cX4_askOf 4 = .ok (.istore_n 1, 1) := by decide +kernel
theorem dX4_askOf_5 : decode cX4_askOf 5 = .ok (.iconst (-1), 1) := by decide +kernel
theorem dX4_askOf_6 : decode cX4_askOf 6 = .ok (.istore_n 2, 1) := by decide +kernel
theorem dX4_askOf_7 : decode cX4_askOf 7 = .ok (.iconst 0, 1) := by decide +kernel
theorem dX4_askOf_8 : decode cX4_askOf 8 = .ok (.istore_n 3, 1) := by decide +kernel
theorem dX4_askOf_9 : decode cX4_askOf 9 = .ok (.iconst 0, 1) := by decide +kernel
theorem dX4_askOf_10 : decode cX4_askOf 10 = .ok (.istore 4, 2) := by decide +kernel
theorem dX4_askOf_12 : decode cX4_askOf 12 = .ok (.iload 4, 2) := by decide +kernel
theorem dX4_askOf_14 : decode cX4_askOf 14 = .ok (.bipush 16, 2) := by decide +kernel
theorem dX4_askOf_16 : decode cX4_askOf 16 = .ok (.if_icmp .ge 162, 3) := by decide +kernel
theorem dX4_askOf_19 : decode cX4_askOf 19 = .ok (.iconst 0, 1) := by decide +kernel
theorem dX4_askOf_20 : decode cX4_askOf 20 = .ok (.istore 5, 2) := by decide +kernel
theorem dX4_askOf_22 : decode cX4_askOf 22 = .ok (.iconst 0, 1) := by decide +kernel
theorem dX4_askOf_23 : decode cX4_askOf 23 = .ok (.istore 6, 2) := by decide +kernel
theorem dX4_askOf_25 : decode cX4_askOf 25 = .ok (.iload 6, 2) := by decide +kernel
theorem dX4_askOf_27 : decode cX4_askOf 27 = .ok (.bipush 8, 2) := by decide +kernel
theorem dX4_askOf_29 : decode cX4_askOf 29 = .ok (.if_icmp .ge 101, 3) := by decide +kernel
theorem dX4_askOf_32 : decode cX4_askOf 32 = .ok (.iconst 0, 1) := by decide +kernel
theorem dX4_askOf_33 : decode cX4_askOf 33 = .ok (.istore 7, 2) := by decide +kernel
theorem dX4_askOf_35 : decode cX4_askOf 35 = .ok (.iconst 0, 1) := by decide +kernel
theorem dX4_askOf_36 : decode cX4_askOf 36 = .ok (.istore 8, 2) := by decide +kernel
theorem dX4_askOf_38 : decode cX4_askOf 38 = .ok (.iload 8, 2) := by decide +kernel
theorem dX4_askOf_40 : decode cX4_askOf 40 = .ok (.bipush 8, 2) := by decide +kernel
theorem dX4_askOf_42 : decode cX4_askOf 42 = .ok (.if_icmp .ge 66, 3) := by decide +kernel
theorem dX4_askOf_45 : decode cX4_askOf 45 = .ok (.iload 7, 2) := by decide +kernel
theorem dX4_askOf_47 : decode cX4_askOf 47 = .ok (.iload_n 1, 1) := by decide +kernel
theorem dX4_askOf_48 : decode cX4_askOf 48 = .ok (.iload 6, 2) := by decide +kernel
theorem dX4_askOf_50 : decode cX4_askOf 50 = .ok (.invokestatic 91, 3) := by decide +kernel
theorem dX4_askOf_53 : decode cX4_askOf 53 = .ok (.ifCond .eq 45, 3) := by decide +kernel
theorem dX4_askOf_56 : decode cX4_askOf 56 = .ok (.iload_n 1, 1) := by decide +kernel
theorem dX4_askOf_57 : decode cX4_askOf 57 = .ok (.iload 8, 2) := by decide +kernel
theorem dX4_askOf_59 : decode cX4_askOf 59 = .ok (.invokestatic 91, 3) := by decide +kernel
theorem dX4_askOf_62 : decode cX4_askOf 62 = .ok (.ifCond .eq 36, 3) := by decide +kernel
theorem dX4_askOf_65 : decode cX4_askOf 65 = .ok (.aload_n 0, 1) := by decide +kernel
theorem dX4_askOf_66 : decode cX4_askOf 66 = .ok (.getfield 70, 3) := by decide +kernel
theorem dX4_askOf_69 : decode cX4_askOf 69 = .ok (.bipush 16, 2) := by decide +kernel
theorem dX4_askOf_71 : decode cX4_askOf 71 = .ok (.iload 6, 2) := by decide +kernel
theorem dX4_askOf_73 : decode cX4_askOf 73 = .ok (.imul, 1) := by decide +kernel
theorem dX4_askOf_74 : decode cX4_askOf 74 = .ok (.iload 4, 2) := by decide +kernel
theorem dX4_askOf_76 : decode cX4_askOf 76 = .ok (.iadd, 1) := by decide +kernel
theorem dX4_askOf_77 : decode cX4_askOf 77 = .ok (.iaload, 1) := by decide +kernel
theorem dX4_askOf_78 : decode cX4_askOf 78 = .ok (.aload_n 0, 1) := by decide +kernel
theorem dX4_askOf_79 : decode cX4_askOf 79 = .ok (.getfield 70, 3) := by decide +kernel
theorem dX4_askOf_82 : decode cX4_askOf 82 = .ok (.bipush 16, 2) := by decide +kernel
theorem dX4_askOf_84 : decode cX4_askOf 84 = .ok (.iload 8, 2) := by decide +kernel
theorem dX4_askOf_86 : decode cX4_askOf 86 = .ok (.imul, 1) := by decide +kernel
theorem dX4_askOf_87 : decode cX4_askOf 87 = .ok (.iload 4, 2) := by decide +kernel
theorem dX4_askOf_89 : decode cX4_askOf 89 = .ok (.iadd, 1) := by decide +kernel
theorem dX4_askOf_90 : decode cX4_askOf 90 = .ok (.iaload, 1) := by decide +kernel
theorem dX4_askOf_91 : decode cX4_askOf 91 = .ok (.if_icmp .ne 7, 3) := by decide +kernel
theorem dX4_askOf_94 : decode cX4_askOf 94 = .ok (.iconst 1, 1) := by decide +kernel
theorem dX4_askOf_95 : decode cX4_askOf 95 = .ok (.goto 4, 3) := by decide +kernel
theorem dX4_askOf_98 : decode cX4_askOf 98 = .ok (.iconst 0, 1) := by decide +kernel
theorem dX4_askOf_99 : decode cX4_askOf 99 = .ok (.iadd, 1) := by decide +kernel
theorem dX4_askOf_100 : decode cX4_askOf 100 = .ok (.istore 7, 2) := by decide +kernel
theorem dX4_askOf_102 : decode cX4_askOf 102 = .ok (.iinc 8 1, 3) := by decide +kernel
theorem dX4_askOf_105 : decode cX4_askOf 105 = .ok (.goto (-67), 3) := by decide +kernel
theorem dX4_askOf_108 : decode cX4_askOf 108 = .ok (.iload 7, 2) := by decide +kernel
theorem dX4_askOf_110 : decode cX4_askOf 110 = .ok (.iload 5, 2) := by decide +kernel
theorem dX4_askOf_112 : decode cX4_askOf 112 = .ok (.if_icmp .le 8, 3) := by decide +kernel
theorem dX4_askOf_115 : decode cX4_askOf 115 = .ok (.iload 7, 2) := by decide +kernel
theorem dX4_askOf_117 : decode cX4_askOf 117 = .ok (.goto 5, 3) := by decide +kernel
theorem dX4_askOf_120 : decode cX4_askOf 120 = .ok (.iload 5, 2) := by decide +kernel
theorem dX4_askOf_122 : decode cX4_askOf 122 = .ok (.istore 5, 2) := by decide +kernel
theorem dX4_askOf_124 : decode cX4_askOf 124 = .ok (.iinc 6 1, 3) := by decide +kernel
theorem dX4_askOf_127 : decode cX4_askOf 127 = .ok (.goto (-102), 3) := by decide +kernel

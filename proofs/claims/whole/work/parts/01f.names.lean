theorem dX4_by_22 : decode cX4_by 22 = .ok (.iload_n 1, 1) := by decide +kernel
theorem dX4_by_23 : decode cX4_by 23 = .ok (.iload_n 2, 1) := by decide +kernel
theorem dX4_by_24 : decode cX4_by 24 = .ok (.iload_n 3, 1) := by decide +kernel
theorem dX4_by_25 : decode cX4_by 25 = .ok (.invokevirtual 181, 3) := by decide +kernel
theorem dX4_by_28 : decode cX4_by 28 = .ok (.goto 5, 3) := by decide +kernel
theorem dX4_by_31 : decode cX4_by 31 = .ok (.bipush (-2), 2) := by decide +kernel
theorem dX4_by_33 : decode cX4_by 33 = .ok (.ireturn, 1) := by decide +kernel
set_option maxRecDepth 20000 in
theorem ggX4_missedOf_X4_runsTold : GoodIn wsX4_missedOf wsX4_runsTold := goodIn_r _ [6, 7, 8, 9, 5, 10, 11, 12, 13, 14, 15, 16, 17, 18, 19, 20, 21, 22, 23, 1, 24, 25, 26, 27, 28, 29, 30, 31, 32, 33, 34, 35, 36, 37, 38, 39, 40, 41, 42, 43, 44, 45, 46, 47, 48, 49, 50, 51, 52, 53, 54, 55, 56, 57, 58, 59, 60, 61, 62, 63, 64, 65, 66, 67, 68, 69, 70, 71, 72, 73, 74, 75, 76, 77, 78, 79, 80, 81, 82, 83, 84, 85, 86, 87, 88, 89, 90, 91, 92, 93, 94, 95, 96, 97, 98, 99, 100, 101, 102, 103, 104, 105, 106, 107, 108, 109, 110] (by decide +kernel) (by decide +kernel)
set_option maxRecDepth 20000 in
theorem gX4_missedOf_X4_runsTold : GoodIn wsX4_missedOf (wsV RX4 168 RX4 yX4_runsTold wsX4_runsTold) := goodIn_app (goodIn_of _ (by decide +kernel)) ggX4_missedOf_X4_runsTold
theorem dX4_missedOf_0 : decode cX4_missedOf 0 = .ok (.aload_n 0, 1) := by decide +kernel
theorem dX4_missedOf_1 : decode cX4_missedOf 1 = .ok (.invokevirtual 168, 3) := by decide +kernel
theorem dX4_missedOf_4 : decode cX4_missedOf 4 = .ok (.aload_n 0, 1) := by decide +kernel
theorem dX4_missedOf_5 : decode cX4_missedOf 5 = .ok (.getfield 49, 3) := by decide +kernel
theorem dX4_missedOf_8 : decode cX4_missedOf 8 = .ok (.iload_n 1, 1) := by decide +kernel
theorem dX4_missedOf_9 : decode cX4_missedOf 9 = .ok (.iaload, 1) := by decide +kernel
theorem dX4_missedOf_10 : decode cX4_missedOf 10 = .ok (.ireturn, 1) := by decide +kernel
set_option maxRecDepth 20000 in
theorem ggX4_missed_X4_isLine : GoodIn wsX4_missed wsX4_isLine := goodIn_r _ [4, 5, 6, 3, 7] (by decide +kernel) (by decide +kernel)
set_option maxRecDepth 20000 in
theorem gX4_missed_X4_isLine : GoodIn wsX4_missed (va_wsS RX4 99 yX4_isLine wsX4_isLine) := goodIn_app (goodIn_of _ (by decide +kernel)) ggX4_missed_X4_isLine
set_option maxRecDepth 20000 in
theorem ggX4_missed_X4_missedOf : GoodIn wsX4_missed wsX4_missedOf := goodIn_r _ [11, 12, 13, 14, 15, 3, 16, 17, 18, 19, 20, 21, 22, 23, 24, 25, 26, 27, 28, 29, 30, 31, 32, 33, 34, 35, 36, 37, 38, 39, 40, 41, 42, 43, 44, 1, 2, 4, 5, 6, 7, 45, 46, 47, 48, 49, 50, 51, 52, 53, 54, 55, 56, 57, 58, 59, 60, 61, 62, 63, 64, 65, 66, 67, 68, 69, 70, 71, 72, 73, 74, 75, 76, 77, 78, 79, 80, 81, 82, 83, 84, 85, 86, 87, 88, 89, 90, 91, 92, 93, 94, 95, 96, 97, 98, 99, 100, 101, 102, 103, 104, 105, 106, 107, 108, 109, 110, 111, 112, 113, 114] (by decide +kernel) (by decide +kernel)
set_option maxRecDepth 20000 in
theorem gX4_missed_X4_missedOf : GoodIn wsX4_missed (wsV RX4 184 RX4 yX4_missedOf wsX4_missedOf) := goodIn_app (goodIn_of _ (by decide +kernel)) ggX4_missed_X4_missedOf
theorem dX4_missed_0 : decode cX4_missed 0 = .ok (.iload_n 1, 1) := by decide +kernel
theorem dX4_missed_1 : decode cX4_missed 1 = .ok (.invokestatic 99, 3) := by decide +kernel
theorem dX4_missed_4 : decode cX4_missed 4 = .ok (.ifCond .eq 11, 3) := by decide +kernel
theorem dX4_missed_7 : decode cX4_missed 7 = .ok (.aload_n 0, 1) := by decide +kernel
theorem dX4_missed_8 : decode cX4_missed 8 = .ok (.iload_n 1, 1) := by decide +kernel
theorem dX4_missed_9 : decode cX4_missed 9 = .ok (.invokevirtual 184, 3) := by decide +kernel
theorem dX4_missed_12 : decode cX4_missed 12 = .ok (.goto 5, 3) := by decide +kernel
theorem dX4_missed_15 : decode cX4_missed 15 = .ok (.bipush (-2), 2) := by decide +kernel
theorem dX4_missed_17 : decode cX4_missed 17 = .ok (.ireturn, 1) := by decide +kernel
theorem dX4_passNow_0 : decode cX4_passNow 0 = .ok (.iconst (-1), 1) := by decide +kernel
theorem dX4_passNow_1 : decode cX4_passNow 1 = .ok (.istore_n 3, 1) := by decide +kernel
theorem dX4_passNow_2 : decode cX4_passNow 2 = .ok (.iconst 0, 1) := by decide +kernel
theorem dX4_passNow_3 : decode cX4_passNow 3 = .ok (.istore 4, 2) := by decide +kernel
theorem dX4_passNow_5 : decode cX4_passNow 5 = .ok (.iload 4, 2) := by decide +kernel
theorem dX4_passNow_7 : decode cX4_passNow 7 = .ok (.aload_n 0, 1) := by decide +kernel
theorem dX4_passNow_8 : decode cX4_passNow 8 = .ok (.getfield 31, 3) := by decide +kernel
theorem dX4_passNow_11 : decode cX4_passNow 11 = .ok (.iload_n 1, 1) := by decide +kernel
theorem dX4_passNow_12 : decode cX4_passNow 12 = .ok (.iaload, 1) := by decide +kernel
theorem dX4_passNow_13 : decode cX4_passNow 13 = .ok (.if_icmp .ge 49, 3) := by decide +kernel
theorem dX4_passNow_16 : decode cX4_passNow 16 = .ok (.bipush 12, 2) := by decide +kernel
theorem dX4_passNow_18 : decode cX4_passNow 18 = .ok (.iload_n 1, 1) := by decide +kernel
theorem dX4_passNow_19 : decode cX4_passNow 19 = .ok (.imul, 1) := by decide +kernel
theorem dX4_passNow_20 : decode cX4_passNow 20 = .ok (.iload 4, 2) := by decide +kernel
theorem dX4_passNow_22 : decode cX4_passNow 22 = .ok (.iadd, 1) := by decide +kernel
theorem dX4_passNow_23 : decode cX4_passNow 23 = .ok (.istore 5, 2) := by decide +kernel
theorem dX4_passNow_25 : decode cX4_passNow 25 = .ok (.aload_n 0, 1) := by decide +kernel
theorem dX4_passNow_26 : decode cX4_passNow 26 = .ok (.getfield 40, 3) := by decide +kernel
theorem dX4_passNow_29 : decode cX4_passNow 29 = .ok (.iload 5, 2) := by decide +kernel
theorem dX4_passNow_31 : decode cX4_passNow 31 = .ok (.iaload, 1) := by decide +kernel
theorem dX4_passNow_32 : decode cX4_passNow 32 = .ok (.ifCond .le 22, 3) := by decide +kernel
theorem dX4_passNow_35 : decode cX4_passNow 35 = .ok (.iload_n 2, 1) := by decide +kernel
theorem dX4_passNow_36 : decode cX4_passNow 36 = .ok (.ifCond .ne 8, 3) := by decide +kernel
theorem dX4_passNow_39 : decode cX4_passNow 39 = .ok (.iload_n 3, 1) := by decide +kernel
theorem dX4_passNow_40 : decode cX4_passNow 40 = .ok (.iconst (-1), 1) := by decide +kernel
theorem dX4_passNow_41 : decode cX4_passNow 41 = .ok (.if_icmp .ne 13, 3) := by decide +kernel
theorem dX4_passNow_44 : decode cX4_passNow 44 = .ok (.aload_n 0, 1) := by decide +kernel
theorem dX4_passNow_45 : decode cX4_passNow 45 = .ok (.getfield 34, 3) := by decide +kernel
theorem dX4_passNow_48 : decode cX4_passNow 48 = .ok (.iload 5, 2) := by decide +kernel
theorem dX4_passNow_50 : decode cX4_passNow 50 = .ok (.iaload, 1) := by decide +kernel
theorem dX4_passNow_51 : decode cX4_passNow 51 = .ok (.goto 4, 3) := by decide +kernel
theorem dX4_passNow_54 : decode cX4_passNow 54 = .ok (.iload_n 3, 1) := by decide +kernel
theorem dX4_passNow_55 : decode cX4_passNow 55 = .ok (.istore_n 3, 1) := by decide +kernel
theorem dX4_passNow_56 : decode cX4_passNow 56 = .ok (.iinc 4 1, 3) := by decide +kernel
theorem dX4_passNow_59 : decode cX4_passNow 59 = .ok (.goto (-54), 3) := by decide +kernel
theorem dX4_passNow_62 : decode cX4_passNow 62 = .ok (.iload_n 3, 1) := by decide +kernel
theorem dX4_passNow_63 : decode cX4_passNow 63 = .ok (.ireturn, 1) := by decide +kernel
set_option maxRecDepth 20000 in
theorem ggX4_doneOf_X4_runsTold : GoodIn wsX4_doneOf wsX4_runsTold := goodIn_r _ [5, 6, 7, 8, 4, 9, 10, 11, 12, 13, 14, 15, 16, 17, 18, 19, 20, 21, 22, 23, 24, 25, 26, 27, 28, 29, 30, 31, 32, 33, 34, 35, 36, 37, 38, 39, 40, 41, 42, 43, 44, 45, 46, 47, 48, 49, 50, 51, 52, 53, 54, 55, 56, 57, 58, 59, 60, 61, 62, 63, 64, 65, 66, 67, 68, 69, 70, 71, 72, 73, 74, 75, 76, 81, 82, 83, 84, 85, 86, 87, 88, 89, 90, 91, 92, 93, 94, 95, 96, 97, 98, 99, 100, 101, 102, 103, 104, 105, 106, 107, 108, 109, 110, 111, 112, 113, 114] (by decide +kernel) (by decide +kernel)
set_option maxRecDepth 20000 in
theorem gX4_doneOf_X4_runsTold : GoodIn wsX4_doneOf (wsV RX4 168 RX4 yX4_runsTold wsX4_runsTold) := goodIn_app (goodIn_of _ (by decide +kernel)) ggX4_doneOf_X4_runsTold
set_option maxRecDepth 20000 in
theorem ggX4_doneOf_X4_passNow : GoodIn wsX4_doneOf wsX4_passNow := goodIn_r _ [80, 31, 34, 32, 81, 82, 83, 84, 85, 86, 87, 88, 89, 90, 91, 92, 93, 94, 95, 96, 97, 98, 99, 100, 101, 102, 103, 104, 105, 106, 107, 108, 109, 110, 111, 112, 113, 114] (by decide +kernel) (by decide +kernel)
set_option maxRecDepth 20000 in
theorem gX4_doneOf_X4_passNow : GoodIn wsX4_doneOf (wsV RX4 187 RX4 yX4_passNow wsX4_passNow) := goodIn_app (goodIn_of _ (by decide +kernel)) ggX4_doneOf_X4_passNow
theorem dX4_doneOf_0 : decode cX4_doneOf 0 = .ok (.aload_n 0, 1) := by decide +kernel
theorem dX4_doneOf_1 : decode cX4_doneOf 1 = .ok (.invokevirtual 168, 3) := by decide +kernel
theorem dX4_doneOf_4 : decode cX4_doneOf 4 = .ok (.aload_n 0, 1) := by decide +kernel
theorem dX4_doneOf_5 : decode cX4_doneOf 5 = .ok (.iload_n 1, 1) := by decide +kernel
theorem dX4_doneOf_6 : decode cX4_doneOf 6 = .ok (.iconst 1, 1) := by decide +kernel
theorem dX4_doneOf_7 : decode cX4_doneOf 7 = .ok (.invokevirtual 187, 3) := by decide +kernel
theorem dX4_doneOf_10 : decode cX4_doneOf 10 = .ok (.ireturn, 1) := by decide +kernel
set_option maxRecDepth 20000 in
theorem ggX4_done_X4_isLine : GoodIn wsX4_done wsX4_isLine := goodIn_r _ [4, 5, 6, 3, 7] (by decide +kernel) (by decide +kernel)
set_option maxRecDepth 20000 in
theorem gX4_done_X4_isLine : GoodIn wsX4_done (va_wsS RX4 99 yX4_isLine wsX4_isLine) := goodIn_app (goodIn_of _ (by decide +kernel)) ggX4_done_X4_isLine
set_option maxRecDepth 20000 in
theorem ggX4_done_X4_doneOf : GoodIn wsX4_done wsX4_doneOf := goodIn_r _ [11, 12, 13, 14, 3, 15, 16, 17, 18, 19, 20, 21, 22, 23, 24, 25, 26, 27, 28, 29, 30, 31, 32, 33, 34, 35, 36, 37, 38, 39, 40, 41, 42, 43, 44, 1, 2, 4, 5, 6, 7, 45, 46, 47, 48, 49, 50, 51, 52, 53, 54, 55, 56, 57, 58, 59, 60, 61, 62, 63, 64, 65, 66, 67, 68, 69, 70, 71, 72, 73, 74, 75, 76, 77, 78, 79, 80, 81, 82, 83, 84, 85, 86, 87, 88, 89, 90, 91, 92, 93, 94, 95, 96, 97, 98, 99, 100, 101, 102, 103, 104, 105, 106, 107, 108, 109, 110, 111, 112, 113, 114, 115, 116, 117, 118] (by decide +kernel) (by decide +kernel)
set_option maxRecDepth 20000 in
theorem gX4_done_X4_doneOf : GoodIn wsX4_done (wsV RX4 191 RX4 yX4_doneOf wsX4_doneOf) := goodIn_app (goodIn_of _ (by decide +kernel)) ggX4_done_X4_doneOf
theorem dX4_done_0 : decode cX4_done 0 = .ok (.iload_n 1, 1) := by decide +kernel
theorem dX4_done_1 : decode cX4_done 1 = .ok (.invokestatic 99, 3) := by decide +kernel
theorem dX4_done_4 : decode cX4_done 4 = .ok (.ifCond .eq 11, 3) := by decide +kernel
theorem dX4_done_7 : decode cX4_done 7 = .ok (.aload_n 0, 1) := by decide +kernel
theorem dX4_done_8 : decode cX4_done 8 = .ok (.iload_n 1, 1) := by decide +kernel
theorem dX4_done_9 : decode cX4_done 9 = .ok (.invokevirtual 191, 3) := by decide +kernel
theorem dX4_done_12 : decode cX4_done 12 = .ok (.goto 5, 3) := by decide +kernel
theorem dX4_done_15 : decode cX4_done 15 = .ok (.bipush (-2), 2) := by decide +kernel
theorem dX4_done_17 : decode cX4_done 17 = .ok (.ireturn, 1) := by decide +kernel
set_option maxRecDepth 20000 in
theorem ggX4_isNozzle_X4_in : GoodIn wsX4_isNozzle wsX4_in := goodIn_r _ [5] (by decide +kernel) (by decide +kernel)
set_option maxRecDepth 20000 in
theorem gX4_isNozzle_X4_in : GoodIn wsX4_isNozzle (va_wsS RX4 95 yX4_in wsX4_in) := goodIn_app (goodIn_of _ (by decide +kernel)) ggX4_isNozzle_X4_in
theorem dX4_isNozzle_0 : decode cX4_isNozzle 0 = .ok (.iload_n 1, 1) := by decide +kernel
theorem dX4_isNozzle_1 : decode cX4_isNozzle 1 = .ok (.iconst 0, 1) := by decide +kernel
theorem dX4_isNozzle_2 : decode cX4_isNozzle 2 = .ok (.aload_n 0, 1) := by decide +kernel
theorem dX4_isNozzle_3 : decode cX4_isNozzle 3 = .ok (.getfield 13, 3) := by decide +kernel
theorem dX4_isNozzle_6 : decode cX4_isNozzle 6 = .ok (.iconst 0, 1) := by decide +kernel
theorem dX4_isNozzle_7 : decode cX4_isNozzle 7 = .ok (.iaload, 1) := by decide +kernel
theorem dX4_isNozzle_8 : decode cX4_isNozzle 8 = .ok (.iconst 1, 1) := by decide +kernel
theorem dX4_isNozzle_9 : decode cX4_isNozzle 9 = .ok (.isub, 1) := by decide +kernel
theorem dX4_isNozzle_10 : decode cX4_isNozzle 10 = .ok (.invokestatic 95, 3) := by decide +kernel
theorem dX4_isNozzle_13 : decode cX4_isNozzle 13 = .ok (.ireturn, 1) := by decide +kernel
set_option maxRecDepth 20000 in
theorem ggX4_passOf_X4_runsTold : GoodIn wsX4_passOf wsX4_runsTold := goodIn_r _ [7, 8, 9, 10, 6, 11, 12, 13, 14, 15, 16, 17, 18, 19, 20, 21, 22, 23, 24, 25, 1, 2, 26, 27, 28, 29, 30, 31, 32, 33, 34, 35, 36, 37, 38, 39, 40, 41, 42, 43, 44, 45, 46, 47, 48, 49, 50, 51, 52, 53, 54, 55, 56, 57, 58, 59, 60, 61, 62, 63, 64, 65, 66, 67, 68, 69, 70, 71, 72, 73, 74, 75, 76, 77, 78, 79, 80, 81, 82, 83, 84, 85, 86, 87, 88, 89, 90, 91, 92, 93, 94, 95, 96, 97, 98, 99, 100, 101, 102, 103, 104, 105, 106, 107, 108, 109, 110] (by decide +kernel) (by decide +kernel)
set_option maxRecDepth 20000 in
theorem gX4_passOf_X4_runsTold : GoodIn wsX4_passOf (wsV RX4 168 RX4 yX4_runsTold wsX4_runsTold) := goodIn_app (goodIn_of _ (by decide +kernel)) ggX4_passOf_X4_runsTold
set_option maxRecDepth 20000 in
theorem ggX4_passOf_X4_isAlive : GoodIn wsX4_passOf wsX4_isAlive := goodIn_r _ [53, 54, 55, 56, 16, 17, 57, 58, 59, 6, 60, 77, 78, 79, 80, 81, 82, 83, 84, 85, 86, 87, 88, 89, 90, 91, 92, 93, 94, 95, 96, 97, 98, 99, 100, 101, 102, 103, 104, 105, 106, 107, 108, 109, 110] (by decide +kernel) (by decide +kernel)
set_option maxRecDepth 20000 in
theorem gX4_passOf_X4_isAlive : GoodIn wsX4_passOf (wsV RX4 127 RX4 yX4_isAlive wsX4_isAlive) := goodIn_app (goodIn_of _ (by decide +kernel)) ggX4_passOf_X4_isAlive
theorem dX4_passOf_0 : decode cX4_passOf 0 = .ok (.aload_n 0, 1) := by decide +kernel
theorem dX4_passOf_1 : decode cX4_passOf 1 = .ok (.invokevirtual 168, 3) := by decide +kernel
theorem dX4_passOf_4 : decode cX4_passOf 4 = .ok (.iload_n 3, 1) := by decide +kernel
theorem dX4_passOf_5 : decode cX4_passOf 5 = .ok (.ifCond .ne 17, 3) := by decide +kernel
theorem dX4_passOf_8 : decode cX4_passOf 8 = .ok (.aload_n 0, 1) := by decide +kernel
theorem dX4_passOf_9 : decode cX4_passOf 9 = .ok (.getfield 52, 3) := by decide +kernel
theorem dX4_passOf_12 : decode cX4_passOf 12 = .ok (.bipush 8, 2) := by decide +kernel
theorem dX4_passOf_14 : decode cX4_passOf 14 = .ok (.iload_n 1, 1) := by decide +kernel
theorem dX4_passOf_15 : decode cX4_passOf 15 = .ok (.imul, 1) := by decide +kernel
theorem dX4_passOf_16 : decode cX4_passOf 16 = .ok (.iload_n 2, 1) := by decide +kernel
theorem dX4_passOf_17 : decode cX4_passOf 17 = .ok (.iadd, 1) := by decide +kernel
theorem dX4_passOf_18 : decode cX4_passOf 18 = .ok (.iaload, 1) := by decide +kernel
theorem dX4_passOf_19 : decode cX4_passOf 19 = .ok (.goto 36, 3) := by decide +kernel
theorem dX4_passOf_22 : decode cX4_passOf 22 = .ok (.iload_n 3, 1) := by decide +kernel
theorem dX4_passOf_23 : decode cX4_passOf 23 = .ok (.iconst 1, 1) := by decide +kernel
theorem dX4_passOf_24 : decode cX4_passOf 24 = .ok (.if_icmp .ne 17, 3) := by decide +kernel
theorem dX4_passOf_27 : decode cX4_passOf 27 = .ok (.aload_n 0, 1) := by decide +kernel
theorem dX4_passOf_28 : decode cX4_passOf 28 = .ok (.getfield 55, 3) := by decide +kernel
theorem dX4_passOf_31 : decode cX4_passOf 31 = .ok (.bipush 8, 2) := by decide +kernel
theorem dX4_passOf_33 : decode cX4_passOf 33 = .ok (.iload_n 1, 1) := by decide +kernel
theorem dX4_passOf_34 : decode cX4_passOf 34 = .ok (.imul, 1) := by decide +kernel
theorem dX4_passOf_35 : decode cX4_passOf 35 = .ok (.iload_n 2, 1) := by decide +kernel
theorem dX4_passOf_36 : decode cX4_passOf 36 = .ok (.iadd, 1) := by decide +kernel
theorem dX4_passOf_37 : decode cX4_passOf 37 = .ok (.iaload, 1) := by decide +kernel
theorem dX4_passOf_38 : decode cX4_passOf 38 = .ok (.goto 17, 3) := by decide +kernel
theorem dX4_passOf_41 : decode cX4_passOf 41 = .ok (.aload_n 0, 1) := by decide +kernel
theorem dX4_passOf_42 : decode cX4_passOf 42 = .ok (.iload_n 1, 1) := by decide +kernel
theorem dX4_passOf_43 : decode cX4_passOf 43 = .ok (.iload_n 2, 1) := by decide +kernel
theorem dX4_passOf_44 : decode cX4_passOf 44 = .ok (.invokevirtual 127, 3) := by decide +kernel
theorem dX4_passOf_47 : decode cX4_passOf 47 = .ok (.ifCond .eq 7, 3) := by decide +kernel
theorem dX4_passOf_50 : decode cX4_passOf 50 = .ok (.iconst 1, 1) := by decide +kernel
theorem dX4_passOf_51 : decode cX4_passOf 51 = .ok (.goto 4, 3) := by decide +kernel
theorem dX4_passOf_54 : decode cX4_passOf 54 = .ok (.iconst 0, 1) := by decide +kernel
theorem dX4_passOf_55 : decode cX4_passOf 55 = .ok (.ireturn, 1) := by decide +kernel
set_option maxRecDepth 20000 in
theorem ggX4_pass_X4_in : GoodIn wsX4_pass wsX4_in := goodIn_r _ [5] (by decide +kernel) (by decide +kernel)
set_option maxRecDepth 20000 in
theorem gX4_pass_X4_in : GoodIn wsX4_pass (va_wsS RX4 95 yX4_in wsX4_in) := goodIn_app (goodIn_of _ (by decide +kernel)) ggX4_pass_X4_in
set_option maxRecDepth 20000 in
theorem ggX4_pass_X4_isNozzle : GoodIn wsX4_pass wsX4_isNozzle := goodIn_r _ [9, 1, 2, 3, 4, 5, 88, 89, 90, 91, 92, 93, 94, 95, 96, 97, 98, 99, 100, 101, 102, 103, 104, 105, 106, 107, 108, 109, 110, 111, 112, 113, 114, 115, 116, 117, 118, 119, 120, 121] (by decide +kernel) (by decide +kernel)
set_option maxRecDepth 20000 in
theorem gX4_pass_X4_isNozzle : GoodIn wsX4_pass (wsV RX4 194 RX4 yX4_isNozzle wsX4_isNozzle) := goodIn_app (goodIn_of _ (by decide +kernel)) ggX4_pass_X4_isNozzle
set_option maxRecDepth 20000 in
theorem ggX4_pass_X4_isThree : GoodIn wsX4_pass wsX4_isThree := goodIn_r _ [12, 2, 3, 4, 5] (by decide +kernel) (by decide +kernel)
set_option maxRecDepth 20000 in
theorem gX4_pass_X4_isThree : GoodIn wsX4_pass (va_wsS RX4 197 yX4_isThree wsX4_isThree) := goodIn_app (goodIn_of _ (by decide +kernel)) ggX4_pass_X4_isThree
set_option maxRecDepth 20000 in
theorem ggX4_pass_X4_passOf : GoodIn wsX4_pass wsX4_passOf := goodIn_r _ [16, 17, 18, 19, 20, 21, 4, 22, 23, 24, 25, 26, 27, 28, 29, 1, 30, 31, 32, 33, 34, 35, 36, 37, 38, 39, 40, 41, 42, 43, 44, 45, 46, 47, 48, 49, 50, 51, 2, 3, 5, 52, 53, 54, 55, 56, 57, 58, 59, 60, 61, 62, 63, 64, 65, 66, 67, 68, 69, 70, 71, 72, 73, 74, 75, 76, 77, 78, 79, 80, 81, 82, 83, 84, 85, 86, 87, 88, 89, 90, 91, 92, 93, 94, 95, 96, 97, 98, 99, 100, 101, 102, 103, 104, 105, 106, 107, 108, 109, 110, 111, 112, 113, 114, 115, 116, 117, 118, 119, 120, 121] (by decide +kernel) (by decide +kernel)
set_option maxRecDepth 20000 in
theorem gX4_pass_X4_passOf : GoodIn wsX4_pass (wsV RX4 200 RX4 yX4_passOf wsX4_passOf) := goodIn_app (goodIn_of _ (by decide +kernel)) ggX4_pass_X4_passOf
theorem dX4_pass_0 : decode cX4_pass 0 = .ok (.iload_n 1, 1) := by decide +kernel
theorem dX4_pass_1 : decode cX4_pass 1 = .ok (.iconst 0, 1) := by decide +kernel
theorem dX4_pass_2 : decode cX4_pass 2 = .ok (.aload_n 0, 1) := by decide +kernel
theorem dX4_pass_3 : decode cX4_pass 3 = .ok (.getfield 13, 3) := by decide +kernel
theorem dX4_pass_6 : decode cX4_pass 6 = .ok (.iconst 3, 1) := by decide +kernel
theorem dX4_pass_7 : decode cX4_pass 7 = .ok (.iaload, 1) := by decide +kernel
theorem dX4_pass_8 : decode cX4_pass 8 = .ok (.iconst 1, 1) := by decide +kernel
theorem dX4_pass_9 : decode cX4_pass 9 = .ok (.isub, 1) := by decide +kernel
theorem dX4_pass_10 : decode cX4_pass 10 = .ok (.invokestatic 95, 3) := by decide +kernel
theorem dX4_pass_13 : decode cX4_pass 13 = .ok (.ifCond .eq 28, 3) := by decide +kernel
theorem dX4_pass_16 : decode cX4_pass 16 = .ok (.aload_n 0, 1) := by decide +kernel
theorem dX4_pass_17 : decode cX4_pass 17 = .ok (.iload_n 2, 1) := by decide +kernel
theorem dX4_pass_18 : decode cX4_pass 18 = .ok (.invokevirtual 194, 3) := by decide +kernel
theorem dX4_pass_21 : decode cX4_pass 21 = .ok (.ifCond .eq 20, 3) := by decide +kernel
theorem dX4_pass_24 : decode cX4_pass 24 = .ok (.iload_n 3, 1) := by decide +kernel
theorem dX4_pass_25 : decode cX4_pass 25 = .ok (.invokestatic 197, 3) := by decide +kernel
theorem dX4_pass_28 : decode cX4_pass 28 = .ok (.ifCond .eq 13, 3) := by decide +kernel
theorem dX4_pass_31 : decode cX4_pass 31 = .ok (.aload_n 0, 1) := by decide +kernel
theorem dX4_pass_32 : decode cX4_pass 32 = .ok (.iload_n 1, 1) := by decide +kernel
theorem dX4_pass_33 : decode cX4_pass 33 = .ok (.iload_n 2, 1) := by decide +kernel
theorem dX4_pass_34 : decode cX4_pass 34 = .ok (.iload_n 3, 1) := by decide +kernel
theorem dX4_pass_35 : decode cX4_pass 35 = .ok (.invokevirtual 200, 3) := by decide +kernel
theorem dX4_pass_38 : decode cX4_pass 38 = .ok (.goto 5, 3) := by decide +kernel
theorem dX4_pass_41 : decode cX4_pass 41 = .ok (.bipush (-2), 2) := by decide +kernel
theorem dX4_pass_43 : decode cX4_pass 43 = .ok (.ireturn, 1) := by decide +kernel
theorem dX4_guttersNow_0 : decode cX4_guttersNow 0 = .ok (.iconst 0, 1) := by decide +kernel
theorem dX4_guttersNow_1 : decode cX4_guttersNow 1 = .ok (.istore_n 1, 1) := by decide +kernel
theorem dX4_guttersNow_2 : decode cX4_guttersNow 2 = .ok (.iconst 0, 1) := by decide +kernel
theorem dX4_guttersNow_3 : decode cX4_guttersNow 3 = .ok (.istore_n 2, 1) := by decide +kernel
theorem dX4_guttersNow_4 : decode cX4_guttersNow 4 = .ok (.iload_n 2, 1) := by decide +kernel
theorem dX4_guttersNow_5 : decode cX4_guttersNow 5 = .ok (.bipush 96, 2) := by decide +kernel
theorem dX4_guttersNow_7 : decode cX4_guttersNow 7 = .ok (.if_icmp .ge 18, 3) := by decide +kernel
theorem dX4_guttersNow_10 : decode cX4_guttersNow 10 = .ok (.iload_n 1, 1) := by decide +kernel
theorem dX4_guttersNow_11 : decode cX4_guttersNow 11 = .ok (.aload_n 0, 1) := by decide +kernel
theorem dX4_guttersNow_12 : decode cX4_guttersNow 12 = .ok (.getfield 55, 3) := by decide +kernel
theorem dX4_guttersNow_15 : decode cX4_guttersNow 15 = .ok (.iload_n 2, 1) := by decide +kernel
theorem dX4_guttersNow_16 : decode cX4_guttersNow 16 = .ok (.iaload, 1) := by decide +kernel
theorem dX4_guttersNow_17 : decode cX4_guttersNow 17 = .ok (.iadd, 1) := by decide +kernel
theorem dX4_guttersNow_18 : decode cX4_guttersNow 18 = .ok (.istore_n 1, 1) := by decide +kernel
theorem dX4_guttersNow_19 : decode cX4_guttersNow 19 = .ok (.iinc 2 1, 3) := by decide +kernel
theorem dX4_guttersNow_22 : decode cX4_guttersNow 22 = .ok (.goto (-18), 3) := by decide +kernel
theorem dX4_guttersNow_25 : decode cX4_guttersNow 25 = .ok (.iload_n 1, 1) := by decide +kernel
theorem dX4_guttersNow_26 : decode cX4_guttersNow 26 = .ok (.ireturn, 1) := by decide +kernel
set_option maxRecDepth 20000 in
theorem ggX4_dotsNow_X4_many : GoodIn wsX4_dotsNow wsX4_many := goodIn_r _ [5, 6, 7, 4, 8] (by decide +kernel) (by decide +kernel)
set_option maxRecDepth 20000 in
theorem gX4_dotsNow_X4_many : GoodIn wsX4_dotsNow (va_wsS RX4 203 yX4_many wsX4_many) := goodIn_app (goodIn_of _ (by decide +kernel)) ggX4_dotsNow_X4_many
theorem dX4_dotsNow_0 : decode cX4_dotsNow 0 = .ok (.iconst 0, 1) := by decide +kernel
theorem dX4_dotsNow_1 : decode cX4_dotsNow 1 = .ok (.istore_n 1, 1) := by decide +kernel
theorem dX4_dotsNow_2 : decode cX4_dotsNow 2 = .ok (.iconst 0, 1) := by decide +kernel
theorem dX4_dotsNow_3 : decode cX4_dotsNow 3 = .ok (.istore_n 2, 1) := by decide +kernel
theorem dX4_dotsNow_4 : decode cX4_dotsNow 4 = .ok (.iload_n 2, 1) := by decide +kernel
theorem dX4_dotsNow_5 : decode cX4_dotsNow 5 = .ok (.bipush 16, 2) := by decide +kernel
theorem dX4_dotsNow_7 : decode cX4_dotsNow 7 = .ok (.if_icmp .ge 21, 3) := by decide +kernel
theorem dX4_dotsNow_10 : decode cX4_dotsNow 10 = .ok (.iload_n 1, 1) := by decide +kernel
theorem dX4_dotsNow_11 : decode cX4_dotsNow 11 = .ok (.aload_n 0, 1) := by decide +kernel
theorem dX4_dotsNow_12 : decode cX4_dotsNow 12 = .ok (.getfield 25, 3) := by decide +kernel
theorem dX4_dotsNow_15 : decode cX4_dotsNow 15 = .ok (.iload_n 2, 1) := by decide +kernel
theorem dX4_dotsNow_16 : decode cX4_dotsNow 16 = .ok (.iaload, 1) := by decide +kernel
theorem dX4_dotsNow_17 : decode cX4_dotsNow 17 = .ok (.invokestatic 203, 3) := by decide +kernel
theorem dX4_dotsNow_20 : decode cX4_dotsNow 20 = .ok (.iadd, 1) := by decide +kernel
theorem dX4_dotsNow_21 : decode cX4_dotsNow 21 = .ok (.istore_n 1, 1) := by decide +kernel
theorem dX4_dotsNow_22 : decode cX4_dotsNow 22 = .ok (.iinc 2 1, 3) := by decide +kernel
theorem dX4_dotsNow_25 : decode cX4_dotsNow 25 = .ok (.goto (-21), 3) := by decide +kernel
theorem dX4_dotsNow_28 : decode cX4_dotsNow 28 = .ok (.iload_n 1, 1) := by decide +kernel
theorem dX4_dotsNow_29 : decode cX4_dotsNow 29 = .ok (.ireturn, 1) := by decide +kernel
set_option maxRecDepth 20000 in
theorem ggX4_sumOf_X4_runsTold : GoodIn wsX4_sumOf wsX4_runsTold := goodIn_r _ [8, 9, 10, 11, 7, 12, 13, 14, 15, 16, 17, 18, 19, 20, 21, 22, 1, 3, 2, 23, 24, 25, 26, 27, 28, 29, 30, 31, 32, 33, 34, 35, 36, 37, 38, 39, 40, 41, 42, 43, 44, 45, 46, 47, 48, 49, 50, 51, 52, 53, 54, 55, 56, 57, 58, 59, 60, 61, 62, 63, 64, 65, 66, 67, 68, 69, 70, 71, 72, 73, 74, 75, 76, 88, 89, 90, 91, 92, 93, 94, 95, 96, 97, 98, 99, 100, 101, 102, 103, 104, 105, 106, 107, 108, 109, 110, 111, 112, 113, 114, 115, 116, 117, 118, 119, 120, 121] (by decide +kernel) (by decide +kernel)
set_option maxRecDepth 20000 in
theorem gX4_sumOf_X4_runsTold : GoodIn wsX4_sumOf (wsV RX4 168 RX4 yX4_runsTold wsX4_runsTold) := goodIn_app (goodIn_of _ (by decide +kernel)) ggX4_sumOf_X4_runsTold
set_option maxRecDepth 20000 in
theorem ggX4_sumOf_X4_dotsNow : GoodIn wsX4_sumOf wsX4_dotsNow := goodIn_r _ [80, 13, 81, 82, 7, 83, 58, 59, 60, 88, 89, 90, 91, 92, 93, 94, 95, 96, 97, 98, 99, 100, 101, 102, 103, 104, 105, 106, 107, 108, 109, 110, 111, 112, 113, 114, 115, 116, 117, 118, 119, 120, 121] (by decide +kernel) (by decide +kernel)
set_option maxRecDepth 20000 in
theorem gX4_sumOf_X4_dotsNow : GoodIn wsX4_sumOf (wsV RX4 206 RX4 yX4_dotsNow wsX4_dotsNow) := goodIn_app (goodIn_of _ (by decide +kernel)) ggX4_sumOf_X4_dotsNow
set_option maxRecDepth 20000 in
theorem ggX4_sumOf_X4_guttersNow : GoodIn wsX4_sumOf wsX4_guttersNow := goodIn_r _ [87, 25, 88, 89, 90, 91, 92, 93, 94, 95, 96, 97, 98, 99, 100, 101, 102, 103, 104, 105, 106, 107, 108, 109, 110, 111, 112, 113, 114, 115, 116, 117, 118, 119, 120, 121] (by decide +kernel) (by decide +kernel)
set_option maxRecDepth 20000 in
theorem gX4_sumOf_X4_guttersNow : GoodIn wsX4_sumOf (wsV RX4 210 RX4 yX4_guttersNow wsX4_guttersNow) := goodIn_app (goodIn_of _ (by decide +kernel)) ggX4_sumOf_X4_guttersNow
theorem dX4_sumOf_0 : decode cX4_sumOf 0 = .ok (.aload_n 0, 1) := by decide +kernel
theorem dX4_sumOf_1 : decode cX4_sumOf 1 = .ok (.invokevirtual 168, 3) := by decide +kernel
theorem dX4_sumOf_4 : decode cX4_sumOf 4 = .ok (.iload_n 1, 1) := by decide +kernel
theorem dX4_sumOf_5 : decode cX4_sumOf 5 = .ok (.ifCond .ne 10, 3) := by decide +kernel
theorem dX4_sumOf_8 : decode cX4_sumOf 8 = .ok (.aload_n 0, 1) := by decide +kernel
theorem dX4_sumOf_9 : decode cX4_sumOf 9 = .ok (.invokevirtual 206, 3) := by decide +kernel
theorem dX4_sumOf_12 : decode cX4_sumOf 12 = .ok (.goto 36, 3) := by decide +kernel
theorem dX4_sumOf_15 : decode cX4_sumOf 15 = .ok (.iload_n 1, 1) := by decide +kernel
theorem dX4_sumOf_16 : decode cX4_sumOf 16 = .ok (.iconst 1, 1) := by decide +kernel
theorem dX4_sumOf_17 : decode cX4_sumOf 17 = .ok (.if_icmp .ne 10, 3) := by decide +kernel
theorem dX4_sumOf_20 : decode cX4_sumOf 20 = .ok (.aload_n 0, 1) := by decide +kernel
theorem dX4_sumOf_21 : decode cX4_sumOf 21 = .ok (.getfield 146, 3) := by decide +kernel
theorem dX4_sumOf_24 : decode cX4_sumOf 24 = .ok (.goto 24, 3) := by decide +kernel
theorem dX4_sumOf_27 : decode cX4_sumOf 27 = .ok (.iload_n 1, 1) := by decide +kernel
theorem dX4_sumOf_28 : decode cX4_sumOf 28 = .ok (.iconst 2, 1) := by decide +kernel
theorem dX4_sumOf_29 : decode cX4_sumOf 29 = .ok (.if_icmp .ne 15, 3) := by decide +kernel
theorem dX4_sumOf_32 : decode cX4_sumOf 32 = .ok (.aload_n 0, 1) := by decide +kernel
theorem dX4_sumOf_33 : decode cX4_sumOf 33 = .ok (.getfield 140, 3) := by decide +kernel
theorem dX4_sumOf_36 : decode cX4_sumOf 36 = .ok (.aload_n 0, 1) := by decide +kernel
theorem dX4_sumOf_37 : decode cX4_sumOf 37 = .ok (.getfield 143, 3) := by decide +kernel
theorem dX4_sumOf_40 : decode cX4_sumOf 40 = .ok (.isub, 1) := by decide +kernel
theorem dX4_sumOf_41 : decode cX4_sumOf 41 = .ok (.goto 7, 3) := by decide +kernel
theorem dX4_sumOf_44 : decode cX4_sumOf 44 = .ok (.aload_n 0, 1) := by decide +kernel
theorem dX4_sumOf_45 : decode cX4_sumOf 45 = .ok (.invokevirtual 210, 3) := by decide +kernel
theorem dX4_sumOf_48 : decode cX4_sumOf 48 = .ok (.ireturn, 1) := by decide +kernel
set_option maxRecDepth 20000 in
theorem ggX4_sum_X4_in : GoodIn wsX4_sum wsX4_in := goodIn_r _ [4] (by decide +kernel) (by decide +kernel)
set_option maxRecDepth 20000 in
theorem gX4_sum_X4_in : GoodIn wsX4_sum (va_wsS RX4 95 yX4_in wsX4_in) := goodIn_app (goodIn_of _ (by decide +kernel)) ggX4_sum_X4_in
set_option maxRecDepth 20000 in
theorem ggX4_sum_X4_sumOf : GoodIn wsX4_sum wsX4_sumOf := goodIn_r _ [8, 9, 10, 11, 12, 13, 14, 3, 15, 16, 17, 18, 19, 20, 21, 22, 23, 24, 25, 26, 27, 28, 29, 30, 31, 32, 33, 34, 35, 36, 37, 38, 39, 40, 41, 42, 43, 44, 1, 2, 4, 45, 46, 47, 48, 49, 50, 51, 52, 53, 54, 55, 56, 57, 58, 59, 60, 61, 62, 63, 64, 65, 66, 67, 68, 69, 70, 71, 72, 73, 74, 75, 76, 77, 78, 79, 80, 81, 82, 83, 84, 85, 86, 87, 88, 89, 90, 91, 92, 93, 94, 95, 96, 97, 98, 99, 100, 101, 102, 103, 104, 105, 106, 107, 108, 109, 110, 111, 112, 113, 114, 115, 116, 117, 118, 119, 120, 121, 122, 123, 124, 125] (by decide +kernel) (by decide +kernel)
set_option maxRecDepth 20000 in
theorem gX4_sum_X4_sumOf : GoodIn wsX4_sum (wsV RX4 213 RX4 yX4_sumOf wsX4_sumOf) := goodIn_app (goodIn_of _ (by decide +kernel)) ggX4_sum_X4_sumOf
theorem dX4_sum_0 : decode cX4_sum 0 = .ok (.iload_n 1, 1) := by decide +kernel
theorem dX4_sum_1 : decode cX4_sum 1 = .ok (.iconst 0, 1) := by decide +kernel
theorem dX4_sum_2 : decode cX4_sum 2 = .ok (.iconst 3, 1) := by decide +kernel
theorem dX4_sum_3 : decode cX4_sum 3 = .ok (.invokestatic 95, 3) := by decide +kernel
theorem dX4_sum_6 : decode cX4_sum 6 = .ok (.ifCond .eq 11, 3) := by decide +kernel
theorem dX4_sum_9 : decode cX4_sum 9 = .ok (.aload_n 0, 1) := by decide +kernel
theorem dX4_sum_10 : decode cX4_sum 10 = .ok (.iload_n 1, 1) := by decide +kernel
theorem dX4_sum_11 : decode cX4_sum 11 = .ok (.invokevirtual 213, 3) := by decide +kernel
theorem dX4_sum_14 : decode cX4_sum 14 = .ok (.goto 5, 3) := by decide +kernel
theorem dX4_sum_17 : decode cX4_sum 17 = .ok (.bipush (-2), 2) := by decide +kernel
theorem dX4_sum_19 : decode cX4_sum 19 = .ok (.ireturn, 1) := by decide +kernel
set_option maxRecDepth 20000 in
theorem ggX4_leastIn_X4_isAble : GoodIn wsX4_leastIn wsX4_isAble := goodIn_r _ [9, 10, 11, 12, 13, 14, 8, 15, 16, 17, 18, 19, 20, 21, 22, 23, 24, 25, 26, 27, 28, 4, 32, 33, 34, 35, 36, 37, 38, 39, 40, 41, 42, 43, 44, 45, 46, 47, 48, 49, 50, 51, 52, 53, 54, 55, 56, 57, 58, 59, 60, 61, 62, 63, 64, 65] (by decide +kernel) (by decide +kernel)
set_option maxRecDepth 20000 in
theorem gX4_leastIn_X4_isAble : GoodIn wsX4_leastIn (wsV RX4 133 RX4 yX4_isAble wsX4_isAble) := goodIn_app (goodIn_of _ (by decide +kernel)) ggX4_leastIn_X4_isAble
set_option maxRecDepth 20000 in
theorem ggX4_leastIn_X4_isIn : GoodIn wsX4_leastIn wsX4_isIn := goodIn_r _ [24] (by decide +kernel) (by decide +kernel)
set_option maxRecDepth 20000 in
theorem gX4_leastIn_X4_isIn : GoodIn wsX4_leastIn (va_wsS RX4 91 yX4_isIn wsX4_isIn) := goodIn_app (goodIn_of _ (by decide +kernel)) ggX4_leastIn_X4_isIn
set_option maxRecDepth 20000 in
theorem ggX4_leastIn_X4_many : GoodIn wsX4_leastIn wsX4_many := goodIn_r _ [31, 22, 23, 8, 24] (by decide +kernel) (by decide +kernel)
set_option maxRecDepth 20000 in
theorem gX4_leastIn_X4_many : GoodIn wsX4_leastIn (va_wsS RX4 203 yX4_many wsX4_many) := goodIn_app (goodIn_of _ (by decide +kernel)) ggX4_leastIn_X4_many
theorem dX4_leastIn_0 : decode cX4_leastIn 0 = .ok (.iconst 0, 1) := by decide +kernel
theorem dX4_leastIn_1 : decode cX4_leastIn 1 = .ok (.istore_n 2, 1) := by decide +kernel
theorem dX4_leastIn_2 : decode cX4_leastIn 2 = .ok (.iconst 0, 1) := by decide +kernel
theorem dX4_leastIn_3 : decode cX4_leastIn 3 = .ok (.istore_n 3, 1) := by decide +kernel
theorem dX4_leastIn_4 : decode cX4_leastIn 4 = .ok (.iload_n 3, 1) := by decide +kernel
theorem dX4_leastIn_5 : decode cX4_leastIn 5 = .ok (.bipush 8, 2) := by decide +kernel
theorem dX4_leastIn_7 : decode cX4_leastIn 7 = .ok (.if_icmp .ge 64, 3) := by decide +kernel
theorem dX4_leastIn_10 : decode cX4_leastIn 10 = .ok (.aload_n 0, 1) := by decide +kernel
theorem dX4_leastIn_11 : decode cX4_leastIn 11 = .ok (.getfield 58, 3) := by decide +kernel
theorem dX4_leastIn_14 : decode cX4_leastIn 14 = .ok (.iload_n 3, 1) := by decide +kernel
theorem dX4_leastIn_15 : decode cX4_leastIn 15 = .ok (.iconst 0, 1) := by decide +kernel
theorem dX4_leastIn_16 : decode cX4_leastIn 16 = .ok (.iastore, 1) := by decide +kernel
theorem dX4_leastIn_17 : decode cX4_leastIn 17 = .ok (.iconst 0, 1) := by decide +kernel
theorem dX4_leastIn_18 : decode cX4_leastIn 18 = .ok (.istore 4, 2) := by decide +kernel
theorem dX4_leastIn_20 : decode cX4_leastIn 20 = .ok (.iload 4, 2) := by decide +kernel
theorem dX4_leastIn_22 : decode cX4_leastIn 22 = .ok (.aload_n 0, 1) := by decide +kernel
theorem dX4_leastIn_23 : decode cX4_leastIn 23 = .ok (.getfield 31, 3) := by decide +kernel
theorem dX4_leastIn_26 : decode cX4_leastIn 26 = .ok (.iload_n 1, 1) := by decide +kernel
theorem dX4_leastIn_27 : decode cX4_leastIn 27 = .ok (.iaload, 1) := by decide +kernel
theorem dX4_leastIn_28 : decode cX4_leastIn 28 = .ok (.if_icmp .ge 37, 3) := by decide +kernel
theorem dX4_leastIn_31 : decode cX4_leastIn 31 = .ok (.aload_n 0, 1) := by decide +kernel
theorem dX4_leastIn_32 : decode cX4_leastIn 32 = .ok (.getfield 58, 3) := by decide +kernel
theorem dX4_leastIn_35 : decode cX4_leastIn 35 = .ok (.iload_n 3, 1) := by decide +kernel
theorem dX4_leastIn_36 : decode cX4_leastIn 36 = .ok (.dup2, 1) := by decide +kernel
theorem dX4_leastIn_37 : decode cX4_leastIn 37 = .ok (.iaload, 1) := by decide +kernel
theorem dX4_leastIn_38 : decode cX4_leastIn 38 = .ok (.aload_n 0, 1) := by decide +kernel
theorem dX4_leastIn_39 : decode cX4_leastIn 39 = .ok (.iload_n 1, 1) := by decide +kernel
theorem dX4_leastIn_40 : decode cX4_leastIn 40 = .ok (.iload 4, 2) := by decide +kernel
theorem dX4_leastIn_42 : decode cX4_leastIn 42 = .ok (.iload_n 3, 1) := by decide +kernel
theorem dX4_leastIn_43 : decode cX4_leastIn 43 = .ok (.invokevirtual 133, 3) := by decide +kernel
theorem dX4_leastIn_46 : decode cX4_leastIn 46 = .ok (.ifCond .eq 10, 3) := by decide +kernel
theorem dX4_leastIn_49 : decode cX4_leastIn 49 = .ok (.iconst 1, 1) := by decide +kernel
theorem dX4_leastIn_50 : decode cX4_leastIn 50 = .ok (.iload 4, 2) := by decide +kernel
theorem dX4_leastIn_52 : decode cX4_leastIn 52 = .ok (.ishl, 1) := by decide +kernel
theorem dX4_leastIn_53 : decode cX4_leastIn 53 = .ok (.goto 4, 3) := by decide +kernel
theorem dX4_leastIn_56 : decode cX4_leastIn 56 = .ok (.iconst 0, 1) := by decide +kernel
theorem dX4_leastIn_57 : decode cX4_leastIn 57 = .ok (.ior, 1) := by decide +kernel
theorem dX4_leastIn_58 : decode cX4_leastIn 58 = .ok (.iastore, 1) := by decide +kernel
theorem dX4_leastIn_59 : decode cX4_leastIn 59 = .ok (.iinc 4 1, 3) := by decide +kernel
theorem dX4_leastIn_62 : decode cX4_leastIn 62 = .ok (.goto (-42), 3) := by decide +kernel
theorem dX4_leastIn_65 : decode cX4_leastIn 65 = .ok (.iinc 3 1, 3) := by decide +kernel
theorem dX4_leastIn_68 : decode cX4_leastIn 68 = .ok (.goto (-64), 3) := by decide +kernel
theorem dX4_leastIn_71 : decode cX4_leastIn 71 = .ok (.iconst 1, 1) := by decide +kernel
theorem dX4_leastIn_72 : decode cX4_leastIn 72 = .ok (.istore_n 3, 1) := by decide +kernel
theorem dX4_leastIn_73 : decode cX4_leastIn 73 = .ok (.iload_n 3, 1) := by decide +kernel
theorem dX4_leastIn_74 : decode cX4_leastIn 74 = .ok (.sipush 256, 3) := by decide +kernel
theorem dX4_leastIn_77 : decode cX4_leastIn 77 = .ok (.if_icmp .ge 102, 3) := by decide +kernel
theorem dX4_leastIn_80 : decode cX4_leastIn 80 = .ok (.iconst 0, 1) := by decide +kernel
theorem dX4_leastIn_81 : decode cX4_leastIn 81 = .ok (.istore 4, 2) := by decide +kernel
theorem dX4_leastIn_83 : decode cX4_leastIn 83 = .ok (.iconst 0, 1) := by decide +kernel
theorem dX4_leastIn_84 : decode cX4_leastIn 84 = .ok (.istore 5, 2) := by decide +kernel
theorem dX4_leastIn_86 : decode cX4_leastIn 86 = .ok (.iload 5, 2) := by decide +kernel
theorem dX4_leastIn_88 : decode cX4_leastIn 88 = .ok (.bipush 8, 2) := by decide +kernel
theorem dX4_leastIn_90 : decode cX4_leastIn 90 = .ok (.if_icmp .ge 34, 3) := by decide +kernel
theorem dX4_leastIn_93 : decode cX4_leastIn 93 = .ok (.iload 4, 2) := by decide +kernel
theorem dX4_leastIn_95 : decode cX4_leastIn 95 = .ok (.iload_n 3, 1) := by decide +kernel
theorem dX4_leastIn_96 : decode cX4_leastIn 96 = .ok (.iload 5, 2) := by decide +kernel
theorem dX4_leastIn_98 : decode cX4_leastIn 98 = .ok (.invokestatic 91, 3) := by decide +kernel
theorem dX4_leastIn_101 : decode cX4_leastIn 101 = .ok (.ifCond .eq 13, 3) := by decide +kernel
theorem dX4_leastIn_104 : decode cX4_leastIn 104 = .ok (.aload_n 0, 1) := by decide +kernel
theorem dX4_leastIn_105 : decode cX4_leastIn 105 = .ok (.getfield 58, 3) := by decide +kernel
theorem dX4_leastIn_108 : decode cX4_leastIn 108 = .ok (.iload 5, 2) := by decide +kernel
theorem dX4_leastIn_110 : decode cX4_leastIn 110 = .ok (.iaload, 1) := by decide +kernel
theorem dX4_leastIn_111 : decode cX4_leastIn 111 = .ok (.goto 4, 3) := by decide +kernel
theorem dX4_leastIn_114 : decode cX4_leastIn 114 = .ok (.iconst 0, 1) := by decide +kernel
theorem dX4_leastIn_115 : decode cX4_leastIn 115 = .ok (.ior, 1) := by decide +kernel
theorem dX4_leastIn_116 : decode cX4_leastIn 116 = .ok (.istore 4, 2) := by decide +kernel
theorem dX4_leastIn_118 : decode cX4_leastIn 118 = .ok (.iinc 5 1, 3) := by decide +kernel
theorem dX4_leastIn_121 : decode cX4_leastIn 121 = .ok (.goto (-35), 3) := by decide +kernel
theorem dX4_leastIn_124 : decode cX4_leastIn 124 = .ok (.iload_n 3, 1) := by decide +kernel
theorem dX4_leastIn_125 : decode cX4_leastIn 125 = .ok (.aload_n 0, 1) := by decide +kernel
theorem dX4_leastIn_126 : decode cX4_leastIn 126 = .ok (.getfield 25, 3) := by decide +kernel
theorem dX4_leastIn_129 : decode cX4_leastIn 129 = .ok (.iload_n 1, 1) := by decide +kernel
theorem dX4_leastIn_130 : decode cX4_leastIn 130 = .ok (.iaload, 1) := by decide +kernel
theorem dX4_leastIn_131 : decode cX4_leastIn 131 = .ok (.iconst (-1), 1) := by decide +kernel
theorem dX4_leastIn_132 : decode cX4_leastIn 132 = .ok (.ixor, 1) := by decide +kernel
theorem dX4_leastIn_133 : decode cX4_leastIn 133 = .ok (.iand, 1) := by decide +kernel
theorem dX4_leastIn_134 : decode cX4_leastIn 134 = .ok (.ifCond .ne 23, 3) := by decide +kernel
theorem dX4_leastIn_137 : decode cX4_leastIn 137 = .ok (.iload_n 3, 1) := by decide +kernel
theorem dX4_leastIn_138 : decode cX4_leastIn 138 = .ok (.invokestatic 203, 3) := by decide +kernel
theorem dX4_leastIn_141 : decode cX4_leastIn 141 = .ok (.aload_n 0, 1) := by decide +kernel
theorem dX4_leastIn_142 : decode cX4_leastIn 142 = .ok (.getfield 28, 3) := by decide +kernel
theorem dX4_leastIn_145 : decode cX4_leastIn 145 = .ok (.iconst 5, 1) := by decide +kernel
theorem dX4_leastIn_146 : decode cX4_leastIn 146 = .ok (.iaload, 1) := by decide +kernel
theorem dX4_leastIn_147 : decode cX4_leastIn 147 = .ok (.iload 4, 2) := by decide +kernel
theorem dX4_leastIn_149 : decode cX4_leastIn 149 = .ok (.invokestatic 203, 3) := by decide +kernel
theorem dX4_leastIn_152 : decode cX4_leastIn 152 = .ok (.imul, 1) := by decide +kernel
theorem dX4_leastIn_153 : decode cX4_leastIn 153 = .ok (.isub, 1) := by decide +kernel
theorem dX4_leastIn_154 : decode cX4_leastIn 154 = .ok (.goto 4, 3) := by decide +kernel
theorem dX4_leastIn_157 : decode cX4_leastIn 157 = .ok (.iconst 0, 1) := by decide +kernel
theorem dX4_leastIn_158 : decode cX4_leastIn 158 = .ok (.istore 5, 2) := by decide +kernel
theorem dX4_leastIn_160 : decode cX4_leastIn 160 = .ok (.iload 5, 2) := by decide +kernel
theorem dX4_leastIn_162 : decode cX4_leastIn 162 = .ok (.iload_n 2, 1) := by decide +kernel
theorem dX4_leastIn_163 : decode cX4_leastIn 163 = .ok (.if_icmp .le 8, 3) := by decide +kernel
theorem dX4_leastIn_166 : decode cX4_leastIn 166 = .ok (.iload 5, 2) := by decide +kernel
theorem dX4_leastIn_168 : decode cX4_leastIn 168 = .ok (.goto 4, 3) := by decide +kernel
theorem dX4_leastIn_171 : decode cX4_leastIn 171 = .ok (.iload_n 2, 1) := by decide +kernel
theorem dX4_leastIn_172 : decode cX4_leastIn 172 = .ok (.istore_n 2, 1) := by decide +kernel
theorem dX4_leastIn_173 : decode cX4_leastIn 173 = .ok (.iinc 3 1, 3) := by decide +kernel
theorem dX4_leastIn_176 : decode cX4_leastIn 176 = .ok (.goto (-103), 3) := by decide +kernel
theorem dX4_leastIn_179 : decode cX4_leastIn 179 = .ok (.iload_n 2, 1) := by decide +kernel
theorem dX4_leastIn_180 : decode cX4_leastIn 180 = .ok (.ireturn, 1) := by decide +kernel
set_option maxRecDepth 20000 in
theorem ggX4_leastOf_X4_runsTold : GoodIn wsX4_leastOf wsX4_runsTold := goodIn_r _ [5, 6, 7, 8, 4, 9, 10, 11, 12, 13, 14, 15, 16, 17, 18, 19, 20, 21, 22, 23, 24, 25, 26, 27, 28, 29, 30, 31, 32, 33, 34, 35, 36, 37, 38, 39, 40, 41, 42, 43, 44, 45, 46, 47, 48, 49, 50, 51, 52, 53, 54, 55, 56, 57, 58, 59, 60, 61, 62, 63, 64, 65, 66, 67, 68, 69, 70, 71, 72, 73, 74, 75, 76, 85, 86, 87, 88, 89, 90, 91, 92, 93, 94, 95, 96, 97, 98, 99, 100, 101, 102, 103, 104, 105, 106, 107, 108, 109, 110, 111, 112, 113, 114, 115, 116, 117, 118] (by decide +kernel) (by decide +kernel)
set_option maxRecDepth 20000 in
theorem gX4_leastOf_X4_runsTold : GoodIn wsX4_leastOf (wsV RX4 168 RX4 yX4_runsTold wsX4_runsTold) := goodIn_app (goodIn_of _ (by decide +kernel)) ggX4_leastOf_X4_runsTold
set_option maxRecDepth 20000 in
theorem ggX4_leastOf_X4_leastIn : GoodIn wsX4_leastOf wsX4_leastIn := goodIn_r _ [80, 81, 31, 10, 12, 46, 47, 48, 4, 49, 32, 33, 50, 51, 52, 53, 54, 55, 56, 14, 15, 57, 58, 59, 60, 61, 62, 63, 64, 82, 83, 84, 85, 86, 87, 88, 89, 90, 91, 92, 93, 94, 95, 96, 97, 98, 99, 100, 101, 102, 103, 104, 105, 106, 107, 108, 109, 110, 111, 112, 113, 114, 115, 116, 117, 118] (by decide +kernel) (by decide +kernel)
set_option maxRecDepth 20000 in
theorem gX4_leastOf_X4_leastIn : GoodIn wsX4_leastOf (wsV RX4 216 RX4 yX4_leastIn wsX4_leastIn) := goodIn_app (goodIn_of _ (by decide +kernel)) ggX4_leastOf_X4_leastIn
theorem dX4_leastOf_0 : decode cX4_leastOf 0 = .ok (.aload_n 0, 1) := by decide +kernel
theorem dX4_leastOf_1 : decode cX4_leastOf 1 = .ok (.invokevirtual 168, 3) := by decide +kernel
theorem dX4_leastOf_4 : decode cX4_leastOf 4 = .ok (.iconst 0, 1) := by decide +kernel
theorem dX4_leastOf_5 : decode cX4_leastOf 5 = .ok (.istore_n 1, 1) := by decide +kernel
theorem dX4_leastOf_6 : decode cX4_leastOf 6 = .ok (.iconst 0, 1) := by decide +kernel
theorem dX4_leastOf_7 : decode cX4_leastOf 7 = .ok (.istore_n 2, 1) := by decide +kernel
theorem dX4_leastOf_8 : decode cX4_leastOf 8 = .ok (.iload_n 2, 1) := by decide +kernel
theorem dX4_leastOf_9 : decode cX4_leastOf 9 = .ok (.bipush 16, 2) := by decide +kernel
theorem dX4_leastOf_11 : decode cX4_leastOf 11 = .ok (.if_icmp .ge 17, 3) := by decide +kernel
theorem dX4_leastOf_14 : decode cX4_leastOf 14 = .ok (.iload_n 1, 1) := by decide +kernel
theorem dX4_leastOf_15 : decode cX4_leastOf 15 = .ok (.aload_n 0, 1) := by decide +kernel
theorem dX4_leastOf_16 : decode cX4_leastOf 16 = .ok (.iload_n 2, 1) := by decide +kernel
theorem dX4_leastOf_17 : decode cX4_leastOf 17 = .ok (.invokevirtual 216, 3) := by decide +kernel
theorem dX4_leastOf_20 : decode cX4_leastOf 20 = .ok (.iadd, 1) := by decide +kernel
theorem dX4_leastOf_21 : decode cX4_leastOf 21 = .ok (.istore_n 1, 1) := by decide +kernel
theorem dX4_leastOf_22 : decode cX4_leastOf 22 = .ok (.iinc 2 1, 3) := by decide +kernel
theorem dX4_leastOf_25 : decode cX4_leastOf 25 = .ok (.goto (-17), 3) := by decide +kernel
theorem dX4_leastOf_28 : decode cX4_leastOf 28 = .ok (.iload_n 1, 1) := by decide +kernel
theorem dX4_leastOf_29 : decode cX4_leastOf 29 = .ok (.ireturn, 1) := by decide +kernel
set_option maxRecDepth 20000 in
theorem ggX4_least_X4_leastOf : GoodIn wsX4_least wsX4_leastOf := goodIn_r _ [5, 6, 7, 8, 4, 9, 10, 11, 12, 13, 14, 15, 16, 17, 18, 19, 20, 21, 22, 23, 24, 25, 26, 27, 28, 29, 30, 31, 32, 33, 34, 35, 36, 37, 38, 39, 40, 41, 42, 43, 44, 45, 46, 47, 48, 49, 50, 51, 52, 53, 54, 55, 56, 57, 58, 59, 60, 61, 62, 63, 64, 65, 66, 67, 68, 69, 70, 71, 72, 73, 74, 75, 76, 77, 78, 79, 80, 81, 82, 83, 84, 85, 86, 87, 88, 89, 90, 91, 92, 93, 94, 95, 96, 97, 98, 99, 100, 101, 102, 103, 104, 105, 106, 107, 108, 109, 110, 111, 112, 113, 114, 115, 116, 117, 118, 119, 120, 121, 122] (by decide +kernel) (by decide +kernel)
set_option maxRecDepth 20000 in
theorem gX4_least_X4_leastOf : GoodIn wsX4_least (wsV RX4 219 RX4 yX4_leastOf wsX4_leastOf) := goodIn_app (goodIn_of _ (by decide +kernel)) ggX4_least_X4_leastOf
theorem dX4_least_0 : decode cX4_least 0 = .ok (.aload_n 0, 1) := by decide +kernel
theorem dX4_least_1 : decode cX4_least 1 = .ok (.invokevirtual 219, 3) := by decide +kernel
theorem dX4_least_4 : decode cX4_least 4 = .ok (.ireturn, 1) := by decide +kernel
set_option maxRecDepth 20000 in
theorem ggX4_dropsOf_X4_runsTold : GoodIn wsX4_dropsOf wsX4_runsTold := goodIn_r _ [7, 8, 9, 10, 6, 11, 12, 13, 14, 15, 16, 17, 18, 19, 20, 21, 22, 23, 24, 25, 1, 2, 26, 27, 28, 29, 30, 31, 32, 33, 34, 35, 36, 37, 38, 39, 40, 41, 42, 43, 44, 45, 46, 47, 48, 49, 50, 51, 52, 53, 54, 55, 56, 57, 58, 59, 60, 61, 62, 63, 64, 65, 66, 67, 68, 69, 70, 71, 72, 73, 74, 75, 76, 77, 78, 79, 80, 81, 82, 83, 84, 85, 86, 87, 88, 89, 90, 91, 92, 93, 94, 95, 96, 97, 98, 99, 100, 101, 102, 103, 104, 105, 106, 107, 108, 109, 110] (by decide +kernel) (by decide +kernel)
set_option maxRecDepth 20000 in
theorem gX4_dropsOf_X4_runsTold : GoodIn wsX4_dropsOf (wsV RX4 168 RX4 yX4_runsTold wsX4_runsTold) := goodIn_app (goodIn_of _ (by decide +kernel)) ggX4_dropsOf_X4_runsTold
theorem dX4_dropsOf_0 : decode cX4_dropsOf 0 = .ok (.aload_n 0, 1) := by decide +kernel
theorem dX4_dropsOf_1 : decode cX4_dropsOf 1 = .ok (.invokevirtual 168, 3) := by decide +kernel
theorem dX4_dropsOf_4 : decode cX4_dropsOf 4 = .ok (.iconst 0, 1) := by decide +kernel
theorem dX4_dropsOf_5 : decode cX4_dropsOf 5 = .ok (.istore_n 2, 1) := by decide +kernel
theorem dX4_dropsOf_6 : decode cX4_dropsOf 6 = .ok (.iconst 0, 1) := by decide +kernel
theorem dX4_dropsOf_7 : decode cX4_dropsOf 7 = .ok (.istore_n 3, 1) := by decide +kernel
theorem dX4_dropsOf_8 : decode cX4_dropsOf 8 = .ok (.iload_n 3, 1) := by decide +kernel
theorem dX4_dropsOf_9 : decode cX4_dropsOf 9 = .ok (.bipush 12, 2) := by decide +kernel
theorem dX4_dropsOf_11 : decode cX4_dropsOf 11 = .ok (.if_icmp .ge 35, 3) := by decide +kernel
theorem dX4_dropsOf_14 : decode cX4_dropsOf 14 = .ok (.iload_n 2, 1) := by decide +kernel
theorem dX4_dropsOf_15 : decode cX4_dropsOf 15 = .ok (.aload_n 0, 1) := by decide +kernel
theorem dX4_dropsOf_16 : decode cX4_dropsOf 16 = .ok (.getfield 52, 3) := by decide +kernel
theorem dX4_dropsOf_19 : decode cX4_dropsOf 19 = .ok (.bipush 8, 2) := by decide +kernel
theorem dX4_dropsOf_21 : decode cX4_dropsOf 21 = .ok (.iload_n 3, 1) := by decide +kernel
theorem dX4_dropsOf_22 : decode cX4_dropsOf 22 = .ok (.imul, 1) := by decide +kernel
theorem dX4_dropsOf_23 : decode cX4_dropsOf 23 = .ok (.iload_n 1, 1) := by decide +kernel
theorem dX4_dropsOf_24 : decode cX4_dropsOf 24 = .ok (.iadd, 1) := by decide +kernel
theorem dX4_dropsOf_25 : decode cX4_dropsOf 25 = .ok (.iaload, 1) := by decide +kernel
theorem dX4_dropsOf_26 : decode cX4_dropsOf 26 = .ok (.aload_n 0, 1) := by decide +kernel
theorem dX4_dropsOf_27 : decode cX4_dropsOf 27 = .ok (.getfield 55, 3) := by decide +kernel
theorem dX4_dropsOf_30 : decode cX4_dropsOf 30 = .ok (.bipush 8, 2) := by decide +kernel
theorem dX4_dropsOf_32 : decode cX4_dropsOf 32 = .ok (.iload_n 3, 1) := by decide +kernel
theorem dX4_dropsOf_33 : decode cX4_dropsOf 33 = .ok (.imul, 1) := by decide +kernel
theorem dX4_dropsOf_34 : decode cX4_dropsOf 34 = .ok (.iload_n 1, 1) := by decide +kernel
theorem dX4_dropsOf_35 : decode cX4_dropsOf 35 = .ok (.iadd, 1) := by decide +kernel
theorem dX4_dropsOf_36 : decode cX4_dropsOf 36 = .ok (.iaload, 1) := by decide +kernel
theorem dX4_dropsOf_37 : decode cX4_dropsOf 37 = .ok (.iadd, 1) := by decide +kernel
theorem dX4_dropsOf_38 : decode cX4_dropsOf 38 = .ok (.iadd, 1) := by decide +kernel
theorem dX4_dropsOf_39 : decode cX4_dropsOf 39 = .ok (.istore_n 2, 1) := by decide +kernel
theorem dX4_dropsOf_40 : decode cX4_dropsOf 40 = .ok (.iinc 3 1, 3) := by decide +kernel
theorem dX4_dropsOf_43 : decode cX4_dropsOf 43 = .ok (.goto (-35), 3) := by decide +kernel
theorem dX4_dropsOf_46 : decode cX4_dropsOf 46 = .ok (.iload_n 2, 1) := by decide +kernel
theorem dX4_dropsOf_47 : decode cX4_dropsOf 47 = .ok (.ireturn, 1) := by decide +kernel
set_option maxRecDepth 20000 in
theorem ggX4_drops_X4_isNozzle : GoodIn wsX4_drops wsX4_isNozzle := goodIn_r _ [5, 6, 7, 8, 4, 9, 85, 86, 87, 88, 89, 90, 91, 92, 93, 94, 95, 96, 97, 98, 99, 100, 101, 102, 103, 104, 105, 106, 107, 108, 109, 110, 111, 112, 113, 114, 115, 116, 117, 118] (by decide +kernel) (by decide +kernel)
set_option maxRecDepth 20000 in
theorem gX4_drops_X4_isNozzle : GoodIn wsX4_drops (wsV RX4 194 RX4 yX4_isNozzle wsX4_isNozzle) := goodIn_app (goodIn_of _ (by decide +kernel)) ggX4_drops_X4_isNozzle
set_option maxRecDepth 20000 in
theorem ggX4_drops_X4_dropsOf : GoodIn wsX4_drops wsX4_dropsOf := goodIn_r _ [13, 14, 15, 16, 17, 18, 4, 19, 20, 21, 22, 23, 24, 25, 26, 6, 27, 28, 29, 30, 31, 32, 33, 34, 35, 36, 37, 38, 39, 40, 41, 42, 43, 44, 45, 46, 47, 48, 7, 8, 9, 49, 50, 51, 52, 53, 54, 55, 56, 57, 58, 59, 60, 61, 62, 63, 64, 65, 66, 67, 68, 69, 70, 71, 72, 73, 74, 75, 76, 77, 78, 79, 80, 81, 82, 83, 84, 85, 86, 87, 88, 89, 90, 91, 92, 93, 94, 95, 96, 97, 98, 99, 100, 101, 102, 103, 104, 105, 106, 107, 108, 109, 110, 111, 112, 113, 114, 115, 116, 117, 118] (by decide +kernel) (by decide +kernel)
set_option maxRecDepth 20000 in
theorem gX4_drops_X4_dropsOf : GoodIn wsX4_drops (wsV RX4 222 RX4 yX4_dropsOf wsX4_dropsOf) := goodIn_app (goodIn_of _ (by decide +kernel)) ggX4_drops_X4_dropsOf
theorem dX4_drops_0 : decode cX4_drops 0 = .ok (.aload_n 0, 1) := by decide +kernel
theorem dX4_drops_1 : decode cX4_drops 1 = .ok (.iload_n 1, 1) := by decide +kernel
theorem dX4_drops_2 : decode cX4_drops 2 = .ok (.invokevirtual 194, 3) := by decide +kernel
theorem dX4_drops_5 : decode cX4_drops 5 = .ok (.ifCond .eq 11, 3) := by decide +kernel
theorem dX4_drops_8 : decode cX4_drops 8 = .ok (.aload_n 0, 1) := by decide +kernel
theorem dX4_drops_9 : decode cX4_drops 9 = .ok (.iload_n 1, 1) := by decide +kernel
theorem dX4_drops_10 : decode cX4_drops 10 = .ok (.invokevirtual 222, 3) := by decide +kernel
theorem dX4_drops_13 : decode cX4_drops 13 = .ok (.goto 5, 3) := by decide +kernel
theorem dX4_drops_16 : decode cX4_drops 16 = .ok (.bipush (-2), 2) := by decide +kernel
theorem dX4_drops_18 : decode cX4_drops 18 = .ok (.ireturn, 1) := by decide +kernel
set_option maxRecDepth 20000 in
theorem ggX4_evenOf_X4_runsTold : GoodIn wsX4_evenOf wsX4_runsTold := goodIn_r _ [6, 7, 8, 9, 5, 10, 11, 12, 13, 14, 15, 16, 17, 18, 19, 20, 21, 22, 23, 24, 25, 26, 27, 28, 29, 30, 31, 1, 32, 33, 34, 35, 36, 37, 38, 39, 40, 41, 42, 43, 44, 45, 46, 47, 48, 49, 50, 51, 52, 53, 54, 55, 56, 57, 58, 59, 60, 61, 62, 63, 64, 65, 66, 67, 68, 69, 70, 71, 72, 73, 74, 75, 76, 77, 78, 79, 80, 81, 82, 83, 84, 85, 86, 87, 88, 89, 90, 91, 92, 93, 94, 95, 96, 97, 98, 99, 100, 101, 102, 103, 104, 105, 106, 107, 108, 109, 110] (by decide +kernel) (by decide +kernel)
set_option maxRecDepth 20000 in
theorem gX4_evenOf_X4_runsTold : GoodIn wsX4_evenOf (wsV RX4 168 RX4 yX4_runsTold wsX4_runsTold) := goodIn_app (goodIn_of _ (by decide +kernel)) ggX4_evenOf_X4_runsTold
theorem dX4_evenOf_0 : decode cX4_evenOf 0 = .ok (.aload_n 0, 1) := by decide +kernel
theorem dX4_evenOf_1 : decode cX4_evenOf 1 = .ok (.invokevirtual 168, 3) := by decide +kernel
theorem dX4_evenOf_4 : decode cX4_evenOf 4 = .ok (.bipush 99, 2) := by decide +kernel
theorem dX4_evenOf_6 : decode cX4_evenOf 6 = .ok (.istore_n 2, 1) := by decide +kernel
theorem dX4_evenOf_7 : decode cX4_evenOf 7 = .ok (.iconst 0, 1) := by decide +kernel
theorem dX4_evenOf_8 : decode cX4_evenOf 8 = .ok (.istore_n 3, 1) := by decide +kernel
theorem dX4_evenOf_9 : decode cX4_evenOf 9 = .ok (.iconst 0, 1) := by decide +kernel
theorem dX4_evenOf_10 : decode cX4_evenOf 10 = .ok (.istore 4, 2) := by decide +kernel
theorem dX4_evenOf_12 : decode cX4_evenOf 12 = .ok (.iconst 0, 1) := by decide +kernel
theorem dX4_evenOf_13 : decode cX4_evenOf 13 = .ok (.istore 5, 2) := by decide +kernel
theorem dX4_evenOf_15 : decode cX4_evenOf 15 = .ok (.iload 5, 2) := by decide +kernel
theorem dX4_evenOf_17 : decode cX4_evenOf 17 = .ok (.bipush 16, 2) := by decide +kernel
theorem dX4_evenOf_19 : decode cX4_evenOf 19 = .ok (.if_icmp .ge 76, 3) := by decide +kernel
theorem dX4_evenOf_22 : decode cX4_evenOf 22 = .ok (.aload_n 0, 1) := by decide +kernel
theorem dX4_evenOf_23 : decode cX4_evenOf 23 = .ok (.getfield 31, 3) := by decide +kernel
theorem dX4_evenOf_26 : decode cX4_evenOf 26 = .ok (.iload 5, 2) := by decide +kernel
theorem dX4_evenOf_28 : decode cX4_evenOf 28 = .ok (.iaload, 1) := by decide +kernel
theorem dX4_evenOf_29 : decode cX4_evenOf 29 = .ok (.iload_n 2, 1) := by decide +kernel
theorem dX4_evenOf_30 : decode cX4_evenOf 30 = .ok (.if_icmp .ge 13, 3) := by decide +kernel
theorem dX4_evenOf_33 : decode cX4_evenOf 33 = .ok (.aload_n 0, 1) := by decide +kernel
theorem dX4_evenOf_34 : decode cX4_evenOf 34 = .ok (.getfield 31, 3) := by decide +kernel
theorem dX4_evenOf_37 : decode cX4_evenOf 37 = .ok (.iload 5, 2) := by decide +kernel
theorem dX4_evenOf_39 : decode cX4_evenOf 39 = .ok (.iaload, 1) := by decide +kernel
theorem dX4_evenOf_40 : decode cX4_evenOf 40 = .ok (.goto 4, 3) := by decide +kernel
theorem dX4_evenOf_43 : decode cX4_evenOf 43 = .ok (.iload_n 2, 1) := by decide +kernel
theorem dX4_evenOf_44 : decode cX4_evenOf 44 = .ok (.istore_n 2, 1) := by decide +kernel
theorem dX4_evenOf_45 : decode cX4_evenOf 45 = .ok (.aload_n 0, 1) := by decide +kernel
theorem dX4_evenOf_46 : decode cX4_evenOf 46 = .ok (.getfield 31, 3) := by decide +kernel
theorem dX4_evenOf_49 : decode cX4_evenOf 49 = .ok (.iload 5, 2) := by decide +kernel
theorem dX4_evenOf_51 : decode cX4_evenOf 51 = .ok (.iaload, 1) := by decide +kernel
theorem dX4_evenOf_52 : decode cX4_evenOf 52 = .ok (.iload_n 3, 1) := by decide +kernel
theorem dX4_evenOf_53 : decode cX4_evenOf 53 = .ok (.if_icmp .le 13, 3) := by decide +kernel
theorem dX4_evenOf_56 : decode cX4_evenOf 56 = .ok (.aload_n 0, 1) := by decide +kernel
theorem dX4_evenOf_57 : decode cX4_evenOf 57 = .ok (.getfield 31, 3) := by decide +kernel
theorem dX4_evenOf_60 : decode cX4_evenOf 60 = .ok (.iload 5, 2) := by decide +kernel
theorem dX4_evenOf_62 : decode cX4_evenOf 62 = .ok (.iaload, 1) := by decide +kernel
theorem dX4_evenOf_63 : decode cX4_evenOf 63 = .ok (.goto 4, 3) := by decide +kernel
theorem dX4_evenOf_66 : decode cX4_evenOf 66 = .ok (.iload_n 3, 1) := by decide +kernel
theorem dX4_evenOf_67 : decode cX4_evenOf 67 = .ok (.istore_n 3, 1) := by decide +kernel
theorem dX4_evenOf_68 : decode cX4_evenOf 68 = .ok (.iload 4, 2) := by decide +kernel
theorem dX4_evenOf_70 : decode cX4_evenOf 70 = .ok (.aload_n 0, 1) := by decide +kernel
theorem dX4_evenOf_71 : decode cX4_evenOf 71 = .ok (.getfield 31, 3) := by decide +kernel
theorem dX4_evenOf_74 : decode cX4_evenOf 74 = .ok (.iload 5, 2) := by decide +kernel
theorem dX4_evenOf_76 : decode cX4_evenOf 76 = .ok (.iaload, 1) := by decide +kernel
theorem dX4_evenOf_77 : decode cX4_evenOf 77 = .ok (.iconst 1, 1) := by decide +kernel
theorem dX4_evenOf_78 : decode cX4_evenOf 78 = .ok (.if_icmp .ne 7, 3) := by decide +kernel
theorem dX4_evenOf_81 : decode cX4_evenOf 81 = .ok (.iconst 1, 1) := by decide +kernel
theorem dX4_evenOf_82 : decode cX4_evenOf 82 = .ok (.goto 4, 3) := by decide +kernel
theorem dX4_evenOf_85 : decode cX4_evenOf 85 = .ok (.iconst 0, 1) := by decide +kernel
theorem dX4_evenOf_86 : decode cX4_evenOf 86 = .ok (.iadd, 1) := by decide +kernel
theorem dX4_evenOf_87 : decode cX4_evenOf 87 = .ok (.istore 4, 2) := by decide +kernel
theorem dX4_evenOf_89 : decode cX4_evenOf 89 = .ok (.iinc 5 1, 3) := by decide +kernel
theorem dX4_evenOf_92 : decode cX4_evenOf 92 = .ok (.goto (-77), 3) := by decide +kernel
theorem dX4_evenOf_95 : decode cX4_evenOf 95 = .ok (.iload_n 1, 1) := by decide +kernel
theorem dX4_evenOf_96 : decode cX4_evenOf 96 = .ok (.ifCond .ne 7, 3) := by decide +kernel
theorem dX4_evenOf_99 : decode cX4_evenOf 99 = .ok (.iload_n 2, 1) := by decide +kernel
theorem dX4_evenOf_100 : decode cX4_evenOf 100 = .ok (.goto 14, 3) := by decide +kernel
theorem dX4_evenOf_103 : decode cX4_evenOf 103 = .ok (.iload_n 1, 1) := by decide +kernel
theorem dX4_evenOf_104 : decode cX4_evenOf 104 = .ok (.iconst 1, 1) := by decide +kernel
theorem dX4_evenOf_105 : decode cX4_evenOf 105 = .ok (.if_icmp .ne 7, 3) := by decide +kernel
theorem dX4_evenOf_108 : decode cX4_evenOf 108 = .ok (.iload_n 3, 1) := by decide +kernel
theorem dX4_evenOf_109 : decode cX4_evenOf 109 = .ok (.goto 5, 3) := by decide +kernel
theorem dX4_evenOf_112 : decode cX4_evenOf 112 = .ok (.iload 4, 2) := by decide +kernel
theorem dX4_evenOf_114 : decode cX4_evenOf 114 = .ok (.ireturn, 1) := by decide +kernel
set_option maxRecDepth 20000 in
theorem ggX4_even_X4_isThree : GoodIn wsX4_even wsX4_isThree := goodIn_r _ [4, 5, 6, 3, 7] (by decide +kernel) (by decide +kernel)
set_option maxRecDepth 20000 in
theorem gX4_even_X4_isThree : GoodIn wsX4_even (va_wsS RX4 197 yX4_isThree wsX4_isThree) := goodIn_app (goodIn_of _ (by decide +kernel)) ggX4_even_X4_isThree
set_option maxRecDepth 20000 in
theorem ggX4_even_X4_evenOf : GoodIn wsX4_even wsX4_evenOf := goodIn_r _ [11, 12, 13, 14, 15, 3, 16, 17, 18, 19, 20, 21, 22, 23, 24, 25, 26, 27, 28, 29, 30, 31, 32, 33, 34, 35, 36, 37, 38, 39, 40, 41, 42, 43, 44, 45, 46, 47, 5, 6, 7, 48, 49, 50, 51, 52, 53, 54, 55, 56, 57, 58, 59, 60, 61, 62, 63, 64, 65, 66, 67, 68, 69, 70, 71, 72, 73, 74, 75, 76, 77, 78, 79, 80, 81, 82, 83, 84, 85, 86, 87, 88, 89, 90, 91, 92, 93, 94, 95, 96, 97, 98, 99, 100, 101, 102, 103, 104, 105, 106, 107, 108, 109, 110, 111, 112, 113, 114, 115, 116, 117] (by decide +kernel) (by decide +kernel)
set_option maxRecDepth 20000 in
theorem gX4_even_X4_evenOf : GoodIn wsX4_even (wsV RX4 225 RX4 yX4_evenOf wsX4_evenOf) := goodIn_app (goodIn_of _ (by decide +kernel)) ggX4_even_X4_evenOf
theorem dX4_even_0 : decode cX4_even 0 = .ok (.iload_n 1, 1) := by decide +kernel
theorem dX4_even_1 : decode cX4_even 1 = .ok (.invokestatic 197, 3) := by decide +kernel
theorem dX4_even_4 : decode cX4_even 4 = .ok (.ifCond .eq 11, 3) := by decide +kernel
theorem dX4_even_7 : decode cX4_even 7 = .ok (.aload_n 0, 1) := by decide +kernel
theorem dX4_even_8 : decode cX4_even 8 = .ok (.iload_n 1, 1) := by decide +kernel
theorem dX4_even_9 : decode cX4_even 9 = .ok (.invokevirtual 225, 3) := by decide +kernel
theorem dX4_even_12 : decode cX4_even 12 = .ok (.goto 5, 3) := by decide +kernel
theorem dX4_even_15 : decode cX4_even 15 = .ok (.bipush (-2), 2) := by decide +kernel
theorem dX4_even_17 : decode cX4_even 17 = .ok (.ireturn, 1) := by decide +kernel
set_option maxRecDepth 20000 in
theorem ggX4_openOf_X4_runsTold : GoodIn wsX4_openOf wsX4_runsTold := goodIn_r _ [6, 7, 8, 9, 5, 10, 11, 12, 1, 13, 14, 15, 16, 17, 18, 19, 20, 21, 22, 23, 24, 25, 26, 27, 28, 29, 30, 31, 32, 33, 34, 35, 36, 37, 38, 39, 40, 41, 42, 43, 44, 45, 46, 47, 48, 49, 50, 51, 52, 53, 54, 55, 56, 57, 58, 59, 60, 61, 62, 63, 64, 65, 66, 67, 68, 69, 70, 71, 72, 73, 74, 75, 76, 81, 82, 83, 84, 85, 86, 87, 88, 89, 90, 91, 92, 93, 94, 95, 96, 97, 98, 99, 100, 101, 102, 103, 104, 105, 106, 107, 108, 109, 110, 111, 112, 113, 114] (by decide +kernel) (by decide +kernel)
set_option maxRecDepth 20000 in
theorem gX4_openOf_X4_runsTold : GoodIn wsX4_openOf (wsV RX4 168 RX4 yX4_runsTold wsX4_runsTold) := goodIn_app (goodIn_of _ (by decide +kernel)) ggX4_openOf_X4_runsTold
set_option maxRecDepth 20000 in
theorem ggX4_openOf_X4_passNow : GoodIn wsX4_openOf wsX4_passNow := goodIn_r _ [80, 31, 34, 32, 81, 82, 83, 84, 85, 86, 87, 88, 89, 90, 91, 92, 93, 94, 95, 96, 97, 98, 99, 100, 101, 102, 103, 104, 105, 106, 107, 108, 109, 110, 111, 112, 113, 114] (by decide +kernel) (by decide +kernel)
set_option maxRecDepth 20000 in
theorem gX4_openOf_X4_passNow : GoodIn wsX4_openOf (wsV RX4 187 RX4 yX4_passNow wsX4_passNow) := goodIn_app (goodIn_of _ (by decide +kernel)) ggX4_openOf_X4_passNow
theorem dX4_openOf_0 : decode cX4_openOf 0 = .ok (.aload_n 0, 1) := by decide +kernel
theorem dX4_openOf_1 : decode cX4_openOf 1 = .ok (.invokevirtual 168, 3) := by decide +kernel
theorem dX4_openOf_4 : decode cX4_openOf 4 = .ok (.iconst 0, 1) := by decide +kernel
theorem dX4_openOf_5 : decode cX4_openOf 5 = .ok (.istore_n 1, 1) := by decide +kernel
theorem dX4_openOf_6 : decode cX4_openOf 6 = .ok (.iconst 0, 1) := by decide +kernel
theorem dX4_openOf_7 : decode cX4_openOf 7 = .ok (.istore_n 2, 1) := by decide +kernel
theorem dX4_openOf_8 : decode cX4_openOf 8 = .ok (.iload_n 2, 1) := by decide +kernel
theorem dX4_openOf_9 : decode cX4_openOf 9 = .ok (.aload_n 0, 1) := by decide +kernel
theorem dX4_openOf_10 : decode cX4_openOf 10 = .ok (.getfield 28, 3) := by decide +kernel
theorem dX4_openOf_13 : decode cX4_openOf 13 = .ok (.iconst 3, 1) := by decide +kernel
theorem dX4_openOf_14 : decode cX4_openOf 14 = .ok (.iaload, 1) := by decide +kernel
theorem dX4_openOf_15 : decode cX4_openOf 15 = .ok (.if_icmp .ge 78, 3) := by decide +kernel
theorem dX4_openOf_18 : decode cX4_openOf 18 = .ok (.iconst 0, 1) := by decide +kernel
theorem dX4_openOf_19 : decode cX4_openOf 19 = .ok (.istore_n 3, 1) := by decide +kernel
theorem dX4_openOf_20 : decode cX4_openOf 20 = .ok (.iconst 0, 1) := by decide +kernel
theorem dX4_openOf_21 : decode cX4_openOf 21 = .ok (.istore 4, 2) := by decide +kernel
theorem dX4_openOf_23 : decode cX4_openOf 23 = .ok (.iload 4, 2) := by decide +kernel
theorem dX4_openOf_25 : decode cX4_openOf 25 = .ok (.bipush 16, 2) := by decide +kernel
theorem dX4_openOf_27 : decode cX4_openOf 27 = .ok (.if_icmp .ge 49, 3) := by decide +kernel
theorem dX4_openOf_30 : decode cX4_openOf 30 = .ok (.aload_n 0, 1) := by decide +kernel
theorem dX4_openOf_31 : decode cX4_openOf 31 = .ok (.iload 4, 2) := by decide +kernel
theorem dX4_openOf_33 : decode cX4_openOf 33 = .ok (.iconst 0, 1) := by decide +kernel
theorem dX4_openOf_34 : decode cX4_openOf 34 = .ok (.invokevirtual 187, 3) := by decide +kernel
theorem dX4_openOf_37 : decode cX4_openOf 37 = .ok (.istore 5, 2) := by decide +kernel
theorem dX4_openOf_39 : decode cX4_openOf 39 = .ok (.iload_n 3, 1) := by decide +kernel
theorem dX4_openOf_40 : decode cX4_openOf 40 = .ok (.iload 5, 2) := by decide +kernel
theorem dX4_openOf_42 : decode cX4_openOf 42 = .ok (.iconst (-1), 1) := by decide +kernel
theorem dX4_openOf_43 : decode cX4_openOf 43 = .ok (.if_icmp .eq 24, 3) := by decide +kernel
theorem dX4_openOf_46 : decode cX4_openOf 46 = .ok (.iload 5, 2) := by decide +kernel
theorem dX4_openOf_48 : decode cX4_openOf 48 = .ok (.iload_n 2, 1) := by decide +kernel
theorem dX4_openOf_49 : decode cX4_openOf 49 = .ok (.if_icmp .gt 18, 3) := by decide +kernel
theorem dX4_openOf_52 : decode cX4_openOf 52 = .ok (.aload_n 0, 1) := by decide +kernel
theorem dX4_openOf_53 : decode cX4_openOf 53 = .ok (.iload 4, 2) := by decide +kernel
theorem dX4_openOf_55 : decode cX4_openOf 55 = .ok (.iconst 1, 1) := by decide +kernel
theorem dX4_openOf_56 : decode cX4_openOf 56 = .ok (.invokevirtual 187, 3) := by decide +kernel
theorem dX4_openOf_59 : decode cX4_openOf 59 = .ok (.iload_n 2, 1) := by decide +kernel
theorem dX4_openOf_60 : decode cX4_openOf 60 = .ok (.if_icmp .lt 7, 3) := by decide +kernel
theorem dX4_openOf_63 : decode cX4_openOf 63 = .ok (.iconst 1, 1) := by decide +kernel
theorem dX4_openOf_64 : decode cX4_openOf 64 = .ok (.goto 4, 3) := by decide +kernel
theorem dX4_openOf_67 : decode cX4_openOf 67 = .ok (.iconst 0, 1) := by decide +kernel
theorem dX4_openOf_68 : decode cX4_openOf 68 = .ok (.iadd, 1) := by decide +kernel
theorem dX4_openOf_69 : decode cX4_openOf 69 = .ok (.istore_n 3, 1) := by decide +kernel
theorem dX4_openOf_70 : decode cX4_openOf 70 = .ok (.iinc 4 1, 3) := by decide +kernel
theorem dX4_openOf_73 : decode cX4_openOf 73 = .ok (.goto (-50), 3) := by decide +kernel
theorem dX4_openOf_76 : decode cX4_openOf 76 = .ok (.iload_n 3, 1) := by decide +kernel
theorem dX4_openOf_77 : decode cX4_openOf 77 = .ok (.iload_n 1, 1) := by decide +kernel
theorem dX4_openOf_78 : decode cX4_openOf 78 = .ok (.if_icmp .le 7, 3) := by decide +kernel
theorem dX4_openOf_81 : decode cX4_openOf 81 = .ok (.iload_n 3, 1) := by decide +kernel
theorem dX4_openOf_82 : decode cX4_openOf 82 = .ok (.goto 4, 3) := by decide +kernel
theorem dX4_openOf_85 : decode cX4_openOf 85 = .ok (.iload_n 1, 1) := by decide +kernel
theorem dX4_openOf_86 : decode cX4_openOf 86 = .ok (.istore_n 1, 1) := by decide +kernel
theorem dX4_openOf_87 : decode cX4_openOf 87 = .ok (.iinc 2 1, 3) := by decide +kernel
theorem dX4_openOf_90 : decode cX4_openOf 90 = .ok (.goto (-82), 3) := by decide +kernel
theorem dX4_openOf_93 : decode cX4_openOf 93 = .ok (.iload_n 1, 1) := by decide +kernel
theorem dX4_openOf_94 : decode cX4_openOf 94 = .ok (.ireturn, 1) := by decide +kernel
set_option maxRecDepth 20000 in
theorem ggX4_open_X4_openOf : GoodIn wsX4_open wsX4_openOf := goodIn_r _ [5, 6, 7, 8, 9, 4, 10, 11, 12, 13, 14, 15, 16, 17, 18, 19, 20, 21, 22, 23, 24, 25, 26, 27, 28, 29, 30, 31, 32, 33, 34, 35, 36, 37, 38, 39, 40, 41, 42, 43, 44, 45, 46, 47, 48, 49, 50, 51, 52, 53, 54, 55, 56, 57, 58, 59, 60, 61, 62, 63, 64, 65, 66, 67, 68, 69, 70, 71, 72, 73, 74, 75, 76, 77, 78, 79, 80, 81, 82, 83, 84, 85, 86, 87, 88, 89, 90, 91, 92, 93, 94, 95, 96, 97, 98, 99, 100, 101, 102, 103, 104, 105, 106, 107, 108, 109, 110, 111, 112, 113, 114, 115, 116, 117, 118] (by decide +kernel) (by decide +kernel)
set_option maxRecDepth 20000 in
theorem gX4_open_X4_openOf : GoodIn wsX4_open (wsV RX4 228 RX4 yX4_openOf wsX4_openOf) := goodIn_app (goodIn_of _ (by decide +kernel)) ggX4_open_X4_openOf
theorem dX4_open_0 : decode cX4_open 0 = .ok (.aload_n 0, 1) := by decide +kernel
theorem dX4_open_1 : decode cX4_open 1 = .ok (.invokevirtual 228, 3) := by decide +kernel
theorem dX4_open_4 : decode cX4_open 4 = .ok (.ireturn, 1) := by decide +kernel
set_option maxRecDepth 20000 in
theorem ggX4_betterOf_X4_asTold : GoodIn wsX4_betterOf wsX4_asTold := goodIn_r _ [9, 10, 11, 2, 12, 13, 14, 74, 75, 76, 77, 78, 79, 80, 81, 82, 83, 84, 85, 86, 87, 88, 89, 90, 91, 92, 93, 94, 95, 96, 97, 98, 99, 100, 101, 102, 103, 104, 105, 106, 107] (by decide +kernel) (by decide +kernel)
set_option maxRecDepth 20000 in
theorem gX4_betterOf_X4_asTold : GoodIn wsX4_betterOf (wsV RX4 162 RX4 yX4_asTold wsX4_asTold) := goodIn_app (goodIn_of _ (by decide +kernel)) ggX4_betterOf_X4_asTold
set_option maxRecDepth 20000 in
theorem ggX4_betterOf_X4_runs : GoodIn wsX4_betterOf wsX4_runs := goodIn_r _ [18, 3, 4, 19, 20, 21, 22, 10, 23, 24, 25, 26, 8, 27, 28, 2, 29, 30, 31, 32, 33, 34, 35, 36, 37, 38, 39, 40, 41, 42, 43, 44, 45, 46, 47, 48, 49, 50, 51, 52, 53, 13, 14, 54, 55, 56, 57, 58, 59, 60, 61, 62, 63, 64, 65, 66, 67, 68, 69, 70, 71, 72, 73, 74, 75, 76, 77, 78, 79, 80, 81, 82, 83, 84, 85, 86, 87, 88, 89, 90, 91, 92, 93, 94, 95, 96, 97, 98, 99, 100, 101, 102, 103, 104, 105, 106, 107] (by decide +kernel) (by decide +kernel)
set_option maxRecDepth 20000 in
theorem gX4_betterOf_X4_runs : GoodIn wsX4_betterOf (wsV RX4 165 RX4 yX4_runs wsX4_runs) := goodIn_app (goodIn_of _ (by decide +kernel)) ggX4_betterOf_X4_runs
theorem dX4_betterOf_0 : decode cX4_betterOf 0 = .ok (.aload_n 0, 1) := by decide +kernel
theorem dX4_betterOf_1 : decode cX4_betterOf 1 = .ok (.invokevirtual 162, 3) := by decide +kernel
theorem dX4_betterOf_4 : decode cX4_betterOf 4 = .ok (.iload_n 1, 1) := by decide +kernel
theorem dX4_betterOf_5 : decode cX4_betterOf 5 = .ok (.ifCond .ne 7, 3) := by decide +kernel
theorem dX4_betterOf_8 : decode cX4_betterOf 8 = .ok (.iconst 2, 1) := by decide +kernel
theorem dX4_betterOf_9 : decode cX4_betterOf 9 = .ok (.goto 14, 3) := by decide +kernel
theorem dX4_betterOf_12 : decode cX4_betterOf 12 = .ok (.iload_n 1, 1) := by decide +kernel
theorem dX4_betterOf_13 : decode cX4_betterOf 13 = .ok (.iconst 1, 1) := by decide +kernel
theorem dX4_betterOf_14 : decode cX4_betterOf 14 = .ok (.if_icmp .ne 8, 3) := by decide +kernel
theorem dX4_betterOf_17 : decode cX4_betterOf 17 = .ok (.bipush 8, 2) := by decide +kernel
theorem dX4_betterOf_19 : decode cX4_betterOf 19 = .ok (.goto 4, 3) := by decide +kernel
theorem dX4_betterOf_22 : decode cX4_betterOf 22 = .ok (.iconst 4, 1) := by decide +kernel
theorem dX4_betterOf_23 : decode cX4_betterOf 23 = .ok (.istore_n 3, 1) := by decide +kernel
theorem dX4_betterOf_24 : decode cX4_betterOf 24 = .ok (.iload_n 1, 1) := by decide +kernel
theorem dX4_betterOf_25 : decode cX4_betterOf 25 = .ok (.ifCond .ne 7, 3) := by decide +kernel
theorem dX4_betterOf_28 : decode cX4_betterOf 28 = .ok (.iconst 1, 1) := by decide +kernel
theorem dX4_betterOf_29 : decode cX4_betterOf 29 = .ok (.goto 14, 3) := by decide +kernel
theorem dX4_betterOf_32 : decode cX4_betterOf 32 = .ok (.iload_n 1, 1) := by decide +kernel
theorem dX4_betterOf_33 : decode cX4_betterOf 33 = .ok (.iconst 1, 1) := by decide +kernel
theorem dX4_betterOf_34 : decode cX4_betterOf 34 = .ok (.if_icmp .ne 7, 3) := by decide +kernel
theorem dX4_betterOf_37 : decode cX4_betterOf 37 = .ok (.iconst 0, 1) := by decide +kernel
theorem dX4_betterOf_38 : decode cX4_betterOf 38 = .ok (.goto 5, 3) := by decide +kernel
theorem dX4_betterOf_41 : decode cX4_betterOf 41 = .ok (.bipush (-20), 2) := by decide +kernel
theorem dX4_betterOf_43 : decode cX4_betterOf 43 = .ok (.istore 4, 2) := by decide +kernel
theorem dX4_betterOf_45 : decode cX4_betterOf 45 = .ok (.iload_n 1, 1) := by decide +kernel
theorem dX4_betterOf_46 : decode cX4_betterOf 46 = .ok (.ifCond .ne 8, 3) := by decide +kernel
theorem dX4_betterOf_49 : decode cX4_betterOf 49 = .ok (.bipush 12, 2) := by decide +kernel
theorem dX4_betterOf_51 : decode cX4_betterOf 51 = .ok (.goto 13, 3) := by decide +kernel
theorem dX4_betterOf_54 : decode cX4_betterOf 54 = .ok (.iload_n 1, 1) := by decide +kernel
theorem dX4_betterOf_55 : decode cX4_betterOf 55 = .ok (.iconst 1, 1) := by decide +kernel
theorem dX4_betterOf_56 : decode cX4_betterOf 56 = .ok (.if_icmp .ne 7, 3) := by decide +kernel
theorem dX4_betterOf_59 : decode cX4_betterOf 59 = .ok (.iconst 3, 1) := by decide +kernel
theorem dX4_betterOf_60 : decode cX4_betterOf 60 = .ok (.goto 4, 3) := by decide +kernel
theorem dX4_betterOf_63 : decode cX4_betterOf 63 = .ok (.iconst 0, 1) := by decide +kernel
theorem dX4_betterOf_64 : decode cX4_betterOf 64 = .ok (.istore 5, 2) := by decide +kernel
theorem dX4_betterOf_66 : decode cX4_betterOf 66 = .ok (.ldc 106, 2) := by decide +kernel
theorem dX4_betterOf_68 : decode cX4_betterOf 68 = .ok (.istore 6, 2) := by decide +kernel
theorem dX4_betterOf_70 : decode cX4_betterOf 70 = .ok (.iconst 0, 1) := by decide +kernel
theorem dX4_betterOf_71 : decode cX4_betterOf 71 = .ok (.istore 7, 2) := by decide +kernel
theorem dX4_betterOf_73 : decode cX4_betterOf 73 = .ok (.iconst 0, 1) := by decide +kernel
theorem dX4_betterOf_74 : decode cX4_betterOf 74 = .ok (.istore 8, 2) := by decide +kernel
theorem dX4_betterOf_76 : decode cX4_betterOf 76 = .ok (.iload 4, 2) := by decide +kernel
theorem dX4_betterOf_78 : decode cX4_betterOf 78 = .ok (.istore 9, 2) := by decide +kernel
theorem dX4_betterOf_80 : decode cX4_betterOf 80 = .ok (.iload 9, 2) := by decide +kernel
theorem dX4_betterOf_82 : decode cX4_betterOf 82 = .ok (.iload 5, 2) := by decide +kernel
theorem dX4_betterOf_84 : decode cX4_betterOf 84 = .ok (.if_icmp .gt 71, 3) := by decide +kernel
theorem dX4_betterOf_87 : decode cX4_betterOf 87 = .ok (.aload_n 0, 1) := by decide +kernel
theorem dX4_betterOf_88 : decode cX4_betterOf 88 = .ok (.getfield 28, 3) := by decide +kernel
theorem dX4_betterOf_91 : decode cX4_betterOf 91 = .ok (.iload_n 3, 1) := by decide +kernel
theorem dX4_betterOf_92 : decode cX4_betterOf 92 = .ok (.iload 9, 2) := by decide +kernel
theorem dX4_betterOf_94 : decode cX4_betterOf 94 = .ok (.iastore, 1) := by decide +kernel
theorem dX4_betterOf_95 : decode cX4_betterOf 95 = .ok (.aload_n 0, 1) := by decide +kernel
theorem dX4_betterOf_96 : decode cX4_betterOf 96 = .ok (.invokevirtual 165, 3) := by decide +kernel
theorem dX4_betterOf_99 : decode cX4_betterOf 99 = .ok (.iload 6, 2) := by decide +kernel
theorem dX4_betterOf_101 : decode cX4_betterOf 101 = .ok (.ldc 106, 2) := by decide +kernel
theorem dX4_betterOf_103 : decode cX4_betterOf 103 = .ok (.if_icmp .eq 30, 3) := by decide +kernel
theorem dX4_betterOf_106 : decode cX4_betterOf 106 = .ok (.aload_n 0, 1) := by decide +kernel
theorem dX4_betterOf_107 : decode cX4_betterOf 107 = .ok (.getfield 146, 3) := by decide +kernel
theorem dX4_betterOf_110 : decode cX4_betterOf 110 = .ok (.iload 7, 2) := by decide +kernel
theorem dX4_betterOf_112 : decode cX4_betterOf 112 = .ok (.if_icmp .lt 21, 3) := by decide +kernel
theorem dX4_betterOf_115 : decode cX4_betterOf 115 = .ok (.aload_n 0, 1) := by decide +kernel
theorem dX4_betterOf_116 : decode cX4_betterOf 116 = .ok (.getfield 146, 3) := by decide +kernel
theorem dX4_betterOf_119 : decode cX4_betterOf 119 = .ok (.iload 7, 2) := by decide +kernel
theorem dX4_betterOf_121 : decode cX4_betterOf 121 = .ok (.if_icmp .ne 28, 3) := by decide +kernel
theorem dX4_betterOf_124 : decode cX4_betterOf 124 = .ok (.aload_n 0, 1) := by decide +kernel
theorem dX4_betterOf_125 : decode cX4_betterOf 125 = .ok (.getfield 143, 3) := by decide +kernel
theorem dX4_betterOf_128 : decode cX4_betterOf 128 = .ok (.iload 8, 2) := by decide +kernel
theorem dX4_betterOf_130 : decode cX4_betterOf 130 = .ok (.if_icmp .le 19, 3) := by decide +kernel
theorem dX4_betterOf_133 : decode cX4_betterOf 133 = .ok (.iload 9, 2) := by decide +kernel
theorem dX4_betterOf_135 : decode cX4_betterOf 135 = .ok (.istore 6, 2) := by decide +kernel
theorem dX4_betterOf_137 : decode cX4_betterOf 137 = .ok (.aload_n 0, 1) := by decide +kernel
theorem dX4_betterOf_138 : decode cX4_betterOf 138 = .ok (.getfield 146, 3) := by decide +kernel
theorem dX4_betterOf_141 : decode cX4_betterOf 141 = .ok (.istore 7, 2) := by decide +kernel
theorem dX4_betterOf_143 : decode cX4_betterOf 143 = .ok (.aload_n 0, 1) := by decide +kernel
theorem dX4_betterOf_144 : decode cX4_betterOf 144 = .ok (.getfield 143, 3) := by decide +kernel
theorem dX4_betterOf_147 : decode cX4_betterOf 147 = .ok (.istore 8, 2) := by decide +kernel
theorem dX4_betterOf_149 : decode cX4_betterOf 149 = .ok (.iinc 9 1, 3) := by decide +kernel
theorem dX4_betterOf_152 : decode cX4_betterOf 152 = .ok (.goto (-72), 3) := by decide +kernel
theorem dX4_betterOf_155 : decode cX4_betterOf 155 = .ok (.iload_n 2, 1) := by decide +kernel
theorem dX4_betterOf_156 : decode cX4_betterOf 156 = .ok (.ifCond .ne 8, 3) := by decide +kernel
theorem dX4_betterOf_159 : decode cX4_betterOf 159 = .ok (.iload 6, 2) := by decide +kernel
theorem dX4_betterOf_161 : decode cX4_betterOf 161 = .ok (.goto 5, 3) := by decide +kernel
theorem dX4_betterOf_164 : decode cX4_betterOf 164 = .ok (.iload 7, 2) := by decide +kernel
theorem dX4_betterOf_166 : decode cX4_betterOf 166 = .ok (.ireturn, 1) := by decide +kernel
set_option maxRecDepth 20000 in
theorem ggX4_better_X4_isThree : GoodIn wsX4_better wsX4_isThree := goodIn_r _ [5, 6, 7, 4, 8] (by decide +kernel) (by decide +kernel)
set_option maxRecDepth 20000 in
theorem gX4_better_X4_isThree : GoodIn wsX4_better (va_wsS RX4 197 yX4_isThree wsX4_isThree) := goodIn_app (goodIn_of _ (by decide +kernel)) ggX4_better_X4_isThree
set_option maxRecDepth 20000 in
theorem ggX4_better_X4_isTwo : GoodIn wsX4_better wsX4_isTwo := goodIn_r _ [11, 6, 7, 4, 8] (by decide +kernel) (by decide +kernel)
set_option maxRecDepth 20000 in
theorem gX4_better_X4_isTwo : GoodIn wsX4_better (va_wsS RX4 107 yX4_isTwo wsX4_isTwo) := goodIn_app (goodIn_of _ (by decide +kernel)) ggX4_better_X4_isTwo
set_option maxRecDepth 20000 in
theorem ggX4_better_X4_betterOf : GoodIn wsX4_better wsX4_betterOf := goodIn_r _ [15, 1, 16, 17, 18, 19, 20, 21, 4, 22, 23, 24, 25, 26, 27, 28, 29, 30, 31, 32, 33, 34, 35, 36, 37, 38, 39, 40, 41, 42, 43, 44, 45, 46, 47, 6, 7, 8, 48, 49, 50, 51, 52, 53, 54, 55, 56, 57, 58, 59, 60, 61, 62, 63, 64, 65, 66, 67, 68, 69, 70, 71, 72, 73, 74, 75, 76, 77, 78, 79, 80, 81, 82, 83, 84, 85, 86, 87, 88, 89, 90, 91, 92, 93, 94, 95, 96, 97, 98, 99, 100, 101, 102, 103, 104, 105, 106, 107, 108, 109, 110, 111, 112, 113, 114, 115, 116, 117] (by decide +kernel) (by decide +kernel)
set_option maxRecDepth 20000 in
theorem gX4_better_X4_betterOf : GoodIn wsX4_better (wsV RX4 231 RX4 yX4_betterOf wsX4_betterOf) := goodIn_app (goodIn_of _ (by decide +kernel)) ggX4_better_X4_betterOf
theorem dX4_better_0 : decode cX4_better 0 = .ok (.iload_n 1, 1) := by decide +kernel
theorem dX4_better_1 : decode cX4_better 1 = .ok (.invokestatic 197, 3) := by decide +kernel
theorem dX4_better_4 : decode cX4_better 4 = .ok (.ifCond .eq 19, 3) := by decide +kernel
theorem dX4_better_7 : decode cX4_better 7 = .ok (.iload_n 2, 1) := by decide +kernel
theorem dX4_better_8 : decode cX4_better 8 = .ok (.invokestatic 107, 3) := by decide +kernel
theorem dX4_better_11 : decode cX4_better 11 = .ok (.ifCond .eq 12, 3) := by decide +kernel
theorem dX4_better_14 : decode cX4_better 14 = .ok (.aload_n 0, 1) := by decide +kernel
theorem dX4_better_15 : decode cX4_better 15 = .ok (.iload_n 1, 1) := by decide +kernel
theorem dX4_better_16 : decode cX4_better 16 = .ok (.iload_n 2, 1) := by decide +kernel
theorem dX4_better_17 : decode cX4_better 17 = .ok (.invokevirtual 231, 3) := by decide +kernel
theorem dX4_better_20 : decode cX4_better 20 = .ok (.goto 5, 3) := by decide +kernel
theorem dX4_better_23 : decode cX4_better 23 = .ok (.ldc 106, 2) := by decide +kernel
theorem dX4_better_25 : decode cX4_better 25 = .ok (.ireturn, 1) := by decide +kernel
set_option maxRecDepth 20000 in
theorem ggX4_isSpared_X4_runs : GoodIn wsX4_isSpared wsX4_runs := goodIn_r _ [7, 2, 8, 9, 10, 11, 12, 13, 14, 15, 16, 17, 6, 18, 19, 20, 21, 22, 23, 24, 25, 26, 27, 28, 29, 30, 31, 32, 33, 34, 35, 36, 37, 38, 39, 40, 41, 42, 43, 44, 45, 1, 46, 47, 48, 49, 50, 51, 52, 53, 54, 55, 56, 57, 58, 59, 60, 61, 62, 63, 64, 65, 66, 67, 68, 69, 70, 71, 72, 73, 74, 75, 76, 77, 78, 79, 80, 81, 82, 83, 84, 85, 86, 87, 88, 89, 90, 91, 92, 93, 94, 95, 96, 97, 98, 99, 100] (by decide +kernel) (by decide +kernel)
set_option maxRecDepth 20000 in
theorem gX4_isSpared_X4_runs : GoodIn wsX4_isSpared (wsV RX4 165 RX4 yX4_runs wsX4_runs) := goodIn_app (goodIn_of _ (by decide +kernel)) ggX4_isSpared_X4_runs
theorem dX4_isSpared_0 : decode cX4_isSpared 0 = .ok (.aload_n 0, 1) := by decide +kernel
theorem dX4_isSpared_1 : decode cX4_isSpared 1 = .ok (.iload_n 1, 1) := by decide +kernel
theorem dX4_isSpared_2 : decode cX4_isSpared 2 = .ok (.putfield 121, 3) := by decide +kernel
theorem dX4_isSpared_5 : decode cX4_isSpared 5 = .ok (.aload_n 0, 1) := by decide +kernel
theorem dX4_isSpared_6 : decode cX4_isSpared 6 = .ok (.invokevirtual 165, 3) := by decide +kernel
theorem dX4_isSpared_9 : decode cX4_isSpared 9 = .ok (.aload_n 0, 1) := by decide +kernel
theorem dX4_isSpared_10 : decode cX4_isSpared 10 = .ok (.getfield 146, 3) := by decide +kernel
theorem dX4_isSpared_13 : decode cX4_isSpared 13 = .ok (.ifCond .ne 7, 3) := by decide +kernel
theorem dX4_isSpared_16 : decode cX4_isSpared 16 = .ok (.iconst 1, 1) := by decide +kernel
theorem dX4_isSpared_17 : decode cX4_isSpared 17 = .ok (.goto 4, 3) := by decide +kernel
theorem dX4_isSpared_20 : decode cX4_isSpared 20 = .ok (.iconst 0, 1) := by decide +kernel
theorem dX4_isSpared_21 : decode cX4_isSpared 21 = .ok (.ireturn, 1) := by decide +kernel
set_option maxRecDepth 20000 in
theorem ggX4_spareBy_X4_asTold : GoodIn wsX4_spareBy wsX4_asTold := goodIn_r _ [7, 8, 9, 10, 11, 12, 13, 78, 79, 80, 81, 82, 83, 84, 85, 86, 87, 88, 89, 90, 91, 92, 93, 94, 95, 96, 97, 98, 99, 100, 101, 102, 103, 104, 105, 106, 107, 108, 109, 110, 111] (by decide +kernel) (by decide +kernel)
set_option maxRecDepth 20000 in
theorem gX4_spareBy_X4_asTold : GoodIn wsX4_spareBy (wsV RX4 162 RX4 yX4_asTold wsX4_asTold) := goodIn_app (goodIn_of _ (by decide +kernel)) ggX4_spareBy_X4_asTold
set_option maxRecDepth 20000 in
theorem ggX4_spareBy_X4_isSpared : GoodIn wsX4_spareBy wsX4_isSpared := goodIn_r _ [17, 12, 18, 19, 20, 21, 6, 22, 23, 24, 25, 26, 27, 8, 28, 29, 30, 31, 32, 33, 10, 34, 35, 36, 37, 38, 39, 40, 41, 42, 43, 44, 45, 46, 47, 48, 49, 50, 51, 52, 53, 54, 55, 1, 56, 57, 13, 58, 59, 60, 61, 62, 63, 64, 65, 66, 67, 68, 69, 70, 71, 72, 73, 74, 75, 76, 77, 78, 79, 80, 81, 82, 83, 84, 85, 86, 87, 88, 89, 90, 91, 92, 93, 94, 95, 96, 97, 98, 99, 100, 101, 102, 103, 104, 105, 106, 107, 108, 109, 110, 111] (by decide +kernel) (by decide +kernel)
set_option maxRecDepth 20000 in
theorem gX4_spareBy_X4_isSpared : GoodIn wsX4_spareBy (wsV RX4 234 RX4 yX4_isSpared wsX4_isSpared) := goodIn_app (goodIn_of _ (by decide +kernel)) ggX4_spareBy_X4_isSpared
theorem dX4_spareBy_0 : decode cX4_spareBy 0 = .ok (.aload_n 0, 1) := by decide +kernel
theorem dX4_spareBy_1 : decode cX4_spareBy 1 = .ok (.invokevirtual 162, 3) := by decide +kernel
theorem dX4_spareBy_4 : decode cX4_spareBy 4 = .ok (.aload_n 0, 1) := by decide +kernel
theorem dX4_spareBy_5 : decode cX4_spareBy 5 = .ok (.iconst 0, 1) := by decide +kernel
theorem dX4_spareBy_6 : decode cX4_spareBy 6 = .ok (.invokevirtual 234, 3) := by decide +kernel
theorem dX4_spareBy_9 : decode cX4_spareBy 9 = .ok (.ifCond .eq 5, 3) := by decide +kernel
theorem dX4_spareBy_12 : decode cX4_spareBy 12 = .ok (.iconst 0, 1) := by decide +kernel
theorem dX4_spareBy_13 : decode cX4_spareBy 13 = .ok (.ireturn, 1) := by decide +kernel
theorem dX4_spareBy_14 : decode cX4_spareBy 14 = .ok (.iconst 0, 1) := by decide +kernel
theorem dX4_spareBy_15 : decode cX4_spareBy 15 = .ok (.istore_n 1, 1) := by decide +kernel
theorem dX4_spareBy_16 : decode cX4_spareBy 16 = .ok (.iload_n 1, 1) := by decide +kernel
theorem dX4_spareBy_17 : decode cX4_spareBy 17 = .ok (.aload_n 0, 1) := by decide +kernel
theorem dX4_spareBy_18 : decode cX4_spareBy 18 = .ok (.getfield 110, 3) := by decide +kernel
theorem dX4_spareBy_21 : decode cX4_spareBy 21 = .ok (.if_icmp .ge 28, 3) := by decide +kernel
theorem dX4_spareBy_24 : decode cX4_spareBy 24 = .ok (.aload_n 0, 1) := by decide +kernel
theorem dX4_spareBy_25 : decode cX4_spareBy 25 = .ok (.getfield 61, 3) := by decide +kernel
theorem dX4_spareBy_28 : decode cX4_spareBy 28 = .ok (.iconst 0, 1) := by decide +kernel
theorem dX4_spareBy_29 : decode cX4_spareBy 29 = .ok (.iload_n 1, 1) := by decide +kernel
theorem dX4_spareBy_30 : decode cX4_spareBy 30 = .ok (.iastore, 1) := by decide +kernel
theorem dX4_spareBy_31 : decode cX4_spareBy 31 = .ok (.aload_n 0, 1) := by decide +kernel
theorem dX4_spareBy_32 : decode cX4_spareBy 32 = .ok (.iconst 1, 1) := by decide +kernel
theorem dX4_spareBy_33 : decode cX4_spareBy 33 = .ok (.iload_n 1, 1) := by decide +kernel
theorem dX4_spareBy_34 : decode cX4_spareBy 34 = .ok (.ishl, 1) := by decide +kernel
theorem dX4_spareBy_35 : decode cX4_spareBy 35 = .ok (.invokevirtual 234, 3) := by decide +kernel
theorem dX4_spareBy_38 : decode cX4_spareBy 38 = .ok (.ifCond .eq 5, 3) := by decide +kernel
theorem dX4_spareBy_41 : decode cX4_spareBy 41 = .ok (.iconst 1, 1) := by decide +kernel
theorem dX4_spareBy_42 : decode cX4_spareBy 42 = .ok (.ireturn, 1) := by decide +kernel
theorem dX4_spareBy_43 : decode cX4_spareBy 43 = .ok (.iinc 1 1, 3) := by decide +kernel
theorem dX4_spareBy_46 : decode cX4_spareBy 46 = .ok (.goto (-30), 3) := by decide +kernel
theorem dX4_spareBy_49 : decode cX4_spareBy 49 = .ok (.iconst 0, 1) := by decide +kernel
theorem dX4_spareBy_50 : decode cX4_spareBy 50 = .ok (.istore_n 1, 1) := by decide +kernel
theorem dX4_spareBy_51 : decode cX4_spareBy 51 = .ok (.iload_n 1, 1) := by decide +kernel
theorem dX4_spareBy_52 : decode cX4_spareBy 52 = .ok (.aload_n 0, 1) := by decide +kernel
theorem dX4_spareBy_53 : decode cX4_spareBy 53 = .ok (.getfield 110, 3) := by decide +kernel
theorem dX4_spareBy_56 : decode cX4_spareBy 56 = .ok (.if_icmp .ge 57, 3) := by decide +kernel
theorem dX4_spareBy_59 : decode cX4_spareBy 59 = .ok (.iload_n 1, 1) := by decide +kernel
theorem dX4_spareBy_60 : decode cX4_spareBy 60 = .ok (.iconst 1, 1) := by decide +kernel
theorem dX4_spareBy_61 : decode cX4_spareBy 61 = .ok (.iadd, 1) := by decide +kernel
theorem dX4_spareBy_62 : decode cX4_spareBy 62 = .ok (.istore_n 2, 1) := by decide +kernel
theorem dX4_spareBy_63 : decode cX4_spareBy 63 = .ok (.iload_n 2, 1) := by decide +kernel
theorem dX4_spareBy_64 : decode cX4_spareBy 64 = .ok (.aload_n 0, 1) := by decide +kernel
theorem dX4_spareBy_65 : decode cX4_spareBy 65 = .ok (.getfield 110, 3) := by decide +kernel
theorem dX4_spareBy_68 : decode cX4_spareBy 68 = .ok (.if_icmp .ge 39, 3) := by decide +kernel
theorem dX4_spareBy_71 : decode cX4_spareBy 71 = .ok (.aload_n 0, 1) := by decide +kernel
theorem dX4_spareBy_72 : decode cX4_spareBy 72 = .ok (.getfield 61, 3) := by decide +kernel
theorem dX4_spareBy_75 : decode cX4_spareBy 75 = .ok (.iconst 0, 1) := by decide +kernel
theorem dX4_spareBy_76 : decode cX4_spareBy 76 = .ok (.iload_n 1, 1) := by decide +kernel
theorem dX4_spareBy_77 : decode cX4_spareBy 77 = .ok (.iastore, 1) := by decide +kernel
theorem dX4_spareBy_78 : decode cX4_spareBy 78 = .ok (.aload_n 0, 1) := by decide +kernel
theorem dX4_spareBy_79 : decode cX4_spareBy 79 = .ok (.getfield 61, 3) := by decide +kernel
theorem dX4_spareBy_82 : decode cX4_spareBy 82 = .ok (.iconst 1, 1) := by decide +kernel
theorem dX4_spareBy_83 : decode cX4_spareBy 83 = .ok (.iload_n 2, 1) := by decide +kernel
theorem dX4_spareBy_84 : decode cX4_spareBy 84 = .ok (.iastore, 1) := by decide +kernel
theorem dX4_spareBy_85 : decode cX4_spareBy 85 = .ok (.aload_n 0, 1) := by decide +kernel
theorem dX4_spareBy_86 : decode cX4_spareBy 86 = .ok (.iconst 1, 1) := by decide +kernel
theorem dX4_spareBy_87 : decode cX4_spareBy 87 = .ok (.iload_n 1, 1) := by decide +kernel
theorem dX4_spareBy_88 : decode cX4_spareBy 88 = .ok (.ishl, 1) := by decide +kernel
theorem dX4_spareBy_89 : decode cX4_spareBy 89 = .ok (.iconst 1, 1) := by decide +kernel
theorem dX4_spareBy_90 : decode cX4_spareBy 90 = .ok (.iload_n 2, 1) := by decide +kernel
theorem dX4_spareBy_91 : decode cX4_spareBy 91 = .ok (.ishl, 1) := by decide +kernel
theorem dX4_spareBy_92 : decode cX4_spareBy 92 = .ok (.ior, 1) := by decide +kernel
theorem dX4_spareBy_93 : decode cX4_spareBy 93 = .ok (.invokevirtual 234, 3) := by decide +kernel
theorem dX4_spareBy_96 : decode cX4_spareBy 96 = .ok (.ifCond .eq 5, 3) := by decide +kernel
theorem dX4_spareBy_99 : decode cX4_spareBy 99 = .ok (.iconst 2, 1) := by decide +kernel
theorem dX4_spareBy_100 : decode cX4_spareBy 100 = .ok (.ireturn, 1) := by decide +kernel
theorem dX4_spareBy_101 : decode cX4_spareBy 101 = .ok (.iinc 2 1, 3) := by decide +kernel
theorem dX4_spareBy_104 : decode cX4_spareBy 104 = .ok (.goto (-41), 3) := by decide +kernel
theorem dX4_spareBy_107 : decode cX4_spareBy 107 = .ok (.iinc 1 1, 3) := by decide +kernel
theorem dX4_spareBy_110 : decode cX4_spareBy 110 = .ok (.goto (-59), 3) := by decide +kernel
theorem dX4_spareBy_113 : decode cX4_spareBy 113 = .ok (.iconst (-1), 1) := by decide +kernel
theorem dX4_spareBy_114 : decode cX4_spareBy 114 = .ok (.ireturn, 1) := by decide +kernel
theorem dX4_ofRow_0 : decode cX4_ofRow 0 = .ok (.iload_n 2, 1) := by decide +kernel
theorem dX4_ofRow_1 : decode cX4_ofRow 1 = .ok (.iconst (-1), 1) := by decide +kernel
theorem dX4_ofRow_2 : decode cX4_ofRow 2 = .ok (.if_icmp .ne 7, 3) := by decide +kernel
theorem dX4_ofRow_5 : decode cX4_ofRow 5 = .ok (.iload_n 1, 1) := by decide +kernel
theorem dX4_ofRow_6 : decode cX4_ofRow 6 = .ok (.goto 18, 3) := by decide +kernel
theorem dX4_ofRow_9 : decode cX4_ofRow 9 = .ok (.iload_n 2, 1) := by decide +kernel
theorem dX4_ofRow_10 : decode cX4_ofRow 10 = .ok (.iload_n 1, 1) := by decide +kernel
theorem dX4_ofRow_11 : decode cX4_ofRow 11 = .ok (.if_icmp .ge 12, 3) := by decide +kernel
theorem dX4_ofRow_14 : decode cX4_ofRow 14 = .ok (.aload_n 0, 1) := by decide +kernel
theorem dX4_ofRow_15 : decode cX4_ofRow 15 = .ok (.getfield 61, 3) := by decide +kernel
theorem dX4_ofRow_18 : decode cX4_ofRow 18 = .ok (.iload_n 2, 1) := by decide +kernel
theorem dX4_ofRow_19 : decode cX4_ofRow 19 = .ok (.iaload, 1) := by decide +kernel
theorem dX4_ofRow_20 : decode cX4_ofRow 20 = .ok (.goto 4, 3) := by decide +kernel
theorem dX4_ofRow_23 : decode cX4_ofRow 23 = .ok (.iconst (-1), 1) := by decide +kernel
theorem dX4_ofRow_24 : decode cX4_ofRow 24 = .ok (.ireturn, 1) := by decide +kernel
set_option maxRecDepth 20000 in
theorem ggX4_spare_X4_in : GoodIn wsX4_spare wsX4_in := goodIn_r _ [4] (by decide +kernel) (by decide +kernel)
set_option maxRecDepth 20000 in
theorem gX4_spare_X4_in : GoodIn wsX4_spare (va_wsS RX4 95 yX4_in wsX4_in) := goodIn_app (goodIn_of _ (by decide +kernel)) ggX4_spare_X4_in
set_option maxRecDepth 20000 in
theorem ggX4_spare_X4_spareBy : GoodIn wsX4_spare wsX4_spareBy := goodIn_r _ [8, 9, 10, 11, 12, 13, 3, 14, 15, 16, 17, 18, 19, 20, 21, 22, 23, 24, 25, 26, 27, 28, 29, 30, 31, 32, 33, 34, 35, 36, 37, 38, 39, 40, 41, 42, 43, 44, 45, 46, 1, 2, 4, 47, 48, 49, 50, 51, 52, 53, 54, 55, 56, 57, 58, 59, 60, 61, 62, 63, 64, 65, 66, 67, 68, 69, 70, 71, 72, 73, 74, 75, 76, 77, 78, 79, 80, 81, 86, 87, 88, 89, 90, 91, 92, 93, 94, 95, 96, 97, 98, 99, 100, 101, 102, 103, 104, 105, 106, 107, 108, 109, 110, 111, 112, 113, 114, 115, 116, 117, 118, 119] (by decide +kernel) (by decide +kernel)
set_option maxRecDepth 20000 in
theorem gX4_spare_X4_spareBy : GoodIn wsX4_spare (wsV RX4 237 RX4 yX4_spareBy wsX4_spareBy) := goodIn_app (goodIn_of _ (by decide +kernel)) ggX4_spare_X4_spareBy
set_option maxRecDepth 20000 in
theorem ggX4_spare_X4_ofRow : GoodIn wsX4_spare wsX4_ofRow := goodIn_r _ [85, 10, 86, 87, 88, 89, 90, 91, 92, 93, 94, 95, 96, 97, 98, 99, 100, 101, 102, 103, 104, 105, 106, 107, 108, 109, 110, 111, 112, 113, 114, 115, 116, 117, 118, 119] (by decide +kernel) (by decide +kernel)
set_option maxRecDepth 20000 in
theorem gX4_spare_X4_ofRow : GoodIn wsX4_spare (wsV RX4 240 RX4 yX4_ofRow wsX4_ofRow) := goodIn_app (goodIn_of _ (by decide +kernel)) ggX4_spare_X4_ofRow
theorem dX4_spare_0 : decode cX4_spare 0 = .ok (.iload_n 1, 1) := by decide +kernel
theorem dX4_spare_1 : decode cX4_spare 1 = .ok (.iconst (-1), 1) := by decide +kernel
theorem dX4_spare_2 : decode cX4_spare 2 = .ok (.iconst 1, 1) := by decide +kernel
theorem dX4_spare_3 : decode cX4_spare 3 = .ok (.invokestatic 95, 3) := by decide +kernel
theorem dX4_spare_6 : decode cX4_spare 6 = .ok (.ifCond .eq 15, 3) := by decide +kernel
theorem dX4_spare_9 : decode cX4_spare 9 = .ok (.aload_n 0, 1) := by decide +kernel
theorem dX4_spare_10 : decode cX4_spare 10 = .ok (.aload_n 0, 1) := by decide +kernel
theorem dX4_spare_11 : decode cX4_spare 11 = .ok (.invokevirtual 237, 3) := by decide +kernel
theorem dX4_spare_14 : decode cX4_spare 14 = .ok (.iload_n 1, 1) := by decide +kernel
theorem dX4_spare_15 : decode cX4_spare 15 = .ok (.invokevirtual 240, 3) := by decide +kernel
theorem dX4_spare_18 : decode cX4_spare 18 = .ok (.goto 5, 3) := by decide +kernel
theorem dX4_spare_21 : decode cX4_spare 21 = .ok (.bipush (-2), 2) := by decide +kernel
theorem dX4_spare_23 : decode cX4_spare 23 = .ok (.ireturn, 1) := by decide +kernel
set_option maxRecDepth 20000 in
theorem ggX4_seen_X4_isLine : GoodIn wsX4_seen wsX4_isLine := goodIn_r _ [7, 8, 9, 6, 10] (by decide +kernel) (by decide +kernel)
set_option maxRecDepth 20000 in
theorem gX4_seen_X4_isLine : GoodIn wsX4_seen (va_wsS RX4 99 yX4_isLine wsX4_isLine) := goodIn_app (goodIn_of _ (by decide +kernel)) ggX4_seen_X4_isLine
set_option maxRecDepth 20000 in
theorem ggX4_seen_X4_in : GoodIn wsX4_seen wsX4_in := goodIn_r _ [10] (by decide +kernel) (by decide +kernel)
set_option maxRecDepth 20000 in
theorem gX4_seen_X4_in : GoodIn wsX4_seen (va_wsS RX4 95 yX4_in wsX4_in) := goodIn_app (goodIn_of _ (by decide +kernel)) ggX4_seen_X4_in
theorem dX4_seen_0 : decode cX4_seen 0 = .ok (.iload_n 1, 1) := by decide +kernel
theorem dX4_seen_1 : decode cX4_seen 1 = .ok (.invokestatic 99, 3) := by decide +kernel
theorem dX4_seen_4 : decode cX4_seen 4 = .ok (.ifCond .eq 13, 3) := by decide +kernel
theorem dX4_seen_7 : decode cX4_seen 7 = .ok (.iload_n 2, 1) := by decide +kernel
theorem dX4_seen_8 : decode cX4_seen 8 = .ok (.iconst 0, 1) := by decide +kernel
theorem dX4_seen_9 : decode cX4_seen 9 = .ok (.bipush 8, 2) := by decide +kernel
theorem dX4_seen_11 : decode cX4_seen 11 = .ok (.invokestatic 95, 3) := by decide +kernel
theorem dX4_seen_14 : decode cX4_seen 14 = .ok (.ifCond .ne 6, 3) := by decide +kernel
theorem dX4_seen_17 : decode cX4_seen 17 = .ok (.bipush (-2), 2) := by decide +kernel
theorem dX4_seen_19 : decode cX4_seen 19 = .ok (.ireturn, 1) := by decide +kernel
theorem dX4_seen_20 : decode cX4_seen 20 = .ok (.aload_n 0, 1) := by decide +kernel
theorem dX4_seen_21 : decode cX4_seen 21 = .ok (.getfield 243, 3) := by decide +kernel
theorem dX4_seen_24 : decode cX4_seen 24 = .ok (.bipush 8, 2) := by decide +kernel
theorem dX4_seen_26 : decode cX4_seen 26 = .ok (.if_icmp .ne 6, 3) := by decide +kernel
theorem dX4_seen_29 : decode cX4_seen 29 = .ok (.bipush (-4), 2) := by decide +kernel
theorem dX4_seen_31 : decode cX4_seen 31 = .ok (.ireturn, 1) := by decide +kernel
theorem dX4_seen_32 : decode cX4_seen 32 = .ok (.aload_n 0, 1) := by decide +kernel
theorem dX4_seen_33 : decode cX4_seen 33 = .ok (.getfield 64, 3) := by decide +kernel
theorem dX4_seen_36 : decode cX4_seen 36 = .ok (.aload_n 0, 1) := by decide +kernel
theorem dX4_seen_37 : decode cX4_seen 37 = .ok (.getfield 243, 3) := by decide +kernel
theorem dX4_seen_40 : decode cX4_seen 40 = .ok (.iload_n 1, 1) := by decide +kernel
theorem dX4_seen_41 : decode cX4_seen 41 = .ok (.iastore, 1) := by decide +kernel
theorem dX4_seen_42 : decode cX4_seen 42 = .ok (.aload_n 0, 1) := by decide +kernel
theorem dX4_seen_43 : decode cX4_seen 43 = .ok (.getfield 67, 3) := by decide +kernel
theorem dX4_seen_46 : decode cX4_seen 46 = .ok (.aload_n 0, 1) := by decide +kernel
theorem dX4_seen_47 : decode cX4_seen 47 = .ok (.getfield 243, 3) := by decide +kernel
theorem dX4_seen_50 : decode cX4_seen 50 = .ok (.iload_n 2, 1) := by decide +kernel
theorem dX4_seen_51 : decode cX4_seen 51 = .ok (.iastore, 1) := by decide +kernel
theorem dX4_seen_52 : decode cX4_seen 52 = .ok (.aload_n 0, 1) := by decide +kernel
theorem dX4_seen_53 : decode cX4_seen 53 = .ok (.dup, 1) := by decide +kernel
theorem dX4_seen_54 : decode cX4_seen 54 = .ok (.getfield 243, 3) := by decide +kernel
theorem dX4_seen_57 : decode cX4_seen 57 = .ok (.iconst 1, 1) := by decide +kernel
theorem dX4_seen_58 : decode cX4_seen 58 = .ok (.iadd, 1) := by decide +kernel
theorem dX4_seen_59 : decode cX4_seen 59 = .ok (.putfield 243, 3) := by decide +kernel
theorem dX4_seen_62 : decode cX4_seen 62 = .ok (.aload_n 0, 1) := by decide +kernel
theorem dX4_seen_63 : decode cX4_seen 63 = .ok (.getfield 243, 3) := by decide +kernel
theorem dX4_seen_66 : decode cX4_seen 66 = .ok (.ireturn, 1) := by decide +kernel
theorem dX4_forget_0 : decode cX4_forget 0 = .ok (.aload_n 0, 1) := by decide +kernel
theorem dX4_forget_1 : decode cX4_forget 1 = .ok (.getfield 243, 3) := by decide +kernel
theorem dX4_forget_4 : decode cX4_forget 4 = .ok (.istore_n 1, 1) := by decide +kernel
theorem dX4_forget_5 : decode cX4_forget 5 = .ok (.aload_n 0, 1) := by decide +kernel
theorem dX4_forget_6 : decode cX4_forget 6 = .ok (.iconst 0, 1) := by decide +kernel
theorem dX4_forget_7 : decode cX4_forget 7 = .ok (.putfield 243, 3) := by decide +kernel
theorem dX4_forget_10 : decode cX4_forget 10 = .ok (.iload_n 1, 1) := by decide +kernel
theorem dX4_forget_11 : decode cX4_forget 11 = .ok (.ireturn, 1) := by decide +kernel
set_option maxRecDepth 20000 in
theorem ggX4_isSeen_X4_runs : GoodIn wsX4_isSeen wsX4_runs := goodIn_r _ [9, 10, 11, 12, 2, 13, 14, 15, 16, 17, 18, 19, 8, 20, 21, 22, 23, 24, 25, 26, 27, 28, 29, 30, 31, 32, 33, 34, 35, 36, 37, 38, 39, 40, 41, 42, 43, 44, 45, 46, 47, 48, 49, 50, 51, 52, 53, 54, 55, 56, 57, 58, 59, 60, 61, 62, 63, 64, 65, 66, 67, 68, 69, 73, 74, 75, 76, 77, 78, 79, 80, 81, 82, 83, 84, 85, 86, 87, 88, 89, 90, 91, 92, 93, 94, 95, 96, 97, 98, 99, 100, 101, 102, 103, 104, 105, 106] (by decide +kernel) (by decide +kernel)
set_option maxRecDepth 20000 in
theorem gX4_isSeen_X4_runs : GoodIn wsX4_isSeen (wsV RX4 165 RX4 yX4_runs wsX4_runs) := goodIn_app (goodIn_of _ (by decide +kernel)) ggX4_isSeen_X4_runs
set_option maxRecDepth 20000 in
theorem ggX4_isSeen_X4_many : GoodIn wsX4_isSeen wsX4_many := goodIn_r _ [72, 51, 52, 8, 53] (by decide +kernel) (by decide +kernel)
set_option maxRecDepth 20000 in
theorem gX4_isSeen_X4_many : GoodIn wsX4_isSeen (va_wsS RX4 203 yX4_many wsX4_many) := goodIn_app (goodIn_of _ (by decide +kernel)) ggX4_isSeen_X4_many
theorem dX4_isSeen_0 : decode cX4_isSeen 0 = .ok (.aload_n 0, 1) := by decide +kernel
theorem dX4_isSeen_1 : decode cX4_isSeen 1 = .ok (.invokevirtual 165, 3) := by decide +kernel
theorem dX4_isSeen_4 : decode cX4_isSeen 4 = .ok (.iconst 1, 1) := by decide +kernel
theorem dX4_isSeen_5 : decode cX4_isSeen 5 = .ok (.istore_n 1, 1) := by decide +kernel
theorem dX4_isSeen_6 : decode cX4_isSeen 6 = .ok (.iconst 0, 1) := by decide +kernel
theorem dX4_isSeen_7 : decode cX4_isSeen 7 = .ok (.istore_n 2, 1) := by decide +kernel
theorem dX4_isSeen_8 : decode cX4_isSeen 8 = .ok (.iload_n 2, 1) := by decide +kernel
theorem dX4_isSeen_9 : decode cX4_isSeen 9 = .ok (.aload_n 0, 1) := by decide +kernel
theorem dX4_isSeen_10 : decode cX4_isSeen 10 = .ok (.getfield 243, 3) := by decide +kernel
theorem dX4_isSeen_13 : decode cX4_isSeen 13 = .ok (.if_icmp .ge 42, 3) := by decide +kernel
theorem dX4_isSeen_16 : decode cX4_isSeen 16 = .ok (.iload_n 1, 1) := by decide +kernel
theorem dX4_isSeen_17 : decode cX4_isSeen 17 = .ok (.ifCond .eq 38, 3) := by decide +kernel
theorem dX4_isSeen_20 : decode cX4_isSeen 20 = .ok (.aload_n 0, 1) := by decide +kernel
theorem dX4_isSeen_21 : decode cX4_isSeen 21 = .ok (.getfield 49, 3) := by decide +kernel
theorem dX4_isSeen_24 : decode cX4_isSeen 24 = .ok (.aload_n 0, 1) := by decide +kernel
theorem dX4_isSeen_25 : decode cX4_isSeen 25 = .ok (.getfield 64, 3) := by decide +kernel
theorem dX4_isSeen_28 : decode cX4_isSeen 28 = .ok (.iload_n 2, 1) := by decide +kernel
theorem dX4_isSeen_29 : decode cX4_isSeen 29 = .ok (.iaload, 1) := by decide +kernel
theorem dX4_isSeen_30 : decode cX4_isSeen 30 = .ok (.iaload, 1) := by decide +kernel
theorem dX4_isSeen_31 : decode cX4_isSeen 31 = .ok (.invokestatic 203, 3) := by decide +kernel
theorem dX4_isSeen_34 : decode cX4_isSeen 34 = .ok (.aload_n 0, 1) := by decide +kernel
theorem dX4_isSeen_35 : decode cX4_isSeen 35 = .ok (.getfield 67, 3) := by decide +kernel
theorem dX4_isSeen_38 : decode cX4_isSeen 38 = .ok (.iload_n 2, 1) := by decide +kernel
theorem dX4_isSeen_39 : decode cX4_isSeen 39 = .ok (.iaload, 1) := by decide +kernel
theorem dX4_isSeen_40 : decode cX4_isSeen 40 = .ok (.if_icmp .ne 7, 3) := by decide +kernel
theorem dX4_isSeen_43 : decode cX4_isSeen 43 = .ok (.iconst 1, 1) := by decide +kernel
theorem dX4_isSeen_44 : decode cX4_isSeen 44 = .ok (.goto 4, 3) := by decide +kernel
theorem dX4_isSeen_47 : decode cX4_isSeen 47 = .ok (.iconst 0, 1) := by decide +kernel
theorem dX4_isSeen_48 : decode cX4_isSeen 48 = .ok (.istore_n 1, 1) := by decide +kernel
theorem dX4_isSeen_49 : decode cX4_isSeen 49 = .ok (.iinc 2 1, 3) := by decide +kernel
theorem dX4_isSeen_52 : decode cX4_isSeen 52 = .ok (.goto (-44), 3) := by decide +kernel
theorem dX4_isSeen_55 : decode cX4_isSeen 55 = .ok (.iload_n 1, 1) := by decide +kernel
theorem dX4_isSeen_56 : decode cX4_isSeen 56 = .ok (.ireturn, 1) := by decide +kernel
set_option maxRecDepth 20000 in
theorem ggX4_neverNow_X4_asTold : GoodIn wsX4_neverNow wsX4_asTold := goodIn_r _ [7, 8, 9, 10, 11, 2, 12, 83, 84, 85, 86, 87, 88, 89, 90, 91, 92, 93, 94, 95, 96, 97, 98, 99, 100, 101, 102, 103, 104, 105, 106, 107, 108, 109, 110, 111, 112, 113, 114, 115, 116] (by decide +kernel) (by decide +kernel)
set_option maxRecDepth 20000 in
theorem gX4_neverNow_X4_asTold : GoodIn wsX4_neverNow (wsV RX4 162 RX4 yX4_asTold wsX4_asTold) := goodIn_app (goodIn_of _ (by decide +kernel)) ggX4_neverNow_X4_asTold
set_option maxRecDepth 20000 in
theorem ggX4_neverNow_X4_isSeen : GoodIn wsX4_neverNow wsX4_isSeen := goodIn_r _ [16, 17, 18, 19, 20, 21, 22, 23, 6, 24, 25, 26, 27, 28, 29, 8, 30, 31, 32, 33, 34, 35, 10, 36, 37, 38, 39, 40, 41, 42, 43, 44, 45, 46, 47, 48, 49, 50, 51, 52, 53, 54, 55, 56, 57, 1, 58, 59, 2, 12, 60, 61, 62, 63, 64, 65, 66, 67, 68, 69, 70, 71, 72, 73, 74, 75, 76, 77, 78, 79, 80, 81, 82, 83, 84, 85, 86, 87, 88, 89, 90, 91, 92, 93, 94, 95, 96, 97, 98, 99, 100, 101, 102, 103, 104, 105, 106, 107, 108, 109, 110, 111, 112, 113, 114, 115, 116] (by decide +kernel) (by decide +kernel)
set_option maxRecDepth 20000 in
theorem gX4_neverNow_X4_isSeen : GoodIn wsX4_neverNow (wsV RX4 246 RX4 yX4_isSeen wsX4_isSeen) := goodIn_app (goodIn_of _ (by decide +kernel)) ggX4_neverNow_X4_isSeen
theorem dX4_neverNow_0 : decode cX4_neverNow 0 = .ok (.aload_n 0, 1) := by decide +kernel
theorem dX4_neverNow_1 : decode cX4_neverNow 1 = .ok (.invokevirtual 162, 3) := by decide +kernel
theorem dX4_neverNow_4 : decode cX4_neverNow 4 = .ok (.iconst 0, 1) := by decide +kernel
theorem dX4_neverNow_5 : decode cX4_neverNow 5 = .ok (.istore_n 1, 1) := by decide +kernel
theorem dX4_neverNow_6 : decode cX4_neverNow 6 = .ok (.iconst 0, 1) := by decide +kernel
theorem dX4_neverNow_7 : decode cX4_neverNow 7 = .ok (.istore_n 2, 1) := by decide +kernel
theorem dX4_neverNow_8 : decode cX4_neverNow 8 = .ok (.iload_n 2, 1) := by decide +kernel
theorem dX4_neverNow_9 : decode cX4_neverNow 9 = .ok (.aload_n 0, 1) := by decide +kernel
theorem dX4_neverNow_10 : decode cX4_neverNow 10 = .ok (.getfield 110, 3) := by decide +kernel
theorem dX4_neverNow_13 : decode cX4_neverNow 13 = .ok (.if_icmp .ge 33, 3) := by decide +kernel
theorem dX4_neverNow_16 : decode cX4_neverNow 16 = .ok (.aload_n 0, 1) := by decide +kernel
theorem dX4_neverNow_17 : decode cX4_neverNow 17 = .ok (.iconst 1, 1) := by decide +kernel
theorem dX4_neverNow_18 : decode cX4_neverNow 18 = .ok (.iload_n 2, 1) := by decide +kernel
theorem dX4_neverNow_19 : decode cX4_neverNow 19 = .ok (.ishl, 1) := by decide +kernel
theorem dX4_neverNow_20 : decode cX4_neverNow 20 = .ok (.putfield 121, 3) := by decide +kernel
theorem dX4_neverNow_23 : decode cX4_neverNow 23 = .ok (.iload_n 1, 1) := by decide +kernel
theorem dX4_neverNow_24 : decode cX4_neverNow 24 = .ok (.aload_n 0, 1) := by decide +kernel
theorem dX4_neverNow_25 : decode cX4_neverNow 25 = .ok (.invokevirtual 246, 3) := by decide +kernel
theorem dX4_neverNow_28 : decode cX4_neverNow 28 = .ok (.ifCond .eq 9, 3) := by decide +kernel
theorem dX4_neverNow_31 : decode cX4_neverNow 31 = .ok (.iconst 1, 1) := by decide +kernel
theorem dX4_neverNow_32 : decode cX4_neverNow 32 = .ok (.iload_n 2, 1) := by decide +kernel
theorem dX4_neverNow_33 : decode cX4_neverNow 33 = .ok (.ishl, 1) := by decide +kernel
theorem dX4_neverNow_34 : decode cX4_neverNow 34 = .ok (.goto 4, 3) := by decide +kernel
theorem dX4_neverNow_37 : decode cX4_neverNow 37 = .ok (.iconst 0, 1) := by decide +kernel
theorem dX4_neverNow_38 : decode cX4_neverNow 38 = .ok (.ior, 1) := by decide +kernel
theorem dX4_neverNow_39 : decode cX4_neverNow 39 = .ok (.istore_n 1, 1) := by decide +kernel
theorem dX4_neverNow_40 : decode cX4_neverNow 40 = .ok (.iinc 2 1, 3) := by decide +kernel
theorem dX4_neverNow_43 : decode cX4_neverNow 43 = .ok (.goto (-35), 3) := by decide +kernel
theorem dX4_neverNow_46 : decode cX4_neverNow 46 = .ok (.iload_n 1, 1) := by decide +kernel
theorem dX4_neverNow_47 : decode cX4_neverNow 47 = .ok (.ireturn, 1) := by decide +kernel
set_option maxRecDepth 20000 in
theorem ggX4_never_X4_neverNow : GoodIn wsX4_never wsX4_neverNow := goodIn_r _ [5, 6, 7, 8, 9, 10, 4, 11, 12, 13, 14, 15, 16, 17, 18, 19, 20, 21, 22, 23, 24, 25, 26, 27, 28, 29, 30, 31, 32, 33, 34, 35, 36, 37, 38, 39, 40, 41, 42, 43, 44, 45, 46, 47, 48, 49, 50, 51, 52, 53, 54, 55, 56, 57, 58, 59, 60, 61, 62, 63, 64, 65, 66, 67, 68, 69, 70, 71, 72, 73, 74, 75, 76, 77, 78, 79, 80, 81, 82, 83, 84, 85, 86, 87, 88, 89, 90, 91, 92, 93, 94, 95, 96, 97, 98, 99, 100, 101, 102, 103, 104, 105, 106, 107, 108, 109, 110, 111, 112, 113, 114, 115, 116, 117, 118, 119, 120] (by decide +kernel) (by decide +kernel)
set_option maxRecDepth 20000 in
theorem gX4_never_X4_neverNow : GoodIn wsX4_never (wsV RX4 250 RX4 yX4_neverNow wsX4_neverNow) := goodIn_app (goodIn_of _ (by decide +kernel)) ggX4_never_X4_neverNow
theorem dX4_never_0 : decode cX4_never 0 = .ok (.aload_n 0, 1) := by decide +kernel
theorem dX4_never_1 : decode cX4_never 1 = .ok (.invokevirtual 250, 3) := by decide +kernel
theorem dX4_never_4 : decode cX4_never 4 = .ok (.ireturn, 1) := by decide +kernel
set_option maxRecDepth 20000 in
theorem ggX4_deadsBy_X4_asTold : GoodIn wsX4_deadsBy wsX4_asTold := goodIn_r _ [10, 11, 12, 2, 13, 1, 3, 84, 85, 86, 87, 88, 89, 90, 91, 92, 93, 94, 95, 96, 97, 98, 99, 100, 101, 102, 103, 104, 105, 106, 107, 108, 109, 110, 111, 112, 113, 114, 115, 116, 117] (by decide +kernel) (by decide +kernel)
set_option maxRecDepth 20000 in
theorem gX4_deadsBy_X4_asTold : GoodIn wsX4_deadsBy (wsV RX4 162 RX4 yX4_asTold wsX4_asTold) := goodIn_app (goodIn_of _ (by decide +kernel)) ggX4_deadsBy_X4_asTold
set_option maxRecDepth 20000 in
theorem ggX4_deadsBy_X4_isSeen : GoodIn wsX4_deadsBy wsX4_isSeen := goodIn_r _ [17, 18, 5, 19, 20, 21, 22, 23, 9, 24, 25, 26, 27, 28, 29, 11, 30, 31, 32, 33, 34, 35, 2, 36, 37, 38, 39, 40, 41, 42, 43, 44, 45, 46, 47, 48, 49, 50, 51, 52, 53, 54, 55, 56, 57, 58, 59, 60, 1, 3, 61, 62, 63, 64, 65, 66, 67, 68, 69, 70, 71, 72, 73, 74, 75, 76, 77, 78, 79, 80, 81, 82, 83, 84, 85, 86, 87, 88, 89, 90, 91, 92, 93, 94, 95, 96, 97, 98, 99, 100, 101, 102, 103, 104, 105, 106, 107, 108, 109, 110, 111, 112, 113, 114, 115, 116, 117] (by decide +kernel) (by decide +kernel)
set_option maxRecDepth 20000 in
theorem gX4_deadsBy_X4_isSeen : GoodIn wsX4_deadsBy (wsV RX4 246 RX4 yX4_isSeen wsX4_isSeen) := goodIn_app (goodIn_of _ (by decide +kernel)) ggX4_deadsBy_X4_isSeen
set_option maxRecDepth 20000 in
theorem ggX4_deadsBy_X4_many : GoodIn wsX4_deadsBy wsX4_many := goodIn_r _ [83, 62, 63, 9, 64] (by decide +kernel) (by decide +kernel)
set_option maxRecDepth 20000 in
theorem gX4_deadsBy_X4_many : GoodIn wsX4_deadsBy (va_wsS RX4 203 yX4_many wsX4_many) := goodIn_app (goodIn_of _ (by decide +kernel)) ggX4_deadsBy_X4_many
theorem dX4_deadsBy_0 : decode cX4_deadsBy 0 = .ok (.aload_n 0, 1) := by decide +kernel
theorem dX4_deadsBy_1 : decode cX4_deadsBy 1 = .ok (.invokevirtual 162, 3) := by decide +kernel
theorem dX4_deadsBy_4 : decode cX4_deadsBy 4 = .ok (.aload_n 0, 1) := by decide +kernel
theorem dX4_deadsBy_5 : decode cX4_deadsBy 5 = .ok (.sipush 255, 3) := by decide +kernel
theorem dX4_deadsBy_8 : decode cX4_deadsBy 8 = .ok (.putfield 121, 3) := by decide +kernel
theorem dX4_deadsBy_11 : decode cX4_deadsBy 11 = .ok (.iconst 0, 1) := by decide +kernel
theorem dX4_deadsBy_12 : decode cX4_deadsBy 12 = .ok (.istore_n 1, 1) := by decide +kernel
theorem dX4_deadsBy_13 : decode cX4_deadsBy 13 = .ok (.iconst 0, 1) := by decide +kernel
theorem dX4_deadsBy_14 : decode cX4_deadsBy 14 = .ok (.istore_n 2, 1) := by decide +kernel
theorem dX4_deadsBy_15 : decode cX4_deadsBy 15 = .ok (.iload_n 2, 1) := by decide +kernel
theorem dX4_deadsBy_16 : decode cX4_deadsBy 16 = .ok (.aload_n 0, 1) := by decide +kernel
theorem dX4_deadsBy_17 : decode cX4_deadsBy 17 = .ok (.getfield 28, 3) := by decide +kernel
theorem dX4_deadsBy_20 : decode cX4_deadsBy 20 = .ok (.iconst 0, 1) := by decide +kernel
theorem dX4_deadsBy_21 : decode cX4_deadsBy 21 = .ok (.iaload, 1) := by decide +kernel
theorem dX4_deadsBy_22 : decode cX4_deadsBy 22 = .ok (.if_icmp .ge 65, 3) := by decide +kernel
theorem dX4_deadsBy_25 : decode cX4_deadsBy 25 = .ok (.aload_n 0, 1) := by decide +kernel
theorem dX4_deadsBy_26 : decode cX4_deadsBy 26 = .ok (.iload_n 2, 1) := by decide +kernel
theorem dX4_deadsBy_27 : decode cX4_deadsBy 27 = .ok (.putfield 124, 3) := by decide +kernel
theorem dX4_deadsBy_30 : decode cX4_deadsBy 30 = .ok (.iload_n 1, 1) := by decide +kernel
theorem dX4_deadsBy_31 : decode cX4_deadsBy 31 = .ok (.aload_n 0, 1) := by decide +kernel
theorem dX4_deadsBy_32 : decode cX4_deadsBy 32 = .ok (.invokevirtual 246, 3) := by decide +kernel
theorem dX4_deadsBy_35 : decode cX4_deadsBy 35 = .ok (.ifCond .eq 9, 3) := by decide +kernel
theorem dX4_deadsBy_38 : decode cX4_deadsBy 38 = .ok (.iconst 1, 1) := by decide +kernel
theorem dX4_deadsBy_39 : decode cX4_deadsBy 39 = .ok (.iload_n 2, 1) := by decide +kernel
theorem dX4_deadsBy_40 : decode cX4_deadsBy 40 = .ok (.ishl, 1) := by decide +kernel
theorem dX4_deadsBy_41 : decode cX4_deadsBy 41 = .ok (.goto 4, 3) := by decide +kernel
theorem dX4_deadsBy_44 : decode cX4_deadsBy 44 = .ok (.iconst 0, 1) := by decide +kernel
theorem dX4_deadsBy_45 : decode cX4_deadsBy 45 = .ok (.ior, 1) := by decide +kernel
theorem dX4_deadsBy_46 : decode cX4_deadsBy 46 = .ok (.istore_n 1, 1) := by decide +kernel
theorem dX4_deadsBy_47 : decode cX4_deadsBy 47 = .ok (.iconst 0, 1) := by decide +kernel
theorem dX4_deadsBy_48 : decode cX4_deadsBy 48 = .ok (.istore_n 3, 1) := by decide +kernel
theorem dX4_deadsBy_49 : decode cX4_deadsBy 49 = .ok (.iload_n 3, 1) := by decide +kernel
theorem dX4_deadsBy_50 : decode cX4_deadsBy 50 = .ok (.bipush 16, 2) := by decide +kernel
theorem dX4_deadsBy_52 : decode cX4_deadsBy 52 = .ok (.if_icmp .ge 29, 3) := by decide +kernel
theorem dX4_deadsBy_55 : decode cX4_deadsBy 55 = .ok (.aload_n 0, 1) := by decide +kernel
theorem dX4_deadsBy_56 : decode cX4_deadsBy 56 = .ok (.getfield 70, 3) := by decide +kernel
theorem dX4_deadsBy_59 : decode cX4_deadsBy 59 = .ok (.bipush 16, 2) := by decide +kernel
theorem dX4_deadsBy_61 : decode cX4_deadsBy 61 = .ok (.iload_n 2, 1) := by decide +kernel
theorem dX4_deadsBy_62 : decode cX4_deadsBy 62 = .ok (.imul, 1) := by decide +kernel
theorem dX4_deadsBy_63 : decode cX4_deadsBy 63 = .ok (.iload_n 3, 1) := by decide +kernel
theorem dX4_deadsBy_64 : decode cX4_deadsBy 64 = .ok (.iadd, 1) := by decide +kernel
theorem dX4_deadsBy_65 : decode cX4_deadsBy 65 = .ok (.aload_n 0, 1) := by decide +kernel
theorem dX4_deadsBy_66 : decode cX4_deadsBy 66 = .ok (.getfield 49, 3) := by decide +kernel
theorem dX4_deadsBy_69 : decode cX4_deadsBy 69 = .ok (.iload_n 3, 1) := by decide +kernel
theorem dX4_deadsBy_70 : decode cX4_deadsBy 70 = .ok (.iaload, 1) := by decide +kernel
theorem dX4_deadsBy_71 : decode cX4_deadsBy 71 = .ok (.invokestatic 203, 3) := by decide +kernel
theorem dX4_deadsBy_74 : decode cX4_deadsBy 74 = .ok (.iastore, 1) := by decide +kernel
theorem dX4_deadsBy_75 : decode cX4_deadsBy 75 = .ok (.iinc 3 1, 3) := by decide +kernel
theorem dX4_deadsBy_78 : decode cX4_deadsBy 78 = .ok (.goto (-29), 3) := by decide +kernel
theorem dX4_deadsBy_81 : decode cX4_deadsBy 81 = .ok (.iinc 2 1, 3) := by decide +kernel
theorem dX4_deadsBy_84 : decode cX4_deadsBy 84 = .ok (.goto (-69), 3) := by decide +kernel
theorem dX4_deadsBy_87 : decode cX4_deadsBy 87 = .ok (.iload_n 1, 1) := by decide +kernel
theorem dX4_deadsBy_88 : decode cX4_deadsBy 88 = .ok (.ireturn, 1) := by decide +kernel
set_option maxRecDepth 20000 in
theorem ggX4_capsBy_X4_asTold : GoodIn wsX4_capsBy wsX4_asTold := goodIn_r _ [6, 7, 8, 1, 9, 10, 11, 83, 84, 85, 86, 87, 88, 89, 90, 91, 92, 93, 94, 95, 96, 97, 98, 99, 100, 101, 102, 103, 104, 105, 106, 107, 108, 109, 110, 111, 112, 113, 114, 115, 116] (by decide +kernel) (by decide +kernel)
set_option maxRecDepth 20000 in
theorem gX4_capsBy_X4_asTold : GoodIn wsX4_capsBy (wsV RX4 162 RX4 yX4_asTold wsX4_asTold) := goodIn_app (goodIn_of _ (by decide +kernel)) ggX4_capsBy_X4_asTold
set_option maxRecDepth 20000 in
theorem ggX4_capsBy_X4_isSeen : GoodIn wsX4_capsBy wsX4_isSeen := goodIn_r _ [15, 16, 17, 18, 19, 20, 21, 22, 5, 23, 24, 25, 26, 27, 28, 7, 29, 30, 31, 32, 33, 34, 1, 35, 36, 37, 38, 39, 40, 41, 42, 43, 44, 45, 46, 47, 48, 49, 50, 51, 52, 53, 54, 55, 56, 57, 58, 59, 10, 11, 60, 61, 62, 63, 64, 65, 66, 67, 68, 69, 70, 71, 72, 73, 74, 75, 76, 77, 78, 79, 80, 81, 82, 83, 84, 85, 86, 87, 88, 89, 90, 91, 92, 93, 94, 95, 96, 97, 98, 99, 100, 101, 102, 103, 104, 105, 106, 107, 108, 109, 110, 111, 112, 113, 114, 115, 116] (by decide +kernel) (by decide +kernel)
set_option maxRecDepth 20000 in
theorem gX4_capsBy_X4_isSeen : GoodIn wsX4_capsBy (wsV RX4 246 RX4 yX4_isSeen wsX4_isSeen) := goodIn_app (goodIn_of _ (by decide +kernel)) ggX4_capsBy_X4_isSeen
theorem dX4_capsBy_0 : decode cX4_capsBy 0 = .ok (.aload_n 0, 1) := by decide +kernel
theorem dX4_capsBy_1 : decode cX4_capsBy 1 = .ok (.invokevirtual 162, 3) := by decide +kernel
theorem dX4_capsBy_4 : decode cX4_capsBy 4 = .ok (.iconst 0, 1) := by decide +kernel
theorem dX4_capsBy_5 : decode cX4_capsBy 5 = .ok (.istore_n 1, 1) := by decide +kernel
theorem dX4_capsBy_6 : decode cX4_capsBy 6 = .ok (.iconst 1, 1) := by decide +kernel
theorem dX4_capsBy_7 : decode cX4_capsBy 7 = .ok (.istore_n 2, 1) := by decide +kernel
theorem dX4_capsBy_8 : decode cX4_capsBy 8 = .ok (.iload_n 2, 1) := by decide +kernel
theorem dX4_capsBy_9 : decode cX4_capsBy 9 = .ok (.bipush 9, 2) := by decide +kernel
theorem dX4_capsBy_11 : decode cX4_capsBy 11 = .ok (.if_icmp .ge 33, 3) := by decide +kernel
theorem dX4_capsBy_14 : decode cX4_capsBy 14 = .ok (.aload_n 0, 1) := by decide +kernel
theorem dX4_capsBy_15 : decode cX4_capsBy 15 = .ok (.getfield 28, 3) := by decide +kernel
theorem dX4_capsBy_18 : decode cX4_capsBy 18 = .ok (.iconst 5, 1) := by decide +kernel
theorem dX4_capsBy_19 : decode cX4_capsBy 19 = .ok (.iload_n 2, 1) := by decide +kernel
theorem dX4_capsBy_20 : decode cX4_capsBy 20 = .ok (.iastore, 1) := by decide +kernel
theorem dX4_capsBy_21 : decode cX4_capsBy 21 = .ok (.iload_n 1, 1) := by decide +kernel
theorem dX4_capsBy_22 : decode cX4_capsBy 22 = .ok (.aload_n 0, 1) := by decide +kernel
theorem dX4_capsBy_23 : decode cX4_capsBy 23 = .ok (.invokevirtual 246, 3) := by decide +kernel
theorem dX4_capsBy_26 : decode cX4_capsBy 26 = .ok (.ifCond .eq 9, 3) := by decide +kernel
theorem dX4_capsBy_29 : decode cX4_capsBy 29 = .ok (.iconst 1, 1) := by decide +kernel
theorem dX4_capsBy_30 : decode cX4_capsBy 30 = .ok (.iload_n 2, 1) := by decide +kernel
theorem dX4_capsBy_31 : decode cX4_capsBy 31 = .ok (.ishl, 1) := by decide +kernel
theorem dX4_capsBy_32 : decode cX4_capsBy 32 = .ok (.goto 4, 3) := by decide +kernel
theorem dX4_capsBy_35 : decode cX4_capsBy 35 = .ok (.iconst 0, 1) := by decide +kernel
theorem dX4_capsBy_36 : decode cX4_capsBy 36 = .ok (.ior, 1) := by decide +kernel
theorem dX4_capsBy_37 : decode cX4_capsBy 37 = .ok (.istore_n 1, 1) := by decide +kernel
theorem dX4_capsBy_38 : decode cX4_capsBy 38 = .ok (.iinc 2 1, 3) := by decide +kernel
theorem dX4_capsBy_41 : decode cX4_capsBy 41 = .ok (.goto (-33), 3) := by decide +kernel
theorem dX4_capsBy_44 : decode cX4_capsBy 44 = .ok (.iload_n 1, 1) := by decide +kernel
theorem dX4_capsBy_45 : decode cX4_capsBy 45 = .ok (.ireturn, 1) := by decide +kernel
set_option maxRecDepth 20000 in
theorem ggX4_was_X4_isTwo : GoodIn wsX4_was wsX4_isTwo := goodIn_r _ [4, 5, 6, 3, 7] (by decide +kernel) (by decide +kernel)
set_option maxRecDepth 20000 in
theorem gX4_was_X4_isTwo : GoodIn wsX4_was (va_wsS RX4 107 yX4_isTwo wsX4_isTwo) := goodIn_app (goodIn_of _ (by decide +kernel)) ggX4_was_X4_isTwo
set_option maxRecDepth 20000 in
theorem ggX4_was_X4_deadsBy : GoodIn wsX4_was wsX4_deadsBy := goodIn_r _ [11, 12, 13, 14, 15, 16, 17, 18, 19, 3, 20, 21, 22, 23, 24, 25, 26, 27, 28, 29, 30, 31, 32, 33, 34, 35, 36, 37, 38, 39, 40, 41, 42, 43, 44, 45, 46, 47, 48, 49, 50, 51, 5, 6, 7, 52, 53, 54, 55, 56, 57, 58, 59, 60, 61, 62, 63, 64, 65, 66, 67, 68, 69, 70, 71, 72, 73, 74, 75, 76, 77, 78, 79, 80, 81, 82, 83, 84, 85, 86, 87, 88, 89, 90, 95, 96, 97, 98, 99, 100, 101, 102, 103, 104, 105, 106, 107, 108, 109, 110, 111, 112, 113, 114, 115, 116, 117, 118, 119, 120, 121, 122, 123, 124, 125, 126, 127, 128] (by decide +kernel) (by decide +kernel)
set_option maxRecDepth 20000 in
theorem gX4_was_X4_deadsBy : GoodIn wsX4_was (wsV RX4 253 RX4 yX4_deadsBy wsX4_deadsBy) := goodIn_app (goodIn_of _ (by decide +kernel)) ggX4_was_X4_deadsBy
set_option maxRecDepth 20000 in
theorem ggX4_was_X4_capsBy : GoodIn wsX4_was wsX4_capsBy := goodIn_r _ [94, 13, 17, 18, 19, 3, 20, 21, 22, 23, 12, 14, 24, 25, 26, 27, 28, 16, 29, 30, 31, 32, 33, 34, 35, 36, 37, 38, 39, 40, 41, 42, 43, 44, 45, 46, 47, 48, 49, 50, 51, 5, 6, 7, 52, 53, 54, 55, 56, 57, 58, 59, 60, 61, 62, 63, 64, 65, 66, 67, 68, 69, 70, 71, 72, 73, 74, 75, 76, 77, 78, 79, 80, 81, 82, 83, 84, 85, 86, 87, 88, 89, 90, 95, 96, 97, 98, 99, 100, 101, 102, 103, 104, 105, 106, 107, 108, 109, 110, 111, 112, 113, 114, 115, 116, 117, 118, 119, 120, 121, 122, 123, 124, 125, 126, 127, 128] (by decide +kernel) (by decide +kernel)
set_option maxRecDepth 20000 in
theorem gX4_was_X4_capsBy : GoodIn wsX4_was (wsV RX4 256 RX4 yX4_capsBy wsX4_capsBy) := goodIn_app (goodIn_of _ (by decide +kernel)) ggX4_was_X4_capsBy
theorem dX4_was_0 : decode cX4_was 0 = .ok (.iload_n 1, 1) := by decide +kernel
theorem dX4_was_1 : decode cX4_was 1 = .ok (.invokestatic 107, 3) := by decide +kernel
theorem dX4_was_4 : decode cX4_was 4 = .ok (.ifCond .eq 21, 3) := by decide +kernel
theorem dX4_was_7 : decode cX4_was 7 = .ok (.iload_n 1, 1) := by decide +kernel
theorem dX4_was_8 : decode cX4_was 8 = .ok (.ifCond .ne 10, 3) := by decide +kernel
theorem dX4_was_11 : decode cX4_was 11 = .ok (.aload_n 0, 1) := by decide +kernel
theorem dX4_was_12 : decode cX4_was 12 = .ok (.invokevirtual 253, 3) := by decide +kernel
theorem dX4_was_15 : decode cX4_was 15 = .ok (.goto 12, 3) := by decide +kernel
theorem dX4_was_18 : decode cX4_was 18 = .ok (.aload_n 0, 1) := by decide +kernel
theorem dX4_was_19 : decode cX4_was 19 = .ok (.invokevirtual 256, 3) := by decide +kernel
theorem dX4_was_22 : decode cX4_was 22 = .ok (.goto 5, 3) := by decide +kernel
theorem dX4_was_25 : decode cX4_was 25 = .ok (.bipush (-2), 2) := by decide +kernel
theorem dX4_was_27 : decode cX4_was 27 = .ok (.ireturn, 1) := by decide +kernel
set_option maxRecDepth 20000 in
theorem ggX4_askOf_X4_deadsBy : GoodIn wsX4_askOf wsX4_deadsBy := goodIn_r _ [6, 7, 8, 9, 1, 10, 11, 12, 13, 5, 14, 15, 16, 17, 18, 19, 20, 21, 22, 23, 24, 25, 26, 27, 28, 29, 30, 31, 32, 33, 34, 35, 36, 37, 38, 39, 40, 41, 42, 43, 44, 45, 46, 47, 48, 49, 50, 51, 52, 53, 54, 55, 56, 57, 58, 59, 60, 61, 62, 63, 64, 65, 66, 67, 68, 69, 70, 71, 72, 73, 74, 75, 76, 77, 78, 79, 80, 81, 82, 83, 84, 85, 86, 87, 88, 89, 90, 91, 92, 93, 94, 95, 96, 97, 98, 99, 100, 101, 102, 103, 104, 105, 106, 107, 108, 109, 110, 111, 112, 113, 114, 115, 116, 117, 118, 119, 120, 121] (by decide +kernel) (by decide +kernel)
set_option maxRecDepth 20000 in
theorem gX4_askOf_X4_deadsBy : GoodIn wsX4_askOf (wsV RX4 253 RX4 yX4_deadsBy wsX4_deadsBy) := goodIn_app (goodIn_of _ (by decide +kernel)) ggX4_askOf_X4_deadsBy
set_option maxRecDepth 20000 in
theorem ggX4_askOf_X4_isIn : GoodIn wsX4_askOf wsX4_isIn := goodIn_r _ [68] (by decide +kernel) (by decide +kernel)
set_option maxRecDepth 20000 in
theorem gX4_askOf_X4_isIn : GoodIn wsX4_askOf (va_wsS RX4 91 yX4_isIn wsX4_isIn) := goodIn_app (goodIn_of _ (by decide +kernel)) ggX4_askOf_X4_isIn
theorem dX4_askOf_0 : decode cX4_askOf 0 = .ok (.aload_n 0, 1) := by decide +kernel
theorem dX4_askOf_1 : decode cX4_askOf 1 = .ok (.invokevirtual 253, 3) := by decide +kernel
theorem dX4_askOf_4 : decode cX4_askOf 4 = .ok (.istore_n 1, 1) := by decide +kernel
theorem dX4_askOf_5 : decode cX4_askOf 5 = .ok (.iconst (-1), 1) := by decide +kernel
theorem dX4_askOf_6 : decode cX4_askOf 6 = .ok (.istore_n 2, 1) := by decide +kernel
theorem dX4_askOf_7 : decode cX4_askOf 7 = .ok (.iconst 0, 1) := by decide +kernel
theorem dX4_askOf_8 : decode cX4_askOf 8 = .ok (.istore_n 3, 1) := by decide +kernel
theorem dX4_askOf_9 : decode cX4_askOf 9 = .ok (.iconst 0, 1) := by decide +kernel
theorem dX4_askOf_10 : decode cX4_askOf 10 = .ok (.istore 4, 2) := by decide +kernel
theorem dX4_askOf_12 : decode cX4_askOf 12 = .ok (.iload 4, 2) := by decide +kernel
theorem dX4_askOf_14 : decode cX4_askOf 14 = .ok (.bipush 16, 2) := by decide +kernel
theorem dX4_askOf_16 : decode cX4_askOf 16 = .ok (.if_icmp .ge 162, 3) := by decide +kernel
theorem dX4_askOf_19 : decode cX4_askOf 19 = .ok (.iconst 0, 1) := by decide +kernel
theorem dX4_askOf_20 : decode cX4_askOf 20 = .ok (.istore 5, 2) := by decide +kernel
theorem dX4_askOf_22 : decode cX4_askOf 22 = .ok (.iconst 0, 1) := by decide +kernel
theorem dX4_askOf_23 : decode cX4_askOf 23 = .ok (.istore 6, 2) := by decide +kernel
theorem dX4_askOf_25 : decode cX4_askOf 25 = .ok (.iload 6, 2) := by decide +kernel
theorem dX4_askOf_27 : decode cX4_askOf 27 = .ok (.bipush 8, 2) := by decide +kernel
theorem dX4_askOf_29 : decode cX4_askOf 29 = .ok (.if_icmp .ge 101, 3) := by decide +kernel
theorem dX4_askOf_32 : decode cX4_askOf 32 = .ok (.iconst 0, 1) := by decide +kernel
theorem dX4_askOf_33 : decode cX4_askOf 33 = .ok (.istore 7, 2) := by decide +kernel
theorem dX4_askOf_35 : decode cX4_askOf 35 = .ok (.iconst 0, 1) := by decide +kernel
theorem dX4_askOf_36 : decode cX4_askOf 36 = .ok (.istore 8, 2) := by decide +kernel
theorem dX4_askOf_38 : decode cX4_askOf 38 = .ok (.iload 8, 2) := by decide +kernel
theorem dX4_askOf_40 : decode cX4_askOf 40 = .ok (.bipush 8, 2) := by decide +kernel
theorem dX4_askOf_42 : decode cX4_askOf 42 = .ok (.if_icmp .ge 66, 3) := by decide +kernel
theorem dX4_askOf_45 : decode cX4_askOf 45 = .ok (.iload 7, 2) := by decide +kernel
theorem dX4_askOf_47 : decode cX4_askOf 47 = .ok (.iload_n 1, 1) := by decide +kernel
theorem dX4_askOf_48 : decode cX4_askOf 48 = .ok (.iload 6, 2) := by decide +kernel
theorem dX4_askOf_50 : decode cX4_askOf 50 = .ok (.invokestatic 91, 3) := by decide +kernel
theorem dX4_askOf_53 : decode cX4_askOf 53 = .ok (.ifCond .eq 45, 3) := by decide +kernel
theorem dX4_askOf_56 : decode cX4_askOf 56 = .ok (.iload_n 1, 1) := by decide +kernel
theorem dX4_askOf_57 : decode cX4_askOf 57 = .ok (.iload 8, 2) := by decide +kernel
theorem dX4_askOf_59 : decode cX4_askOf 59 = .ok (.invokestatic 91, 3) := by decide +kernel
theorem dX4_askOf_62 : decode cX4_askOf 62 = .ok (.ifCond .eq 36, 3) := by decide +kernel
theorem dX4_askOf_65 : decode cX4_askOf 65 = .ok (.aload_n 0, 1) := by decide +kernel
theorem dX4_askOf_66 : decode cX4_askOf 66 = .ok (.getfield 70, 3) := by decide +kernel
theorem dX4_askOf_69 : decode cX4_askOf 69 = .ok (.bipush 16, 2) := by decide +kernel
theorem dX4_askOf_71 : decode cX4_askOf 71 = .ok (.iload 6, 2) := by decide +kernel
theorem dX4_askOf_73 : decode cX4_askOf 73 = .ok (.imul, 1) := by decide +kernel
theorem dX4_askOf_74 : decode cX4_askOf 74 = .ok (.iload 4, 2) := by decide +kernel
theorem dX4_askOf_76 : decode cX4_askOf 76 = .ok (.iadd, 1) := by decide +kernel
theorem dX4_askOf_77 : decode cX4_askOf 77 = .ok (.iaload, 1) := by decide +kernel
theorem dX4_askOf_78 : decode cX4_askOf 78 = .ok (.aload_n 0, 1) := by decide +kernel
theorem dX4_askOf_79 : decode cX4_askOf 79 = .ok (.getfield 70, 3) := by decide +kernel
theorem dX4_askOf_82 : decode cX4_askOf 82 = .ok (.bipush 16, 2) := by decide +kernel
theorem dX4_askOf_84 : decode cX4_askOf 84 = .ok (.iload 8, 2) := by decide +kernel
theorem dX4_askOf_86 : decode cX4_askOf 86 = .ok (.imul, 1) := by decide +kernel
theorem dX4_askOf_87 : decode cX4_askOf 87 = .ok (.iload 4, 2) := by decide +kernel
theorem dX4_askOf_89 : decode cX4_askOf 89 = .ok (.iadd, 1) := by decide +kernel
theorem dX4_askOf_90 : decode cX4_askOf 90 = .ok (.iaload, 1) := by decide +kernel
theorem dX4_askOf_91 : decode cX4_askOf 91 = .ok (.if_icmp .ne 7, 3) := by decide +kernel
theorem dX4_askOf_94 : decode cX4_askOf 94 = .ok (.iconst 1, 1) := by decide +kernel
theorem dX4_askOf_95 : decode cX4_askOf 95 = .ok (.goto 4, 3) := by decide +kernel
theorem dX4_askOf_98 : decode cX4_askOf 98 = .ok (.iconst 0, 1) := by decide +kernel
theorem dX4_askOf_99 : decode cX4_askOf 99 = .ok (.iadd, 1) := by decide +kernel
theorem dX4_askOf_100 : decode cX4_askOf 100 = .ok (.istore 7, 2) := by decide +kernel
theorem dX4_askOf_102 : decode cX4_askOf 102 = .ok (.iinc 8 1, 3) := by decide +kernel
theorem dX4_askOf_105 : decode cX4_askOf 105 = .ok (.goto (-67), 3) := by decide +kernel
theorem dX4_askOf_108 : decode cX4_askOf 108 = .ok (.iload 7, 2) := by decide +kernel
theorem dX4_askOf_110 : decode cX4_askOf 110 = .ok (.iload 5, 2) := by decide +kernel
theorem dX4_askOf_112 : decode cX4_askOf 112 = .ok (.if_icmp .le 8, 3) := by decide +kernel
theorem dX4_askOf_115 : decode cX4_askOf 115 = .ok (.iload 7, 2) := by decide +kernel
theorem dX4_askOf_117 : decode cX4_askOf 117 = .ok (.goto 5, 3) := by decide +kernel
theorem dX4_askOf_120 : decode cX4_askOf 120 = .ok (.iload 5, 2) := by decide +kernel
theorem dX4_askOf_122 : decode cX4_askOf 122 = .ok (.istore 5, 2) := by decide +kernel
theorem dX4_askOf_124 : decode cX4_askOf 124 = .ok (.iinc 6 1, 3) := by decide +kernel
theorem dX4_askOf_127 : decode cX4_askOf 127 = .ok (.goto (-102), 3) := by decide +kernel

theorem dX3_sheet_23 : decode cX3_sheet 23 = .ok (.iload_n 3, 1) := by decide +kernel
theorem dX3_sheet_24 : decode cX3_sheet 24 = .ok (.ifCond .ge 9, 3) := by decide +kernel
theorem dX3_sheet_27 : decode cX3_sheet 27 = .ok (.aload_n 0, 1) := by decide +kernel
theorem dX3_sheet_28 : decode cX3_sheet 28 = .ok (.iconst 5, 1) := by decide +kernel
theorem dX3_sheet_29 : decode cX3_sheet 29 = .ok (.invokevirtual 108, 3) := by decide +kernel
theorem dX3_sheet_32 : decode cX3_sheet 32 = .ok (.ireturn, 1) := by decide +kernel
theorem dX3_sheet_33 : decode cX3_sheet 33 = .ok (.aload_n 0, 1) := by decide +kernel
theorem dX3_sheet_34 : decode cX3_sheet 34 = .ok (.getfield 54, 3) := by decide +kernel
theorem dX3_sheet_37 : decode cX3_sheet 37 = .ok (.iload_n 1, 1) := by decide +kernel
theorem dX3_sheet_38 : decode cX3_sheet 38 = .ok (.aaload, 1) := by decide +kernel
theorem dX3_sheet_39 : decode cX3_sheet 39 = .ok (.iload_n 2, 1) := by decide +kernel
theorem dX3_sheet_40 : decode cX3_sheet 40 = .ok (.iload_n 3, 1) := by decide +kernel
theorem dX3_sheet_41 : decode cX3_sheet 41 = .ok (.invokevirtual 221, 3) := by decide +kernel
theorem dX3_sheet_44 : decode cX3_sheet 44 = .ok (.iload_n 3, 1) := by decide +kernel
theorem dX3_sheet_45 : decode cX3_sheet 45 = .ok (.ireturn, 1) := by decide +kernel
theorem qq_X3_lose_0 {c : Cond} (j : Nat) (h : ([.fieldLink RX3 54 "InkSwaths" "sheets" "[LInkSwaths$Sheet;", .methodLink RX3 101 yX3_isSheet, .static yX3_isSheet, .initialized RX3, .code yX3_isSheet cX3_isSheet 1 (some .boolean), .methodLink RX3 68 yX3_within, .static yX3_within, .code yX3_within cX3_within 3 (some .boolean), .methodLink RX3 108 yX3_finding, .instanceMethod yX3_finding, .selects RX3 yX3_finding yX3_finding, .code yX3_finding cX3_finding 2 (some .int), .fieldLink RX3 58 "InkSwaths" "latestFinding" "I"] : List Cond)[j]? = some c) : c ∈ wsX3_lose := List.mem_cons_of_mem _ (List.mem_append_left _ (List.mem_append_left _ (List.mem_of_getElem? h)))
theorem uq_X3_lose_X3 : wsub wsX30 wsX3_lose := fun _ h => List.mem_cons_of_mem _ (List.mem_append_left _ (List.mem_append_right _ (h)))
theorem uq_X3_lose_X2 : wsub wsX20 wsX3_lose := fun _ h => List.mem_cons_of_mem _ (List.mem_append_right _ (h))
set_option maxRecDepth 20000 in
theorem ggX3_lose_X3_isSheet : GoodIn wsX3_lose wsX3_isSheet := goodIn_sub (sb_c (qq_X3_lose_0 4 rfl) (sb_c (qq_X3_lose_0 5 rfl) (sb_c (qq_X3_lose_0 6 rfl) (sb_c (qq_X3_lose_0 3 rfl) (sb_c (qq_X3_lose_0 7 rfl) sb_n))))) gw_X3_isSheet
set_option maxRecDepth 20000 in
theorem gX3_lose_X3_isSheet : GoodIn wsX3_lose (va_wsS RX3 101 yX3_isSheet wsX3_isSheet) := goodIn_app (goodIn_sub (sb_c (qq_X3_lose_0 1 rfl) (sb_c (qq_X3_lose_0 2 rfl) (sb_c (qq_X3_lose_0 3 rfl) sb_n))) (by decide +kernel)) ggX3_lose_X3_isSheet
set_option maxRecDepth 20000 in
theorem ggX3_lose_X3_finding : GoodIn wsX3_lose wsX3_finding := goodIn_sub (sb_c (qq_X3_lose_0 11 rfl) (sb_a (sb_c (qq_X3_lose_0 12 rfl) sb_n) (uq_X3_lose_X3))) gw_X3_finding
set_option maxRecDepth 20000 in
theorem gX3_lose_X3_finding : GoodIn wsX3_lose (wsV RX3 108 RX3 yX3_finding wsX3_finding) := goodIn_app (goodIn_sub (sb_c (qq_X3_lose_0 8 rfl) (sb_c (qq_X3_lose_0 9 rfl) (sb_c (qq_X3_lose_0 10 rfl) (sb_c (qq_X3_lose_0 3 rfl) sb_n)))) (by decide +kernel)) ggX3_lose_X3_finding
theorem dX3_lose_0 : decode cX3_lose 0 = .ok (.iload_n 1, 1) := by decide +kernel
theorem dX3_lose_1 : decode cX3_lose 1 = .ok (.invokestatic 101, 3) := by decide +kernel
theorem dX3_lose_4 : decode cX3_lose 4 = .ok (.ifCond .ne 6, 3) := by decide +kernel
theorem dX3_lose_7 : decode cX3_lose 7 = .ok (.bipush (-2), 2) := by decide +kernel
theorem dX3_lose_9 : decode cX3_lose 9 = .ok (.ireturn, 1) := by decide +kernel
theorem dX3_lose_10 : decode cX3_lose 10 = .ok (.aload_n 0, 1) := by decide +kernel
theorem dX3_lose_11 : decode cX3_lose 11 = .ok (.getfield 54, 3) := by decide +kernel
theorem dX3_lose_14 : decode cX3_lose 14 = .ok (.iload_n 1, 1) := by decide +kernel
theorem dX3_lose_15 : decode cX3_lose 15 = .ok (.aaload, 1) := by decide +kernel
theorem dX3_lose_16 : decode cX3_lose 16 = .ok (.getfield 104, 3) := by decide +kernel
theorem dX3_lose_19 : decode cX3_lose 19 = .ok (.ifCond .eq 9, 3) := by decide +kernel
theorem dX3_lose_22 : decode cX3_lose 22 = .ok (.aload_n 0, 1) := by decide +kernel
theorem dX3_lose_23 : decode cX3_lose 23 = .ok (.iconst 1, 1) := by decide +kernel
theorem dX3_lose_24 : decode cX3_lose 24 = .ok (.invokevirtual 108, 3) := by decide +kernel
theorem dX3_lose_27 : decode cX3_lose 27 = .ok (.ireturn, 1) := by decide +kernel
theorem dX3_lose_28 : decode cX3_lose 28 = .ok (.aload_n 0, 1) := by decide +kernel
theorem dX3_lose_29 : decode cX3_lose 29 = .ok (.getfield 54, 3) := by decide +kernel
theorem dX3_lose_32 : decode cX3_lose 32 = .ok (.iload_n 1, 1) := by decide +kernel
theorem dX3_lose_33 : decode cX3_lose 33 = .ok (.aaload, 1) := by decide +kernel
theorem dX3_lose_34 : decode cX3_lose 34 = .ok (.iconst 1, 1) := by decide +kernel
theorem dX3_lose_35 : decode cX3_lose 35 = .ok (.putfield 104, 3) := by decide +kernel
theorem dX3_lose_38 : decode cX3_lose 38 = .ok (.aload_n 0, 1) := by decide +kernel
theorem dX3_lose_39 : decode cX3_lose 39 = .ok (.getfield 54, 3) := by decide +kernel
theorem dX3_lose_42 : decode cX3_lose 42 = .ok (.iload_n 1, 1) := by decide +kernel
theorem dX3_lose_43 : decode cX3_lose 43 = .ok (.aaload, 1) := by decide +kernel
theorem dX3_lose_44 : decode cX3_lose 44 = .ok (.getfield 112, 3) := by decide +kernel
theorem dX3_lose_47 : decode cX3_lose 47 = .ok (.ireturn, 1) := by decide +kernel
theorem qq_X3_put_0 {c : Cond} (j : Nat) (h : wsX3_put_r1[j]? = some c) : c ∈ wsX3_put := List.mem_cons_of_mem _ (List.mem_append_left _ (List.mem_append_left _ (List.mem_append_left _ (List.mem_of_getElem? h))))
theorem qq_X3_put_1 {c : Cond} (j : Nat) (h : wsX3_put_r2[j]? = some c) : c ∈ wsX3_put := List.mem_cons_of_mem _ (List.mem_append_left _ (List.mem_append_left _ (List.mem_append_right _ (List.mem_of_getElem? h))))
theorem uq_X3_put_X3 : wsub wsX30 wsX3_put := fun _ h => List.mem_cons_of_mem _ (List.mem_append_left _ (List.mem_append_right _ (h)))
theorem uq_X3_put_X2 : wsub wsX20 wsX3_put := fun _ h => List.mem_cons_of_mem _ (List.mem_append_right _ (h))
set_option maxRecDepth 20000 in
theorem ggX3_put_X3_isSheet : GoodIn wsX3_put wsX3_isSheet := goodIn_sub (sb_c (qq_X3_put_0 4 rfl) (sb_c (qq_X3_put_0 5 rfl) (sb_c (qq_X3_put_0 6 rfl) (sb_c (qq_X3_put_0 3 rfl) (sb_c (qq_X3_put_0 7 rfl) sb_n))))) gw_X3_isSheet
set_option maxRecDepth 20000 in
theorem gX3_put_X3_isSheet : GoodIn wsX3_put (va_wsS RX3 101 yX3_isSheet wsX3_isSheet) := goodIn_app (goodIn_sub (sb_c (qq_X3_put_0 1 rfl) (sb_c (qq_X3_put_0 2 rfl) (sb_c (qq_X3_put_0 3 rfl) sb_n))) (by decide +kernel)) ggX3_put_X3_isSheet
set_option maxRecDepth 20000 in
theorem ggX3_put_X3_isForm : GoodIn wsX3_put wsX3_isForm := goodIn_sub (sb_c (qq_X3_put_0 10 rfl) (sb_c (qq_X3_put_0 5 rfl) (sb_c (qq_X3_put_0 6 rfl) (sb_c (qq_X3_put_0 3 rfl) (sb_c (qq_X3_put_0 7 rfl) sb_n))))) gw_X3_isForm
set_option maxRecDepth 20000 in
theorem gX3_put_X3_isForm : GoodIn wsX3_put (va_wsS RX3 218 yX3_isForm wsX3_isForm) := goodIn_app (goodIn_sub (sb_c (qq_X3_put_0 8 rfl) (sb_c (qq_X3_put_0 9 rfl) (sb_c (qq_X3_put_0 3 rfl) sb_n))) (by decide +kernel)) ggX3_put_X3_isForm
set_option maxRecDepth 20000 in
theorem gw_X2_faultOf : wsX2_faultOf.all goodWord = true := by decide +kernel
set_option maxRecDepth 20000 in
theorem ggX3_put_X2_faultOf : GoodIn wsX3_put wsX2_faultOf := goodIn_sub (sb_c (qq_X3_put_0 14 rfl) (sb_a (sb_c (qq_X3_put_0 15 rfl) (sb_c (qq_X3_put_0 16 rfl) (sb_c (qq_X3_put_0 17 rfl) sb_n))) (uq_X3_put_X2))) gw_X2_faultOf
set_option maxRecDepth 20000 in
theorem gX3_put_X2_faultOf_n225 : GoodIn wsX3_put (wsX2_faultOf) := ggX3_put_X2_faultOf
set_option maxRecDepth 20000 in
theorem ggX3_put_X3_finding : GoodIn wsX3_put wsX3_finding := goodIn_sub (sb_c (qq_X3_put_0 21 rfl) (sb_a (sb_c (qq_X3_put_0 22 rfl) sb_n) (uq_X3_put_X3))) gw_X3_finding
set_option maxRecDepth 20000 in
theorem gX3_put_X3_finding : GoodIn wsX3_put (wsV RX3 108 RX3 yX3_finding wsX3_finding) := goodIn_app (goodIn_sub (sb_c (qq_X3_put_0 18 rfl) (sb_c (qq_X3_put_0 19 rfl) (sb_c (qq_X3_put_0 20 rfl) (sb_c (qq_X3_put_0 3 rfl) sb_n)))) (by decide +kernel)) ggX3_put_X3_finding
set_option maxRecDepth 20000 in
theorem gw_X2_fill : wsX2_fill.all goodWord = true := by decide +kernel
set_option maxRecDepth 20000 in
theorem ggX3_put_X2_fill : GoodIn wsX3_put wsX2_fill := goodIn_sub (sb_c (qq_X3_put_1 1 rfl) (sb_a (sb_c (qq_X3_put_1 2 rfl) (sb_c (qq_X3_put_0 16 rfl) sb_n)) (uq_X3_put_X2))) gw_X2_fill
set_option maxRecDepth 20000 in
theorem gX3_put_X2_fill_n228 : GoodIn wsX3_put (wsX2_fill) := ggX3_put_X2_fill
theorem dX3_put_0 : decode cX3_put 0 = .ok (.iload_n 1, 1) := by decide +kernel
theorem dX3_put_1 : decode cX3_put 1 = .ok (.invokestatic 101, 3) := by decide +kernel
theorem dX3_put_4 : decode cX3_put 4 = .ok (.ifCond .eq 10, 3) := by decide +kernel
theorem dX3_put_7 : decode cX3_put 7 = .ok (.iload_n 2, 1) := by decide +kernel
theorem dX3_put_8 : decode cX3_put 8 = .ok (.invokestatic 218, 3) := by decide +kernel
theorem dX3_put_11 : decode cX3_put 11 = .ok (.ifCond .ne 6, 3) := by decide +kernel
theorem dX3_put_14 : decode cX3_put 14 = .ok (.bipush (-2), 2) := by decide +kernel
theorem dX3_put_16 : decode cX3_put 16 = .ok (.ireturn, 1) := by decide +kernel
theorem dX3_put_17 : decode cX3_put 17 = .ok (.aload_n 0, 1) := by decide +kernel
theorem dX3_put_18 : decode cX3_put 18 = .ok (.getfield 54, 3) := by decide +kernel
theorem dX3_put_21 : decode cX3_put 21 = .ok (.iload_n 1, 1) := by decide +kernel
theorem dX3_put_22 : decode cX3_put 22 = .ok (.aaload, 1) := by decide +kernel
theorem dX3_put_23 : decode cX3_put 23 = .ok (.iload_n 2, 1) := by decide +kernel
theorem dX3_put_24 : decode cX3_put 24 = .ok (.iload_n 3, 1) := by decide +kernel
theorem dX3_put_25 : decode cX3_put 25 = .ok (.invokevirtual 225, 3) := by decide +kernel
theorem dX3_put_28 : decode cX3_put 28 = .ok (.istore 5, 2) := by decide +kernel
theorem dX3_put_30 : decode cX3_put 30 = .ok (.iload 5, 2) := by decide +kernel
theorem dX3_put_32 : decode cX3_put 32 = .ok (.ifCond .eq 10, 3) := by decide +kernel
theorem dX3_put_35 : decode cX3_put 35 = .ok (.aload_n 0, 1) := by decide +kernel
theorem dX3_put_36 : decode cX3_put 36 = .ok (.iload 5, 2) := by decide +kernel
theorem dX3_put_38 : decode cX3_put 38 = .ok (.invokevirtual 108, 3) := by decide +kernel
theorem dX3_put_41 : decode cX3_put 41 = .ok (.ireturn, 1) := by decide +kernel
theorem dX3_put_42 : decode cX3_put 42 = .ok (.aload_n 0, 1) := by decide +kernel
theorem dX3_put_43 : decode cX3_put 43 = .ok (.getfield 54, 3) := by decide +kernel
theorem dX3_put_46 : decode cX3_put 46 = .ok (.iload_n 1, 1) := by decide +kernel
theorem dX3_put_47 : decode cX3_put 47 = .ok (.aaload, 1) := by decide +kernel
theorem dX3_put_48 : decode cX3_put 48 = .ok (.iload_n 3, 1) := by decide +kernel
theorem dX3_put_49 : decode cX3_put 49 = .ok (.iload 4, 2) := by decide +kernel
theorem dX3_put_51 : decode cX3_put 51 = .ok (.invokevirtual 228, 3) := by decide +kernel
theorem dX3_put_54 : decode cX3_put 54 = .ok (.iconst 1, 1) := by decide +kernel
theorem dX3_put_55 : decode cX3_put 55 = .ok (.ireturn, 1) := by decide +kernel
theorem qq_X3_get_0 {c : Cond} (j : Nat) (h : ([.constant RX3 81 (-2147483648), .fieldLink RX3 54 "InkSwaths" "sheets" "[LInkSwaths$Sheet;", .methodLink RX3 101 yX3_isSheet, .static yX3_isSheet, .initialized RX3, .code yX3_isSheet cX3_isSheet 1 (some .boolean), .methodLink RX3 68 yX3_within, .static yX3_within, .code yX3_within cX3_within 3 (some .boolean), .methodLink RX3 218 yX3_isForm, .static yX3_isForm, .code yX3_isForm cX3_isForm 1 (some .boolean), .instanceMethod yX2_faultOf, .initialized RX2, .selects RX2 yX2_faultOf yX2_faultOf, .code yX2_faultOf cX2_faultOf 3 (some .int), .fieldLink RX2 22 "InkSwaths$Sheet" "lost" "Z", .fieldLink RX2 15 "InkSwaths$Sheet" "form" "I", .fieldLink RX2 19 "InkSwaths$Sheet" "size" "I", .methodLink RX3 108 yX3_finding, .instanceMethod yX3_finding, .selects RX3 yX3_finding yX3_finding, .code yX3_finding cX3_finding 2 (some .int), .fieldLink RX3 58 "InkSwaths" "latestFinding" "I"] : List Cond)[j]? = some c) : c ∈ wsX3_get := List.mem_cons_of_mem _ (List.mem_append_left _ (List.mem_append_left _ (List.mem_of_getElem? h)))
theorem uq_X3_get_X3 : wsub wsX30 wsX3_get := fun _ h => List.mem_cons_of_mem _ (List.mem_append_left _ (List.mem_append_right _ (h)))
theorem uq_X3_get_X2 : wsub wsX20 wsX3_get := fun _ h => List.mem_cons_of_mem _ (List.mem_append_right _ (h))
set_option maxRecDepth 20000 in
theorem ggX3_get_X3_isSheet : GoodIn wsX3_get wsX3_isSheet := goodIn_sub (sb_c (qq_X3_get_0 5 rfl) (sb_c (qq_X3_get_0 6 rfl) (sb_c (qq_X3_get_0 7 rfl) (sb_c (qq_X3_get_0 4 rfl) (sb_c (qq_X3_get_0 8 rfl) sb_n))))) gw_X3_isSheet
set_option maxRecDepth 20000 in
theorem gX3_get_X3_isSheet : GoodIn wsX3_get (va_wsS RX3 101 yX3_isSheet wsX3_isSheet) := goodIn_app (goodIn_sub (sb_c (qq_X3_get_0 2 rfl) (sb_c (qq_X3_get_0 3 rfl) (sb_c (qq_X3_get_0 4 rfl) sb_n))) (by decide +kernel)) ggX3_get_X3_isSheet
set_option maxRecDepth 20000 in
theorem ggX3_get_X3_isForm : GoodIn wsX3_get wsX3_isForm := goodIn_sub (sb_c (qq_X3_get_0 11 rfl) (sb_c (qq_X3_get_0 6 rfl) (sb_c (qq_X3_get_0 7 rfl) (sb_c (qq_X3_get_0 4 rfl) (sb_c (qq_X3_get_0 8 rfl) sb_n))))) gw_X3_isForm
set_option maxRecDepth 20000 in
theorem gX3_get_X3_isForm : GoodIn wsX3_get (va_wsS RX3 218 yX3_isForm wsX3_isForm) := goodIn_app (goodIn_sub (sb_c (qq_X3_get_0 9 rfl) (sb_c (qq_X3_get_0 10 rfl) (sb_c (qq_X3_get_0 4 rfl) sb_n))) (by decide +kernel)) ggX3_get_X3_isForm
set_option maxRecDepth 20000 in
theorem ggX3_get_X2_faultOf : GoodIn wsX3_get wsX2_faultOf := goodIn_sub (sb_c (qq_X3_get_0 15 rfl) (sb_a (sb_c (qq_X3_get_0 16 rfl) (sb_c (qq_X3_get_0 17 rfl) (sb_c (qq_X3_get_0 18 rfl) sb_n))) (uq_X3_get_X2))) gw_X2_faultOf
set_option maxRecDepth 20000 in
theorem gX3_get_X2_faultOf_n225 : GoodIn wsX3_get (wsX2_faultOf) := ggX3_get_X2_faultOf
set_option maxRecDepth 20000 in
theorem ggX3_get_X3_finding : GoodIn wsX3_get wsX3_finding := goodIn_sub (sb_c (qq_X3_get_0 22 rfl) (sb_a (sb_c (qq_X3_get_0 23 rfl) sb_n) (uq_X3_get_X3))) gw_X3_finding
set_option maxRecDepth 20000 in
theorem gX3_get_X3_finding : GoodIn wsX3_get (wsV RX3 108 RX3 yX3_finding wsX3_finding) := goodIn_app (goodIn_sub (sb_c (qq_X3_get_0 19 rfl) (sb_c (qq_X3_get_0 20 rfl) (sb_c (qq_X3_get_0 21 rfl) (sb_c (qq_X3_get_0 4 rfl) sb_n)))) (by decide +kernel)) ggX3_get_X3_finding
theorem dX3_get_0 : decode cX3_get 0 = .ok (.iload_n 1, 1) := by decide +kernel
theorem dX3_get_1 : decode cX3_get 1 = .ok (.invokestatic 101, 3) := by decide +kernel
theorem dX3_get_4 : decode cX3_get 4 = .ok (.ifCond .eq 10, 3) := by decide +kernel
theorem dX3_get_7 : decode cX3_get 7 = .ok (.iload_n 2, 1) := by decide +kernel
theorem dX3_get_8 : decode cX3_get 8 = .ok (.invokestatic 218, 3) := by decide +kernel
theorem dX3_get_11 : decode cX3_get 11 = .ok (.ifCond .ne 6, 3) := by decide +kernel
theorem dX3_get_14 : decode cX3_get 14 = .ok (.ldc 81, 2) := by decide +kernel
theorem dX3_get_16 : decode cX3_get 16 = .ok (.ireturn, 1) := by decide +kernel
theorem dX3_get_17 : decode cX3_get 17 = .ok (.aload_n 0, 1) := by decide +kernel
theorem dX3_get_18 : decode cX3_get 18 = .ok (.getfield 54, 3) := by decide +kernel
theorem dX3_get_21 : decode cX3_get 21 = .ok (.iload_n 1, 1) := by decide +kernel
theorem dX3_get_22 : decode cX3_get 22 = .ok (.aaload, 1) := by decide +kernel
theorem dX3_get_23 : decode cX3_get 23 = .ok (.iload_n 2, 1) := by decide +kernel
theorem dX3_get_24 : decode cX3_get 24 = .ok (.iload_n 3, 1) := by decide +kernel
theorem dX3_get_25 : decode cX3_get 25 = .ok (.invokevirtual 225, 3) := by decide +kernel
theorem dX3_get_28 : decode cX3_get 28 = .ok (.istore 4, 2) := by decide +kernel
theorem dX3_get_30 : decode cX3_get 30 = .ok (.iload 4, 2) := by decide +kernel
theorem dX3_get_32 : decode cX3_get 32 = .ok (.ifCond .eq 13, 3) := by decide +kernel
theorem dX3_get_35 : decode cX3_get 35 = .ok (.aload_n 0, 1) := by decide +kernel
theorem dX3_get_36 : decode cX3_get 36 = .ok (.iload 4, 2) := by decide +kernel
theorem dX3_get_38 : decode cX3_get 38 = .ok (.invokevirtual 108, 3) := by decide +kernel
theorem dX3_get_41 : decode cX3_get 41 = .ok (.pop, 1) := by decide +kernel
theorem dX3_get_42 : decode cX3_get 42 = .ok (.ldc 81, 2) := by decide +kernel
theorem dX3_get_44 : decode cX3_get 44 = .ok (.ireturn, 1) := by decide +kernel
theorem dX3_get_45 : decode cX3_get 45 = .ok (.aload_n 0, 1) := by decide +kernel
theorem dX3_get_46 : decode cX3_get 46 = .ok (.getfield 54, 3) := by decide +kernel
theorem dX3_get_49 : decode cX3_get 49 = .ok (.iload_n 1, 1) := by decide +kernel
theorem dX3_get_50 : decode cX3_get 50 = .ok (.aaload, 1) := by decide +kernel
theorem dX3_get_51 : decode cX3_get 51 = .ok (.getfield 119, 3) := by decide +kernel
theorem dX3_get_54 : decode cX3_get 54 = .ok (.iload_n 3, 1) := by decide +kernel
theorem dX3_get_55 : decode cX3_get 55 = .ok (.iaload, 1) := by decide +kernel
theorem dX3_get_56 : decode cX3_get 56 = .ok (.ireturn, 1) := by decide +kernel
theorem qq_X3_copy_0 {c : Cond} (j : Nat) (h : ([.fieldLink RX3 54 "InkSwaths" "sheets" "[LInkSwaths$Sheet;", .methodLink RX3 238 arraycopyName, .native arraycopyName, .static arraycopyName, .initialized "java/lang/System", .methodLink RX3 101 yX3_isSheet, .static yX3_isSheet, .initialized RX3, .code yX3_isSheet cX3_isSheet 1 (some .boolean), .methodLink RX3 68 yX3_within, .static yX3_within, .code yX3_within cX3_within 3 (some .boolean), .methodLink RX3 108 yX3_finding, .instanceMethod yX3_finding, .selects RX3 yX3_finding yX3_finding, .code yX3_finding cX3_finding 2 (some .int), .fieldLink RX3 58 "InkSwaths" "latestFinding" "I", .instanceMethod yX2_hasPart, .initialized RX2, .selects RX2 yX2_hasPart yX2_hasPart, .code yX2_hasPart cX2_hasPart 3 (some .boolean), .fieldLink RX2 19 "InkSwaths$Sheet" "size" "I"] : List Cond)[j]? = some c) : c ∈ wsX3_copy := List.mem_cons_of_mem _ (List.mem_append_left _ (List.mem_append_left _ (List.mem_of_getElem? h)))
theorem uq_X3_copy_X3 : wsub wsX30 wsX3_copy := fun _ h => List.mem_cons_of_mem _ (List.mem_append_left _ (List.mem_append_right _ (h)))
theorem uq_X3_copy_X2 : wsub wsX20 wsX3_copy := fun _ h => List.mem_cons_of_mem _ (List.mem_append_right _ (h))
set_option maxRecDepth 20000 in
theorem ggX3_copy_X3_isSheet : GoodIn wsX3_copy wsX3_isSheet := goodIn_sub (sb_c (qq_X3_copy_0 8 rfl) (sb_c (qq_X3_copy_0 9 rfl) (sb_c (qq_X3_copy_0 10 rfl) (sb_c (qq_X3_copy_0 7 rfl) (sb_c (qq_X3_copy_0 11 rfl) sb_n))))) gw_X3_isSheet
set_option maxRecDepth 20000 in
theorem gX3_copy_X3_isSheet : GoodIn wsX3_copy (va_wsS RX3 101 yX3_isSheet wsX3_isSheet) := goodIn_app (goodIn_sub (sb_c (qq_X3_copy_0 5 rfl) (sb_c (qq_X3_copy_0 6 rfl) (sb_c (qq_X3_copy_0 7 rfl) sb_n))) (by decide +kernel)) ggX3_copy_X3_isSheet
set_option maxRecDepth 20000 in
theorem ggX3_copy_X3_finding : GoodIn wsX3_copy wsX3_finding := goodIn_sub (sb_c (qq_X3_copy_0 15 rfl) (sb_a (sb_c (qq_X3_copy_0 16 rfl) sb_n) (uq_X3_copy_X3))) gw_X3_finding
set_option maxRecDepth 20000 in
theorem gX3_copy_X3_finding : GoodIn wsX3_copy (wsV RX3 108 RX3 yX3_finding wsX3_finding) := goodIn_app (goodIn_sub (sb_c (qq_X3_copy_0 12 rfl) (sb_c (qq_X3_copy_0 13 rfl) (sb_c (qq_X3_copy_0 14 rfl) (sb_c (qq_X3_copy_0 7 rfl) sb_n)))) (by decide +kernel)) ggX3_copy_X3_finding
set_option maxRecDepth 20000 in
theorem gw_X2_hasPart : wsX2_hasPart.all goodWord = true := by decide +kernel
set_option maxRecDepth 20000 in
theorem ggX3_copy_X2_hasPart : GoodIn wsX3_copy wsX2_hasPart := goodIn_sub (sb_c (qq_X3_copy_0 20 rfl) (sb_a (sb_c (qq_X3_copy_0 21 rfl) sb_n) (uq_X3_copy_X2))) gw_X2_hasPart
set_option maxRecDepth 20000 in
theorem gX3_copy_X2_hasPart_n234 : GoodIn wsX3_copy (wsX2_hasPart) := ggX3_copy_X2_hasPart
theorem dX3_copy_0 : decode cX3_copy 0 = .ok (.iload_n 1, 1) := by decide +kernel
theorem dX3_copy_1 : decode cX3_copy 1 = .ok (.invokestatic 101, 3) := by decide +kernel
theorem dX3_copy_4 : decode cX3_copy 4 = .ok (.ifCond .eq 10, 3) := by decide +kernel
theorem dX3_copy_7 : decode cX3_copy 7 = .ok (.iload_n 3, 1) := by decide +kernel
theorem dX3_copy_8 : decode cX3_copy 8 = .ok (.invokestatic 101, 3) := by decide +kernel
theorem dX3_copy_11 : decode cX3_copy 11 = .ok (.ifCond .ne 6, 3) := by decide +kernel
theorem dX3_copy_14 : decode cX3_copy 14 = .ok (.bipush (-2), 2) := by decide +kernel
theorem dX3_copy_16 : decode cX3_copy 16 = .ok (.ireturn, 1) := by decide +kernel
theorem dX3_copy_17 : decode cX3_copy 17 = .ok (.aload_n 0, 1) := by decide +kernel
theorem dX3_copy_18 : decode cX3_copy 18 = .ok (.getfield 54, 3) := by decide +kernel
theorem dX3_copy_21 : decode cX3_copy 21 = .ok (.iload_n 1, 1) := by decide +kernel
theorem dX3_copy_22 : decode cX3_copy 22 = .ok (.aaload, 1) := by decide +kernel
theorem dX3_copy_23 : decode cX3_copy 23 = .ok (.astore 6, 2) := by decide +kernel
theorem dX3_copy_25 : decode cX3_copy 25 = .ok (.aload_n 0, 1) := by decide +kernel
theorem dX3_copy_26 : decode cX3_copy 26 = .ok (.getfield 54, 3) := by decide +kernel
theorem dX3_copy_29 : decode cX3_copy 29 = .ok (.iload_n 3, 1) := by decide +kernel
theorem dX3_copy_30 : decode cX3_copy 30 = .ok (.aaload, 1) := by decide +kernel
theorem dX3_copy_31 : decode cX3_copy 31 = .ok (.astore 7, 2) := by decide +kernel
theorem dX3_copy_33 : decode cX3_copy 33 = .ok (.aload 6, 2) := by decide +kernel
theorem dX3_copy_35 : decode cX3_copy 35 = .ok (.getfield 104, 3) := by decide +kernel
theorem dX3_copy_38 : decode cX3_copy 38 = .ok (.ifCond .ne 11, 3) := by decide +kernel
theorem dX3_copy_41 : decode cX3_copy 41 = .ok (.aload 7, 2) := by decide +kernel
theorem dX3_copy_43 : decode cX3_copy 43 = .ok (.getfield 104, 3) := by decide +kernel
theorem dX3_copy_46 : decode cX3_copy 46 = .ok (.ifCond .eq 9, 3) := by decide +kernel
theorem dX3_copy_49 : decode cX3_copy 49 = .ok (.aload_n 0, 1) := by decide +kernel
theorem dX3_copy_50 : decode cX3_copy 50 = .ok (.iconst 1, 1) := by decide +kernel
theorem dX3_copy_51 : decode cX3_copy 51 = .ok (.invokevirtual 108, 3) := by decide +kernel
theorem dX3_copy_54 : decode cX3_copy 54 = .ok (.ireturn, 1) := by decide +kernel
theorem dX3_copy_55 : decode cX3_copy 55 = .ok (.aload 6, 2) := by decide +kernel
theorem dX3_copy_57 : decode cX3_copy 57 = .ok (.getfield 231, 3) := by decide +kernel
theorem dX3_copy_60 : decode cX3_copy 60 = .ok (.aload 7, 2) := by decide +kernel
theorem dX3_copy_62 : decode cX3_copy 62 = .ok (.getfield 231, 3) := by decide +kernel
theorem dX3_copy_65 : decode cX3_copy 65 = .ok (.if_icmp .eq 9, 3) := by decide +kernel
theorem dX3_copy_68 : decode cX3_copy 68 = .ok (.aload_n 0, 1) := by decide +kernel
theorem dX3_copy_69 : decode cX3_copy 69 = .ok (.iconst 4, 1) := by decide +kernel
theorem dX3_copy_70 : decode cX3_copy 70 = .ok (.invokevirtual 108, 3) := by decide +kernel
theorem dX3_copy_73 : decode cX3_copy 73 = .ok (.ireturn, 1) := by decide +kernel
theorem dX3_copy_74 : decode cX3_copy 74 = .ok (.aload 6, 2) := by decide +kernel
theorem dX3_copy_76 : decode cX3_copy 76 = .ok (.iload_n 2, 1) := by decide +kernel
theorem dX3_copy_77 : decode cX3_copy 77 = .ok (.iload 5, 2) := by decide +kernel
theorem dX3_copy_79 : decode cX3_copy 79 = .ok (.invokevirtual 234, 3) := by decide +kernel
theorem dX3_copy_82 : decode cX3_copy 82 = .ok (.ifCond .eq 15, 3) := by decide +kernel
theorem dX3_copy_85 : decode cX3_copy 85 = .ok (.aload 7, 2) := by decide +kernel
theorem dX3_copy_87 : decode cX3_copy 87 = .ok (.iload 4, 2) := by decide +kernel
theorem dX3_copy_89 : decode cX3_copy 89 = .ok (.iload 5, 2) := by decide +kernel
theorem dX3_copy_91 : decode cX3_copy 91 = .ok (.invokevirtual 234, 3) := by decide +kernel
theorem dX3_copy_94 : decode cX3_copy 94 = .ok (.ifCond .ne 9, 3) := by decide +kernel
theorem dX3_copy_97 : decode cX3_copy 97 = .ok (.aload_n 0, 1) := by decide +kernel
theorem dX3_copy_98 : decode cX3_copy 98 = .ok (.iconst 2, 1) := by decide +kernel
theorem dX3_copy_99 : decode cX3_copy 99 = .ok (.invokevirtual 108, 3) := by decide +kernel
theorem dX3_copy_102 : decode cX3_copy 102 = .ok (.ireturn, 1) := by decide +kernel
theorem dX3_copy_103 : decode cX3_copy 103 = .ok (.aload 6, 2) := by decide +kernel
theorem dX3_copy_105 : decode cX3_copy 105 = .ok (.getfield 119, 3) := by decide +kernel
theorem dX3_copy_108 : decode cX3_copy 108 = .ok (.iload_n 2, 1) := by decide +kernel
theorem dX3_copy_109 : decode cX3_copy 109 = .ok (.aload 7, 2) := by decide +kernel
theorem dX3_copy_111 : decode cX3_copy 111 = .ok (.getfield 119, 3) := by decide +kernel
theorem dX3_copy_114 : decode cX3_copy 114 = .ok (.iload 4, 2) := by decide +kernel
theorem dX3_copy_116 : decode cX3_copy 116 = .ok (.iload 5, 2) := by decide +kernel
theorem dX3_copy_118 : decode cX3_copy 118 = .ok (.invokestatic 238, 3) := by decide +kernel
theorem dX3_copy_121 : decode cX3_copy 121 = .ok (.iconst 1, 1) := by decide +kernel
theorem dX3_copy_122 : decode cX3_copy 122 = .ok (.ireturn, 1) := by decide +kernel
theorem qq_X3_write_0 {c : Cond} (j : Nat) (h : ([.fieldLink RX3 54 "InkSwaths" "sheets" "[LInkSwaths$Sheet;", .methodLink RX3 113 Lib.Math.min.name, .static Lib.Math.min.name, .initialized "java/lang/Math", .code Lib.Math.min.name Lib.Math.min.code 2 (some .int), .fieldLink RX3 16 "InkSwaths" "told" "LInkSwaths$Plan;", .methodLink RX3 101 yX3_isSheet, .static yX3_isSheet, .initialized RX3, .code yX3_isSheet cX3_isSheet 1 (some .boolean), .methodLink RX3 68 yX3_within, .static yX3_within, .code yX3_within cX3_within 3 (some .boolean), .methodLink RX3 108 yX3_finding, .instanceMethod yX3_finding, .selects RX3 yX3_finding yX3_finding, .code yX3_finding cX3_finding 2 (some .int), .fieldLink RX3 58 "InkSwaths" "latestFinding" "I", .instanceMethod yX2_fill, .initialized RX2, .selects RX2 yX2_fill yX2_fill, .code yX2_fill cX2_fill 3 none, .fieldLink RX2 9 "InkSwaths$Sheet" "items" "[I", .fieldLink RX2 15 "InkSwaths$Sheet" "form" "I"] : List Cond)[j]? = some c) : c ∈ wsX3_write := List.mem_cons_of_mem _ (List.mem_append_left _ (List.mem_append_left _ (List.mem_append_left _ (List.mem_of_getElem? h))))
theorem uq_X3_write_X3 : wsub wsX30 wsX3_write := fun _ h => List.mem_cons_of_mem _ (List.mem_append_left _ (List.mem_append_left _ (List.mem_append_right _ (h))))
theorem uq_X3_write_X2 : wsub wsX20 wsX3_write := fun _ h => List.mem_cons_of_mem _ (List.mem_append_left _ (List.mem_append_right _ (h)))
theorem uq_X3_write_X1 : wsub wsX10 wsX3_write := fun _ h => List.mem_cons_of_mem _ (List.mem_append_right _ (h))
set_option maxRecDepth 20000 in
theorem ggX3_write_X3_isSheet : GoodIn wsX3_write wsX3_isSheet := goodIn_sub (sb_c (qq_X3_write_0 9 rfl) (sb_c (qq_X3_write_0 10 rfl) (sb_c (qq_X3_write_0 11 rfl) (sb_c (qq_X3_write_0 8 rfl) (sb_c (qq_X3_write_0 12 rfl) sb_n))))) gw_X3_isSheet
set_option maxRecDepth 20000 in
theorem gX3_write_X3_isSheet : GoodIn wsX3_write (va_wsS RX3 101 yX3_isSheet wsX3_isSheet) := goodIn_app (goodIn_sub (sb_c (qq_X3_write_0 6 rfl) (sb_c (qq_X3_write_0 7 rfl) (sb_c (qq_X3_write_0 8 rfl) sb_n))) (by decide +kernel)) ggX3_write_X3_isSheet
set_option maxRecDepth 20000 in
theorem ggX3_write_X3_finding : GoodIn wsX3_write wsX3_finding := goodIn_sub (sb_c (qq_X3_write_0 16 rfl) (sb_a (sb_c (qq_X3_write_0 17 rfl) sb_n) (uq_X3_write_X3))) gw_X3_finding
set_option maxRecDepth 20000 in
theorem gX3_write_X3_finding : GoodIn wsX3_write (wsV RX3 108 RX3 yX3_finding wsX3_finding) := goodIn_app (goodIn_sub (sb_c (qq_X3_write_0 13 rfl) (sb_c (qq_X3_write_0 14 rfl) (sb_c (qq_X3_write_0 15 rfl) (sb_c (qq_X3_write_0 8 rfl) sb_n)))) (by decide +kernel)) ggX3_write_X3_finding
set_option maxRecDepth 20000 in
theorem ggX3_write_X2_fill : GoodIn wsX3_write wsX2_fill := goodIn_sub (sb_c (qq_X3_write_0 21 rfl) (sb_a (sb_c (qq_X3_write_0 22 rfl) (sb_c (qq_X3_write_0 23 rfl) sb_n)) (uq_X3_write_X2))) gw_X2_fill
set_option maxRecDepth 20000 in
theorem gX3_write_X2_fill_n228 : GoodIn wsX3_write (wsX2_fill) := ggX3_write_X2_fill
theorem dX3_write_0 : decode cX3_write 0 = .ok (.iload_n 1, 1) := by decide +kernel
theorem dX3_write_1 : decode cX3_write 1 = .ok (.invokestatic 101, 3) := by decide +kernel
theorem dX3_write_4 : decode cX3_write 4 = .ok (.ifCond .ne 6, 3) := by decide +kernel
theorem dX3_write_7 : decode cX3_write 7 = .ok (.bipush (-2), 2) := by decide +kernel
theorem dX3_write_9 : decode cX3_write 9 = .ok (.ireturn, 1) := by decide +kernel
theorem dX3_write_10 : decode cX3_write 10 = .ok (.aload_n 0, 1) := by decide +kernel
theorem dX3_write_11 : decode cX3_write 11 = .ok (.getfield 54, 3) := by decide +kernel
theorem dX3_write_14 : decode cX3_write 14 = .ok (.iload_n 1, 1) := by decide +kernel
theorem dX3_write_15 : decode cX3_write 15 = .ok (.aaload, 1) := by decide +kernel
theorem dX3_write_16 : decode cX3_write 16 = .ok (.astore_n 2, 1) := by decide +kernel
theorem dX3_write_17 : decode cX3_write 17 = .ok (.aload_n 2, 1) := by decide +kernel
theorem dX3_write_18 : decode cX3_write 18 = .ok (.getfield 104, 3) := by decide +kernel
theorem dX3_write_21 : decode cX3_write 21 = .ok (.ifCond .eq 9, 3) := by decide +kernel
theorem dX3_write_24 : decode cX3_write 24 = .ok (.aload_n 0, 1) := by decide +kernel
theorem dX3_write_25 : decode cX3_write 25 = .ok (.iconst 1, 1) := by decide +kernel
theorem dX3_write_26 : decode cX3_write 26 = .ok (.invokevirtual 108, 3) := by decide +kernel
theorem dX3_write_29 : decode cX3_write 29 = .ok (.ireturn, 1) := by decide +kernel
theorem dX3_write_30 : decode cX3_write 30 = .ok (.aload_n 2, 1) := by decide +kernel
theorem dX3_write_31 : decode cX3_write 31 = .ok (.getfield 112, 3) := by decide +kernel
theorem dX3_write_34 : decode cX3_write 34 = .ok (.bipush 16, 2) := by decide +kernel
theorem dX3_write_36 : decode cX3_write 36 = .ok (.invokestatic 113, 3) := by decide +kernel
theorem dX3_write_39 : decode cX3_write 39 = .ok (.istore_n 3, 1) := by decide +kernel
theorem dX3_write_40 : decode cX3_write 40 = .ok (.iconst 0, 1) := by decide +kernel
theorem dX3_write_41 : decode cX3_write 41 = .ok (.istore 4, 2) := by decide +kernel
theorem dX3_write_43 : decode cX3_write 43 = .ok (.iload 4, 2) := by decide +kernel
theorem dX3_write_45 : decode cX3_write 45 = .ok (.iload_n 3, 1) := by decide +kernel
theorem dX3_write_46 : decode cX3_write 46 = .ok (.if_icmp .ge 25, 3) := by decide +kernel
theorem dX3_write_49 : decode cX3_write 49 = .ok (.aload_n 2, 1) := by decide +kernel
theorem dX3_write_50 : decode cX3_write 50 = .ok (.iload 4, 2) := by decide +kernel
theorem dX3_write_52 : decode cX3_write 52 = .ok (.aload_n 0, 1) := by decide +kernel
theorem dX3_write_53 : decode cX3_write 53 = .ok (.getfield 16, 3) := by decide +kernel
theorem dX3_write_56 : decode cX3_write 56 = .ok (.getfield 137, 3) := by decide +kernel
theorem dX3_write_59 : decode cX3_write 59 = .ok (.iload 4, 2) := by decide +kernel
theorem dX3_write_61 : decode cX3_write 61 = .ok (.iaload, 1) := by decide +kernel
theorem dX3_write_62 : decode cX3_write 62 = .ok (.invokevirtual 228, 3) := by decide +kernel
theorem dX3_write_65 : decode cX3_write 65 = .ok (.iinc 4 1, 3) := by decide +kernel
theorem dX3_write_68 : decode cX3_write 68 = .ok (.goto (-25), 3) := by decide +kernel
theorem dX3_write_71 : decode cX3_write 71 = .ok (.iload_n 3, 1) := by decide +kernel
theorem dX3_write_72 : decode cX3_write 72 = .ok (.ireturn, 1) := by decide +kernel
theorem qq_X3_count_0 {c : Cond} (j : Nat) (h : wsX3_count_r1[j]? = some c) : c ∈ wsX3_count := List.mem_cons_of_mem _ (List.mem_append_left _ (List.mem_append_left _ (List.mem_append_left _ (List.mem_append_left _ (List.mem_of_getElem? h)))))
theorem qq_X3_count_1 {c : Cond} (j : Nat) (h : wsX3_count_r2[j]? = some c) : c ∈ wsX3_count := List.mem_cons_of_mem _ (List.mem_append_left _ (List.mem_append_left _ (List.mem_append_left _ (List.mem_append_right _ (List.mem_append_left _ (List.mem_of_getElem? h))))))
theorem qq_X3_count_2 {c : Cond} (j : Nat) (h : wsX3_count_r3[j]? = some c) : c ∈ wsX3_count := List.mem_cons_of_mem _ (List.mem_append_left _ (List.mem_append_left _ (List.mem_append_left _ (List.mem_append_right _ (List.mem_append_right _ (List.mem_append_left _ (List.mem_of_getElem? h)))))))
theorem qq_X3_count_3 {c : Cond} (j : Nat) (h : wsX3_count_r4[j]? = some c) : c ∈ wsX3_count := List.mem_cons_of_mem _ (List.mem_append_left _ (List.mem_append_left _ (List.mem_append_left _ (List.mem_append_right _ (List.mem_append_right _ (List.mem_append_right _ (List.mem_of_getElem? h)))))))
theorem uq_X3_count_X3 : wsub wsX30 wsX3_count := fun _ h => List.mem_cons_of_mem _ (List.mem_append_left _ (List.mem_append_left _ (List.mem_append_right _ (h))))
theorem uq_X3_count_X0 : wsub wsX00 wsX3_count := fun _ h => List.mem_cons_of_mem _ (List.mem_append_left _ (List.mem_append_right _ (h)))
theorem uq_X3_count_X1 : wsub wsX10 wsX3_count := fun _ h => List.mem_cons_of_mem _ (List.mem_append_right _ (h))
set_option maxRecDepth 20000 in
theorem gw_X3_sum : wsX3_sum.all goodWord = true := by decide +kernel
set_option maxRecDepth 20000 in
theorem ggX3_count_X3_sum : GoodIn wsX3_count wsX3_sum := goodIn_sub (sb_c (qq_X3_count_0 8 rfl) (sb_a (sb_a (sb_a (sb_c (qq_X3_count_0 0 rfl) (sb_c (qq_X3_count_0 9 rfl) (sb_c (qq_X3_count_0 10 rfl) (sb_c (qq_X3_count_0 7 rfl) (sb_c (qq_X3_count_0 11 rfl) (sb_c (qq_X3_count_0 12 rfl) (sb_c (qq_X3_count_0 13 rfl) (sb_c (qq_X3_count_0 14 rfl) (sb_c (qq_X3_count_0 15 rfl) (sb_c (qq_X3_count_0 16 rfl) (sb_c (qq_X3_count_0 17 rfl) (sb_c (qq_X3_count_0 18 rfl) (sb_c (qq_X3_count_0 19 rfl) (sb_c (qq_X3_count_0 20 rfl) (sb_c (qq_X3_count_0 21 rfl) (sb_c (qq_X3_count_0 22 rfl) (sb_c (qq_X3_count_0 23 rfl) (sb_c (qq_X3_count_1 0 rfl) (sb_c (qq_X3_count_1 1 rfl) (sb_c (qq_X3_count_1 2 rfl) (sb_c (qq_X3_count_1 3 rfl) (sb_c (qq_X3_count_1 4 rfl) (sb_c (qq_X3_count_1 5 rfl) (sb_c (qq_X3_count_1 6 rfl) sb_n)))))))))))))))))))))))) (sb_c (qq_X3_count_1 7 rfl) (sb_c (qq_X3_count_1 8 rfl) (sb_c (qq_X3_count_1 9 rfl) (sb_c (qq_X3_count_1 10 rfl) sb_n))))) (uq_X3_count_X3)) (uq_X3_count_X1))) gw_X3_sum
set_option maxRecDepth 20000 in
theorem gX3_count_X3_sum : GoodIn wsX3_count (wsV RX3 244 RX3 yX3_sum wsX3_sum) := goodIn_app (goodIn_sub (sb_c (qq_X3_count_0 4 rfl) (sb_c (qq_X3_count_0 5 rfl) (sb_c (qq_X3_count_0 6 rfl) (sb_c (qq_X3_count_0 7 rfl) sb_n)))) (by decide +kernel)) ggX3_count_X3_sum
set_option maxRecDepth 20000 in
theorem gw_X1_allHits : wsX1_allHits.all goodWord = true := by decide +kernel
set_option maxRecDepth 20000 in
theorem ggX3_count_X1_allHits : GoodIn wsX3_count wsX1_allHits := goodIn_sub (sb_c (qq_X3_count_1 13 rfl) (sb_a (sb_c (qq_X3_count_1 14 rfl) sb_n) (uq_X3_count_X1))) gw_X1_allHits
set_option maxRecDepth 20000 in
theorem gX3_count_X1_allHits_n247 : GoodIn wsX3_count (wsX1_allHits) := ggX3_count_X1_allHits
set_option maxRecDepth 20000 in
theorem gw_X3_least : wsX3_least.all goodWord = true := by decide +kernel
set_option maxRecDepth 20000 in
theorem ggX3_count_X3_least : GoodIn wsX3_count wsX3_least := goodIn_sub (sb_c (qq_X3_count_1 18 rfl) (sb_a (sb_a (sb_a (sb_c (qq_X3_count_0 0 rfl) (sb_c (qq_X3_count_1 19 rfl) (sb_c (qq_X3_count_0 13 rfl) (sb_c (qq_X3_count_1 20 rfl) (sb_c (qq_X3_count_1 21 rfl) (sb_c (qq_X3_count_0 16 rfl) (sb_c (qq_X3_count_1 14 rfl) (sb_c (qq_X3_count_1 22 rfl) (sb_c (qq_X3_count_1 23 rfl) (sb_c (qq_X3_count_2 0 rfl) (sb_c (qq_X3_count_2 1 rfl) (sb_c (qq_X3_count_2 2 rfl) (sb_c (qq_X3_count_2 3 rfl) (sb_c (qq_X3_count_2 4 rfl) (sb_c (qq_X3_count_2 5 rfl) (sb_c (qq_X3_count_2 6 rfl) (sb_c (qq_X3_count_2 7 rfl) (sb_c (qq_X3_count_2 8 rfl) (sb_c (qq_X3_count_2 9 rfl) (sb_c (qq_X3_count_2 10 rfl) (sb_c (qq_X3_count_2 11 rfl) (sb_c (qq_X3_count_2 12 rfl) (sb_c (qq_X3_count_2 13 rfl) (sb_c (qq_X3_count_2 14 rfl) sb_n)))))))))))))))))))))))) (sb_c (qq_X3_count_2 15 rfl) (sb_c (qq_X3_count_2 16 rfl) (sb_c (qq_X3_count_2 17 rfl) (sb_c (qq_X3_count_0 20 rfl) (sb_c (qq_X3_count_0 21 rfl) (sb_c (qq_X3_count_0 22 rfl) (sb_c (qq_X3_count_0 23 rfl) (sb_c (qq_X3_count_1 0 rfl) (sb_c (qq_X3_count_1 1 rfl) (sb_c (qq_X3_count_1 2 rfl) sb_n))))))))))) (uq_X3_count_X3)) (uq_X3_count_X1))) gw_X3_least
set_option maxRecDepth 20000 in
theorem gX3_count_X3_least : GoodIn wsX3_count (wsV RX3 250 RX3 yX3_least wsX3_least) := goodIn_app (goodIn_sub (sb_c (qq_X3_count_1 15 rfl) (sb_c (qq_X3_count_1 16 rfl) (sb_c (qq_X3_count_1 17 rfl) (sb_c (qq_X3_count_0 7 rfl) sb_n)))) (by decide +kernel)) ggX3_count_X3_least
set_option maxRecDepth 20000 in
theorem gw_X3_open : wsX3_open.all goodWord = true := by decide +kernel
set_option maxRecDepth 20000 in
theorem ggX3_count_X3_open : GoodIn wsX3_count wsX3_open := goodIn_sub (sb_c (qq_X3_count_2 21 rfl) (sb_a (sb_a (sb_c (qq_X3_count_0 0 rfl) (sb_c (qq_X3_count_2 22 rfl) (sb_c (qq_X3_count_2 0 rfl) (sb_c (qq_X3_count_2 1 rfl) (sb_c (qq_X3_count_2 2 rfl) (sb_c (qq_X3_count_2 23 rfl) (sb_c (qq_X3_count_0 13 rfl) (sb_c (qq_X3_count_3 0 rfl) (sb_c (qq_X3_count_3 1 rfl) (sb_c (qq_X3_count_3 2 rfl) (sb_c (qq_X3_count_3 3 rfl) sb_n))))))))))) (uq_X3_count_X3)) (uq_X3_count_X1))) gw_X3_open
set_option maxRecDepth 20000 in
theorem gX3_count_X3_open : GoodIn wsX3_count (wsV RX3 253 RX3 yX3_open wsX3_open) := goodIn_app (goodIn_sub (sb_c (qq_X3_count_2 18 rfl) (sb_c (qq_X3_count_2 19 rfl) (sb_c (qq_X3_count_2 20 rfl) (sb_c (qq_X3_count_0 7 rfl) sb_n)))) (by decide +kernel)) ggX3_count_X3_open
theorem dX3_count_0 : decode cX3_count 0 = .ok (.iload_n 1, 1) := by decide +kernel
theorem dX3_count_1 : decode cX3_count 1 = .ok (.tableswitch 105 0 8 #[51, 57, 65, 73, 79, 84, 90, 95, 100], 51) := by decide +kernel
theorem dX3_count_52 : decode cX3_count 52 = .ok (.aload_n 0, 1) := by decide +kernel
theorem dX3_count_53 : decode cX3_count 53 = .ok (.iconst 0, 1) := by decide +kernel
theorem dX3_count_54 : decode cX3_count 54 = .ok (.invokevirtual 244, 3) := by decide +kernel
theorem dX3_count_57 : decode cX3_count 57 = .ok (.ireturn, 1) := by decide +kernel
theorem dX3_count_58 : decode cX3_count 58 = .ok (.aload_n 0, 1) := by decide +kernel
theorem dX3_count_59 : decode cX3_count 59 = .ok (.getfield 16, 3) := by decide +kernel
theorem dX3_count_62 : decode cX3_count 62 = .ok (.invokevirtual 247, 3) := by decide +kernel
theorem dX3_count_65 : decode cX3_count 65 = .ok (.ireturn, 1) := by decide +kernel
theorem dX3_count_66 : decode cX3_count 66 = .ok (.aload_n 0, 1) := by decide +kernel
theorem dX3_count_67 : decode cX3_count 67 = .ok (.getfield 26, 3) := by decide +kernel
theorem dX3_count_70 : decode cX3_count 70 = .ok (.getfield 85, 3) := by decide +kernel
theorem dX3_count_73 : decode cX3_count 73 = .ok (.ireturn, 1) := by decide +kernel
theorem dX3_count_74 : decode cX3_count 74 = .ok (.aload_n 0, 1) := by decide +kernel
theorem dX3_count_75 : decode cX3_count 75 = .ok (.iconst 1, 1) := by decide +kernel
theorem dX3_count_76 : decode cX3_count 76 = .ok (.invokevirtual 244, 3) := by decide +kernel
theorem dX3_count_79 : decode cX3_count 79 = .ok (.ireturn, 1) := by decide +kernel
theorem dX3_count_80 : decode cX3_count 80 = .ok (.aload_n 0, 1) := by decide +kernel
theorem dX3_count_81 : decode cX3_count 81 = .ok (.invokevirtual 250, 3) := by decide +kernel
theorem dX3_count_84 : decode cX3_count 84 = .ok (.ireturn, 1) := by decide +kernel
theorem dX3_count_85 : decode cX3_count 85 = .ok (.aload_n 0, 1) := by decide +kernel
theorem dX3_count_86 : decode cX3_count 86 = .ok (.iconst 3, 1) := by decide +kernel
theorem dX3_count_87 : decode cX3_count 87 = .ok (.invokevirtual 244, 3) := by decide +kernel
theorem dX3_count_90 : decode cX3_count 90 = .ok (.ireturn, 1) := by decide +kernel
theorem dX3_count_91 : decode cX3_count 91 = .ok (.aload_n 0, 1) := by decide +kernel
theorem dX3_count_92 : decode cX3_count 92 = .ok (.invokevirtual 253, 3) := by decide +kernel
theorem dX3_count_95 : decode cX3_count 95 = .ok (.ireturn, 1) := by decide +kernel
theorem dX3_count_96 : decode cX3_count 96 = .ok (.aload_n 0, 1) := by decide +kernel
theorem dX3_count_97 : decode cX3_count 97 = .ok (.getfield 40, 3) := by decide +kernel
theorem dX3_count_100 : decode cX3_count 100 = .ok (.ireturn, 1) := by decide +kernel
theorem dX3_count_101 : decode cX3_count 101 = .ok (.aload_n 0, 1) := by decide +kernel
theorem dX3_count_102 : decode cX3_count 102 = .ok (.getfield 58, 3) := by decide +kernel
theorem dX3_count_105 : decode cX3_count 105 = .ok (.ireturn, 1) := by decide +kernel
theorem dX3_count_106 : decode cX3_count 106 = .ok (.bipush (-2), 2) := by decide +kernel
theorem dX3_count_108 : decode cX3_count 108 = .ok (.ireturn, 1) := by decide +kernel
theorem qq_X3_digest_0 {c : Cond} (j : Nat) (h : wsX3_digest_r1[j]? = some c) : c ∈ wsX3_digest := List.mem_cons_of_mem _ (List.mem_append_left _ (List.mem_append_left _ (List.mem_append_left _ (List.mem_append_left _ (List.mem_of_getElem? h)))))
theorem qq_X3_digest_1 {c : Cond} (j : Nat) (h : wsX3_digest_r2[j]? = some c) : c ∈ wsX3_digest := List.mem_cons_of_mem _ (List.mem_append_left _ (List.mem_append_left _ (List.mem_append_left _ (List.mem_append_right _ (List.mem_append_left _ (List.mem_of_getElem? h))))))
theorem qq_X3_digest_2 {c : Cond} (j : Nat) (h : wsX3_digest_r3[j]? = some c) : c ∈ wsX3_digest := List.mem_cons_of_mem _ (List.mem_append_left _ (List.mem_append_left _ (List.mem_append_left _ (List.mem_append_right _ (List.mem_append_right _ (List.mem_append_left _ (List.mem_of_getElem? h)))))))
theorem qq_X3_digest_3 {c : Cond} (j : Nat) (h : wsX3_digest_r4[j]? = some c) : c ∈ wsX3_digest := List.mem_cons_of_mem _ (List.mem_append_left _ (List.mem_append_left _ (List.mem_append_left _ (List.mem_append_right _ (List.mem_append_right _ (List.mem_append_right _ (List.mem_append_left _ (List.mem_of_getElem? h))))))))
theorem qq_X3_digest_4 {c : Cond} (j : Nat) (h : wsX3_digest_r5[j]? = some c) : c ∈ wsX3_digest := List.mem_cons_of_mem _ (List.mem_append_left _ (List.mem_append_left _ (List.mem_append_left _ (List.mem_append_right _ (List.mem_append_right _ (List.mem_append_right _ (List.mem_append_right _ (List.mem_append_left _ (List.mem_of_getElem? h)))))))))
theorem qq_X3_digest_5 {c : Cond} (j : Nat) (h : wsX3_digest_r6[j]? = some c) : c ∈ wsX3_digest := List.mem_cons_of_mem _ (List.mem_append_left _ (List.mem_append_left _ (List.mem_append_left _ (List.mem_append_right _ (List.mem_append_right _ (List.mem_append_right _ (List.mem_append_right _ (List.mem_append_right _ (List.mem_append_left _ (List.mem_of_getElem? h))))))))))
theorem qq_X3_digest_6 {c : Cond} (j : Nat) (h : wsX3_digest_r7[j]? = some c) : c ∈ wsX3_digest := List.mem_cons_of_mem _ (List.mem_append_left _ (List.mem_append_left _ (List.mem_append_left _ (List.mem_append_right _ (List.mem_append_right _ (List.mem_append_right _ (List.mem_append_right _ (List.mem_append_right _ (List.mem_append_right _ (List.mem_append_left _ (List.mem_of_getElem? h)))))))))))
theorem qq_X3_digest_7 {c : Cond} (j : Nat) (h : wsX3_digest_r8[j]? = some c) : c ∈ wsX3_digest := List.mem_cons_of_mem _ (List.mem_append_left _ (List.mem_append_left _ (List.mem_append_left _ (List.mem_append_right _ (List.mem_append_right _ (List.mem_append_right _ (List.mem_append_right _ (List.mem_append_right _ (List.mem_append_right _ (List.mem_append_right _ (List.mem_append_left _ (List.mem_of_getElem? h))))))))))))
theorem qq_X3_digest_8 {c : Cond} (j : Nat) (h : wsX3_digest_r9[j]? = some c) : c ∈ wsX3_digest := List.mem_cons_of_mem _ (List.mem_append_left _ (List.mem_append_left _ (List.mem_append_left _ (List.mem_append_right _ (List.mem_append_right _ (List.mem_append_right _ (List.mem_append_right _ (List.mem_append_right _ (List.mem_append_right _ (List.mem_append_right _ (List.mem_append_right _ (List.mem_append_left _ (List.mem_of_getElem? h)))))))))))))
theorem qq_X3_digest_9 {c : Cond} (j : Nat) (h : wsX3_digest_r10[j]? = some c) : c ∈ wsX3_digest := List.mem_cons_of_mem _ (List.mem_append_left _ (List.mem_append_left _ (List.mem_append_left _ (List.mem_append_right _ (List.mem_append_right _ (List.mem_append_right _ (List.mem_append_right _ (List.mem_append_right _ (List.mem_append_right _ (List.mem_append_right _ (List.mem_append_right _ (List.mem_append_right _ (List.mem_append_left _ (List.mem_of_getElem? h))))))))))))))
theorem qq_X3_digest_10 {c : Cond} (j : Nat) (h : wsX3_digest_r11[j]? = some c) : c ∈ wsX3_digest := List.mem_cons_of_mem _ (List.mem_append_left _ (List.mem_append_left _ (List.mem_append_left _ (List.mem_append_right _ (List.mem_append_right _ (List.mem_append_right _ (List.mem_append_right _ (List.mem_append_right _ (List.mem_append_right _ (List.mem_append_right _ (List.mem_append_right _ (List.mem_append_right _ (List.mem_append_right _ (List.mem_append_left _ (List.mem_of_getElem? h)))))))))))))))
theorem qq_X3_digest_11 {c : Cond} (j : Nat) (h : wsX3_digest_r12[j]? = some c) : c ∈ wsX3_digest := List.mem_cons_of_mem _ (List.mem_append_left _ (List.mem_append_left _ (List.mem_append_left _ (List.mem_append_right _ (List.mem_append_right _ (List.mem_append_right _ (List.mem_append_right _ (List.mem_append_right _ (List.mem_append_right _ (List.mem_append_right _ (List.mem_append_right _ (List.mem_append_right _ (List.mem_append_right _ (List.mem_append_right _ (List.mem_append_left _ (List.mem_of_getElem? h))))))))))))))))
theorem qq_X3_digest_12 {c : Cond} (j : Nat) (h : wsX3_digest_r13[j]? = some c) : c ∈ wsX3_digest := List.mem_cons_of_mem _ (List.mem_append_left _ (List.mem_append_left _ (List.mem_append_left _ (List.mem_append_right _ (List.mem_append_right _ (List.mem_append_right _ (List.mem_append_right _ (List.mem_append_right _ (List.mem_append_right _ (List.mem_append_right _ (List.mem_append_right _ (List.mem_append_right _ (List.mem_append_right _ (List.mem_append_right _ (List.mem_append_right _ (List.mem_of_getElem? h))))))))))))))))
theorem uq_X3_digest_X3 : wsub wsX30 wsX3_digest := fun _ h => List.mem_cons_of_mem _ (List.mem_append_left _ (List.mem_append_left _ (List.mem_append_right _ (h))))
theorem uq_X3_digest_X0 : wsub wsX00 wsX3_digest := fun _ h => List.mem_cons_of_mem _ (List.mem_append_left _ (List.mem_append_right _ (h)))
theorem uq_X3_digest_X1 : wsub wsX10 wsX3_digest := fun _ h => List.mem_cons_of_mem _ (List.mem_append_right _ (h))
set_option maxRecDepth 20000 in
theorem gw_X3_count : wsX3_count.all goodWord = true := by decide +kernel
set_option maxRecDepth 20000 in
theorem ggX3_digest_X3_count : GoodIn wsX3_digest wsX3_count := goodIn_sub (sb_c (qq_X3_digest_0 5 rfl) (sb_a (sb_a (sb_a (sb_a (sb_c (qq_X3_digest_0 6 rfl) (sb_c (qq_X3_digest_0 7 rfl) (sb_c (qq_X3_digest_0 8 rfl) (sb_c (qq_X3_digest_0 9 rfl) (sb_c (qq_X3_digest_0 10 rfl) (sb_c (qq_X3_digest_0 11 rfl) (sb_c (qq_X3_digest_0 12 rfl) (sb_c (qq_X3_digest_0 4 rfl) (sb_c (qq_X3_digest_0 13 rfl) (sb_c (qq_X3_digest_0 14 rfl) (sb_c (qq_X3_digest_0 15 rfl) (sb_c (qq_X3_digest_0 16 rfl) (sb_c (qq_X3_digest_0 17 rfl) (sb_c (qq_X3_digest_0 18 rfl) (sb_c (qq_X3_digest_0 19 rfl) (sb_c (qq_X3_digest_0 20 rfl) (sb_c (qq_X3_digest_0 21 rfl) (sb_c (qq_X3_digest_0 22 rfl) (sb_c (qq_X3_digest_0 23 rfl) (sb_c (qq_X3_digest_1 0 rfl) (sb_c (qq_X3_digest_1 1 rfl) (sb_c (qq_X3_digest_1 2 rfl) (sb_c (qq_X3_digest_1 3 rfl) (sb_c (qq_X3_digest_1 4 rfl) sb_n)))))))))))))))))))))))) (sb_a (sb_c (qq_X3_digest_1 5 rfl) (sb_c (qq_X3_digest_1 6 rfl) (sb_c (qq_X3_digest_1 7 rfl) (sb_c (qq_X3_digest_1 8 rfl) (sb_c (qq_X3_digest_1 9 rfl) (sb_c (qq_X3_digest_1 10 rfl) (sb_c (qq_X3_digest_1 11 rfl) (sb_c (qq_X3_digest_1 12 rfl) (sb_c (qq_X3_digest_1 13 rfl) (sb_c (qq_X3_digest_1 14 rfl) (sb_c (qq_X3_digest_1 15 rfl) (sb_c (qq_X3_digest_1 16 rfl) (sb_c (qq_X3_digest_1 17 rfl) (sb_c (qq_X3_digest_1 18 rfl) (sb_c (qq_X3_digest_1 19 rfl) (sb_c (qq_X3_digest_1 20 rfl) (sb_c (qq_X3_digest_1 21 rfl) (sb_c (qq_X3_digest_1 22 rfl) (sb_c (qq_X3_digest_1 23 rfl) (sb_c (qq_X3_digest_2 0 rfl) (sb_c (qq_X3_digest_2 1 rfl) (sb_c (qq_X3_digest_2 2 rfl) (sb_c (qq_X3_digest_2 3 rfl) (sb_c (qq_X3_digest_2 4 rfl) sb_n)))))))))))))))))))))))) (sb_a (sb_c (qq_X3_digest_2 5 rfl) (sb_c (qq_X3_digest_2 6 rfl) (sb_c (qq_X3_digest_2 7 rfl) (sb_c (qq_X3_digest_2 8 rfl) (sb_c (qq_X3_digest_2 9 rfl) (sb_c (qq_X3_digest_2 10 rfl) (sb_c (qq_X3_digest_2 11 rfl) (sb_c (qq_X3_digest_2 12 rfl) (sb_c (qq_X3_digest_2 13 rfl) (sb_c (qq_X3_digest_2 14 rfl) (sb_c (qq_X3_digest_2 15 rfl) (sb_c (qq_X3_digest_2 16 rfl) (sb_c (qq_X3_digest_2 17 rfl) (sb_c (qq_X3_digest_2 18 rfl) (sb_c (qq_X3_digest_2 19 rfl) (sb_c (qq_X3_digest_2 20 rfl) (sb_c (qq_X3_digest_2 21 rfl) (sb_c (qq_X3_digest_2 22 rfl) (sb_c (qq_X3_digest_2 23 rfl) (sb_c (qq_X3_digest_3 0 rfl) (sb_c (qq_X3_digest_3 1 rfl) (sb_c (qq_X3_digest_3 2 rfl) (sb_c (qq_X3_digest_3 3 rfl) (sb_c (qq_X3_digest_3 4 rfl) sb_n)))))))))))))))))))))))) (sb_c (qq_X3_digest_3 5 rfl) (sb_c (qq_X3_digest_3 6 rfl) (sb_c (qq_X3_digest_3 7 rfl) (sb_c (qq_X3_digest_3 8 rfl) sb_n))))))) (uq_X3_digest_X3)) (uq_X3_digest_X0)) (uq_X3_digest_X1))) gw_X3_count
set_option maxRecDepth 20000 in
theorem gX3_digest_X3_count : GoodIn wsX3_digest (wsV RX3 258 RX3 yX3_count wsX3_count) := goodIn_app (goodIn_sub (sb_c (qq_X3_digest_0 1 rfl) (sb_c (qq_X3_digest_0 2 rfl) (sb_c (qq_X3_digest_0 3 rfl) (sb_c (qq_X3_digest_0 4 rfl) sb_n)))) (by decide +kernel)) ggX3_digest_X3_count
set_option maxRecDepth 20000 in
theorem gw_X3_mixed : wsX3_mixed.all goodWord = true := by decide +kernel
set_option maxRecDepth 20000 in
theorem ggX3_digest_X3_mixed : GoodIn wsX3_digest wsX3_mixed := goodIn_sub (sb_c (qq_X3_digest_3 11 rfl) (sb_c (qq_X3_digest_3 12 rfl) sb_n)) gw_X3_mixed
set_option maxRecDepth 20000 in
theorem gX3_digest_X3_mixed : GoodIn wsX3_digest (va_wsS RX3 261 yX3_mixed wsX3_mixed) := goodIn_app (goodIn_sub (sb_c (qq_X3_digest_3 9 rfl) (sb_c (qq_X3_digest_3 10 rfl) (sb_c (qq_X3_digest_0 4 rfl) sb_n))) (by decide +kernel)) ggX3_digest_X3_mixed
set_option maxRecDepth 20000 in
theorem gw_X3_mixedLine : wsX3_mixedLine.all goodWord = true := by decide +kernel
set_option maxRecDepth 20000 in
theorem ggX3_digest_X3_mixedLine : GoodIn wsX3_digest wsX3_mixedLine := goodIn_sub (sb_c (qq_X3_digest_3 16 rfl) (sb_a (sb_a (sb_a (sb_c (qq_X3_digest_3 17 rfl) (sb_c (qq_X3_digest_3 18 rfl) (sb_c (qq_X3_digest_3 19 rfl) (sb_c (qq_X3_digest_0 4 rfl) (sb_c (qq_X3_digest_3 20 rfl) (sb_c (qq_X3_digest_0 6 rfl) (sb_c (qq_X3_digest_3 21 rfl) (sb_c (qq_X3_digest_3 22 rfl) (sb_c (qq_X3_digest_3 23 rfl) (sb_c (qq_X3_digest_0 14 rfl) (sb_c (qq_X3_digest_0 15 rfl) (sb_c (qq_X3_digest_0 16 rfl) (sb_c (qq_X3_digest_3 9 rfl) (sb_c (qq_X3_digest_3 10 rfl) (sb_c (qq_X3_digest_3 11 rfl) (sb_c (qq_X3_digest_3 12 rfl) (sb_c (qq_X3_digest_4 0 rfl) (sb_c (qq_X3_digest_4 1 rfl) (sb_c (qq_X3_digest_4 2 rfl) (sb_c (qq_X3_digest_4 3 rfl) (sb_c (qq_X3_digest_2 9 rfl) (sb_c (qq_X3_digest_0 18 rfl) (sb_c (qq_X3_digest_2 10 rfl) (sb_c (qq_X3_digest_2 11 rfl) sb_n)))))))))))))))))))))))) (sb_a (sb_c (qq_X3_digest_2 12 rfl) (sb_c (qq_X3_digest_2 14 rfl) (sb_c (qq_X3_digest_2 15 rfl) (sb_c (qq_X3_digest_2 16 rfl) (sb_c (qq_X3_digest_4 4 rfl) (sb_c (qq_X3_digest_4 5 rfl) (sb_c (qq_X3_digest_4 6 rfl) (sb_c (qq_X3_digest_4 7 rfl) (sb_c (qq_X3_digest_4 8 rfl) (sb_c (qq_X3_digest_4 9 rfl) (sb_c (qq_X3_digest_4 10 rfl) (sb_c (qq_X3_digest_1 19 rfl) (sb_c (qq_X3_digest_4 11 rfl) (sb_c (qq_X3_digest_4 12 rfl) (sb_c (qq_X3_digest_4 13 rfl) (sb_c (qq_X3_digest_4 14 rfl) (sb_c (qq_X3_digest_0 21 rfl) (sb_c (qq_X3_digest_4 15 rfl) (sb_c (qq_X3_digest_4 16 rfl) (sb_c (qq_X3_digest_4 17 rfl) (sb_c (qq_X3_digest_4 18 rfl) (sb_c (qq_X3_digest_2 3 rfl) (sb_c (qq_X3_digest_4 19 rfl) (sb_c (qq_X3_digest_4 20 rfl) sb_n)))))))))))))))))))))))) (sb_c (qq_X3_digest_4 21 rfl) (sb_c (qq_X3_digest_4 22 rfl) (sb_c (qq_X3_digest_4 23 rfl) (sb_c (qq_X3_digest_5 0 rfl) (sb_c (qq_X3_digest_5 1 rfl) (sb_c (qq_X3_digest_5 2 rfl) sb_n)))))))) (uq_X3_digest_X3)) (uq_X3_digest_X1))) gw_X3_mixedLine
set_option maxRecDepth 20000 in
theorem gX3_digest_X3_mixedLine : GoodIn wsX3_digest (wsV RX3 265 RX3 yX3_mixedLine wsX3_mixedLine) := goodIn_app (goodIn_sub (sb_c (qq_X3_digest_3 13 rfl) (sb_c (qq_X3_digest_3 14 rfl) (sb_c (qq_X3_digest_3 15 rfl) (sb_c (qq_X3_digest_0 4 rfl) sb_n)))) (by decide +kernel)) ggX3_digest_X3_mixedLine
set_option maxRecDepth 20000 in
theorem gw_X3_mixedHead : wsX3_mixedHead.all goodWord = true := by decide +kernel
set_option maxRecDepth 20000 in
theorem ggX3_digest_X3_mixedHead : GoodIn wsX3_digest wsX3_mixedHead := goodIn_sub (sb_c (qq_X3_digest_5 6 rfl) (sb_a (sb_a (sb_a (sb_c (qq_X3_digest_0 6 rfl) (sb_c (qq_X3_digest_5 7 rfl) (sb_c (qq_X3_digest_5 8 rfl) (sb_c (qq_X3_digest_5 9 rfl) (sb_c (qq_X3_digest_0 4 rfl) (sb_c (qq_X3_digest_5 10 rfl) (sb_c (qq_X3_digest_0 14 rfl) (sb_c (qq_X3_digest_0 15 rfl) (sb_c (qq_X3_digest_0 16 rfl) (sb_c (qq_X3_digest_5 11 rfl) (sb_c (qq_X3_digest_5 12 rfl) (sb_c (qq_X3_digest_5 13 rfl) (sb_c (qq_X3_digest_5 14 rfl) (sb_c (qq_X3_digest_3 9 rfl) (sb_c (qq_X3_digest_3 10 rfl) (sb_c (qq_X3_digest_3 11 rfl) (sb_c (qq_X3_digest_3 12 rfl) (sb_c (qq_X3_digest_5 15 rfl) (sb_c (qq_X3_digest_5 16 rfl) (sb_c (qq_X3_digest_5 17 rfl) (sb_c (qq_X3_digest_5 18 rfl) (sb_c (qq_X3_digest_5 19 rfl) (sb_c (qq_X3_digest_0 18 rfl) (sb_c (qq_X3_digest_5 20 rfl) sb_n)))))))))))))))))))))))) (sb_c (qq_X3_digest_5 21 rfl) (sb_c (qq_X3_digest_1 15 rfl) (sb_c (qq_X3_digest_2 3 rfl) (sb_c (qq_X3_digest_5 22 rfl) (sb_c (qq_X3_digest_1 1 rfl) (sb_c (qq_X3_digest_1 2 rfl) (sb_c (qq_X3_digest_1 3 rfl) (sb_c (qq_X3_digest_1 4 rfl) (sb_c (qq_X3_digest_1 5 rfl) (sb_c (qq_X3_digest_1 6 rfl) (sb_c (qq_X3_digest_1 7 rfl) sb_n)))))))))))) (uq_X3_digest_X3)) (uq_X3_digest_X1))) gw_X3_mixedHead
set_option maxRecDepth 20000 in
theorem gX3_digest_X3_mixedHead : GoodIn wsX3_digest (wsV RX3 268 RX3 yX3_mixedHead wsX3_mixedHead) := goodIn_app (goodIn_sub (sb_c (qq_X3_digest_5 3 rfl) (sb_c (qq_X3_digest_5 4 rfl) (sb_c (qq_X3_digest_5 5 rfl) (sb_c (qq_X3_digest_0 4 rfl) sb_n)))) (by decide +kernel)) ggX3_digest_X3_mixedHead
set_option maxRecDepth 20000 in
theorem ggX3_digest_X3_sum : GoodIn wsX3_digest wsX3_sum := goodIn_sub (sb_c (qq_X3_digest_0 13 rfl) (sb_a (sb_a (sb_a (sb_c (qq_X3_digest_0 6 rfl) (sb_c (qq_X3_digest_0 14 rfl) (sb_c (qq_X3_digest_0 15 rfl) (sb_c (qq_X3_digest_0 4 rfl) (sb_c (qq_X3_digest_0 16 rfl) (sb_c (qq_X3_digest_0 17 rfl) (sb_c (qq_X3_digest_0 18 rfl) (sb_c (qq_X3_digest_0 19 rfl) (sb_c (qq_X3_digest_0 20 rfl) (sb_c (qq_X3_digest_0 21 rfl) (sb_c (qq_X3_digest_0 22 rfl) (sb_c (qq_X3_digest_0 23 rfl) (sb_c (qq_X3_digest_1 0 rfl) (sb_c (qq_X3_digest_1 1 rfl) (sb_c (qq_X3_digest_1 2 rfl) (sb_c (qq_X3_digest_1 3 rfl) (sb_c (qq_X3_digest_1 4 rfl) (sb_c (qq_X3_digest_1 5 rfl) (sb_c (qq_X3_digest_1 6 rfl) (sb_c (qq_X3_digest_1 7 rfl) (sb_c (qq_X3_digest_1 8 rfl) (sb_c (qq_X3_digest_1 9 rfl) (sb_c (qq_X3_digest_1 10 rfl) (sb_c (qq_X3_digest_1 11 rfl) sb_n)))))))))))))))))))))))) (sb_c (qq_X3_digest_1 12 rfl) (sb_c (qq_X3_digest_1 13 rfl) (sb_c (qq_X3_digest_1 14 rfl) (sb_c (qq_X3_digest_1 15 rfl) sb_n))))) (uq_X3_digest_X3)) (uq_X3_digest_X1))) gw_X3_sum
set_option maxRecDepth 20000 in
theorem gX3_digest_X3_sum : GoodIn wsX3_digest (wsV RX3 244 RX3 yX3_sum wsX3_sum) := goodIn_app (goodIn_sub (sb_c (qq_X3_digest_0 10 rfl) (sb_c (qq_X3_digest_0 11 rfl) (sb_c (qq_X3_digest_0 12 rfl) (sb_c (qq_X3_digest_0 4 rfl) sb_n)))) (by decide +kernel)) ggX3_digest_X3_sum
set_option maxRecDepth 20000 in
theorem gw_X3_even : wsX3_even.all goodWord = true := by decide +kernel
set_option maxRecDepth 20000 in
theorem ggX3_digest_X3_even : GoodIn wsX3_digest wsX3_even := goodIn_sub (sb_c (qq_X3_digest_6 2 rfl) (sb_a (sb_a (sb_c (qq_X3_digest_0 6 rfl) (sb_c (qq_X3_digest_6 3 rfl) (sb_c (qq_X3_digest_6 4 rfl) (sb_c (qq_X3_digest_2 6 rfl) (sb_c (qq_X3_digest_6 5 rfl) (sb_c (qq_X3_digest_3 3 rfl) (sb_c (qq_X3_digest_2 5 rfl) (sb_c (qq_X3_digest_2 7 rfl) (sb_c (qq_X3_digest_0 14 rfl) (sb_c (qq_X3_digest_0 15 rfl) (sb_c (qq_X3_digest_0 4 rfl) (sb_c (qq_X3_digest_0 16 rfl) sb_n)))))))))))) (uq_X3_digest_X3)) (uq_X3_digest_X1))) gw_X3_even
set_option maxRecDepth 20000 in
theorem gX3_digest_X3_even : GoodIn wsX3_digest (wsV RX3 272 RX3 yX3_even wsX3_even) := goodIn_app (goodIn_sub (sb_c (qq_X3_digest_5 23 rfl) (sb_c (qq_X3_digest_6 0 rfl) (sb_c (qq_X3_digest_6 1 rfl) (sb_c (qq_X3_digest_0 4 rfl) sb_n)))) (by decide +kernel)) ggX3_digest_X3_even
set_option maxRecDepth 20000 in
theorem gw_X3_better : wsX3_better.all goodWord = true := by decide +kernel
set_option maxRecDepth 20000 in
theorem ggX3_digest_X3_better : GoodIn wsX3_digest wsX3_better := goodIn_sub (sb_c (qq_X3_digest_6 9 rfl) (sb_a (sb_a (sb_a (sb_c (qq_X3_digest_6 10 rfl) (sb_c (qq_X3_digest_6 11 rfl) (sb_c (qq_X3_digest_6 12 rfl) (sb_c (qq_X3_digest_6 13 rfl) (sb_c (qq_X3_digest_0 6 rfl) (sb_c (qq_X3_digest_6 14 rfl) (sb_c (qq_X3_digest_6 15 rfl) (sb_c (qq_X3_digest_0 14 rfl) (sb_c (qq_X3_digest_0 15 rfl) (sb_c (qq_X3_digest_0 4 rfl) (sb_c (qq_X3_digest_0 16 rfl) (sb_c (qq_X3_digest_6 16 rfl) (sb_c (qq_X3_digest_0 18 rfl) (sb_c (qq_X3_digest_6 17 rfl) (sb_c (qq_X3_digest_6 18 rfl) (sb_c (qq_X3_digest_0 21 rfl) (sb_c (qq_X3_digest_6 19 rfl) (sb_c (qq_X3_digest_6 20 rfl) (sb_c (qq_X3_digest_6 21 rfl) (sb_c (qq_X3_digest_6 22 rfl) (sb_c (qq_X3_digest_2 3 rfl) (sb_c (qq_X3_digest_6 23 rfl) (sb_c (qq_X3_digest_7 0 rfl) (sb_c (qq_X3_digest_7 1 rfl) sb_n)))))))))))))))))))))))) (sb_a (sb_c (qq_X3_digest_7 2 rfl) (sb_c (qq_X3_digest_7 3 rfl) (sb_c (qq_X3_digest_1 11 rfl) (sb_c (qq_X3_digest_3 7 rfl) (sb_c (qq_X3_digest_3 8 rfl) (sb_c (qq_X3_digest_5 22 rfl) (sb_c (qq_X3_digest_7 4 rfl) (sb_c (qq_X3_digest_1 15 rfl) (sb_c (qq_X3_digest_7 5 rfl) (sb_c (qq_X3_digest_7 6 rfl) (sb_c (qq_X3_digest_7 7 rfl) (sb_c (qq_X3_digest_7 8 rfl) (sb_c (qq_X3_digest_1 19 rfl) (sb_c (qq_X3_digest_2 12 rfl) (sb_c (qq_X3_digest_7 9 rfl) (sb_c (qq_X3_digest_7 10 rfl) (sb_c (qq_X3_digest_7 11 rfl) (sb_c (qq_X3_digest_7 12 rfl) (sb_c (qq_X3_digest_3 22 rfl) (sb_c (qq_X3_digest_3 23 rfl) (sb_c (qq_X3_digest_7 13 rfl) (sb_c (qq_X3_digest_7 14 rfl) (sb_c (qq_X3_digest_7 15 rfl) (sb_c (qq_X3_digest_7 16 rfl) sb_n)))))))))))))))))))))))) (sb_a (sb_c (qq_X3_digest_7 17 rfl) (sb_c (qq_X3_digest_7 18 rfl) (sb_c (qq_X3_digest_7 19 rfl) (sb_c (qq_X3_digest_7 20 rfl) (sb_c (qq_X3_digest_7 21 rfl) (sb_c (qq_X3_digest_7 22 rfl) (sb_c (qq_X3_digest_2 8 rfl) (sb_c (qq_X3_digest_2 9 rfl) (sb_c (qq_X3_digest_2 10 rfl) (sb_c (qq_X3_digest_2 11 rfl) (sb_c (qq_X3_digest_2 13 rfl) (sb_c (qq_X3_digest_2 14 rfl) (sb_c (qq_X3_digest_2 15 rfl) (sb_c (qq_X3_digest_2 16 rfl) (sb_c (qq_X3_digest_2 17 rfl) (sb_c (qq_X3_digest_2 18 rfl) (sb_c (qq_X3_digest_2 19 rfl) (sb_c (qq_X3_digest_7 23 rfl) (sb_c (qq_X3_digest_8 0 rfl) (sb_c (qq_X3_digest_8 1 rfl) (sb_c (qq_X3_digest_8 2 rfl) (sb_c (qq_X3_digest_2 20 rfl) (sb_c (qq_X3_digest_2 21 rfl) (sb_c (qq_X3_digest_2 22 rfl) sb_n)))))))))))))))))))))))) (sb_a (sb_c (qq_X3_digest_4 11 rfl) (sb_c (qq_X3_digest_4 12 rfl) (sb_c (qq_X3_digest_4 13 rfl) (sb_c (qq_X3_digest_4 14 rfl) (sb_c (qq_X3_digest_8 3 rfl) (sb_c (qq_X3_digest_8 4 rfl) (sb_c (qq_X3_digest_8 5 rfl) (sb_c (qq_X3_digest_8 6 rfl) (sb_c (qq_X3_digest_8 7 rfl) (sb_c (qq_X3_digest_6 4 rfl) (sb_c (qq_X3_digest_2 6 rfl) (sb_c (qq_X3_digest_6 5 rfl) (sb_c (qq_X3_digest_2 4 rfl) (sb_c (qq_X3_digest_2 5 rfl) (sb_c (qq_X3_digest_2 7 rfl) (sb_c (qq_X3_digest_8 8 rfl) (sb_c (qq_X3_digest_4 8 rfl) (sb_c (qq_X3_digest_4 9 rfl) (sb_c (qq_X3_digest_4 10 rfl) (sb_c (qq_X3_digest_4 15 rfl) (sb_c (qq_X3_digest_4 16 rfl) (sb_c (qq_X3_digest_4 17 rfl) (sb_c (qq_X3_digest_4 18 rfl) (sb_c (qq_X3_digest_8 9 rfl) sb_n)))))))))))))))))))))))) (sb_c (qq_X3_digest_8 10 rfl) (sb_c (qq_X3_digest_8 11 rfl) (sb_c (qq_X3_digest_8 12 rfl) (sb_c (qq_X3_digest_8 13 rfl) (sb_c (qq_X3_digest_8 14 rfl) (sb_c (qq_X3_digest_8 15 rfl) (sb_c (qq_X3_digest_8 16 rfl) (sb_c (qq_X3_digest_1 8 rfl) (sb_c (qq_X3_digest_1 9 rfl) (sb_c (qq_X3_digest_1 10 rfl) (sb_c (qq_X3_digest_0 22 rfl) (sb_c (qq_X3_digest_0 23 rfl) (sb_c (qq_X3_digest_1 0 rfl) (sb_c (qq_X3_digest_1 1 rfl) (sb_c (qq_X3_digest_1 2 rfl) (sb_c (qq_X3_digest_1 3 rfl) (sb_c (qq_X3_digest_1 4 rfl) (sb_c (qq_X3_digest_1 5 rfl) (sb_c (qq_X3_digest_1 6 rfl) (sb_c (qq_X3_digest_1 7 rfl) sb_n)))))))))))))))))))))))) (uq_X3_digest_X3)) (uq_X3_digest_X1))) gw_X3_better
set_option maxRecDepth 20000 in
theorem gX3_digest_X3_better : GoodIn wsX3_digest (wsV RX3 275 RX3 yX3_better wsX3_better) := goodIn_app (goodIn_sub (sb_c (qq_X3_digest_6 6 rfl) (sb_c (qq_X3_digest_6 7 rfl) (sb_c (qq_X3_digest_6 8 rfl) (sb_c (qq_X3_digest_0 4 rfl) sb_n)))) (by decide +kernel)) ggX3_digest_X3_better
set_option maxRecDepth 20000 in
theorem gw_X3_spare : wsX3_spare.all goodWord = true := by decide +kernel
set_option maxRecDepth 20000 in
theorem ggX3_digest_X3_spare : GoodIn wsX3_digest wsX3_spare := goodIn_sub (sb_c (qq_X3_digest_8 20 rfl) (sb_a (sb_a (sb_a (sb_a (sb_c (qq_X3_digest_0 14 rfl) (sb_c (qq_X3_digest_0 15 rfl) (sb_c (qq_X3_digest_0 4 rfl) (sb_c (qq_X3_digest_0 16 rfl) (sb_c (qq_X3_digest_8 21 rfl) (sb_c (qq_X3_digest_8 22 rfl) (sb_c (qq_X3_digest_8 23 rfl) (sb_c (qq_X3_digest_9 0 rfl) (sb_c (qq_X3_digest_0 7 rfl) (sb_c (qq_X3_digest_9 1 rfl) (sb_c (qq_X3_digest_9 2 rfl) (sb_c (qq_X3_digest_9 3 rfl) (sb_c (qq_X3_digest_9 4 rfl) (sb_c (qq_X3_digest_9 5 rfl) (sb_c (qq_X3_digest_9 6 rfl) (sb_c (qq_X3_digest_9 7 rfl) (sb_c (qq_X3_digest_9 8 rfl) (sb_c (qq_X3_digest_9 9 rfl) (sb_c (qq_X3_digest_9 10 rfl) (sb_c (qq_X3_digest_0 6 rfl) (sb_c (qq_X3_digest_9 11 rfl) (sb_c (qq_X3_digest_9 12 rfl) (sb_c (qq_X3_digest_9 13 rfl) (sb_c (qq_X3_digest_9 14 rfl) sb_n)))))))))))))))))))))))) (sb_a (sb_c (qq_X3_digest_9 15 rfl) (sb_c (qq_X3_digest_7 10 rfl) (sb_c (qq_X3_digest_7 11 rfl) (sb_c (qq_X3_digest_7 12 rfl) (sb_c (qq_X3_digest_9 16 rfl) (sb_c (qq_X3_digest_9 17 rfl) (sb_c (qq_X3_digest_9 18 rfl) (sb_c (qq_X3_digest_9 19 rfl) (sb_c (qq_X3_digest_9 20 rfl) (sb_c (qq_X3_digest_9 21 rfl) (sb_c (qq_X3_digest_2 0 rfl) (sb_c (qq_X3_digest_0 18 rfl) (sb_c (qq_X3_digest_2 1 rfl) (sb_c (qq_X3_digest_2 2 rfl) (sb_c (qq_X3_digest_0 21 rfl) (sb_c (qq_X3_digest_1 19 rfl) (sb_c (qq_X3_digest_2 3 rfl) (sb_c (qq_X3_digest_2 4 rfl) (sb_c (qq_X3_digest_2 5 rfl) (sb_c (qq_X3_digest_2 6 rfl) (sb_c (qq_X3_digest_2 7 rfl) (sb_c (qq_X3_digest_2 8 rfl) (sb_c (qq_X3_digest_2 9 rfl) (sb_c (qq_X3_digest_2 10 rfl) sb_n)))))))))))))))))))))))) (sb_c (qq_X3_digest_2 11 rfl) (sb_c (qq_X3_digest_2 12 rfl) (sb_c (qq_X3_digest_2 13 rfl) (sb_c (qq_X3_digest_2 14 rfl) (sb_c (qq_X3_digest_2 15 rfl) (sb_c (qq_X3_digest_2 16 rfl) (sb_c (qq_X3_digest_2 17 rfl) (sb_c (qq_X3_digest_2 18 rfl) (sb_c (qq_X3_digest_2 19 rfl) (sb_c (qq_X3_digest_2 20 rfl) (sb_c (qq_X3_digest_2 21 rfl) (sb_c (qq_X3_digest_2 22 rfl) (sb_c (qq_X3_digest_1 1 rfl) (sb_c (qq_X3_digest_1 2 rfl) (sb_c (qq_X3_digest_1 3 rfl) (sb_c (qq_X3_digest_1 4 rfl) (sb_c (qq_X3_digest_1 5 rfl) (sb_c (qq_X3_digest_1 6 rfl) (sb_c (qq_X3_digest_1 7 rfl) (sb_c (qq_X3_digest_9 22 rfl) (sb_c (qq_X3_digest_9 23 rfl) (sb_c (qq_X3_digest_10 0 rfl) (sb_c (qq_X3_digest_10 1 rfl) sb_n))))))))))))))))))))))))) (uq_X3_digest_X3)) (uq_X3_digest_X0)) (uq_X3_digest_X1))) gw_X3_spare
set_option maxRecDepth 20000 in
theorem gX3_digest_X3_spare : GoodIn wsX3_digest (wsV RX3 278 RX3 yX3_spare wsX3_spare) := goodIn_app (goodIn_sub (sb_c (qq_X3_digest_8 17 rfl) (sb_c (qq_X3_digest_8 18 rfl) (sb_c (qq_X3_digest_8 19 rfl) (sb_c (qq_X3_digest_0 4 rfl) sb_n)))) (by decide +kernel)) ggX3_digest_X3_spare
set_option maxRecDepth 20000 in
theorem gw_X3_never : wsX3_never.all goodWord = true := by decide +kernel
set_option maxRecDepth 20000 in
theorem ggX3_digest_X3_never : GoodIn wsX3_digest wsX3_never := goodIn_sub (sb_c (qq_X3_digest_10 5 rfl) (sb_a (sb_a (sb_a (sb_a (sb_c (qq_X3_digest_0 7 rfl) (sb_c (qq_X3_digest_9 10 rfl) (sb_c (qq_X3_digest_0 6 rfl) (sb_c (qq_X3_digest_9 1 rfl) (sb_c (qq_X3_digest_9 2 rfl) (sb_c (qq_X3_digest_9 3 rfl) (sb_c (qq_X3_digest_9 4 rfl) (sb_c (qq_X3_digest_9 5 rfl) (sb_c (qq_X3_digest_9 11 rfl) (sb_c (qq_X3_digest_9 12 rfl) (sb_c (qq_X3_digest_9 13 rfl) (sb_c (qq_X3_digest_9 14 rfl) (sb_c (qq_X3_digest_9 15 rfl) (sb_c (qq_X3_digest_7 10 rfl) (sb_c (qq_X3_digest_7 11 rfl) (sb_c (qq_X3_digest_7 12 rfl) (sb_c (qq_X3_digest_9 16 rfl) (sb_c (qq_X3_digest_9 17 rfl) (sb_c (qq_X3_digest_9 18 rfl) (sb_c (qq_X3_digest_9 19 rfl) (sb_c (qq_X3_digest_9 20 rfl) (sb_c (qq_X3_digest_9 21 rfl) (sb_c (qq_X3_digest_10 6 rfl) (sb_c (qq_X3_digest_10 7 rfl) sb_n)))))))))))))))))))))))) (sb_a (sb_c (qq_X3_digest_10 8 rfl) (sb_c (qq_X3_digest_0 4 rfl) (sb_c (qq_X3_digest_10 9 rfl) (sb_c (qq_X3_digest_0 8 rfl) (sb_c (qq_X3_digest_10 10 rfl) (sb_c (qq_X3_digest_10 11 rfl) (sb_c (qq_X3_digest_2 0 rfl) (sb_c (qq_X3_digest_0 18 rfl) (sb_c (qq_X3_digest_2 1 rfl) (sb_c (qq_X3_digest_2 2 rfl) (sb_c (qq_X3_digest_0 21 rfl) (sb_c (qq_X3_digest_1 19 rfl) (sb_c (qq_X3_digest_2 3 rfl) (sb_c (qq_X3_digest_2 4 rfl) (sb_c (qq_X3_digest_2 5 rfl) (sb_c (qq_X3_digest_2 6 rfl) (sb_c (qq_X3_digest_2 7 rfl) (sb_c (qq_X3_digest_2 8 rfl) (sb_c (qq_X3_digest_2 9 rfl) (sb_c (qq_X3_digest_2 10 rfl) (sb_c (qq_X3_digest_2 11 rfl) (sb_c (qq_X3_digest_2 12 rfl) (sb_c (qq_X3_digest_2 13 rfl) (sb_c (qq_X3_digest_2 14 rfl) sb_n)))))))))))))))))))))))) (sb_c (qq_X3_digest_2 15 rfl) (sb_c (qq_X3_digest_2 16 rfl) (sb_c (qq_X3_digest_2 17 rfl) (sb_c (qq_X3_digest_2 18 rfl) (sb_c (qq_X3_digest_2 19 rfl) (sb_c (qq_X3_digest_2 20 rfl) (sb_c (qq_X3_digest_2 21 rfl) (sb_c (qq_X3_digest_2 22 rfl) (sb_c (qq_X3_digest_1 1 rfl) (sb_c (qq_X3_digest_1 2 rfl) (sb_c (qq_X3_digest_1 3 rfl) (sb_c (qq_X3_digest_1 4 rfl) (sb_c (qq_X3_digest_1 5 rfl) (sb_c (qq_X3_digest_1 6 rfl) (sb_c (qq_X3_digest_1 7 rfl) sb_n))))))))))))))))) (uq_X3_digest_X3)) (uq_X3_digest_X0)) (uq_X3_digest_X1))) gw_X3_never
set_option maxRecDepth 20000 in
theorem gX3_digest_X3_never : GoodIn wsX3_digest (wsV RX3 281 RX3 yX3_never wsX3_never) := goodIn_app (goodIn_sub (sb_c (qq_X3_digest_10 2 rfl) (sb_c (qq_X3_digest_10 3 rfl) (sb_c (qq_X3_digest_10 4 rfl) (sb_c (qq_X3_digest_0 4 rfl) sb_n)))) (by decide +kernel)) ggX3_digest_X3_never
set_option maxRecDepth 20000 in
theorem gw_X3_was : wsX3_was.all goodWord = true := by decide +kernel
set_option maxRecDepth 20000 in
theorem ggX3_digest_X3_was : GoodIn wsX3_digest wsX3_was := goodIn_sub (sb_c (qq_X3_digest_10 15 rfl) (sb_a (sb_a (sb_a (sb_a (sb_c (qq_X3_digest_0 14 rfl) (sb_c (qq_X3_digest_0 15 rfl) (sb_c (qq_X3_digest_0 4 rfl) (sb_c (qq_X3_digest_0 16 rfl) (sb_c (qq_X3_digest_10 16 rfl) (sb_c (qq_X3_digest_10 17 rfl) (sb_c (qq_X3_digest_10 18 rfl) (sb_c (qq_X3_digest_10 19 rfl) (sb_c (qq_X3_digest_0 6 rfl) (sb_c (qq_X3_digest_10 20 rfl) (sb_c (qq_X3_digest_10 21 rfl) (sb_c (qq_X3_digest_10 22 rfl) (sb_c (qq_X3_digest_10 23 rfl) (sb_c (qq_X3_digest_9 10 rfl) (sb_c (qq_X3_digest_11 0 rfl) (sb_c (qq_X3_digest_7 10 rfl) (sb_c (qq_X3_digest_7 11 rfl) (sb_c (qq_X3_digest_7 12 rfl) (sb_c (qq_X3_digest_10 6 rfl) (sb_c (qq_X3_digest_10 7 rfl) (sb_c (qq_X3_digest_10 8 rfl) (sb_c (qq_X3_digest_10 9 rfl) (sb_c (qq_X3_digest_0 8 rfl) (sb_c (qq_X3_digest_10 10 rfl) sb_n)))))))))))))))))))))))) (sb_a (sb_c (qq_X3_digest_10 11 rfl) (sb_c (qq_X3_digest_2 0 rfl) (sb_c (qq_X3_digest_0 18 rfl) (sb_c (qq_X3_digest_2 1 rfl) (sb_c (qq_X3_digest_2 2 rfl) (sb_c (qq_X3_digest_0 21 rfl) (sb_c (qq_X3_digest_1 19 rfl) (sb_c (qq_X3_digest_2 3 rfl) (sb_c (qq_X3_digest_2 4 rfl) (sb_c (qq_X3_digest_2 5 rfl) (sb_c (qq_X3_digest_2 6 rfl) (sb_c (qq_X3_digest_2 7 rfl) (sb_c (qq_X3_digest_2 8 rfl) (sb_c (qq_X3_digest_2 9 rfl) (sb_c (qq_X3_digest_2 10 rfl) (sb_c (qq_X3_digest_2 11 rfl) (sb_c (qq_X3_digest_2 12 rfl) (sb_c (qq_X3_digest_2 13 rfl) (sb_c (qq_X3_digest_2 14 rfl) (sb_c (qq_X3_digest_2 15 rfl) (sb_c (qq_X3_digest_2 16 rfl) (sb_c (qq_X3_digest_2 17 rfl) (sb_c (qq_X3_digest_2 18 rfl) (sb_c (qq_X3_digest_2 19 rfl) sb_n)))))))))))))))))))))))) (sb_a (sb_c (qq_X3_digest_2 20 rfl) (sb_c (qq_X3_digest_2 21 rfl) (sb_c (qq_X3_digest_2 22 rfl) (sb_c (qq_X3_digest_1 1 rfl) (sb_c (qq_X3_digest_1 2 rfl) (sb_c (qq_X3_digest_1 3 rfl) (sb_c (qq_X3_digest_1 4 rfl) (sb_c (qq_X3_digest_1 5 rfl) (sb_c (qq_X3_digest_1 6 rfl) (sb_c (qq_X3_digest_1 7 rfl) (sb_c (qq_X3_digest_11 1 rfl) (sb_c (qq_X3_digest_11 2 rfl) (sb_c (qq_X3_digest_11 3 rfl) (sb_c (qq_X3_digest_11 4 rfl) (sb_c (qq_X3_digest_0 7 rfl) (sb_c (qq_X3_digest_6 14 rfl) (sb_c (qq_X3_digest_6 15 rfl) (sb_c (qq_X3_digest_9 1 rfl) (sb_c (qq_X3_digest_9 2 rfl) (sb_c (qq_X3_digest_9 3 rfl) (sb_c (qq_X3_digest_9 4 rfl) (sb_c (qq_X3_digest_9 5 rfl) (sb_c (qq_X3_digest_9 11 rfl) (sb_c (qq_X3_digest_9 12 rfl) sb_n)))))))))))))))))))))))) (sb_c (qq_X3_digest_9 13 rfl) (sb_c (qq_X3_digest_9 14 rfl) (sb_c (qq_X3_digest_9 15 rfl) (sb_c (qq_X3_digest_9 16 rfl) (sb_c (qq_X3_digest_9 17 rfl) (sb_c (qq_X3_digest_9 18 rfl) (sb_c (qq_X3_digest_9 19 rfl) (sb_c (qq_X3_digest_9 20 rfl) (sb_c (qq_X3_digest_9 21 rfl) sb_n)))))))))))) (uq_X3_digest_X3)) (uq_X3_digest_X1)) (uq_X3_digest_X0))) gw_X3_was
set_option maxRecDepth 20000 in
theorem gX3_digest_X3_was : GoodIn wsX3_digest (wsV RX3 284 RX3 yX3_was wsX3_was) := goodIn_app (goodIn_sub (sb_c (qq_X3_digest_10 12 rfl) (sb_c (qq_X3_digest_10 13 rfl) (sb_c (qq_X3_digest_10 14 rfl) (sb_c (qq_X3_digest_0 4 rfl) sb_n)))) (by decide +kernel)) ggX3_digest_X3_was
set_option maxRecDepth 20000 in
theorem gw_X3_ask : wsX3_ask.all goodWord = true := by decide +kernel
set_option maxRecDepth 20000 in
theorem ggX3_digest_X3_ask : GoodIn wsX3_digest wsX3_ask := goodIn_sub (sb_c (qq_X3_digest_11 8 rfl) (sb_a (sb_a (sb_a (sb_c (qq_X3_digest_6 12 rfl) (sb_c (qq_X3_digest_10 16 rfl) (sb_c (qq_X3_digest_10 17 rfl) (sb_c (qq_X3_digest_10 18 rfl) (sb_c (qq_X3_digest_0 4 rfl) (sb_c (qq_X3_digest_10 19 rfl) (sb_c (qq_X3_digest_0 6 rfl) (sb_c (qq_X3_digest_10 20 rfl) (sb_c (qq_X3_digest_10 21 rfl) (sb_c (qq_X3_digest_10 22 rfl) (sb_c (qq_X3_digest_10 23 rfl) (sb_c (qq_X3_digest_9 10 rfl) (sb_c (qq_X3_digest_11 0 rfl) (sb_c (qq_X3_digest_7 10 rfl) (sb_c (qq_X3_digest_7 11 rfl) (sb_c (qq_X3_digest_7 12 rfl) (sb_c (qq_X3_digest_10 6 rfl) (sb_c (qq_X3_digest_10 7 rfl) (sb_c (qq_X3_digest_10 8 rfl) (sb_c (qq_X3_digest_10 9 rfl) (sb_c (qq_X3_digest_0 8 rfl) (sb_c (qq_X3_digest_10 10 rfl) (sb_c (qq_X3_digest_10 11 rfl) (sb_c (qq_X3_digest_2 0 rfl) sb_n)))))))))))))))))))))))) (sb_a (sb_c (qq_X3_digest_0 18 rfl) (sb_c (qq_X3_digest_2 1 rfl) (sb_c (qq_X3_digest_2 2 rfl) (sb_c (qq_X3_digest_0 21 rfl) (sb_c (qq_X3_digest_1 19 rfl) (sb_c (qq_X3_digest_2 3 rfl) (sb_c (qq_X3_digest_2 4 rfl) (sb_c (qq_X3_digest_2 5 rfl) (sb_c (qq_X3_digest_2 6 rfl) (sb_c (qq_X3_digest_2 7 rfl) (sb_c (qq_X3_digest_2 8 rfl) (sb_c (qq_X3_digest_2 9 rfl) (sb_c (qq_X3_digest_2 10 rfl) (sb_c (qq_X3_digest_2 11 rfl) (sb_c (qq_X3_digest_2 12 rfl) (sb_c (qq_X3_digest_2 13 rfl) (sb_c (qq_X3_digest_2 14 rfl) (sb_c (qq_X3_digest_2 15 rfl) (sb_c (qq_X3_digest_2 16 rfl) (sb_c (qq_X3_digest_2 17 rfl) (sb_c (qq_X3_digest_2 18 rfl) (sb_c (qq_X3_digest_2 19 rfl) (sb_c (qq_X3_digest_2 20 rfl) (sb_c (qq_X3_digest_2 21 rfl) sb_n)))))))))))))))))))))))) (sb_c (qq_X3_digest_2 22 rfl) (sb_c (qq_X3_digest_1 1 rfl) (sb_c (qq_X3_digest_1 2 rfl) (sb_c (qq_X3_digest_1 3 rfl) (sb_c (qq_X3_digest_1 4 rfl) (sb_c (qq_X3_digest_1 5 rfl) (sb_c (qq_X3_digest_1 6 rfl) (sb_c (qq_X3_digest_1 7 rfl) (sb_c (qq_X3_digest_11 9 rfl) (sb_c (qq_X3_digest_11 10 rfl) (sb_c (qq_X3_digest_11 11 rfl) (sb_c (qq_X3_digest_11 12 rfl) (sb_c (qq_X3_digest_11 13 rfl) (sb_c (qq_X3_digest_3 3 rfl) sb_n)))))))))))))))) (uq_X3_digest_X3)) (uq_X3_digest_X1))) gw_X3_ask
set_option maxRecDepth 20000 in
theorem gX3_digest_X3_ask : GoodIn wsX3_digest (wsV RX3 287 RX3 yX3_ask wsX3_ask) := goodIn_app (goodIn_sub (sb_c (qq_X3_digest_11 5 rfl) (sb_c (qq_X3_digest_11 6 rfl) (sb_c (qq_X3_digest_11 7 rfl) (sb_c (qq_X3_digest_0 4 rfl) sb_n)))) (by decide +kernel)) ggX3_digest_X3_ask
set_option maxRecDepth 20000 in
theorem gw_X3_chance : wsX3_chance.all goodWord = true := by decide +kernel
set_option maxRecDepth 20000 in
theorem ggX3_digest_X3_chance : GoodIn wsX3_digest wsX3_chance := goodIn_sub (sb_c (qq_X3_digest_11 17 rfl) (sb_a (sb_a (sb_a (sb_a (sb_c (qq_X3_digest_11 18 rfl) (sb_c (qq_X3_digest_0 7 rfl) (sb_c (qq_X3_digest_11 19 rfl) (sb_c (qq_X3_digest_11 20 rfl) (sb_c (qq_X3_digest_0 14 rfl) (sb_c (qq_X3_digest_0 15 rfl) (sb_c (qq_X3_digest_0 4 rfl) (sb_c (qq_X3_digest_0 16 rfl) (sb_c (qq_X3_digest_11 21 rfl) (sb_c (qq_X3_digest_11 22 rfl) (sb_c (qq_X3_digest_11 23 rfl) (sb_c (qq_X3_digest_12 0 rfl) (sb_c (qq_X3_digest_12 1 rfl) (sb_c (qq_X3_digest_12 2 rfl) (sb_c (qq_X3_digest_7 11 rfl) (sb_c (qq_X3_digest_12 3 rfl) (sb_c (qq_X3_digest_9 1 rfl) (sb_c (qq_X3_digest_9 2 rfl) (sb_c (qq_X3_digest_9 3 rfl) (sb_c (qq_X3_digest_9 4 rfl) (sb_c (qq_X3_digest_9 5 rfl) (sb_c (qq_X3_digest_9 6 rfl) (sb_c (qq_X3_digest_9 7 rfl) (sb_c (qq_X3_digest_9 8 rfl) sb_n)))))))))))))))))))))))) (sb_a (sb_c (qq_X3_digest_9 9 rfl) (sb_c (qq_X3_digest_9 10 rfl) (sb_c (qq_X3_digest_0 6 rfl) (sb_c (qq_X3_digest_9 11 rfl) (sb_c (qq_X3_digest_9 12 rfl) (sb_c (qq_X3_digest_9 13 rfl) (sb_c (qq_X3_digest_9 14 rfl) (sb_c (qq_X3_digest_9 15 rfl) (sb_c (qq_X3_digest_7 10 rfl) (sb_c (qq_X3_digest_7 12 rfl) (sb_c (qq_X3_digest_9 16 rfl) (sb_c (qq_X3_digest_9 17 rfl) (sb_c (qq_X3_digest_9 18 rfl) (sb_c (qq_X3_digest_9 19 rfl) (sb_c (qq_X3_digest_9 20 rfl) (sb_c (qq_X3_digest_9 21 rfl) (sb_c (qq_X3_digest_2 0 rfl) (sb_c (qq_X3_digest_0 18 rfl) (sb_c (qq_X3_digest_2 1 rfl) (sb_c (qq_X3_digest_2 2 rfl) (sb_c (qq_X3_digest_0 21 rfl) (sb_c (qq_X3_digest_1 19 rfl) (sb_c (qq_X3_digest_2 3 rfl) (sb_c (qq_X3_digest_2 4 rfl) sb_n)))))))))))))))))))))))) (sb_a (sb_c (qq_X3_digest_2 5 rfl) (sb_c (qq_X3_digest_2 6 rfl) (sb_c (qq_X3_digest_2 7 rfl) (sb_c (qq_X3_digest_2 8 rfl) (sb_c (qq_X3_digest_2 9 rfl) (sb_c (qq_X3_digest_2 10 rfl) (sb_c (qq_X3_digest_2 11 rfl) (sb_c (qq_X3_digest_2 12 rfl) (sb_c (qq_X3_digest_2 13 rfl) (sb_c (qq_X3_digest_2 14 rfl) (sb_c (qq_X3_digest_2 15 rfl) (sb_c (qq_X3_digest_2 16 rfl) (sb_c (qq_X3_digest_2 17 rfl) (sb_c (qq_X3_digest_2 18 rfl) (sb_c (qq_X3_digest_2 19 rfl) (sb_c (qq_X3_digest_2 20 rfl) (sb_c (qq_X3_digest_2 21 rfl) (sb_c (qq_X3_digest_2 22 rfl) (sb_c (qq_X3_digest_1 1 rfl) (sb_c (qq_X3_digest_1 2 rfl) (sb_c (qq_X3_digest_1 3 rfl) (sb_c (qq_X3_digest_1 4 rfl) (sb_c (qq_X3_digest_1 5 rfl) (sb_c (qq_X3_digest_1 6 rfl) sb_n)))))))))))))))))))))))) (sb_c (qq_X3_digest_1 7 rfl) (sb_c (qq_X3_digest_9 22 rfl) (sb_c (qq_X3_digest_12 4 rfl) (sb_c (qq_X3_digest_12 5 rfl) (sb_c (qq_X3_digest_12 6 rfl) sb_n)))))))) (uq_X3_digest_X3)) (uq_X3_digest_X0)) (uq_X3_digest_X1))) gw_X3_chance
set_option maxRecDepth 20000 in
theorem gX3_digest_X3_chance : GoodIn wsX3_digest (wsV RX3 290 RX3 yX3_chance wsX3_chance) := goodIn_app (goodIn_sub (sb_c (qq_X3_digest_11 14 rfl) (sb_c (qq_X3_digest_11 15 rfl) (sb_c (qq_X3_digest_11 16 rfl) (sb_c (qq_X3_digest_0 4 rfl) sb_n)))) (by decide +kernel)) ggX3_digest_X3_chance
set_option maxRecDepth 20000 in
theorem gw_X3_tests : wsX3_tests.all goodWord = true := by decide +kernel
set_option maxRecDepth 20000 in
theorem ggX3_digest_X3_tests : GoodIn wsX3_digest wsX3_tests := goodIn_sub (sb_c (qq_X3_digest_12 10 rfl) (sb_a (sb_a (sb_a (sb_c (qq_X3_digest_6 13 rfl) (sb_c (qq_X3_digest_0 6 rfl) (sb_c (qq_X3_digest_12 11 rfl) (sb_c (qq_X3_digest_0 14 rfl) (sb_c (qq_X3_digest_0 15 rfl) (sb_c (qq_X3_digest_0 4 rfl) (sb_c (qq_X3_digest_0 16 rfl) (sb_c (qq_X3_digest_6 16 rfl) (sb_c (qq_X3_digest_0 18 rfl) (sb_c (qq_X3_digest_6 17 rfl) (sb_c (qq_X3_digest_6 18 rfl) (sb_c (qq_X3_digest_0 21 rfl) (sb_c (qq_X3_digest_6 19 rfl) (sb_c (qq_X3_digest_6 20 rfl) (sb_c (qq_X3_digest_6 21 rfl) (sb_c (qq_X3_digest_6 22 rfl) (sb_c (qq_X3_digest_2 3 rfl) (sb_c (qq_X3_digest_6 23 rfl) (sb_c (qq_X3_digest_7 0 rfl) (sb_c (qq_X3_digest_7 1 rfl) (sb_c (qq_X3_digest_7 2 rfl) (sb_c (qq_X3_digest_7 3 rfl) (sb_c (qq_X3_digest_1 11 rfl) (sb_c (qq_X3_digest_3 7 rfl) sb_n)))))))))))))))))))))))) (sb_a (sb_c (qq_X3_digest_3 8 rfl) (sb_c (qq_X3_digest_5 22 rfl) (sb_c (qq_X3_digest_7 4 rfl) (sb_c (qq_X3_digest_1 15 rfl) (sb_c (qq_X3_digest_7 5 rfl) (sb_c (qq_X3_digest_7 6 rfl) (sb_c (qq_X3_digest_7 7 rfl) (sb_c (qq_X3_digest_7 8 rfl) (sb_c (qq_X3_digest_1 19 rfl) (sb_c (qq_X3_digest_2 12 rfl) (sb_c (qq_X3_digest_7 9 rfl) (sb_c (qq_X3_digest_7 10 rfl) (sb_c (qq_X3_digest_7 11 rfl) (sb_c (qq_X3_digest_7 12 rfl) (sb_c (qq_X3_digest_3 22 rfl) (sb_c (qq_X3_digest_3 23 rfl) (sb_c (qq_X3_digest_7 13 rfl) (sb_c (qq_X3_digest_7 14 rfl) (sb_c (qq_X3_digest_7 15 rfl) (sb_c (qq_X3_digest_7 16 rfl) (sb_c (qq_X3_digest_7 17 rfl) (sb_c (qq_X3_digest_7 18 rfl) (sb_c (qq_X3_digest_7 19 rfl) (sb_c (qq_X3_digest_7 20 rfl) sb_n)))))))))))))))))))))))) (sb_a (sb_c (qq_X3_digest_7 21 rfl) (sb_c (qq_X3_digest_7 22 rfl) (sb_c (qq_X3_digest_2 8 rfl) (sb_c (qq_X3_digest_2 9 rfl) (sb_c (qq_X3_digest_2 10 rfl) (sb_c (qq_X3_digest_2 11 rfl) (sb_c (qq_X3_digest_2 13 rfl) (sb_c (qq_X3_digest_2 14 rfl) (sb_c (qq_X3_digest_2 15 rfl) (sb_c (qq_X3_digest_2 16 rfl) (sb_c (qq_X3_digest_2 17 rfl) (sb_c (qq_X3_digest_2 18 rfl) (sb_c (qq_X3_digest_2 19 rfl) (sb_c (qq_X3_digest_7 23 rfl) (sb_c (qq_X3_digest_8 0 rfl) (sb_c (qq_X3_digest_8 1 rfl) (sb_c (qq_X3_digest_8 2 rfl) (sb_c (qq_X3_digest_2 20 rfl) (sb_c (qq_X3_digest_2 21 rfl) (sb_c (qq_X3_digest_2 22 rfl) (sb_c (qq_X3_digest_4 11 rfl) (sb_c (qq_X3_digest_4 12 rfl) (sb_c (qq_X3_digest_4 13 rfl) (sb_c (qq_X3_digest_4 14 rfl) sb_n)))))))))))))))))))))))) (sb_a (sb_c (qq_X3_digest_8 3 rfl) (sb_c (qq_X3_digest_8 4 rfl) (sb_c (qq_X3_digest_8 5 rfl) (sb_c (qq_X3_digest_8 6 rfl) (sb_c (qq_X3_digest_8 7 rfl) (sb_c (qq_X3_digest_6 4 rfl) (sb_c (qq_X3_digest_2 6 rfl) (sb_c (qq_X3_digest_6 5 rfl) (sb_c (qq_X3_digest_2 4 rfl) (sb_c (qq_X3_digest_2 5 rfl) (sb_c (qq_X3_digest_2 7 rfl) (sb_c (qq_X3_digest_8 8 rfl) (sb_c (qq_X3_digest_4 8 rfl) (sb_c (qq_X3_digest_4 9 rfl) (sb_c (qq_X3_digest_4 10 rfl) (sb_c (qq_X3_digest_4 15 rfl) (sb_c (qq_X3_digest_4 16 rfl) (sb_c (qq_X3_digest_4 17 rfl) (sb_c (qq_X3_digest_4 18 rfl) (sb_c (qq_X3_digest_8 9 rfl) (sb_c (qq_X3_digest_8 10 rfl) (sb_c (qq_X3_digest_8 11 rfl) (sb_c (qq_X3_digest_8 12 rfl) (sb_c (qq_X3_digest_8 13 rfl) sb_n)))))))))))))))))))))))) (sb_c (qq_X3_digest_8 14 rfl) (sb_c (qq_X3_digest_8 15 rfl) (sb_c (qq_X3_digest_8 16 rfl) (sb_c (qq_X3_digest_1 8 rfl) (sb_c (qq_X3_digest_1 9 rfl) (sb_c (qq_X3_digest_1 10 rfl) (sb_c (qq_X3_digest_0 22 rfl) (sb_c (qq_X3_digest_0 23 rfl) (sb_c (qq_X3_digest_1 0 rfl) (sb_c (qq_X3_digest_1 1 rfl) (sb_c (qq_X3_digest_1 2 rfl) (sb_c (qq_X3_digest_1 3 rfl) (sb_c (qq_X3_digest_1 4 rfl) (sb_c (qq_X3_digest_1 5 rfl) (sb_c (qq_X3_digest_1 6 rfl) (sb_c (qq_X3_digest_1 7 rfl) (sb_c (qq_X3_digest_1 12 rfl) (sb_c (qq_X3_digest_1 13 rfl) (sb_c (qq_X3_digest_1 14 rfl) sb_n))))))))))))))))))))))) (uq_X3_digest_X3)) (uq_X3_digest_X1))) gw_X3_tests
set_option maxRecDepth 20000 in
theorem gX3_digest_X3_tests : GoodIn wsX3_digest (wsV RX3 294 RX3 yX3_tests wsX3_tests) := goodIn_app (goodIn_sub (sb_c (qq_X3_digest_12 7 rfl) (sb_c (qq_X3_digest_12 8 rfl) (sb_c (qq_X3_digest_12 9 rfl) (sb_c (qq_X3_digest_0 4 rfl) sb_n)))) (by decide +kernel)) ggX3_digest_X3_tests
theorem dX3_digest_0 : decode cX3_digest 0 = .ok (.ldc2_w 256, 3) := by decide +kernel
theorem dX3_digest_3 : decode cX3_digest 3 = .ok (.lstore_n 1, 1) := by decide +kernel
theorem dX3_digest_4 : decode cX3_digest 4 = .ok (.iconst 0, 1) := by decide +kernel
theorem dX3_digest_5 : decode cX3_digest 5 = .ok (.istore_n 3, 1) := by decide +kernel
theorem dX3_digest_6 : decode cX3_digest 6 = .ok (.iload_n 3, 1) := by decide +kernel
theorem dX3_digest_7 : decode cX3_digest 7 = .ok (.bipush 7, 2) := by decide +kernel
theorem dX3_digest_9 : decode cX3_digest 9 = .ok (.if_icmp .gt 20, 3) := by decide +kernel
theorem dX3_digest_12 : decode cX3_digest 12 = .ok (.lload_n 1, 1) := by decide +kernel
theorem dX3_digest_13 : decode cX3_digest 13 = .ok (.aload_n 0, 1) := by decide +kernel
theorem dX3_digest_14 : decode cX3_digest 14 = .ok (.iload_n 3, 1) := by decide +kernel
theorem dX3_digest_15 : decode cX3_digest 15 = .ok (.invokevirtual 258, 3) := by decide +kernel
theorem dX3_digest_18 : decode cX3_digest 18 = .ok (.i2l, 1) := by decide +kernel
theorem dX3_digest_19 : decode cX3_digest 19 = .ok (.invokestatic 261, 3) := by decide +kernel
theorem dX3_digest_22 : decode cX3_digest 22 = .ok (.lstore_n 1, 1) := by decide +kernel
theorem dX3_digest_23 : decode cX3_digest 23 = .ok (.iinc 3 1, 3) := by decide +kernel
theorem dX3_digest_26 : decode cX3_digest 26 = .ok (.goto (-20), 3) := by decide +kernel
theorem dX3_digest_29 : decode cX3_digest 29 = .ok (.iconst 0, 1) := by decide +kernel
theorem dX3_digest_30 : decode cX3_digest 30 = .ok (.istore_n 3, 1) := by decide +kernel
theorem dX3_digest_31 : decode cX3_digest 31 = .ok (.iload_n 3, 1) := by decide +kernel
theorem dX3_digest_32 : decode cX3_digest 32 = .ok (.bipush 16, 2) := by decide +kernel
theorem dX3_digest_34 : decode cX3_digest 34 = .ok (.if_icmp .ge 16, 3) := by decide +kernel
theorem dX3_digest_37 : decode cX3_digest 37 = .ok (.aload_n 0, 1) := by decide +kernel
theorem dX3_digest_38 : decode cX3_digest 38 = .ok (.lload_n 1, 1) := by decide +kernel
theorem dX3_digest_39 : decode cX3_digest 39 = .ok (.iload_n 3, 1) := by decide +kernel
theorem dX3_digest_40 : decode cX3_digest 40 = .ok (.invokevirtual 265, 3) := by decide +kernel
theorem dX3_digest_43 : decode cX3_digest 43 = .ok (.lstore_n 1, 1) := by decide +kernel
theorem dX3_digest_44 : decode cX3_digest 44 = .ok (.iinc 3 1, 3) := by decide +kernel
theorem dX3_digest_47 : decode cX3_digest 47 = .ok (.goto (-16), 3) := by decide +kernel
theorem dX3_digest_50 : decode cX3_digest 50 = .ok (.aload_n 0, 1) := by decide +kernel
theorem dX3_digest_51 : decode cX3_digest 51 = .ok (.lload_n 1, 1) := by decide +kernel
theorem dX3_digest_52 : decode cX3_digest 52 = .ok (.invokevirtual 268, 3) := by decide +kernel
theorem dX3_digest_55 : decode cX3_digest 55 = .ok (.lstore_n 1, 1) := by decide +kernel
theorem dX3_digest_56 : decode cX3_digest 56 = .ok (.iconst 0, 1) := by decide +kernel
theorem dX3_digest_57 : decode cX3_digest 57 = .ok (.istore_n 3, 1) := by decide +kernel
theorem dX3_digest_58 : decode cX3_digest 58 = .ok (.iload_n 3, 1) := by decide +kernel
theorem dX3_digest_59 : decode cX3_digest 59 = .ok (.iconst 3, 1) := by decide +kernel
theorem dX3_digest_60 : decode cX3_digest 60 = .ok (.if_icmp .gt 20, 3) := by decide +kernel
theorem dX3_digest_63 : decode cX3_digest 63 = .ok (.lload_n 1, 1) := by decide +kernel
theorem dX3_digest_64 : decode cX3_digest 64 = .ok (.aload_n 0, 1) := by decide +kernel
theorem dX3_digest_65 : decode cX3_digest 65 = .ok (.iload_n 3, 1) := by decide +kernel
theorem dX3_digest_66 : decode cX3_digest 66 = .ok (.invokevirtual 244, 3) := by decide +kernel
theorem dX3_digest_69 : decode cX3_digest 69 = .ok (.i2l, 1) := by decide +kernel
theorem dX3_digest_70 : decode cX3_digest 70 = .ok (.invokestatic 261, 3) := by decide +kernel
theorem dX3_digest_73 : decode cX3_digest 73 = .ok (.lstore_n 1, 1) := by decide +kernel
theorem dX3_digest_74 : decode cX3_digest 74 = .ok (.iinc 3 1, 3) := by decide +kernel
theorem dX3_digest_77 : decode cX3_digest 77 = .ok (.goto (-19), 3) := by decide +kernel
theorem dX3_digest_80 : decode cX3_digest 80 = .ok (.iconst 0, 1) := by decide +kernel
theorem dX3_digest_81 : decode cX3_digest 81 = .ok (.istore_n 3, 1) := by decide +kernel
theorem dX3_digest_82 : decode cX3_digest 82 = .ok (.iload_n 3, 1) := by decide +kernel
theorem dX3_digest_83 : decode cX3_digest 83 = .ok (.iconst 2, 1) := by decide +kernel
theorem dX3_digest_84 : decode cX3_digest 84 = .ok (.if_icmp .gt 20, 3) := by decide +kernel
theorem dX3_digest_87 : decode cX3_digest 87 = .ok (.lload_n 1, 1) := by decide +kernel
theorem dX3_digest_88 : decode cX3_digest 88 = .ok (.aload_n 0, 1) := by decide +kernel
theorem dX3_digest_89 : decode cX3_digest 89 = .ok (.iload_n 3, 1) := by decide +kernel
theorem dX3_digest_90 : decode cX3_digest 90 = .ok (.invokevirtual 272, 3) := by decide +kernel
theorem dX3_digest_93 : decode cX3_digest 93 = .ok (.i2l, 1) := by decide +kernel
theorem dX3_digest_94 : decode cX3_digest 94 = .ok (.invokestatic 261, 3) := by decide +kernel
theorem dX3_digest_97 : decode cX3_digest 97 = .ok (.lstore_n 1, 1) := by decide +kernel
theorem dX3_digest_98 : decode cX3_digest 98 = .ok (.iinc 3 1, 3) := by decide +kernel
theorem dX3_digest_101 : decode cX3_digest 101 = .ok (.goto (-19), 3) := by decide +kernel
theorem dX3_digest_104 : decode cX3_digest 104 = .ok (.iconst 0, 1) := by decide +kernel
theorem dX3_digest_105 : decode cX3_digest 105 = .ok (.istore_n 3, 1) := by decide +kernel
theorem dX3_digest_106 : decode cX3_digest 106 = .ok (.iload_n 3, 1) := by decide +kernel
theorem dX3_digest_107 : decode cX3_digest 107 = .ok (.iconst 2, 1) := by decide +kernel
theorem dX3_digest_108 : decode cX3_digest 108 = .ok (.if_icmp .gt 31, 3) := by decide +kernel
theorem dX3_digest_111 : decode cX3_digest 111 = .ok (.lload_n 1, 1) := by decide +kernel
theorem dX3_digest_112 : decode cX3_digest 112 = .ok (.aload_n 0, 1) := by decide +kernel
theorem dX3_digest_113 : decode cX3_digest 113 = .ok (.iload_n 3, 1) := by decide +kernel
theorem dX3_digest_114 : decode cX3_digest 114 = .ok (.iconst 0, 1) := by decide +kernel
theorem dX3_digest_115 : decode cX3_digest 115 = .ok (.invokevirtual 275, 3) := by decide +kernel
theorem dX3_digest_118 : decode cX3_digest 118 = .ok (.i2l, 1) := by decide +kernel
theorem dX3_digest_119 : decode cX3_digest 119 = .ok (.invokestatic 261, 3) := by decide +kernel
theorem dX3_digest_122 : decode cX3_digest 122 = .ok (.aload_n 0, 1) := by decide +kernel
theorem dX3_digest_123 : decode cX3_digest 123 = .ok (.iload_n 3, 1) := by decide +kernel
theorem dX3_digest_124 : decode cX3_digest 124 = .ok (.iconst 1, 1) := by decide +kernel
theorem dX3_digest_125 : decode cX3_digest 125 = .ok (.invokevirtual 275, 3) := by decide +kernel
theorem dX3_digest_128 : decode cX3_digest 128 = .ok (.i2l, 1) := by decide +kernel
theorem dX3_digest_129 : decode cX3_digest 129 = .ok (.invokestatic 261, 3) := by decide +kernel
theorem dX3_digest_132 : decode cX3_digest 132 = .ok (.lstore_n 1, 1) := by decide +kernel
theorem dX3_digest_133 : decode cX3_digest 133 = .ok (.iinc 3 1, 3) := by decide +kernel
theorem dX3_digest_136 : decode cX3_digest 136 = .ok (.goto (-30), 3) := by decide +kernel
theorem dX3_digest_139 : decode cX3_digest 139 = .ok (.lload_n 1, 1) := by decide +kernel
theorem dX3_digest_140 : decode cX3_digest 140 = .ok (.aload_n 0, 1) := by decide +kernel
theorem dX3_digest_141 : decode cX3_digest 141 = .ok (.iconst (-1), 1) := by decide +kernel
theorem dX3_digest_142 : decode cX3_digest 142 = .ok (.invokevirtual 278, 3) := by decide +kernel
theorem dX3_digest_145 : decode cX3_digest 145 = .ok (.i2l, 1) := by decide +kernel
theorem dX3_digest_146 : decode cX3_digest 146 = .ok (.invokestatic 261, 3) := by decide +kernel
theorem dX3_digest_149 : decode cX3_digest 149 = .ok (.aload_n 0, 1) := by decide +kernel
theorem dX3_digest_150 : decode cX3_digest 150 = .ok (.iconst 0, 1) := by decide +kernel
theorem dX3_digest_151 : decode cX3_digest 151 = .ok (.invokevirtual 278, 3) := by decide +kernel
theorem dX3_digest_154 : decode cX3_digest 154 = .ok (.i2l, 1) := by decide +kernel
theorem dX3_digest_155 : decode cX3_digest 155 = .ok (.invokestatic 261, 3) := by decide +kernel
theorem dX3_digest_158 : decode cX3_digest 158 = .ok (.lstore_n 1, 1) := by decide +kernel
theorem dX3_digest_159 : decode cX3_digest 159 = .ok (.lload_n 1, 1) := by decide +kernel
theorem dX3_digest_160 : decode cX3_digest 160 = .ok (.aload_n 0, 1) := by decide +kernel
theorem dX3_digest_161 : decode cX3_digest 161 = .ok (.invokevirtual 281, 3) := by decide +kernel
theorem dX3_digest_164 : decode cX3_digest 164 = .ok (.i2l, 1) := by decide +kernel
theorem dX3_digest_165 : decode cX3_digest 165 = .ok (.invokestatic 261, 3) := by decide +kernel
theorem dX3_digest_168 : decode cX3_digest 168 = .ok (.lstore_n 1, 1) := by decide +kernel
theorem dX3_digest_169 : decode cX3_digest 169 = .ok (.lload_n 1, 1) := by decide +kernel
theorem dX3_digest_170 : decode cX3_digest 170 = .ok (.aload_n 0, 1) := by decide +kernel
theorem dX3_digest_171 : decode cX3_digest 171 = .ok (.iconst 0, 1) := by decide +kernel
theorem dX3_digest_172 : decode cX3_digest 172 = .ok (.invokevirtual 284, 3) := by decide +kernel
theorem dX3_digest_175 : decode cX3_digest 175 = .ok (.i2l, 1) := by decide +kernel
theorem dX3_digest_176 : decode cX3_digest 176 = .ok (.invokestatic 261, 3) := by decide +kernel
theorem dX3_digest_179 : decode cX3_digest 179 = .ok (.aload_n 0, 1) := by decide +kernel
theorem dX3_digest_180 : decode cX3_digest 180 = .ok (.iconst 1, 1) := by decide +kernel
theorem dX3_digest_181 : decode cX3_digest 181 = .ok (.invokevirtual 284, 3) := by decide +kernel
theorem dX3_digest_184 : decode cX3_digest 184 = .ok (.i2l, 1) := by decide +kernel
theorem dX3_digest_185 : decode cX3_digest 185 = .ok (.invokestatic 261, 3) := by decide +kernel
theorem dX3_digest_188 : decode cX3_digest 188 = .ok (.lstore_n 1, 1) := by decide +kernel
theorem dX3_digest_189 : decode cX3_digest 189 = .ok (.lload_n 1, 1) := by decide +kernel
theorem dX3_digest_190 : decode cX3_digest 190 = .ok (.aload_n 0, 1) := by decide +kernel
theorem dX3_digest_191 : decode cX3_digest 191 = .ok (.invokevirtual 287, 3) := by decide +kernel
theorem dX3_digest_194 : decode cX3_digest 194 = .ok (.i2l, 1) := by decide +kernel
theorem dX3_digest_195 : decode cX3_digest 195 = .ok (.invokestatic 261, 3) := by decide +kernel
theorem dX3_digest_198 : decode cX3_digest 198 = .ok (.lstore_n 1, 1) := by decide +kernel
theorem dX3_digest_199 : decode cX3_digest 199 = .ok (.lload_n 1, 1) := by decide +kernel
theorem dX3_digest_200 : decode cX3_digest 200 = .ok (.aload_n 0, 1) := by decide +kernel
theorem dX3_digest_201 : decode cX3_digest 201 = .ok (.iconst 5, 1) := by decide +kernel
theorem dX3_digest_202 : decode cX3_digest 202 = .ok (.iconst 0, 1) := by decide +kernel
theorem dX3_digest_203 : decode cX3_digest 203 = .ok (.invokevirtual 290, 3) := by decide +kernel
theorem dX3_digest_206 : decode cX3_digest 206 = .ok (.invokestatic 261, 3) := by decide +kernel
theorem dX3_digest_209 : decode cX3_digest 209 = .ok (.aload_n 0, 1) := by decide +kernel
theorem dX3_digest_210 : decode cX3_digest 210 = .ok (.iconst 5, 1) := by decide +kernel
theorem dX3_digest_211 : decode cX3_digest 211 = .ok (.iconst 1, 1) := by decide +kernel
theorem dX3_digest_212 : decode cX3_digest 212 = .ok (.invokevirtual 290, 3) := by decide +kernel
theorem dX3_digest_215 : decode cX3_digest 215 = .ok (.invokestatic 261, 3) := by decide +kernel
theorem dX3_digest_218 : decode cX3_digest 218 = .ok (.lstore_n 1, 1) := by decide +kernel
theorem dX3_digest_219 : decode cX3_digest 219 = .ok (.lload_n 1, 1) := by decide +kernel
theorem dX3_digest_220 : decode cX3_digest 220 = .ok (.aload_n 0, 1) := by decide +kernel
theorem dX3_digest_221 : decode cX3_digest 221 = .ok (.bipush 7, 2) := by decide +kernel
theorem dX3_digest_223 : decode cX3_digest 223 = .ok (.bipush 12, 2) := by decide +kernel
theorem dX3_digest_225 : decode cX3_digest 225 = .ok (.iconst 0, 1) := by decide +kernel
theorem dX3_digest_226 : decode cX3_digest 226 = .ok (.invokevirtual 294, 3) := by decide +kernel
theorem dX3_digest_229 : decode cX3_digest 229 = .ok (.i2l, 1) := by decide +kernel
theorem dX3_digest_230 : decode cX3_digest 230 = .ok (.invokestatic 261, 3) := by decide +kernel
theorem dX3_digest_233 : decode cX3_digest 233 = .ok (.aload_n 0, 1) := by decide +kernel
theorem dX3_digest_234 : decode cX3_digest 234 = .ok (.bipush 7, 2) := by decide +kernel
theorem dX3_digest_236 : decode cX3_digest 236 = .ok (.bipush 12, 2) := by decide +kernel
theorem dX3_digest_238 : decode cX3_digest 238 = .ok (.iconst 1, 1) := by decide +kernel
theorem dX3_digest_239 : decode cX3_digest 239 = .ok (.invokevirtual 294, 3) := by decide +kernel
theorem dX3_digest_242 : decode cX3_digest 242 = .ok (.i2l, 1) := by decide +kernel
theorem dX3_digest_243 : decode cX3_digest 243 = .ok (.invokestatic 261, 3) := by decide +kernel
theorem dX3_digest_246 : decode cX3_digest 246 = .ok (.lreturn, 1) := by decide +kernel
theorem qq_X3_mixedLine_0 {c : Cond} (j : Nat) (h : wsX3_mixedLine_r1[j]? = some c) : c ∈ wsX3_mixedLine := List.mem_cons_of_mem _ (List.mem_append_left _ (List.mem_append_left _ (List.mem_append_left _ (List.mem_of_getElem? h))))
theorem qq_X3_mixedLine_1 {c : Cond} (j : Nat) (h : wsX3_mixedLine_r2[j]? = some c) : c ∈ wsX3_mixedLine := List.mem_cons_of_mem _ (List.mem_append_left _ (List.mem_append_left _ (List.mem_append_right _ (List.mem_append_left _ (List.mem_of_getElem? h)))))
theorem qq_X3_mixedLine_2 {c : Cond} (j : Nat) (h : wsX3_mixedLine_r3[j]? = some c) : c ∈ wsX3_mixedLine := List.mem_cons_of_mem _ (List.mem_append_left _ (List.mem_append_left _ (List.mem_append_right _ (List.mem_append_right _ (List.mem_of_getElem? h)))))
theorem uq_X3_mixedLine_X3 : wsub wsX30 wsX3_mixedLine := fun _ h => List.mem_cons_of_mem _ (List.mem_append_left _ (List.mem_append_right _ (h)))
theorem uq_X3_mixedLine_X1 : wsub wsX10 wsX3_mixedLine := fun _ h => List.mem_cons_of_mem _ (List.mem_append_right _ (h))
set_option maxRecDepth 20000 in
theorem gw_X3_hits : wsX3_hits.all goodWord = true := by decide +kernel
set_option maxRecDepth 20000 in
theorem ggX3_mixedLine_X3_hits : GoodIn wsX3_mixedLine wsX3_hits := goodIn_sub (sb_c (qq_X3_mixedLine_0 4 rfl) (sb_a (sb_a (sb_c (qq_X3_mixedLine_0 5 rfl) (sb_c (qq_X3_mixedLine_0 6 rfl) (sb_c (qq_X3_mixedLine_0 7 rfl) (sb_c (qq_X3_mixedLine_0 3 rfl) (sb_c (qq_X3_mixedLine_0 8 rfl) (sb_c (qq_X3_mixedLine_0 9 rfl) (sb_c (qq_X3_mixedLine_0 10 rfl) (sb_c (qq_X3_mixedLine_0 11 rfl) sb_n)))))))) (uq_X3_mixedLine_X3)) (uq_X3_mixedLine_X1))) gw_X3_hits
set_option maxRecDepth 20000 in
theorem gX3_mixedLine_X3_hits : GoodIn wsX3_mixedLine (wsV RX3 298 RX3 yX3_hits wsX3_hits) := goodIn_app (goodIn_sub (sb_c (qq_X3_mixedLine_0 0 rfl) (sb_c (qq_X3_mixedLine_0 1 rfl) (sb_c (qq_X3_mixedLine_0 2 rfl) (sb_c (qq_X3_mixedLine_0 3 rfl) sb_n)))) (by decide +kernel)) ggX3_mixedLine_X3_hits
set_option maxRecDepth 20000 in
theorem ggX3_mixedLine_X3_mixed : GoodIn wsX3_mixedLine wsX3_mixed := goodIn_sub (sb_c (qq_X3_mixedLine_0 14 rfl) (sb_c (qq_X3_mixedLine_0 15 rfl) sb_n)) gw_X3_mixed
set_option maxRecDepth 20000 in
theorem gX3_mixedLine_X3_mixed : GoodIn wsX3_mixedLine (va_wsS RX3 261 yX3_mixed wsX3_mixed) := goodIn_app (goodIn_sub (sb_c (qq_X3_mixedLine_0 12 rfl) (sb_c (qq_X3_mixedLine_0 13 rfl) (sb_c (qq_X3_mixedLine_0 3 rfl) sb_n))) (by decide +kernel)) ggX3_mixedLine_X3_mixed
set_option maxRecDepth 20000 in
theorem gw_X3_hit : wsX3_hit.all goodWord = true := by decide +kernel
set_option maxRecDepth 20000 in
theorem ggX3_mixedLine_X3_hit : GoodIn wsX3_mixedLine wsX3_hit := goodIn_sub (sb_c (qq_X3_mixedLine_0 19 rfl) (sb_a (sb_a (sb_c (qq_X3_mixedLine_0 5 rfl) (sb_c (qq_X3_mixedLine_0 6 rfl) (sb_c (qq_X3_mixedLine_0 7 rfl) (sb_c (qq_X3_mixedLine_0 3 rfl) (sb_c (qq_X3_mixedLine_0 8 rfl) (sb_c (qq_X3_mixedLine_0 9 rfl) (sb_c (qq_X3_mixedLine_0 10 rfl) (sb_c (qq_X3_mixedLine_0 11 rfl) (sb_c (qq_X3_mixedLine_0 20 rfl) (sb_c (qq_X3_mixedLine_0 21 rfl) (sb_c (qq_X3_mixedLine_0 22 rfl) (sb_c (qq_X3_mixedLine_0 23 rfl) (sb_c (qq_X3_mixedLine_1 0 rfl) (sb_c (qq_X3_mixedLine_1 1 rfl) (sb_c (qq_X3_mixedLine_1 2 rfl) (sb_c (qq_X3_mixedLine_1 3 rfl) sb_n)))))))))))))))) (uq_X3_mixedLine_X3)) (uq_X3_mixedLine_X1))) gw_X3_hit
set_option maxRecDepth 20000 in
theorem gX3_mixedLine_X3_hit : GoodIn wsX3_mixedLine (wsV RX3 301 RX3 yX3_hit wsX3_hit) := goodIn_app (goodIn_sub (sb_c (qq_X3_mixedLine_0 16 rfl) (sb_c (qq_X3_mixedLine_0 17 rfl) (sb_c (qq_X3_mixedLine_0 18 rfl) (sb_c (qq_X3_mixedLine_0 3 rfl) sb_n)))) (by decide +kernel)) ggX3_mixedLine_X3_hit
set_option maxRecDepth 20000 in
theorem gw_X3_by : wsX3_by.all goodWord = true := by decide +kernel
set_option maxRecDepth 20000 in
theorem ggX3_mixedLine_X3_by : GoodIn wsX3_mixedLine wsX3_by := goodIn_sub (sb_c (qq_X3_mixedLine_1 7 rfl) (sb_a (sb_a (sb_c (qq_X3_mixedLine_0 5 rfl) (sb_c (qq_X3_mixedLine_0 6 rfl) (sb_c (qq_X3_mixedLine_0 7 rfl) (sb_c (qq_X3_mixedLine_0 3 rfl) (sb_c (qq_X3_mixedLine_0 8 rfl) (sb_c (qq_X3_mixedLine_0 9 rfl) (sb_c (qq_X3_mixedLine_0 10 rfl) (sb_c (qq_X3_mixedLine_0 11 rfl) (sb_c (qq_X3_mixedLine_1 8 rfl) (sb_c (qq_X3_mixedLine_0 21 rfl) (sb_c (qq_X3_mixedLine_1 9 rfl) (sb_c (qq_X3_mixedLine_1 10 rfl) (sb_c (qq_X3_mixedLine_1 11 rfl) (sb_c (qq_X3_mixedLine_1 12 rfl) (sb_c (qq_X3_mixedLine_1 13 rfl) (sb_c (qq_X3_mixedLine_1 14 rfl) (sb_c (qq_X3_mixedLine_1 15 rfl) (sb_c (qq_X3_mixedLine_1 16 rfl) (sb_c (qq_X3_mixedLine_1 17 rfl) (sb_c (qq_X3_mixedLine_1 18 rfl) (sb_c (qq_X3_mixedLine_1 19 rfl) (sb_c (qq_X3_mixedLine_1 20 rfl) (sb_c (qq_X3_mixedLine_1 21 rfl) sb_n))))))))))))))))))))))) (uq_X3_mixedLine_X3)) (uq_X3_mixedLine_X1))) gw_X3_by
set_option maxRecDepth 20000 in
theorem gX3_mixedLine_X3_by : GoodIn wsX3_mixedLine (wsV RX3 304 RX3 yX3_by wsX3_by) := goodIn_app (goodIn_sub (sb_c (qq_X3_mixedLine_1 4 rfl) (sb_c (qq_X3_mixedLine_1 5 rfl) (sb_c (qq_X3_mixedLine_1 6 rfl) (sb_c (qq_X3_mixedLine_0 3 rfl) sb_n)))) (by decide +kernel)) ggX3_mixedLine_X3_by
set_option maxRecDepth 20000 in
theorem gw_X3_missed : wsX3_missed.all goodWord = true := by decide +kernel
set_option maxRecDepth 20000 in
theorem ggX3_mixedLine_X3_missed : GoodIn wsX3_mixedLine wsX3_missed := goodIn_sub (sb_c (qq_X3_mixedLine_2 1 rfl) (sb_a (sb_a (sb_c (qq_X3_mixedLine_0 5 rfl) (sb_c (qq_X3_mixedLine_0 6 rfl) (sb_c (qq_X3_mixedLine_0 7 rfl) (sb_c (qq_X3_mixedLine_0 3 rfl) (sb_c (qq_X3_mixedLine_0 8 rfl) (sb_c (qq_X3_mixedLine_0 9 rfl) (sb_c (qq_X3_mixedLine_0 10 rfl) (sb_c (qq_X3_mixedLine_0 11 rfl) sb_n)))))))) (uq_X3_mixedLine_X3)) (uq_X3_mixedLine_X1))) gw_X3_missed
set_option maxRecDepth 20000 in
theorem gX3_mixedLine_X3_missed : GoodIn wsX3_mixedLine (wsV RX3 307 RX3 yX3_missed wsX3_missed) := goodIn_app (goodIn_sub (sb_c (qq_X3_mixedLine_1 22 rfl) (sb_c (qq_X3_mixedLine_1 23 rfl) (sb_c (qq_X3_mixedLine_2 0 rfl) (sb_c (qq_X3_mixedLine_0 3 rfl) sb_n)))) (by decide +kernel)) ggX3_mixedLine_X3_missed
set_option maxRecDepth 20000 in
theorem gw_X3_done : wsX3_done.all goodWord = true := by decide +kernel
set_option maxRecDepth 20000 in
theorem ggX3_mixedLine_X3_done : GoodIn wsX3_mixedLine wsX3_done := goodIn_sub (sb_c (qq_X3_mixedLine_2 5 rfl) (sb_a (sb_a (sb_c (qq_X3_mixedLine_0 5 rfl) (sb_c (qq_X3_mixedLine_0 6 rfl) (sb_c (qq_X3_mixedLine_0 7 rfl) (sb_c (qq_X3_mixedLine_0 3 rfl) (sb_c (qq_X3_mixedLine_0 8 rfl) (sb_c (qq_X3_mixedLine_0 9 rfl) (sb_c (qq_X3_mixedLine_0 10 rfl) (sb_c (qq_X3_mixedLine_0 11 rfl) sb_n)))))))) (uq_X3_mixedLine_X3)) (uq_X3_mixedLine_X1))) gw_X3_done
set_option maxRecDepth 20000 in
theorem gX3_mixedLine_X3_done : GoodIn wsX3_mixedLine (wsV RX3 310 RX3 yX3_done wsX3_done) := goodIn_app (goodIn_sub (sb_c (qq_X3_mixedLine_2 2 rfl) (sb_c (qq_X3_mixedLine_2 3 rfl) (sb_c (qq_X3_mixedLine_2 4 rfl) (sb_c (qq_X3_mixedLine_0 3 rfl) sb_n)))) (by decide +kernel)) ggX3_mixedLine_X3_done
theorem dX3_mixedLine_0 : decode cX3_mixedLine 0 = .ok (.lload_n 1, 1) := by decide +kernel
theorem dX3_mixedLine_1 : decode cX3_mixedLine 1 = .ok (.aload_n 0, 1) := by decide +kernel
theorem dX3_mixedLine_2 : decode cX3_mixedLine 2 = .ok (.iload_n 3, 1) := by decide +kernel
theorem dX3_mixedLine_3 : decode cX3_mixedLine 3 = .ok (.invokevirtual 298, 3) := by decide +kernel
theorem dX3_mixedLine_6 : decode cX3_mixedLine 6 = .ok (.i2l, 1) := by decide +kernel
theorem dX3_mixedLine_7 : decode cX3_mixedLine 7 = .ok (.invokestatic 261, 3) := by decide +kernel
theorem dX3_mixedLine_10 : decode cX3_mixedLine 10 = .ok (.lstore 4, 2) := by decide +kernel
theorem dX3_mixedLine_12 : decode cX3_mixedLine 12 = .ok (.iconst 0, 1) := by decide +kernel
theorem dX3_mixedLine_13 : decode cX3_mixedLine 13 = .ok (.istore 6, 2) := by decide +kernel
theorem dX3_mixedLine_15 : decode cX3_mixedLine 15 = .ok (.iload 6, 2) := by decide +kernel
theorem dX3_mixedLine_17 : decode cX3_mixedLine 17 = .ok (.iconst 2, 1) := by decide +kernel
theorem dX3_mixedLine_18 : decode cX3_mixedLine 18 = .ok (.if_icmp .gt 37, 3) := by decide +kernel
theorem dX3_mixedLine_21 : decode cX3_mixedLine 21 = .ok (.lload 4, 2) := by decide +kernel
theorem dX3_mixedLine_23 : decode cX3_mixedLine 23 = .ok (.aload_n 0, 1) := by decide +kernel
theorem dX3_mixedLine_24 : decode cX3_mixedLine 24 = .ok (.iload_n 3, 1) := by decide +kernel
theorem dX3_mixedLine_25 : decode cX3_mixedLine 25 = .ok (.iload 6, 2) := by decide +kernel
theorem dX3_mixedLine_27 : decode cX3_mixedLine 27 = .ok (.iconst 0, 1) := by decide +kernel
theorem dX3_mixedLine_28 : decode cX3_mixedLine 28 = .ok (.invokevirtual 301, 3) := by decide +kernel
theorem dX3_mixedLine_31 : decode cX3_mixedLine 31 = .ok (.i2l, 1) := by decide +kernel
theorem dX3_mixedLine_32 : decode cX3_mixedLine 32 = .ok (.invokestatic 261, 3) := by decide +kernel
theorem dX3_mixedLine_35 : decode cX3_mixedLine 35 = .ok (.aload_n 0, 1) := by decide +kernel
theorem dX3_mixedLine_36 : decode cX3_mixedLine 36 = .ok (.iload_n 3, 1) := by decide +kernel
theorem dX3_mixedLine_37 : decode cX3_mixedLine 37 = .ok (.iload 6, 2) := by decide +kernel
theorem dX3_mixedLine_39 : decode cX3_mixedLine 39 = .ok (.iconst 1, 1) := by decide +kernel
theorem dX3_mixedLine_40 : decode cX3_mixedLine 40 = .ok (.invokevirtual 301, 3) := by decide +kernel
theorem dX3_mixedLine_43 : decode cX3_mixedLine 43 = .ok (.i2l, 1) := by decide +kernel
theorem dX3_mixedLine_44 : decode cX3_mixedLine 44 = .ok (.invokestatic 261, 3) := by decide +kernel
theorem dX3_mixedLine_47 : decode cX3_mixedLine 47 = .ok (.lstore 4, 2) := by decide +kernel
theorem dX3_mixedLine_49 : decode cX3_mixedLine 49 = .ok (.iinc 6 1, 3) := by decide +kernel
theorem dX3_mixedLine_52 : decode cX3_mixedLine 52 = .ok (.goto (-37), 3) := by decide +kernel
theorem dX3_mixedLine_55 : decode cX3_mixedLine 55 = .ok (.lload 4, 2) := by decide +kernel
theorem dX3_mixedLine_57 : decode cX3_mixedLine 57 = .ok (.aload_n 0, 1) := by decide +kernel
theorem dX3_mixedLine_58 : decode cX3_mixedLine 58 = .ok (.iload_n 3, 1) := by decide +kernel
theorem dX3_mixedLine_59 : decode cX3_mixedLine 59 = .ok (.iconst 0, 1) := by decide +kernel
theorem dX3_mixedLine_60 : decode cX3_mixedLine 60 = .ok (.iconst 0, 1) := by decide +kernel
theorem dX3_mixedLine_61 : decode cX3_mixedLine 61 = .ok (.invokevirtual 304, 3) := by decide +kernel
theorem dX3_mixedLine_64 : decode cX3_mixedLine 64 = .ok (.i2l, 1) := by decide +kernel
theorem dX3_mixedLine_65 : decode cX3_mixedLine 65 = .ok (.invokestatic 261, 3) := by decide +kernel
theorem dX3_mixedLine_68 : decode cX3_mixedLine 68 = .ok (.aload_n 0, 1) := by decide +kernel
theorem dX3_mixedLine_69 : decode cX3_mixedLine 69 = .ok (.iload_n 3, 1) := by decide +kernel
theorem dX3_mixedLine_70 : decode cX3_mixedLine 70 = .ok (.iconst 0, 1) := by decide +kernel
theorem dX3_mixedLine_71 : decode cX3_mixedLine 71 = .ok (.iconst 1, 1) := by decide +kernel
theorem dX3_mixedLine_72 : decode cX3_mixedLine 72 = .ok (.invokevirtual 304, 3) := by decide +kernel
theorem dX3_mixedLine_75 : decode cX3_mixedLine 75 = .ok (.i2l, 1) := by decide +kernel
theorem dX3_mixedLine_76 : decode cX3_mixedLine 76 = .ok (.invokestatic 261, 3) := by decide +kernel
theorem dX3_mixedLine_79 : decode cX3_mixedLine 79 = .ok (.lstore 4, 2) := by decide +kernel
theorem dX3_mixedLine_81 : decode cX3_mixedLine 81 = .ok (.lload 4, 2) := by decide +kernel
theorem dX3_mixedLine_83 : decode cX3_mixedLine 83 = .ok (.aload_n 0, 1) := by decide +kernel
theorem dX3_mixedLine_84 : decode cX3_mixedLine 84 = .ok (.iload_n 3, 1) := by decide +kernel
theorem dX3_mixedLine_85 : decode cX3_mixedLine 85 = .ok (.iconst 3, 1) := by decide +kernel
theorem dX3_mixedLine_86 : decode cX3_mixedLine 86 = .ok (.iconst 0, 1) := by decide +kernel
theorem dX3_mixedLine_87 : decode cX3_mixedLine 87 = .ok (.invokevirtual 304, 3) := by decide +kernel
theorem dX3_mixedLine_90 : decode cX3_mixedLine 90 = .ok (.i2l, 1) := by decide +kernel
theorem dX3_mixedLine_91 : decode cX3_mixedLine 91 = .ok (.invokestatic 261, 3) := by decide +kernel
theorem dX3_mixedLine_94 : decode cX3_mixedLine 94 = .ok (.aload_n 0, 1) := by decide +kernel
theorem dX3_mixedLine_95 : decode cX3_mixedLine 95 = .ok (.iload_n 3, 1) := by decide +kernel
theorem dX3_mixedLine_96 : decode cX3_mixedLine 96 = .ok (.iconst 3, 1) := by decide +kernel
theorem dX3_mixedLine_97 : decode cX3_mixedLine 97 = .ok (.iconst 1, 1) := by decide +kernel
theorem dX3_mixedLine_98 : decode cX3_mixedLine 98 = .ok (.invokevirtual 304, 3) := by decide +kernel
theorem dX3_mixedLine_101 : decode cX3_mixedLine 101 = .ok (.i2l, 1) := by decide +kernel
theorem dX3_mixedLine_102 : decode cX3_mixedLine 102 = .ok (.invokestatic 261, 3) := by decide +kernel
theorem dX3_mixedLine_105 : decode cX3_mixedLine 105 = .ok (.lstore 4, 2) := by decide +kernel
theorem dX3_mixedLine_107 : decode cX3_mixedLine 107 = .ok (.lload 4, 2) := by decide +kernel
theorem dX3_mixedLine_109 : decode cX3_mixedLine 109 = .ok (.aload_n 0, 1) := by decide +kernel
theorem dX3_mixedLine_110 : decode cX3_mixedLine 110 = .ok (.iload_n 3, 1) := by decide +kernel
theorem dX3_mixedLine_111 : decode cX3_mixedLine 111 = .ok (.bipush 7, 2) := by decide +kernel
theorem dX3_mixedLine_113 : decode cX3_mixedLine 113 = .ok (.iconst 0, 1) := by decide +kernel
theorem dX3_mixedLine_114 : decode cX3_mixedLine 114 = .ok (.invokevirtual 304, 3) := by decide +kernel
theorem dX3_mixedLine_117 : decode cX3_mixedLine 117 = .ok (.i2l, 1) := by decide +kernel
theorem dX3_mixedLine_118 : decode cX3_mixedLine 118 = .ok (.invokestatic 261, 3) := by decide +kernel
theorem dX3_mixedLine_121 : decode cX3_mixedLine 121 = .ok (.aload_n 0, 1) := by decide +kernel
theorem dX3_mixedLine_122 : decode cX3_mixedLine 122 = .ok (.iload_n 3, 1) := by decide +kernel
theorem dX3_mixedLine_123 : decode cX3_mixedLine 123 = .ok (.bipush 7, 2) := by decide +kernel
theorem dX3_mixedLine_125 : decode cX3_mixedLine 125 = .ok (.iconst 1, 1) := by decide +kernel
theorem dX3_mixedLine_126 : decode cX3_mixedLine 126 = .ok (.invokevirtual 304, 3) := by decide +kernel
theorem dX3_mixedLine_129 : decode cX3_mixedLine 129 = .ok (.i2l, 1) := by decide +kernel
theorem dX3_mixedLine_130 : decode cX3_mixedLine 130 = .ok (.invokestatic 261, 3) := by decide +kernel
theorem dX3_mixedLine_133 : decode cX3_mixedLine 133 = .ok (.lstore 4, 2) := by decide +kernel
theorem dX3_mixedLine_135 : decode cX3_mixedLine 135 = .ok (.lload 4, 2) := by decide +kernel
theorem dX3_mixedLine_137 : decode cX3_mixedLine 137 = .ok (.aload_n 0, 1) := by decide +kernel
theorem dX3_mixedLine_138 : decode cX3_mixedLine 138 = .ok (.iload_n 3, 1) := by decide +kernel
theorem dX3_mixedLine_139 : decode cX3_mixedLine 139 = .ok (.invokevirtual 307, 3) := by decide +kernel
theorem dX3_mixedLine_142 : decode cX3_mixedLine 142 = .ok (.i2l, 1) := by decide +kernel
theorem dX3_mixedLine_143 : decode cX3_mixedLine 143 = .ok (.invokestatic 261, 3) := by decide +kernel
theorem dX3_mixedLine_146 : decode cX3_mixedLine 146 = .ok (.aload_n 0, 1) := by decide +kernel
theorem dX3_mixedLine_147 : decode cX3_mixedLine 147 = .ok (.iload_n 3, 1) := by decide +kernel
theorem dX3_mixedLine_148 : decode cX3_mixedLine 148 = .ok (.invokevirtual 310, 3) := by decide +kernel
theorem dX3_mixedLine_151 : decode cX3_mixedLine 151 = .ok (.i2l, 1) := by decide +kernel
theorem dX3_mixedLine_152 : decode cX3_mixedLine 152 = .ok (.invokestatic 261, 3) := by decide +kernel
theorem dX3_mixedLine_155 : decode cX3_mixedLine 155 = .ok (.lreturn, 1) := by decide +kernel
theorem qq_X3_mixedHead_0 {c : Cond} (j : Nat) (h : wsX3_mixedHead_r1[j]? = some c) : c ∈ wsX3_mixedHead := List.mem_cons_of_mem _ (List.mem_append_left _ (List.mem_append_left _ (List.mem_append_left _ (List.mem_of_getElem? h))))
theorem qq_X3_mixedHead_1 {c : Cond} (j : Nat) (h : wsX3_mixedHead_r2[j]? = some c) : c ∈ wsX3_mixedHead := List.mem_cons_of_mem _ (List.mem_append_left _ (List.mem_append_left _ (List.mem_append_right _ (List.mem_of_getElem? h))))
theorem uq_X3_mixedHead_X3 : wsub wsX30 wsX3_mixedHead := fun _ h => List.mem_cons_of_mem _ (List.mem_append_left _ (List.mem_append_right _ (h)))
theorem uq_X3_mixedHead_X1 : wsub wsX10 wsX3_mixedHead := fun _ h => List.mem_cons_of_mem _ (List.mem_append_right _ (h))
set_option maxRecDepth 20000 in
theorem gw_X3_pass : wsX3_pass.all goodWord = true := by decide +kernel
set_option maxRecDepth 20000 in
theorem ggX3_mixedHead_X3_pass : GoodIn wsX3_mixedHead wsX3_pass := goodIn_sub (sb_c (qq_X3_mixedHead_0 5 rfl) (sb_a (sb_a (sb_c (qq_X3_mixedHead_0 0 rfl) (sb_c (qq_X3_mixedHead_0 6 rfl) (sb_c (qq_X3_mixedHead_0 7 rfl) (sb_c (qq_X3_mixedHead_0 4 rfl) (sb_c (qq_X3_mixedHead_0 8 rfl) (sb_c (qq_X3_mixedHead_0 9 rfl) (sb_c (qq_X3_mixedHead_0 10 rfl) (sb_c (qq_X3_mixedHead_0 11 rfl) (sb_c (qq_X3_mixedHead_0 12 rfl) sb_n))))))))) (uq_X3_mixedHead_X3)) (uq_X3_mixedHead_X1))) gw_X3_pass
set_option maxRecDepth 20000 in
theorem gX3_mixedHead_X3_pass : GoodIn wsX3_mixedHead (wsV RX3 313 RX3 yX3_pass wsX3_pass) := goodIn_app (goodIn_sub (sb_c (qq_X3_mixedHead_0 1 rfl) (sb_c (qq_X3_mixedHead_0 2 rfl) (sb_c (qq_X3_mixedHead_0 3 rfl) (sb_c (qq_X3_mixedHead_0 4 rfl) sb_n)))) (by decide +kernel)) ggX3_mixedHead_X3_pass
set_option maxRecDepth 20000 in
theorem ggX3_mixedHead_X3_mixed : GoodIn wsX3_mixedHead wsX3_mixed := goodIn_sub (sb_c (qq_X3_mixedHead_0 15 rfl) (sb_c (qq_X3_mixedHead_0 16 rfl) sb_n)) gw_X3_mixed
set_option maxRecDepth 20000 in
theorem gX3_mixedHead_X3_mixed : GoodIn wsX3_mixedHead (va_wsS RX3 261 yX3_mixed wsX3_mixed) := goodIn_app (goodIn_sub (sb_c (qq_X3_mixedHead_0 13 rfl) (sb_c (qq_X3_mixedHead_0 14 rfl) (sb_c (qq_X3_mixedHead_0 4 rfl) sb_n))) (by decide +kernel)) ggX3_mixedHead_X3_mixed
set_option maxRecDepth 20000 in
theorem gw_X3_drops : wsX3_drops.all goodWord = true := by decide +kernel
set_option maxRecDepth 20000 in
theorem ggX3_mixedHead_X3_drops : GoodIn wsX3_mixedHead wsX3_drops := goodIn_sub (sb_c (qq_X3_mixedHead_0 20 rfl) (sb_a (sb_a (sb_c (qq_X3_mixedHead_0 0 rfl) (sb_c (qq_X3_mixedHead_0 9 rfl) (sb_c (qq_X3_mixedHead_0 10 rfl) (sb_c (qq_X3_mixedHead_0 11 rfl) (sb_c (qq_X3_mixedHead_0 4 rfl) (sb_c (qq_X3_mixedHead_0 12 rfl) (sb_c (qq_X3_mixedHead_0 6 rfl) (sb_c (qq_X3_mixedHead_0 7 rfl) (sb_c (qq_X3_mixedHead_0 8 rfl) (sb_c (qq_X3_mixedHead_0 21 rfl) (sb_c (qq_X3_mixedHead_0 22 rfl) (sb_c (qq_X3_mixedHead_0 23 rfl) (sb_c (qq_X3_mixedHead_1 0 rfl) (sb_c (qq_X3_mixedHead_1 1 rfl) (sb_c (qq_X3_mixedHead_1 2 rfl) (sb_c (qq_X3_mixedHead_1 3 rfl) (sb_c (qq_X3_mixedHead_1 4 rfl) (sb_c (qq_X3_mixedHead_1 5 rfl) (sb_c (qq_X3_mixedHead_1 6 rfl) (sb_c (qq_X3_mixedHead_1 7 rfl) (sb_c (qq_X3_mixedHead_1 8 rfl) (sb_c (qq_X3_mixedHead_1 9 rfl) (sb_c (qq_X3_mixedHead_1 10 rfl) sb_n))))))))))))))))))))))) (uq_X3_mixedHead_X3)) (uq_X3_mixedHead_X1))) gw_X3_drops
set_option maxRecDepth 20000 in
theorem gX3_mixedHead_X3_drops : GoodIn wsX3_mixedHead (wsV RX3 316 RX3 yX3_drops wsX3_drops) := goodIn_app (goodIn_sub (sb_c (qq_X3_mixedHead_0 17 rfl) (sb_c (qq_X3_mixedHead_0 18 rfl) (sb_c (qq_X3_mixedHead_0 19 rfl) (sb_c (qq_X3_mixedHead_0 4 rfl) sb_n)))) (by decide +kernel)) ggX3_mixedHead_X3_drops
theorem dX3_mixedHead_0 : decode cX3_mixedHead 0 = .ok (.lload_n 1, 1) := by decide +kernel
theorem dX3_mixedHead_1 : decode cX3_mixedHead 1 = .ok (.lstore_n 3, 1) := by decide +kernel
theorem dX3_mixedHead_2 : decode cX3_mixedHead 2 = .ok (.iconst 0, 1) := by decide +kernel
theorem dX3_mixedHead_3 : decode cX3_mixedHead 3 = .ok (.istore 5, 2) := by decide +kernel
theorem dX3_mixedHead_5 : decode cX3_mixedHead 5 = .ok (.iload 5, 2) := by decide +kernel
theorem dX3_mixedHead_7 : decode cX3_mixedHead 7 = .ok (.aload_n 0, 1) := by decide +kernel
theorem dX3_mixedHead_8 : decode cX3_mixedHead 8 = .ok (.getfield 16, 3) := by decide +kernel
theorem dX3_mixedHead_11 : decode cX3_mixedHead 11 = .ok (.getfield 82, 3) := by decide +kernel
theorem dX3_mixedHead_14 : decode cX3_mixedHead 14 = .ok (.iconst 3, 1) := by decide +kernel
theorem dX3_mixedHead_15 : decode cX3_mixedHead 15 = .ok (.iaload, 1) := by decide +kernel
theorem dX3_mixedHead_16 : decode cX3_mixedHead 16 = .ok (.if_icmp .ge 63, 3) := by decide +kernel
theorem dX3_mixedHead_19 : decode cX3_mixedHead 19 = .ok (.iconst 0, 1) := by decide +kernel
theorem dX3_mixedHead_20 : decode cX3_mixedHead 20 = .ok (.istore 6, 2) := by decide +kernel
theorem dX3_mixedHead_22 : decode cX3_mixedHead 22 = .ok (.iload 6, 2) := by decide +kernel
theorem dX3_mixedHead_24 : decode cX3_mixedHead 24 = .ok (.aload_n 0, 1) := by decide +kernel
theorem dX3_mixedHead_25 : decode cX3_mixedHead 25 = .ok (.getfield 16, 3) := by decide +kernel
theorem dX3_mixedHead_28 : decode cX3_mixedHead 28 = .ok (.getfield 82, 3) := by decide +kernel
theorem dX3_mixedHead_31 : decode cX3_mixedHead 31 = .ok (.iconst 0, 1) := by decide +kernel
theorem dX3_mixedHead_32 : decode cX3_mixedHead 32 = .ok (.iaload, 1) := by decide +kernel
theorem dX3_mixedHead_33 : decode cX3_mixedHead 33 = .ok (.if_icmp .ge 40, 3) := by decide +kernel
theorem dX3_mixedHead_36 : decode cX3_mixedHead 36 = .ok (.iconst 0, 1) := by decide +kernel
theorem dX3_mixedHead_37 : decode cX3_mixedHead 37 = .ok (.istore 7, 2) := by decide +kernel
theorem dX3_mixedHead_39 : decode cX3_mixedHead 39 = .ok (.iload 7, 2) := by decide +kernel
theorem dX3_mixedHead_41 : decode cX3_mixedHead 41 = .ok (.iconst 2, 1) := by decide +kernel
theorem dX3_mixedHead_42 : decode cX3_mixedHead 42 = .ok (.if_icmp .gt 25, 3) := by decide +kernel
theorem dX3_mixedHead_45 : decode cX3_mixedHead 45 = .ok (.lload_n 3, 1) := by decide +kernel
theorem dX3_mixedHead_46 : decode cX3_mixedHead 46 = .ok (.aload_n 0, 1) := by decide +kernel
theorem dX3_mixedHead_47 : decode cX3_mixedHead 47 = .ok (.iload 5, 2) := by decide +kernel
theorem dX3_mixedHead_49 : decode cX3_mixedHead 49 = .ok (.iload 6, 2) := by decide +kernel
theorem dX3_mixedHead_51 : decode cX3_mixedHead 51 = .ok (.iload 7, 2) := by decide +kernel
theorem dX3_mixedHead_53 : decode cX3_mixedHead 53 = .ok (.invokevirtual 313, 3) := by decide +kernel
theorem dX3_mixedHead_56 : decode cX3_mixedHead 56 = .ok (.i2l, 1) := by decide +kernel
theorem dX3_mixedHead_57 : decode cX3_mixedHead 57 = .ok (.invokestatic 261, 3) := by decide +kernel
theorem dX3_mixedHead_60 : decode cX3_mixedHead 60 = .ok (.lstore_n 3, 1) := by decide +kernel
theorem dX3_mixedHead_61 : decode cX3_mixedHead 61 = .ok (.iinc 7 1, 3) := by decide +kernel
theorem dX3_mixedHead_64 : decode cX3_mixedHead 64 = .ok (.goto (-25), 3) := by decide +kernel
theorem dX3_mixedHead_67 : decode cX3_mixedHead 67 = .ok (.iinc 6 1, 3) := by decide +kernel
theorem dX3_mixedHead_70 : decode cX3_mixedHead 70 = .ok (.goto (-48), 3) := by decide +kernel
theorem dX3_mixedHead_73 : decode cX3_mixedHead 73 = .ok (.iinc 5 1, 3) := by decide +kernel
theorem dX3_mixedHead_76 : decode cX3_mixedHead 76 = .ok (.goto (-71), 3) := by decide +kernel
theorem dX3_mixedHead_79 : decode cX3_mixedHead 79 = .ok (.iconst 0, 1) := by decide +kernel
theorem dX3_mixedHead_80 : decode cX3_mixedHead 80 = .ok (.istore 5, 2) := by decide +kernel
theorem dX3_mixedHead_82 : decode cX3_mixedHead 82 = .ok (.iload 5, 2) := by decide +kernel
theorem dX3_mixedHead_84 : decode cX3_mixedHead 84 = .ok (.aload_n 0, 1) := by decide +kernel
theorem dX3_mixedHead_85 : decode cX3_mixedHead 85 = .ok (.getfield 16, 3) := by decide +kernel
theorem dX3_mixedHead_88 : decode cX3_mixedHead 88 = .ok (.getfield 82, 3) := by decide +kernel
theorem dX3_mixedHead_91 : decode cX3_mixedHead 91 = .ok (.iconst 0, 1) := by decide +kernel
theorem dX3_mixedHead_92 : decode cX3_mixedHead 92 = .ok (.iaload, 1) := by decide +kernel
theorem dX3_mixedHead_93 : decode cX3_mixedHead 93 = .ok (.if_icmp .ge 21, 3) := by decide +kernel
theorem dX3_mixedHead_96 : decode cX3_mixedHead 96 = .ok (.lload_n 3, 1) := by decide +kernel
theorem dX3_mixedHead_97 : decode cX3_mixedHead 97 = .ok (.aload_n 0, 1) := by decide +kernel
theorem dX3_mixedHead_98 : decode cX3_mixedHead 98 = .ok (.iload 5, 2) := by decide +kernel
theorem dX3_mixedHead_100 : decode cX3_mixedHead 100 = .ok (.invokevirtual 316, 3) := by decide +kernel
theorem dX3_mixedHead_103 : decode cX3_mixedHead 103 = .ok (.i2l, 1) := by decide +kernel
theorem dX3_mixedHead_104 : decode cX3_mixedHead 104 = .ok (.invokestatic 261, 3) := by decide +kernel
theorem dX3_mixedHead_107 : decode cX3_mixedHead 107 = .ok (.lstore_n 3, 1) := by decide +kernel
theorem dX3_mixedHead_108 : decode cX3_mixedHead 108 = .ok (.iinc 5 1, 3) := by decide +kernel
theorem dX3_mixedHead_111 : decode cX3_mixedHead 111 = .ok (.goto (-29), 3) := by decide +kernel
theorem dX3_mixedHead_114 : decode cX3_mixedHead 114 = .ok (.lload_n 3, 1) := by decide +kernel
theorem dX3_mixedHead_115 : decode cX3_mixedHead 115 = .ok (.lreturn, 1) := by decide +kernel
theorem dX3_mixed_0 : decode cX3_mixed 0 = .ok (.ldc2_w 319, 3) := by decide +kernel
theorem dX3_mixed_3 : decode cX3_mixed 3 = .ok (.lload_n 0, 1) := by decide +kernel
theorem dX3_mixed_4 : decode cX3_mixed 4 = .ok (.lmul, 1) := by decide +kernel
theorem dX3_mixed_5 : decode cX3_mixed 5 = .ok (.lload_n 2, 1) := by decide +kernel
theorem dX3_mixed_6 : decode cX3_mixed 6 = .ok (.ladd, 1) := by decide +kernel
theorem dX3_mixed_7 : decode cX3_mixed 7 = .ok (.lreturn, 1) := by decide +kernel
theorem dX3_within_0 : decode cX3_within 0 = .ok (.iload_n 0, 1) := by decide +kernel
theorem dX3_within_1 : decode cX3_within 1 = .ok (.iload_n 1, 1) := by decide +kernel
theorem dX3_within_2 : decode cX3_within 2 = .ok (.if_icmp .lt 12, 3) := by decide +kernel
theorem dX3_within_5 : decode cX3_within 5 = .ok (.iload_n 0, 1) := by decide +kernel
theorem dX3_within_6 : decode cX3_within 6 = .ok (.iload_n 2, 1) := by decide +kernel
theorem dX3_within_7 : decode cX3_within 7 = .ok (.if_icmp .gt 7, 3) := by decide +kernel
theorem dX3_within_10 : decode cX3_within 10 = .ok (.iconst 1, 1) := by decide +kernel
theorem dX3_within_11 : decode cX3_within 11 = .ok (.goto 4, 3) := by decide +kernel
theorem dX3_within_14 : decode cX3_within 14 = .ok (.iconst 0, 1) := by decide +kernel
theorem dX3_within_15 : decode cX3_within 15 = .ok (.ireturn, 1) := by decide +kernel
theorem qq_X3_isLine_0 {c : Cond} (j : Nat) (h : ([.methodLink RX3 68 yX3_within, .static yX3_within, .initialized RX3, .code yX3_within cX3_within 3 (some .boolean)] : List Cond)[j]? = some c) : c ∈ wsX3_isLine := List.mem_cons_of_mem _ (List.mem_of_getElem? h)
set_option maxRecDepth 20000 in
theorem ggX3_isLine_X3_within : GoodIn wsX3_isLine wsX3_within := goodIn_sub (sb_c (qq_X3_isLine_0 3 rfl) (sb_n)) gw_X3_within
set_option maxRecDepth 20000 in
theorem gX3_isLine_X3_within : GoodIn wsX3_isLine (va_wsS RX3 68 yX3_within wsX3_within) := goodIn_app (goodIn_sub (sb_c (qq_X3_isLine_0 0 rfl) (sb_c (qq_X3_isLine_0 1 rfl) (sb_c (qq_X3_isLine_0 2 rfl) sb_n))) (by decide +kernel)) ggX3_isLine_X3_within
theorem dX3_isLine_0 : decode cX3_isLine 0 = .ok (.iload_n 0, 1) := by decide +kernel
theorem dX3_isLine_1 : decode cX3_isLine 1 = .ok (.iconst 0, 1) := by decide +kernel
theorem dX3_isLine_2 : decode cX3_isLine 2 = .ok (.bipush 15, 2) := by decide +kernel
theorem dX3_isLine_4 : decode cX3_isLine 4 = .ok (.invokestatic 68, 3) := by decide +kernel
theorem dX3_isLine_7 : decode cX3_isLine 7 = .ok (.ireturn, 1) := by decide +kernel
theorem qq_X3_isNozzle_0 {c : Cond} (j : Nat) (h : ([.fieldLink RX3 16 "InkSwaths" "told" "LInkSwaths$Plan;", .methodLink RX3 68 yX3_within, .static yX3_within, .initialized RX3, .code yX3_within cX3_within 3 (some .boolean)] : List Cond)[j]? = some c) : c ∈ wsX3_isNozzle := List.mem_cons_of_mem _ (List.mem_append_left _ (List.mem_append_left _ (List.mem_of_getElem? h)))
theorem uq_X3_isNozzle_X3 : wsub wsX30 wsX3_isNozzle := fun _ h => List.mem_cons_of_mem _ (List.mem_append_left _ (List.mem_append_right _ (h)))
theorem uq_X3_isNozzle_X1 : wsub wsX10 wsX3_isNozzle := fun _ h => List.mem_cons_of_mem _ (List.mem_append_right _ (h))
set_option maxRecDepth 20000 in
theorem ggX3_isNozzle_X3_within : GoodIn wsX3_isNozzle wsX3_within := goodIn_sub (sb_c (qq_X3_isNozzle_0 4 rfl) (sb_n)) gw_X3_within
set_option maxRecDepth 20000 in
theorem gX3_isNozzle_X3_within : GoodIn wsX3_isNozzle (va_wsS RX3 68 yX3_within wsX3_within) := goodIn_app (goodIn_sub (sb_c (qq_X3_isNozzle_0 1 rfl) (sb_c (qq_X3_isNozzle_0 2 rfl) (sb_c (qq_X3_isNozzle_0 3 rfl) sb_n))) (by decide +kernel)) ggX3_isNozzle_X3_within
theorem dX3_isNozzle_0 : decode cX3_isNozzle 0 = .ok (.iload_n 1, 1) := by decide +kernel
theorem dX3_isNozzle_1 : decode cX3_isNozzle 1 = .ok (.iconst 0, 1) := by decide +kernel
theorem dX3_isNozzle_2 : decode cX3_isNozzle 2 = .ok (.aload_n 0, 1) := by decide +kernel
theorem dX3_isNozzle_3 : decode cX3_isNozzle 3 = .ok (.getfield 16, 3) := by decide +kernel
theorem dX3_isNozzle_6 : decode cX3_isNozzle 6 = .ok (.getfield 82, 3) := by decide +kernel
theorem dX3_isNozzle_9 : decode cX3_isNozzle 9 = .ok (.iconst 0, 1) := by decide +kernel
theorem dX3_isNozzle_10 : decode cX3_isNozzle 10 = .ok (.iaload, 1) := by decide +kernel
theorem dX3_isNozzle_11 : decode cX3_isNozzle 11 = .ok (.iconst 1, 1) := by decide +kernel
theorem dX3_isNozzle_12 : decode cX3_isNozzle 12 = .ok (.isub, 1) := by decide +kernel
theorem dX3_isNozzle_13 : decode cX3_isNozzle 13 = .ok (.invokestatic 68, 3) := by decide +kernel
theorem dX3_isNozzle_16 : decode cX3_isNozzle 16 = .ok (.ireturn, 1) := by decide +kernel
theorem qq_X3_isSheet_0 {c : Cond} (j : Nat) (h : ([.methodLink RX3 68 yX3_within, .static yX3_within, .initialized RX3, .code yX3_within cX3_within 3 (some .boolean)] : List Cond)[j]? = some c) : c ∈ wsX3_isSheet := List.mem_cons_of_mem _ (List.mem_of_getElem? h)
set_option maxRecDepth 20000 in
theorem ggX3_isSheet_X3_within : GoodIn wsX3_isSheet wsX3_within := goodIn_sub (sb_c (qq_X3_isSheet_0 3 rfl) (sb_n)) gw_X3_within
set_option maxRecDepth 20000 in
theorem gX3_isSheet_X3_within : GoodIn wsX3_isSheet (va_wsS RX3 68 yX3_within wsX3_within) := goodIn_app (goodIn_sub (sb_c (qq_X3_isSheet_0 0 rfl) (sb_c (qq_X3_isSheet_0 1 rfl) (sb_c (qq_X3_isSheet_0 2 rfl) sb_n))) (by decide +kernel)) ggX3_isSheet_X3_within
theorem dX3_isSheet_0 : decode cX3_isSheet 0 = .ok (.iload_n 0, 1) := by decide +kernel
theorem dX3_isSheet_1 : decode cX3_isSheet 1 = .ok (.iconst 0, 1) := by decide +kernel
theorem dX3_isSheet_2 : decode cX3_isSheet 2 = .ok (.iconst 3, 1) := by decide +kernel
theorem dX3_isSheet_3 : decode cX3_isSheet 3 = .ok (.invokestatic 68, 3) := by decide +kernel
theorem dX3_isSheet_6 : decode cX3_isSheet 6 = .ok (.ireturn, 1) := by decide +kernel
theorem qq_X3_isForm_0 {c : Cond} (j : Nat) (h : ([.methodLink RX3 68 yX3_within, .static yX3_within, .initialized RX3, .code yX3_within cX3_within 3 (some .boolean)] : List Cond)[j]? = some c) : c ∈ wsX3_isForm := List.mem_cons_of_mem _ (List.mem_of_getElem? h)
set_option maxRecDepth 20000 in
theorem ggX3_isForm_X3_within : GoodIn wsX3_isForm wsX3_within := goodIn_sub (sb_c (qq_X3_isForm_0 3 rfl) (sb_n)) gw_X3_within
set_option maxRecDepth 20000 in
theorem gX3_isForm_X3_within : GoodIn wsX3_isForm (va_wsS RX3 68 yX3_within wsX3_within) := goodIn_app (goodIn_sub (sb_c (qq_X3_isForm_0 0 rfl) (sb_c (qq_X3_isForm_0 1 rfl) (sb_c (qq_X3_isForm_0 2 rfl) sb_n))) (by decide +kernel)) ggX3_isForm_X3_within
theorem dX3_isForm_0 : decode cX3_isForm 0 = .ok (.iload_n 0, 1) := by decide +kernel
theorem dX3_isForm_1 : decode cX3_isForm 1 = .ok (.iconst 0, 1) := by decide +kernel
theorem dX3_isForm_2 : decode cX3_isForm 2 = .ok (.iconst 2, 1) := by decide +kernel
theorem dX3_isForm_3 : decode cX3_isForm 3 = .ok (.invokestatic 68, 3) := by decide +kernel
theorem dX3_isForm_6 : decode cX3_isForm 6 = .ok (.ireturn, 1) := by decide +kernel
theorem dX3_finding_0 : decode cX3_finding 0 = .ok (.aload_n 0, 1) := by decide +kernel
theorem dX3_finding_1 : decode cX3_finding 1 = .ok (.iload_n 1, 1) := by decide +kernel
theorem dX3_finding_2 : decode cX3_finding 2 = .ok (.putfield 58, 3) := by decide +kernel
theorem dX3_finding_5 : decode cX3_finding 5 = .ok (.bipush (-10), 2) := by decide +kernel
theorem dX3_finding_7 : decode cX3_finding 7 = .ok (.iload_n 1, 1) := by decide +kernel
theorem dX3_finding_8 : decode cX3_finding 8 = .ok (.isub, 1) := by decide +kernel
theorem dX3_finding_9 : decode cX3_finding 9 = .ok (.ireturn, 1) := by decide +kernel
theorem qq_X3_isSafe_0 {c : Cond} (j : Nat) (h : wsX3_isSafe_r1[j]? = some c) : c ∈ wsX3_isSafe := List.mem_cons_of_mem _ (List.mem_append_left _ (List.mem_append_left _ (List.mem_append_left _ (List.mem_append_left _ (List.mem_of_getElem? h)))))
theorem qq_X3_isSafe_1 {c : Cond} (j : Nat) (h : wsX3_isSafe_r2[j]? = some c) : c ∈ wsX3_isSafe := List.mem_cons_of_mem _ (List.mem_append_left _ (List.mem_append_left _ (List.mem_append_left _ (List.mem_append_right _ (List.mem_append_left _ (List.mem_of_getElem? h))))))
theorem qq_X3_isSafe_2 {c : Cond} (j : Nat) (h : wsX3_isSafe_r3[j]? = some c) : c ∈ wsX3_isSafe := List.mem_cons_of_mem _ (List.mem_append_left _ (List.mem_append_left _ (List.mem_append_left _ (List.mem_append_right _ (List.mem_append_right _ (List.mem_of_getElem? h))))))
theorem uq_X3_isSafe_X3 : wsub wsX30 wsX3_isSafe := fun _ h => List.mem_cons_of_mem _ (List.mem_append_left _ (List.mem_append_left _ (List.mem_append_right _ (h))))
theorem uq_X3_isSafe_X1 : wsub wsX10 wsX3_isSafe := fun _ h => List.mem_cons_of_mem _ (List.mem_append_left _ (List.mem_append_right _ (h)))
theorem uq_X3_isSafe_X0 : wsub wsX00 wsX3_isSafe := fun _ h => List.mem_cons_of_mem _ (List.mem_append_right _ (h))
set_option maxRecDepth 20000 in
theorem ggX3_isSafe_X0_livingBy : GoodIn wsX3_isSafe wsX0_livingBy := goodIn_sub (sb_c (qq_X3_isSafe_0 6 rfl) (sb_a (sb_c (qq_X3_isSafe_0 7 rfl) (sb_c (qq_X3_isSafe_0 8 rfl) (sb_c (qq_X3_isSafe_0 9 rfl) (sb_c (qq_X3_isSafe_0 10 rfl) (sb_c (qq_X3_isSafe_0 11 rfl) (sb_c (qq_X3_isSafe_0 12 rfl) (sb_c (qq_X3_isSafe_0 13 rfl) (sb_c (qq_X3_isSafe_0 14 rfl) (sb_c (qq_X3_isSafe_0 15 rfl) (sb_c (qq_X3_isSafe_0 4 rfl) (sb_c (qq_X3_isSafe_0 16 rfl) (sb_c (qq_X3_isSafe_0 17 rfl) (sb_c (qq_X3_isSafe_0 18 rfl) sb_n))))))))))))) (uq_X3_isSafe_X0))) gw_X0_livingBy
set_option maxRecDepth 20000 in
theorem gX3_isSafe_X0_livingBy_n97 : GoodIn wsX3_isSafe (wsX0_livingBy) := ggX3_isSafe_X0_livingBy
set_option maxRecDepth 20000 in
theorem ggX3_isSafe_X1_fewestMissed : GoodIn wsX3_isSafe wsX1_fewestMissed := goodIn_sub (sb_c (qq_X3_isSafe_0 22 rfl) (sb_a (sb_a (sb_c (qq_X3_isSafe_0 23 rfl) (sb_c (qq_X3_isSafe_1 0 rfl) (sb_c (qq_X3_isSafe_1 1 rfl) (sb_c (qq_X3_isSafe_1 2 rfl) (sb_c (qq_X3_isSafe_1 3 rfl) (sb_c (qq_X3_isSafe_1 4 rfl) (sb_c (qq_X3_isSafe_1 5 rfl) (sb_c (qq_X3_isSafe_1 6 rfl) (sb_c (qq_X3_isSafe_1 7 rfl) (sb_c (qq_X3_isSafe_1 8 rfl) (sb_c (qq_X3_isSafe_0 20 rfl) (sb_c (qq_X3_isSafe_1 9 rfl) (sb_c (qq_X3_isSafe_1 10 rfl) (sb_c (qq_X3_isSafe_1 11 rfl) (sb_c (qq_X3_isSafe_1 12 rfl) (sb_c (qq_X3_isSafe_1 13 rfl) (sb_c (qq_X3_isSafe_1 14 rfl) (sb_c (qq_X3_isSafe_1 15 rfl) (sb_c (qq_X3_isSafe_1 16 rfl) (sb_c (qq_X3_isSafe_1 17 rfl) (sb_c (qq_X3_isSafe_1 18 rfl) (sb_c (qq_X3_isSafe_1 19 rfl) (sb_c (qq_X3_isSafe_1 20 rfl) (sb_c (qq_X3_isSafe_1 21 rfl) sb_n)))))))))))))))))))))))) (sb_c (qq_X3_isSafe_1 22 rfl) (sb_c (qq_X3_isSafe_1 23 rfl) (sb_c (qq_X3_isSafe_2 0 rfl) (sb_c (qq_X3_isSafe_2 1 rfl) (sb_c (qq_X3_isSafe_2 2 rfl) (sb_c (qq_X3_isSafe_2 3 rfl) sb_n))))))) (uq_X3_isSafe_X1))) gw_X1_fewestMissed
set_option maxRecDepth 20000 in
theorem gX3_isSafe_X1_fewestMissed_n164 : GoodIn wsX3_isSafe (wsX1_fewestMissed) := ggX3_isSafe_X1_fewestMissed
theorem dX3_isSafe_0 : decode cX3_isSafe 0 = .ok (.aload_n 0, 1) := by decide +kernel
theorem dX3_isSafe_1 : decode cX3_isSafe 1 = .ok (.getfield 26, 3) := by decide +kernel
theorem dX3_isSafe_4 : decode cX3_isSafe 4 = .ok (.iload_n 1, 1) := by decide +kernel
theorem dX3_isSafe_5 : decode cX3_isSafe 5 = .ok (.aload_n 0, 1) := by decide +kernel
theorem dX3_isSafe_6 : decode cX3_isSafe 6 = .ok (.getfield 30, 3) := by decide +kernel
theorem dX3_isSafe_9 : decode cX3_isSafe 9 = .ok (.invokevirtual 97, 3) := by decide +kernel
theorem dX3_isSafe_12 : decode cX3_isSafe 12 = .ok (.iconst 0, 1) := by decide +kernel
theorem dX3_isSafe_13 : decode cX3_isSafe 13 = .ok (.istore_n 2, 1) := by decide +kernel
theorem dX3_isSafe_14 : decode cX3_isSafe 14 = .ok (.iload_n 2, 1) := by decide +kernel
theorem dX3_isSafe_15 : decode cX3_isSafe 15 = .ok (.bipush 16, 2) := by decide +kernel
theorem dX3_isSafe_17 : decode cX3_isSafe 17 = .ok (.if_icmp .ge 35, 3) := by decide +kernel
theorem dX3_isSafe_20 : decode cX3_isSafe 20 = .ok (.aload_n 0, 1) := by decide +kernel
theorem dX3_isSafe_21 : decode cX3_isSafe 21 = .ok (.getfield 16, 3) := by decide +kernel
theorem dX3_isSafe_24 : decode cX3_isSafe 24 = .ok (.iload_n 2, 1) := by decide +kernel
theorem dX3_isSafe_25 : decode cX3_isSafe 25 = .ok (.aload_n 0, 1) := by decide +kernel
theorem dX3_isSafe_26 : decode cX3_isSafe 26 = .ok (.getfield 30, 3) := by decide +kernel
theorem dX3_isSafe_29 : decode cX3_isSafe 29 = .ok (.aload_n 0, 1) := by decide +kernel
theorem dX3_isSafe_30 : decode cX3_isSafe 30 = .ok (.getfield 16, 3) := by decide +kernel
theorem dX3_isSafe_33 : decode cX3_isSafe 33 = .ok (.getfield 82, 3) := by decide +kernel
theorem dX3_isSafe_36 : decode cX3_isSafe 36 = .ok (.iconst 5, 1) := by decide +kernel
theorem dX3_isSafe_37 : decode cX3_isSafe 37 = .ok (.iaload, 1) := by decide +kernel
theorem dX3_isSafe_38 : decode cX3_isSafe 38 = .ok (.invokevirtual 164, 3) := by decide +kernel
theorem dX3_isSafe_41 : decode cX3_isSafe 41 = .ok (.ifCond .le 5, 3) := by decide +kernel
theorem dX3_isSafe_44 : decode cX3_isSafe 44 = .ok (.iconst 0, 1) := by decide +kernel
theorem dX3_isSafe_45 : decode cX3_isSafe 45 = .ok (.ireturn, 1) := by decide +kernel
theorem dX3_isSafe_46 : decode cX3_isSafe 46 = .ok (.iinc 2 1, 3) := by decide +kernel
theorem dX3_isSafe_49 : decode cX3_isSafe 49 = .ok (.goto (-35), 3) := by decide +kernel
theorem dX3_isSafe_52 : decode cX3_isSafe 52 = .ok (.iconst 1, 1) := by decide +kernel
theorem dX3_isSafe_53 : decode cX3_isSafe 53 = .ok (.ireturn, 1) := by decide +kernel
theorem qq_X3_sparedEvents_0 {c : Cond} (j : Nat) (h : wsX3_sparedEvents_r1[j]? = some c) : c ∈ wsX3_sparedEvents := List.mem_cons_of_mem _ (List.mem_append_left _ (List.mem_append_left _ (List.mem_append_left _ (List.mem_append_left _ (List.mem_of_getElem? h)))))
theorem qq_X3_sparedEvents_1 {c : Cond} (j : Nat) (h : wsX3_sparedEvents_r2[j]? = some c) : c ∈ wsX3_sparedEvents := List.mem_cons_of_mem _ (List.mem_append_left _ (List.mem_append_left _ (List.mem_append_left _ (List.mem_append_right _ (List.mem_append_left _ (List.mem_of_getElem? h))))))
theorem qq_X3_sparedEvents_2 {c : Cond} (j : Nat) (h : wsX3_sparedEvents_r3[j]? = some c) : c ∈ wsX3_sparedEvents := List.mem_cons_of_mem _ (List.mem_append_left _ (List.mem_append_left _ (List.mem_append_left _ (List.mem_append_right _ (List.mem_append_right _ (List.mem_of_getElem? h))))))
theorem uq_X3_sparedEvents_X3 : wsub wsX30 wsX3_sparedEvents := fun _ h => List.mem_cons_of_mem _ (List.mem_append_left _ (List.mem_append_left _ (List.mem_append_right _ (h))))
theorem uq_X3_sparedEvents_X0 : wsub wsX00 wsX3_sparedEvents := fun _ h => List.mem_cons_of_mem _ (List.mem_append_left _ (List.mem_append_right _ (h)))
theorem uq_X3_sparedEvents_X1 : wsub wsX10 wsX3_sparedEvents := fun _ h => List.mem_cons_of_mem _ (List.mem_append_right _ (h))
set_option maxRecDepth 20000 in
theorem ggX3_sparedEvents_X0_all : GoodIn wsX3_sparedEvents wsX0_all := goodIn_sub (sb_c (qq_X3_sparedEvents_0 4 rfl) (sb_a (sb_c (qq_X3_sparedEvents_0 5 rfl) sb_n) (uq_X3_sparedEvents_X0))) gw_X0_all
set_option maxRecDepth 20000 in
theorem gX3_sparedEvents_X0_all_n92 : GoodIn wsX3_sparedEvents (wsX0_all) := ggX3_sparedEvents_X0_all
set_option maxRecDepth 20000 in
theorem gw_X3_isSafe : wsX3_isSafe.all goodWord = true := by decide +kernel
set_option maxRecDepth 20000 in
theorem ggX3_sparedEvents_X3_isSafe : GoodIn wsX3_sparedEvents wsX3_isSafe := goodIn_sub (sb_c (qq_X3_sparedEvents_0 10 rfl) (sb_a (sb_a (sb_a (sb_a (sb_c (qq_X3_sparedEvents_0 0 rfl) (sb_c (qq_X3_sparedEvents_0 11 rfl) (sb_c (qq_X3_sparedEvents_0 12 rfl) (sb_c (qq_X3_sparedEvents_0 13 rfl) (sb_c (qq_X3_sparedEvents_0 2 rfl) (sb_c (qq_X3_sparedEvents_0 14 rfl) (sb_c (qq_X3_sparedEvents_0 15 rfl) (sb_c (qq_X3_sparedEvents_0 5 rfl) (sb_c (qq_X3_sparedEvents_0 16 rfl) (sb_c (qq_X3_sparedEvents_0 17 rfl) (sb_c (qq_X3_sparedEvents_0 18 rfl) (sb_c (qq_X3_sparedEvents_0 19 rfl) (sb_c (qq_X3_sparedEvents_0 20 rfl) (sb_c (qq_X3_sparedEvents_0 21 rfl) (sb_c (qq_X3_sparedEvents_0 22 rfl) (sb_c (qq_X3_sparedEvents_0 23 rfl) (sb_c (qq_X3_sparedEvents_1 0 rfl) (sb_c (qq_X3_sparedEvents_1 1 rfl) (sb_c (qq_X3_sparedEvents_1 2 rfl) (sb_c (qq_X3_sparedEvents_1 3 rfl) (sb_c (qq_X3_sparedEvents_1 4 rfl) (sb_c (qq_X3_sparedEvents_1 5 rfl) (sb_c (qq_X3_sparedEvents_1 6 rfl) (sb_c (qq_X3_sparedEvents_1 7 rfl) sb_n)))))))))))))))))))))))) (sb_a (sb_c (qq_X3_sparedEvents_1 8 rfl) (sb_c (qq_X3_sparedEvents_1 9 rfl) (sb_c (qq_X3_sparedEvents_1 10 rfl) (sb_c (qq_X3_sparedEvents_1 11 rfl) (sb_c (qq_X3_sparedEvents_1 12 rfl) (sb_c (qq_X3_sparedEvents_1 13 rfl) (sb_c (qq_X3_sparedEvents_1 14 rfl) (sb_c (qq_X3_sparedEvents_1 15 rfl) (sb_c (qq_X3_sparedEvents_1 16 rfl) (sb_c (qq_X3_sparedEvents_1 17 rfl) (sb_c (qq_X3_sparedEvents_1 18 rfl) (sb_c (qq_X3_sparedEvents_1 19 rfl) (sb_c (qq_X3_sparedEvents_1 20 rfl) (sb_c (qq_X3_sparedEvents_1 21 rfl) (sb_c (qq_X3_sparedEvents_1 22 rfl) (sb_c (qq_X3_sparedEvents_1 23 rfl) (sb_c (qq_X3_sparedEvents_2 0 rfl) (sb_c (qq_X3_sparedEvents_2 1 rfl) (sb_c (qq_X3_sparedEvents_2 2 rfl) (sb_c (qq_X3_sparedEvents_2 3 rfl) (sb_c (qq_X3_sparedEvents_2 4 rfl) (sb_c (qq_X3_sparedEvents_2 5 rfl) (sb_c (qq_X3_sparedEvents_2 6 rfl) (sb_c (qq_X3_sparedEvents_2 7 rfl) sb_n)))))))))))))))))))))))) (sb_c (qq_X3_sparedEvents_2 8 rfl) (sb_c (qq_X3_sparedEvents_2 9 rfl) (sb_c (qq_X3_sparedEvents_2 10 rfl) (sb_c (qq_X3_sparedEvents_2 11 rfl) sb_n)))))) (uq_X3_sparedEvents_X3)) (uq_X3_sparedEvents_X1)) (uq_X3_sparedEvents_X0))) gw_X3_isSafe
set_option maxRecDepth 20000 in
theorem gX3_sparedEvents_X3_isSafe : GoodIn wsX3_sparedEvents (wsV RX3 321 RX3 yX3_isSafe wsX3_isSafe) := goodIn_app (goodIn_sub (sb_c (qq_X3_sparedEvents_0 6 rfl) (sb_c (qq_X3_sparedEvents_0 7 rfl) (sb_c (qq_X3_sparedEvents_0 8 rfl) (sb_c (qq_X3_sparedEvents_0 9 rfl) sb_n)))) (by decide +kernel)) ggX3_sparedEvents_X3_isSafe
theorem dX3_sparedEvents_0 : decode cX3_sparedEvents 0 = .ok (.aload_n 0, 1) := by decide +kernel
theorem dX3_sparedEvents_1 : decode cX3_sparedEvents 1 = .ok (.getfield 26, 3) := by decide +kernel
theorem dX3_sparedEvents_4 : decode cX3_sparedEvents 4 = .ok (.invokevirtual 92, 3) := by decide +kernel
theorem dX3_sparedEvents_7 : decode cX3_sparedEvents 7 = .ok (.istore_n 1, 1) := by decide +kernel
theorem dX3_sparedEvents_8 : decode cX3_sparedEvents 8 = .ok (.aload_n 0, 1) := by decide +kernel
theorem dX3_sparedEvents_9 : decode cX3_sparedEvents 9 = .ok (.iload_n 1, 1) := by decide +kernel
theorem dX3_sparedEvents_10 : decode cX3_sparedEvents 10 = .ok (.invokevirtual 321, 3) := by decide +kernel
theorem dX3_sparedEvents_13 : decode cX3_sparedEvents 13 = .ok (.ifCond .eq 5, 3) := by decide +kernel
theorem dX3_sparedEvents_16 : decode cX3_sparedEvents 16 = .ok (.iconst 0, 1) := by decide +kernel
theorem dX3_sparedEvents_17 : decode cX3_sparedEvents 17 = .ok (.ireturn, 1) := by decide +kernel
theorem dX3_sparedEvents_18 : decode cX3_sparedEvents 18 = .ok (.iconst 0, 1) := by decide +kernel
theorem dX3_sparedEvents_19 : decode cX3_sparedEvents 19 = .ok (.istore_n 2, 1) := by decide +kernel
theorem dX3_sparedEvents_20 : decode cX3_sparedEvents 20 = .ok (.iload_n 2, 1) := by decide +kernel
theorem dX3_sparedEvents_21 : decode cX3_sparedEvents 21 = .ok (.aload_n 0, 1) := by decide +kernel
theorem dX3_sparedEvents_22 : decode cX3_sparedEvents 22 = .ok (.getfield 26, 3) := by decide +kernel
theorem dX3_sparedEvents_25 : decode cX3_sparedEvents 25 = .ok (.getfield 85, 3) := by decide +kernel
theorem dX3_sparedEvents_28 : decode cX3_sparedEvents 28 = .ok (.if_icmp .ge 27, 3) := by decide +kernel
theorem dX3_sparedEvents_31 : decode cX3_sparedEvents 31 = .ok (.aload_n 0, 1) := by decide +kernel
theorem dX3_sparedEvents_32 : decode cX3_sparedEvents 32 = .ok (.iload_n 1, 1) := by decide +kernel
theorem dX3_sparedEvents_33 : decode cX3_sparedEvents 33 = .ok (.iconst 1, 1) := by decide +kernel
theorem dX3_sparedEvents_34 : decode cX3_sparedEvents 34 = .ok (.iload_n 2, 1) := by decide +kernel
theorem dX3_sparedEvents_35 : decode cX3_sparedEvents 35 = .ok (.ishl, 1) := by decide +kernel
theorem dX3_sparedEvents_36 : decode cX3_sparedEvents 36 = .ok (.iconst (-1), 1) := by decide +kernel
theorem dX3_sparedEvents_37 : decode cX3_sparedEvents 37 = .ok (.ixor, 1) := by decide +kernel
theorem dX3_sparedEvents_38 : decode cX3_sparedEvents 38 = .ok (.iand, 1) := by decide +kernel
theorem dX3_sparedEvents_39 : decode cX3_sparedEvents 39 = .ok (.invokevirtual 321, 3) := by decide +kernel
theorem dX3_sparedEvents_42 : decode cX3_sparedEvents 42 = .ok (.ifCond .eq 7, 3) := by decide +kernel
theorem dX3_sparedEvents_45 : decode cX3_sparedEvents 45 = .ok (.iconst 1, 1) := by decide +kernel
theorem dX3_sparedEvents_46 : decode cX3_sparedEvents 46 = .ok (.iload_n 2, 1) := by decide +kernel
theorem dX3_sparedEvents_47 : decode cX3_sparedEvents 47 = .ok (.ishl, 1) := by decide +kernel
theorem dX3_sparedEvents_48 : decode cX3_sparedEvents 48 = .ok (.ireturn, 1) := by decide +kernel
theorem dX3_sparedEvents_49 : decode cX3_sparedEvents 49 = .ok (.iinc 2 1, 3) := by decide +kernel
theorem dX3_sparedEvents_52 : decode cX3_sparedEvents 52 = .ok (.goto (-32), 3) := by decide +kernel
theorem dX3_sparedEvents_55 : decode cX3_sparedEvents 55 = .ok (.iconst 0, 1) := by decide +kernel
theorem dX3_sparedEvents_56 : decode cX3_sparedEvents 56 = .ok (.istore_n 2, 1) := by decide +kernel
theorem dX3_sparedEvents_57 : decode cX3_sparedEvents 57 = .ok (.iload_n 2, 1) := by decide +kernel
theorem dX3_sparedEvents_58 : decode cX3_sparedEvents 58 = .ok (.aload_n 0, 1) := by decide +kernel
theorem dX3_sparedEvents_59 : decode cX3_sparedEvents 59 = .ok (.getfield 26, 3) := by decide +kernel
theorem dX3_sparedEvents_62 : decode cX3_sparedEvents 62 = .ok (.getfield 85, 3) := by decide +kernel
theorem dX3_sparedEvents_65 : decode cX3_sparedEvents 65 = .ok (.if_icmp .ge 55, 3) := by decide +kernel
theorem dX3_sparedEvents_68 : decode cX3_sparedEvents 68 = .ok (.iload_n 2, 1) := by decide +kernel
theorem dX3_sparedEvents_69 : decode cX3_sparedEvents 69 = .ok (.iconst 1, 1) := by decide +kernel
theorem dX3_sparedEvents_70 : decode cX3_sparedEvents 70 = .ok (.iadd, 1) := by decide +kernel
theorem dX3_sparedEvents_71 : decode cX3_sparedEvents 71 = .ok (.istore_n 3, 1) := by decide +kernel
theorem dX3_sparedEvents_72 : decode cX3_sparedEvents 72 = .ok (.iload_n 3, 1) := by decide +kernel
theorem dX3_sparedEvents_73 : decode cX3_sparedEvents 73 = .ok (.aload_n 0, 1) := by decide +kernel
theorem dX3_sparedEvents_74 : decode cX3_sparedEvents 74 = .ok (.getfield 26, 3) := by decide +kernel
theorem dX3_sparedEvents_77 : decode cX3_sparedEvents 77 = .ok (.getfield 85, 3) := by decide +kernel
theorem dX3_sparedEvents_80 : decode cX3_sparedEvents 80 = .ok (.if_icmp .ge 34, 3) := by decide +kernel
theorem dX3_sparedEvents_83 : decode cX3_sparedEvents 83 = .ok (.iconst 1, 1) := by decide +kernel
theorem dX3_sparedEvents_84 : decode cX3_sparedEvents 84 = .ok (.iload_n 2, 1) := by decide +kernel
theorem dX3_sparedEvents_85 : decode cX3_sparedEvents 85 = .ok (.ishl, 1) := by decide +kernel
theorem dX3_sparedEvents_86 : decode cX3_sparedEvents 86 = .ok (.iconst 1, 1) := by decide +kernel
theorem dX3_sparedEvents_87 : decode cX3_sparedEvents 87 = .ok (.iload_n 3, 1) := by decide +kernel
theorem dX3_sparedEvents_88 : decode cX3_sparedEvents 88 = .ok (.ishl, 1) := by decide +kernel
theorem dX3_sparedEvents_89 : decode cX3_sparedEvents 89 = .ok (.ior, 1) := by decide +kernel
theorem dX3_sparedEvents_90 : decode cX3_sparedEvents 90 = .ok (.istore 4, 2) := by decide +kernel
theorem dX3_sparedEvents_92 : decode cX3_sparedEvents 92 = .ok (.aload_n 0, 1) := by decide +kernel
theorem dX3_sparedEvents_93 : decode cX3_sparedEvents 93 = .ok (.iload_n 1, 1) := by decide +kernel
theorem dX3_sparedEvents_94 : decode cX3_sparedEvents 94 = .ok (.iload 4, 2) := by decide +kernel
theorem dX3_sparedEvents_96 : decode cX3_sparedEvents 96 = .ok (.iconst (-1), 1) := by decide +kernel
theorem dX3_sparedEvents_97 : decode cX3_sparedEvents 97 = .ok (.ixor, 1) := by decide +kernel
theorem dX3_sparedEvents_98 : decode cX3_sparedEvents 98 = .ok (.iand, 1) := by decide +kernel
theorem dX3_sparedEvents_99 : decode cX3_sparedEvents 99 = .ok (.invokevirtual 321, 3) := by decide +kernel
theorem dX3_sparedEvents_102 : decode cX3_sparedEvents 102 = .ok (.ifCond .eq 6, 3) := by decide +kernel
theorem dX3_sparedEvents_105 : decode cX3_sparedEvents 105 = .ok (.iload 4, 2) := by decide +kernel
theorem dX3_sparedEvents_107 : decode cX3_sparedEvents 107 = .ok (.ireturn, 1) := by decide +kernel
theorem dX3_sparedEvents_108 : decode cX3_sparedEvents 108 = .ok (.iinc 3 1, 3) := by decide +kernel
theorem dX3_sparedEvents_111 : decode cX3_sparedEvents 111 = .ok (.goto (-39), 3) := by decide +kernel
theorem dX3_sparedEvents_114 : decode cX3_sparedEvents 114 = .ok (.iinc 2 1, 3) := by decide +kernel
theorem dX3_sparedEvents_117 : decode cX3_sparedEvents 117 = .ok (.goto (-60), 3) := by decide +kernel
theorem dX3_sparedEvents_120 : decode cX3_sparedEvents 120 = .ok (.iconst (-1), 1) := by decide +kernel
theorem dX3_sparedEvents_121 : decode cX3_sparedEvents 121 = .ok (.ireturn, 1) := by decide +kernel
theorem dX3_numberOfBit_0 : decode cX3_numberOfBit 0 = .ok (.iconst 0, 1) := by decide +kernel
theorem dX3_numberOfBit_1 : decode cX3_numberOfBit 1 = .ok (.istore_n 2, 1) := by decide +kernel
theorem dX3_numberOfBit_2 : decode cX3_numberOfBit 2 = .ok (.iconst 0, 1) := by decide +kernel
theorem dX3_numberOfBit_3 : decode cX3_numberOfBit 3 = .ok (.istore_n 3, 1) := by decide +kernel
theorem dX3_numberOfBit_4 : decode cX3_numberOfBit 4 = .ok (.iload_n 3, 1) := by decide +kernel
theorem dX3_numberOfBit_5 : decode cX3_numberOfBit 5 = .ok (.bipush 8, 2) := by decide +kernel
theorem dX3_numberOfBit_7 : decode cX3_numberOfBit 7 = .ok (.if_icmp .ge 28, 3) := by decide +kernel
theorem dX3_numberOfBit_10 : decode cX3_numberOfBit 10 = .ok (.iload_n 0, 1) := by decide +kernel
theorem dX3_numberOfBit_11 : decode cX3_numberOfBit 11 = .ok (.iload_n 3, 1) := by decide +kernel
theorem dX3_numberOfBit_12 : decode cX3_numberOfBit 12 = .ok (.ishr, 1) := by decide +kernel
theorem dX3_numberOfBit_13 : decode cX3_numberOfBit 13 = .ok (.iconst 1, 1) := by decide +kernel
theorem dX3_numberOfBit_14 : decode cX3_numberOfBit 14 = .ok (.iand, 1) := by decide +kernel
theorem dX3_numberOfBit_15 : decode cX3_numberOfBit 15 = .ok (.iconst 1, 1) := by decide +kernel
theorem dX3_numberOfBit_16 : decode cX3_numberOfBit 16 = .ok (.if_icmp .ne 13, 3) := by decide +kernel
theorem dX3_numberOfBit_19 : decode cX3_numberOfBit 19 = .ok (.iload_n 2, 1) := by decide +kernel
theorem dX3_numberOfBit_20 : decode cX3_numberOfBit 20 = .ok (.iload_n 1, 1) := by decide +kernel
theorem dX3_numberOfBit_21 : decode cX3_numberOfBit 21 = .ok (.if_icmp .ne 5, 3) := by decide +kernel
theorem dX3_numberOfBit_24 : decode cX3_numberOfBit 24 = .ok (.iload_n 3, 1) := by decide +kernel
theorem dX3_numberOfBit_25 : decode cX3_numberOfBit 25 = .ok (.ireturn, 1) := by decide +kernel
theorem dX3_numberOfBit_26 : decode cX3_numberOfBit 26 = .ok (.iinc 2 1, 3) := by decide +kernel
theorem dX3_numberOfBit_29 : decode cX3_numberOfBit 29 = .ok (.iinc 3 1, 3) := by decide +kernel
theorem dX3_numberOfBit_32 : decode cX3_numberOfBit 32 = .ok (.goto (-28), 3) := by decide +kernel
theorem dX3_numberOfBit_35 : decode cX3_numberOfBit 35 = .ok (.iconst (-1), 1) := by decide +kernel
theorem dX3_numberOfBit_36 : decode cX3_numberOfBit 36 = .ok (.ireturn, 1) := by decide +kernel
theorem qq_X3_countSafe_0 {c : Cond} (j : Nat) (h : wsX3_countSafe_r1[j]? = some c) : c ∈ wsX3_countSafe := List.mem_cons_of_mem _ (List.mem_append_left _ (List.mem_append_left _ (List.mem_append_left _ (List.mem_append_left _ (List.mem_of_getElem? h)))))
theorem qq_X3_countSafe_1 {c : Cond} (j : Nat) (h : wsX3_countSafe_r2[j]? = some c) : c ∈ wsX3_countSafe := List.mem_cons_of_mem _ (List.mem_append_left _ (List.mem_append_left _ (List.mem_append_left _ (List.mem_append_right _ (List.mem_append_left _ (List.mem_of_getElem? h))))))
theorem qq_X3_countSafe_2 {c : Cond} (j : Nat) (h : wsX3_countSafe_r3[j]? = some c) : c ∈ wsX3_countSafe := List.mem_cons_of_mem _ (List.mem_append_left _ (List.mem_append_left _ (List.mem_append_left _ (List.mem_append_right _ (List.mem_append_right _ (List.mem_of_getElem? h))))))
theorem uq_X3_countSafe_X3 : wsub wsX30 wsX3_countSafe := fun _ h => List.mem_cons_of_mem _ (List.mem_append_left _ (List.mem_append_left _ (List.mem_append_right _ (h))))
theorem uq_X3_countSafe_X0 : wsub wsX00 wsX3_countSafe := fun _ h => List.mem_cons_of_mem _ (List.mem_append_left _ (List.mem_append_right _ (h)))
theorem uq_X3_countSafe_X1 : wsub wsX10 wsX3_countSafe := fun _ h => List.mem_cons_of_mem _ (List.mem_append_right _ (h))
set_option maxRecDepth 20000 in
theorem gw_J7_fill_d0a16 : wsJ7_fill_d0a16.all goodWord = true := by decide +kernel
set_option maxRecDepth 20000 in
theorem ggX3_countSafe_J7_fill_d0a16 : GoodIn wsX3_countSafe wsJ7_fill_d0a16 := goodIn_sub (sb_c (qq_X3_countSafe_0 5 rfl) (sb_n)) gw_J7_fill_d0a16
set_option maxRecDepth 20000 in
theorem gX3_countSafe_J7_fill_d0a16 : GoodIn wsX3_countSafe (va_wsS RX3 324 yJ7_fill_d0a16 wsJ7_fill_d0a16) := goodIn_app (goodIn_sub (sb_c (qq_X3_countSafe_0 2 rfl) (sb_c (qq_X3_countSafe_0 3 rfl) (sb_c (qq_X3_countSafe_0 4 rfl) sb_n))) (by decide +kernel)) ggX3_countSafe_J7_fill_d0a16
set_option maxRecDepth 20000 in
theorem ggX3_countSafe_X0_all : GoodIn wsX3_countSafe wsX0_all := goodIn_sub (sb_c (qq_X3_countSafe_0 9 rfl) (sb_a (sb_c (qq_X3_countSafe_0 10 rfl) sb_n) (uq_X3_countSafe_X0))) gw_X0_all
set_option maxRecDepth 20000 in
theorem gX3_countSafe_X0_all_n92 : GoodIn wsX3_countSafe (wsX0_all) := ggX3_countSafe_X0_all
set_option maxRecDepth 20000 in
theorem ggX3_countSafe_X3_isSafe : GoodIn wsX3_countSafe wsX3_isSafe := goodIn_sub (sb_c (qq_X3_countSafe_0 15 rfl) (sb_a (sb_a (sb_a (sb_a (sb_c (qq_X3_countSafe_0 1 rfl) (sb_c (qq_X3_countSafe_0 16 rfl) (sb_c (qq_X3_countSafe_0 17 rfl) (sb_c (qq_X3_countSafe_0 18 rfl) (sb_c (qq_X3_countSafe_0 7 rfl) (sb_c (qq_X3_countSafe_0 19 rfl) (sb_c (qq_X3_countSafe_0 20 rfl) (sb_c (qq_X3_countSafe_0 10 rfl) (sb_c (qq_X3_countSafe_0 21 rfl) (sb_c (qq_X3_countSafe_0 22 rfl) (sb_c (qq_X3_countSafe_0 23 rfl) (sb_c (qq_X3_countSafe_0 4 rfl) (sb_c (qq_X3_countSafe_1 0 rfl) (sb_c (qq_X3_countSafe_1 1 rfl) (sb_c (qq_X3_countSafe_1 2 rfl) (sb_c (qq_X3_countSafe_1 3 rfl) (sb_c (qq_X3_countSafe_1 4 rfl) (sb_c (qq_X3_countSafe_1 5 rfl) (sb_c (qq_X3_countSafe_1 6 rfl) (sb_c (qq_X3_countSafe_1 7 rfl) (sb_c (qq_X3_countSafe_1 8 rfl) (sb_c (qq_X3_countSafe_1 9 rfl) (sb_c (qq_X3_countSafe_1 10 rfl) (sb_c (qq_X3_countSafe_1 11 rfl) sb_n)))))))))))))))))))))))) (sb_a (sb_c (qq_X3_countSafe_1 12 rfl) (sb_c (qq_X3_countSafe_1 13 rfl) (sb_c (qq_X3_countSafe_1 14 rfl) (sb_c (qq_X3_countSafe_1 15 rfl) (sb_c (qq_X3_countSafe_1 16 rfl) (sb_c (qq_X3_countSafe_1 17 rfl) (sb_c (qq_X3_countSafe_1 18 rfl) (sb_c (qq_X3_countSafe_1 19 rfl) (sb_c (qq_X3_countSafe_1 20 rfl) (sb_c (qq_X3_countSafe_1 21 rfl) (sb_c (qq_X3_countSafe_1 22 rfl) (sb_c (qq_X3_countSafe_1 23 rfl) (sb_c (qq_X3_countSafe_2 0 rfl) (sb_c (qq_X3_countSafe_2 1 rfl) (sb_c (qq_X3_countSafe_2 2 rfl) (sb_c (qq_X3_countSafe_2 3 rfl) (sb_c (qq_X3_countSafe_2 4 rfl) (sb_c (qq_X3_countSafe_2 5 rfl) (sb_c (qq_X3_countSafe_2 6 rfl) (sb_c (qq_X3_countSafe_2 7 rfl) (sb_c (qq_X3_countSafe_2 8 rfl) (sb_c (qq_X3_countSafe_2 9 rfl) (sb_c (qq_X3_countSafe_2 10 rfl) (sb_c (qq_X3_countSafe_2 11 rfl) sb_n)))))))))))))))))))))))) (sb_c (qq_X3_countSafe_2 12 rfl) (sb_c (qq_X3_countSafe_2 13 rfl) (sb_c (qq_X3_countSafe_2 14 rfl) (sb_c (qq_X3_countSafe_2 15 rfl) sb_n)))))) (uq_X3_countSafe_X3)) (uq_X3_countSafe_X1)) (uq_X3_countSafe_X0))) gw_X3_isSafe
set_option maxRecDepth 20000 in
theorem gX3_countSafe_X3_isSafe : GoodIn wsX3_countSafe (wsV RX3 321 RX3 yX3_isSafe wsX3_isSafe) := goodIn_app (goodIn_sub (sb_c (qq_X3_countSafe_0 11 rfl) (sb_c (qq_X3_countSafe_0 12 rfl) (sb_c (qq_X3_countSafe_0 13 rfl) (sb_c (qq_X3_countSafe_0 14 rfl) sb_n)))) (by decide +kernel)) ggX3_countSafe_X3_isSafe
set_option maxRecDepth 20000 in
theorem ggX3_countSafe_J6_bitCount_0f7a4 : GoodIn wsX3_countSafe wsJ6_bitCount_0f7a4 := goodIn_sub (sb_c (qq_X3_countSafe_2 12 rfl) (sb_c (qq_X3_countSafe_2 13 rfl) (sb_c (qq_X3_countSafe_2 14 rfl) (sb_c (qq_X3_countSafe_2 15 rfl) sb_n)))) gw_J6_bitCount_0f7a4
set_option maxRecDepth 20000 in
theorem gX3_countSafe_J6_bitCount_0f7a4 : GoodIn wsX3_countSafe (va_wsS RX3 188 yJ6_bitCount_0f7a4 wsJ6_bitCount_0f7a4) := goodIn_app (goodIn_sub (sb_c (qq_X3_countSafe_2 16 rfl) (sb_c (qq_X3_countSafe_2 10 rfl) (sb_c (qq_X3_countSafe_2 11 rfl) sb_n))) (by decide +kernel)) ggX3_countSafe_J6_bitCount_0f7a4
theorem dX3_countSafe_0 : decode cX3_countSafe 0 = .ok (.aload_n 0, 1) := by decide +kernel
theorem dX3_countSafe_1 : decode cX3_countSafe 1 = .ok (.getfield 47, 3) := by decide +kernel
theorem dX3_countSafe_4 : decode cX3_countSafe 4 = .ok (.lconst 0, 1) := by decide +kernel
theorem dX3_countSafe_5 : decode cX3_countSafe 5 = .ok (.invokestatic 324, 3) := by decide +kernel
theorem dX3_countSafe_8 : decode cX3_countSafe 8 = .ok (.iconst 0, 1) := by decide +kernel
theorem dX3_countSafe_9 : decode cX3_countSafe 9 = .ok (.istore_n 1, 1) := by decide +kernel
theorem dX3_countSafe_10 : decode cX3_countSafe 10 = .ok (.iload_n 1, 1) := by decide +kernel
theorem dX3_countSafe_11 : decode cX3_countSafe 11 = .ok (.aload_n 0, 1) := by decide +kernel
theorem dX3_countSafe_12 : decode cX3_countSafe 12 = .ok (.getfield 26, 3) := by decide +kernel
theorem dX3_countSafe_15 : decode cX3_countSafe 15 = .ok (.invokevirtual 92, 3) := by decide +kernel
theorem dX3_countSafe_18 : decode cX3_countSafe 18 = .ok (.if_icmp .gt 30, 3) := by decide +kernel
theorem dX3_countSafe_21 : decode cX3_countSafe 21 = .ok (.aload_n 0, 1) := by decide +kernel
theorem dX3_countSafe_22 : decode cX3_countSafe 22 = .ok (.iload_n 1, 1) := by decide +kernel
theorem dX3_countSafe_23 : decode cX3_countSafe 23 = .ok (.invokevirtual 321, 3) := by decide +kernel
theorem dX3_countSafe_26 : decode cX3_countSafe 26 = .ok (.ifCond .eq 16, 3) := by decide +kernel
theorem dX3_countSafe_29 : decode cX3_countSafe 29 = .ok (.aload_n 0, 1) := by decide +kernel
theorem dX3_countSafe_30 : decode cX3_countSafe 30 = .ok (.getfield 47, 3) := by decide +kernel
theorem dX3_countSafe_33 : decode cX3_countSafe 33 = .ok (.iload_n 1, 1) := by decide +kernel
theorem dX3_countSafe_34 : decode cX3_countSafe 34 = .ok (.invokestatic 188, 3) := by decide +kernel
theorem dX3_countSafe_37 : decode cX3_countSafe 37 = .ok (.dup2, 1) := by decide +kernel
theorem dX3_countSafe_38 : decode cX3_countSafe 38 = .ok (.laload, 1) := by decide +kernel
theorem dX3_countSafe_39 : decode cX3_countSafe 39 = .ok (.lconst 1, 1) := by decide +kernel
theorem dX3_countSafe_40 : decode cX3_countSafe 40 = .ok (.ladd, 1) := by decide +kernel
theorem dX3_countSafe_41 : decode cX3_countSafe 41 = .ok (.lastore, 1) := by decide +kernel
theorem dX3_countSafe_42 : decode cX3_countSafe 42 = .ok (.iinc 1 1, 3) := by decide +kernel
theorem dX3_countSafe_45 : decode cX3_countSafe 45 = .ok (.goto (-35), 3) := by decide +kernel
theorem dX3_countSafe_48 : decode cX3_countSafe 48 = .ok (.return_, 1) := by decide +kernel
theorem dX3_power_0 : decode cX3_power 0 = .ok (.lconst 1, 1) := by decide +kernel
theorem dX3_power_1 : decode cX3_power 1 = .ok (.lstore_n 3, 1) := by decide +kernel
theorem dX3_power_2 : decode cX3_power 2 = .ok (.iconst 0, 1) := by decide +kernel
theorem dX3_power_3 : decode cX3_power 3 = .ok (.istore 5, 2) := by decide +kernel
theorem dX3_power_5 : decode cX3_power 5 = .ok (.iload 5, 2) := by decide +kernel
theorem dX3_power_7 : decode cX3_power 7 = .ok (.iload_n 2, 1) := by decide +kernel
theorem dX3_power_8 : decode cX3_power 8 = .ok (.if_icmp .ge 13, 3) := by decide +kernel
theorem dX3_power_11 : decode cX3_power 11 = .ok (.lload_n 3, 1) := by decide +kernel
theorem dX3_power_12 : decode cX3_power 12 = .ok (.lload_n 0, 1) := by decide +kernel
theorem dX3_power_13 : decode cX3_power 13 = .ok (.lmul, 1) := by decide +kernel
theorem dX3_power_14 : decode cX3_power 14 = .ok (.lstore_n 3, 1) := by decide +kernel
theorem dX3_power_15 : decode cX3_power 15 = .ok (.iinc 5 1, 3) := by decide +kernel
theorem dX3_power_18 : decode cX3_power 18 = .ok (.goto (-13), 3) := by decide +kernel
theorem dX3_power_21 : decode cX3_power 21 = .ok (.lload_n 3, 1) := by decide +kernel
theorem dX3_power_22 : decode cX3_power 22 = .ok (.lreturn, 1) := by decide +kernel
theorem qq_X3_fitsSeen_0 {c : Cond} (j : Nat) (h : wsX3_fitsSeen_r1[j]? = some c) : c ∈ wsX3_fitsSeen := List.mem_cons_of_mem _ (List.mem_append_left _ (List.mem_append_left _ (List.mem_append_left _ (List.mem_of_getElem? h))))
theorem qq_X3_fitsSeen_1 {c : Cond} (j : Nat) (h : wsX3_fitsSeen_r2[j]? = some c) : c ∈ wsX3_fitsSeen := List.mem_cons_of_mem _ (List.mem_append_left _ (List.mem_append_left _ (List.mem_append_right _ (List.mem_of_getElem? h))))
theorem uq_X3_fitsSeen_X3 : wsub wsX30 wsX3_fitsSeen := fun _ h => List.mem_cons_of_mem _ (List.mem_append_left _ (List.mem_append_right _ (h)))
theorem uq_X3_fitsSeen_X1 : wsub wsX10 wsX3_fitsSeen := fun _ h => List.mem_cons_of_mem _ (List.mem_append_right _ (h))
set_option maxRecDepth 20000 in
theorem ggX3_fitsSeen_X1_fewestMissed : GoodIn wsX3_fitsSeen wsX1_fewestMissed := goodIn_sub (sb_c (qq_X3_fitsSeen_0 8 rfl) (sb_a (sb_a (sb_c (qq_X3_fitsSeen_0 9 rfl) (sb_c (qq_X3_fitsSeen_0 10 rfl) (sb_c (qq_X3_fitsSeen_0 11 rfl) (sb_c (qq_X3_fitsSeen_0 12 rfl) (sb_c (qq_X3_fitsSeen_0 13 rfl) (sb_c (qq_X3_fitsSeen_0 14 rfl) (sb_c (qq_X3_fitsSeen_0 15 rfl) (sb_c (qq_X3_fitsSeen_0 16 rfl) (sb_c (qq_X3_fitsSeen_0 17 rfl) (sb_c (qq_X3_fitsSeen_0 18 rfl) (sb_c (qq_X3_fitsSeen_0 6 rfl) (sb_c (qq_X3_fitsSeen_0 19 rfl) (sb_c (qq_X3_fitsSeen_0 20 rfl) (sb_c (qq_X3_fitsSeen_0 21 rfl) (sb_c (qq_X3_fitsSeen_0 22 rfl) (sb_c (qq_X3_fitsSeen_0 23 rfl) (sb_c (qq_X3_fitsSeen_1 0 rfl) (sb_c (qq_X3_fitsSeen_1 1 rfl) (sb_c (qq_X3_fitsSeen_1 2 rfl) (sb_c (qq_X3_fitsSeen_1 3 rfl) (sb_c (qq_X3_fitsSeen_1 4 rfl) (sb_c (qq_X3_fitsSeen_1 5 rfl) (sb_c (qq_X3_fitsSeen_1 6 rfl) (sb_c (qq_X3_fitsSeen_1 7 rfl) sb_n)))))))))))))))))))))))) (sb_c (qq_X3_fitsSeen_1 8 rfl) (sb_c (qq_X3_fitsSeen_1 9 rfl) (sb_c (qq_X3_fitsSeen_1 10 rfl) (sb_c (qq_X3_fitsSeen_1 11 rfl) (sb_c (qq_X3_fitsSeen_1 12 rfl) (sb_c (qq_X3_fitsSeen_1 13 rfl) sb_n))))))) (uq_X3_fitsSeen_X1))) gw_X1_fewestMissed
set_option maxRecDepth 20000 in
theorem gX3_fitsSeen_X1_fewestMissed_n164 : GoodIn wsX3_fitsSeen (wsX1_fewestMissed) := ggX3_fitsSeen_X1_fewestMissed
theorem dX3_fitsSeen_0 : decode cX3_fitsSeen 0 = .ok (.iconst 0, 1) := by decide +kernel
theorem dX3_fitsSeen_1 : decode cX3_fitsSeen 1 = .ok (.istore_n 2, 1) := by decide +kernel
theorem dX3_fitsSeen_2 : decode cX3_fitsSeen 2 = .ok (.iload_n 2, 1) := by decide +kernel
theorem dX3_fitsSeen_3 : decode cX3_fitsSeen 3 = .ok (.aload_n 0, 1) := by decide +kernel
theorem dX3_fitsSeen_4 : decode cX3_fitsSeen 4 = .ok (.getfield 40, 3) := by decide +kernel
theorem dX3_fitsSeen_7 : decode cX3_fitsSeen 7 = .ok (.if_icmp .ge 38, 3) := by decide +kernel
theorem dX3_fitsSeen_10 : decode cX3_fitsSeen 10 = .ok (.aload_n 0, 1) := by decide +kernel
theorem dX3_fitsSeen_11 : decode cX3_fitsSeen 11 = .ok (.getfield 16, 3) := by decide +kernel
theorem dX3_fitsSeen_14 : decode cX3_fitsSeen 14 = .ok (.aload_n 0, 1) := by decide +kernel
theorem dX3_fitsSeen_15 : decode cX3_fitsSeen 15 = .ok (.getfield 34, 3) := by decide +kernel
theorem dX3_fitsSeen_18 : decode cX3_fitsSeen 18 = .ok (.iload_n 2, 1) := by decide +kernel
theorem dX3_fitsSeen_19 : decode cX3_fitsSeen 19 = .ok (.iaload, 1) := by decide +kernel
theorem dX3_fitsSeen_20 : decode cX3_fitsSeen 20 = .ok (.aload_n 0, 1) := by decide +kernel
theorem dX3_fitsSeen_21 : decode cX3_fitsSeen 21 = .ok (.getfield 30, 3) := by decide +kernel
theorem dX3_fitsSeen_24 : decode cX3_fitsSeen 24 = .ok (.iload_n 1, 1) := by decide +kernel
theorem dX3_fitsSeen_25 : decode cX3_fitsSeen 25 = .ok (.invokevirtual 164, 3) := by decide +kernel
theorem dX3_fitsSeen_28 : decode cX3_fitsSeen 28 = .ok (.aload_n 0, 1) := by decide +kernel
theorem dX3_fitsSeen_29 : decode cX3_fitsSeen 29 = .ok (.getfield 37, 3) := by decide +kernel
theorem dX3_fitsSeen_32 : decode cX3_fitsSeen 32 = .ok (.iload_n 2, 1) := by decide +kernel
theorem dX3_fitsSeen_33 : decode cX3_fitsSeen 33 = .ok (.iaload, 1) := by decide +kernel
theorem dX3_fitsSeen_34 : decode cX3_fitsSeen 34 = .ok (.if_icmp .eq 5, 3) := by decide +kernel
theorem dX3_fitsSeen_37 : decode cX3_fitsSeen 37 = .ok (.iconst 0, 1) := by decide +kernel
theorem dX3_fitsSeen_38 : decode cX3_fitsSeen 38 = .ok (.ireturn, 1) := by decide +kernel
theorem dX3_fitsSeen_39 : decode cX3_fitsSeen 39 = .ok (.iinc 2 1, 3) := by decide +kernel
theorem dX3_fitsSeen_42 : decode cX3_fitsSeen 42 = .ok (.goto (-40), 3) := by decide +kernel
theorem dX3_fitsSeen_45 : decode cX3_fitsSeen 45 = .ok (.iconst 1, 1) := by decide +kernel
theorem dX3_fitsSeen_46 : decode cX3_fitsSeen 46 = .ok (.ireturn, 1) := by decide +kernel
theorem qq_X3_letDieAlone_0 {c : Cond} (j : Nat) (h : ([.fieldLink RX3 30 "InkSwaths" "living" "[I", .methodLink RX3 329 yJ7_fill_53178, .static yJ7_fill_53178, .initialized RJ7, .code yJ7_fill_53178 cJ7_fill_53178 4 none] : List Cond)[j]? = some c) : c ∈ wsX3_letDieAlone := List.mem_cons_of_mem _ (List.mem_append_left _ (List.mem_of_getElem? h))
theorem uq_X3_letDieAlone_X3 : wsub wsX30 wsX3_letDieAlone := fun _ h => List.mem_cons_of_mem _ (List.mem_append_right _ (h))
set_option maxRecDepth 20000 in
theorem ggX3_letDieAlone_J7_fill_53178 : GoodIn wsX3_letDieAlone wsJ7_fill_53178 := goodIn_sub (sb_c (qq_X3_letDieAlone_0 4 rfl) (sb_n)) gw_J7_fill_53178
set_option maxRecDepth 20000 in
theorem gX3_letDieAlone_J7_fill_53178 : GoodIn wsX3_letDieAlone (va_wsS RX3 329 yJ7_fill_53178 wsJ7_fill_53178) := goodIn_app (goodIn_sub (sb_c (qq_X3_letDieAlone_0 1 rfl) (sb_c (qq_X3_letDieAlone_0 2 rfl) (sb_c (qq_X3_letDieAlone_0 3 rfl) sb_n))) (by decide +kernel)) ggX3_letDieAlone_J7_fill_53178
theorem dX3_letDieAlone_0 : decode cX3_letDieAlone 0 = .ok (.aload_n 0, 1) := by decide +kernel
theorem dX3_letDieAlone_1 : decode cX3_letDieAlone 1 = .ok (.getfield 30, 3) := by decide +kernel
theorem dX3_letDieAlone_4 : decode cX3_letDieAlone 4 = .ok (.sipush 4095, 3) := by decide +kernel
theorem dX3_letDieAlone_7 : decode cX3_letDieAlone 7 = .ok (.invokestatic 329, 3) := by decide +kernel
theorem dX3_letDieAlone_10 : decode cX3_letDieAlone 10 = .ok (.aload_n 0, 1) := by decide +kernel
theorem dX3_letDieAlone_11 : decode cX3_letDieAlone 11 = .ok (.getfield 30, 3) := by decide +kernel
theorem dX3_letDieAlone_14 : decode cX3_letDieAlone 14 = .ok (.iload_n 1, 1) := by decide +kernel
theorem dX3_letDieAlone_15 : decode cX3_letDieAlone 15 = .ok (.iconst 0, 1) := by decide +kernel
theorem dX3_letDieAlone_16 : decode cX3_letDieAlone 16 = .ok (.iastore, 1) := by decide +kernel
theorem dX3_letDieAlone_17 : decode cX3_letDieAlone 17 = .ok (.return_, 1) := by decide +kernel
theorem qq_X3_fittingDeads_0 {c : Cond} (j : Nat) (h : wsX3_fittingDeads_r1[j]? = some c) : c ∈ wsX3_fittingDeads := List.mem_cons_of_mem _ (List.mem_append_left _ (List.mem_append_left _ (List.mem_append_left _ (List.mem_of_getElem? h))))
theorem qq_X3_fittingDeads_1 {c : Cond} (j : Nat) (h : wsX3_fittingDeads_r2[j]? = some c) : c ∈ wsX3_fittingDeads := List.mem_cons_of_mem _ (List.mem_append_left _ (List.mem_append_left _ (List.mem_append_right _ (List.mem_append_left _ (List.mem_of_getElem? h)))))
theorem qq_X3_fittingDeads_2 {c : Cond} (j : Nat) (h : wsX3_fittingDeads_r3[j]? = some c) : c ∈ wsX3_fittingDeads := List.mem_cons_of_mem _ (List.mem_append_left _ (List.mem_append_left _ (List.mem_append_right _ (List.mem_append_right _ (List.mem_of_getElem? h)))))
theorem uq_X3_fittingDeads_X3 : wsub wsX30 wsX3_fittingDeads := fun _ h => List.mem_cons_of_mem _ (List.mem_append_left _ (List.mem_append_right _ (h)))
theorem uq_X3_fittingDeads_X1 : wsub wsX10 wsX3_fittingDeads := fun _ h => List.mem_cons_of_mem _ (List.mem_append_right _ (h))
set_option maxRecDepth 20000 in
theorem gw_X3_letDieAlone : wsX3_letDieAlone.all goodWord = true := by decide +kernel
set_option maxRecDepth 20000 in
theorem ggX3_fittingDeads_X3_letDieAlone : GoodIn wsX3_fittingDeads wsX3_letDieAlone := goodIn_sub (sb_c (qq_X3_fittingDeads_0 5 rfl) (sb_a (sb_c (qq_X3_fittingDeads_0 6 rfl) (sb_c (qq_X3_fittingDeads_0 7 rfl) (sb_c (qq_X3_fittingDeads_0 8 rfl) (sb_c (qq_X3_fittingDeads_0 9 rfl) (sb_c (qq_X3_fittingDeads_0 10 rfl) sb_n))))) (uq_X3_fittingDeads_X3))) gw_X3_letDieAlone
set_option maxRecDepth 20000 in
theorem gX3_fittingDeads_X3_letDieAlone : GoodIn wsX3_fittingDeads (wsV RX3 332 RX3 yX3_letDieAlone wsX3_letDieAlone) := goodIn_app (goodIn_sub (sb_c (qq_X3_fittingDeads_0 1 rfl) (sb_c (qq_X3_fittingDeads_0 2 rfl) (sb_c (qq_X3_fittingDeads_0 3 rfl) (sb_c (qq_X3_fittingDeads_0 4 rfl) sb_n)))) (by decide +kernel)) ggX3_fittingDeads_X3_letDieAlone
set_option maxRecDepth 20000 in
theorem ggX3_fittingDeads_X3_fitsSeen : GoodIn wsX3_fittingDeads wsX3_fitsSeen := goodIn_sub (sb_c (qq_X3_fittingDeads_0 14 rfl) (sb_a (sb_a (sb_a (sb_c (qq_X3_fittingDeads_0 15 rfl) (sb_c (qq_X3_fittingDeads_0 0 rfl) (sb_c (qq_X3_fittingDeads_0 16 rfl) (sb_c (qq_X3_fittingDeads_0 6 rfl) (sb_c (qq_X3_fittingDeads_0 17 rfl) (sb_c (qq_X3_fittingDeads_0 18 rfl) (sb_c (qq_X3_fittingDeads_0 19 rfl) (sb_c (qq_X3_fittingDeads_0 20 rfl) (sb_c (qq_X3_fittingDeads_0 21 rfl) (sb_c (qq_X3_fittingDeads_0 22 rfl) (sb_c (qq_X3_fittingDeads_0 23 rfl) (sb_c (qq_X3_fittingDeads_1 0 rfl) (sb_c (qq_X3_fittingDeads_1 1 rfl) (sb_c (qq_X3_fittingDeads_1 2 rfl) (sb_c (qq_X3_fittingDeads_1 3 rfl) (sb_c (qq_X3_fittingDeads_1 4 rfl) (sb_c (qq_X3_fittingDeads_1 5 rfl) (sb_c (qq_X3_fittingDeads_1 6 rfl) (sb_c (qq_X3_fittingDeads_1 7 rfl) (sb_c (qq_X3_fittingDeads_1 8 rfl) (sb_c (qq_X3_fittingDeads_1 9 rfl) (sb_c (qq_X3_fittingDeads_1 10 rfl) (sb_c (qq_X3_fittingDeads_1 11 rfl) (sb_c (qq_X3_fittingDeads_1 12 rfl) sb_n)))))))))))))))))))))))) (sb_c (qq_X3_fittingDeads_1 13 rfl) (sb_c (qq_X3_fittingDeads_1 14 rfl) (sb_c (qq_X3_fittingDeads_1 15 rfl) (sb_c (qq_X3_fittingDeads_1 16 rfl) (sb_c (qq_X3_fittingDeads_1 17 rfl) (sb_c (qq_X3_fittingDeads_1 18 rfl) (sb_c (qq_X3_fittingDeads_1 19 rfl) (sb_c (qq_X3_fittingDeads_1 20 rfl) (sb_c (qq_X3_fittingDeads_1 21 rfl) (sb_c (qq_X3_fittingDeads_1 22 rfl) (sb_c (qq_X3_fittingDeads_1 23 rfl) (sb_c (qq_X3_fittingDeads_2 0 rfl) (sb_c (qq_X3_fittingDeads_2 1 rfl) (sb_c (qq_X3_fittingDeads_2 2 rfl) sb_n))))))))))))))) (uq_X3_fittingDeads_X3)) (uq_X3_fittingDeads_X1))) gw_X3_fitsSeen
set_option maxRecDepth 20000 in
theorem gX3_fittingDeads_X3_fitsSeen : GoodIn wsX3_fittingDeads (wsV RX3 194 RX3 yX3_fitsSeen wsX3_fitsSeen) := goodIn_app (goodIn_sub (sb_c (qq_X3_fittingDeads_0 11 rfl) (sb_c (qq_X3_fittingDeads_0 12 rfl) (sb_c (qq_X3_fittingDeads_0 13 rfl) (sb_c (qq_X3_fittingDeads_0 4 rfl) sb_n)))) (by decide +kernel)) ggX3_fittingDeads_X3_fitsSeen
theorem dX3_fittingDeads_0 : decode cX3_fittingDeads 0 = .ok (.iconst 0, 1) := by decide +kernel
theorem dX3_fittingDeads_1 : decode cX3_fittingDeads 1 = .ok (.istore_n 1, 1) := by decide +kernel
theorem dX3_fittingDeads_2 : decode cX3_fittingDeads 2 = .ok (.iconst 0, 1) := by decide +kernel
theorem dX3_fittingDeads_3 : decode cX3_fittingDeads 3 = .ok (.istore_n 2, 1) := by decide +kernel
theorem dX3_fittingDeads_4 : decode cX3_fittingDeads 4 = .ok (.iload_n 2, 1) := by decide +kernel
theorem dX3_fittingDeads_5 : decode cX3_fittingDeads 5 = .ok (.aload_n 0, 1) := by decide +kernel
theorem dX3_fittingDeads_6 : decode cX3_fittingDeads 6 = .ok (.getfield 16, 3) := by decide +kernel
theorem dX3_fittingDeads_9 : decode cX3_fittingDeads 9 = .ok (.getfield 82, 3) := by decide +kernel
theorem dX3_fittingDeads_12 : decode cX3_fittingDeads 12 = .ok (.iconst 0, 1) := by decide +kernel
theorem dX3_fittingDeads_13 : decode cX3_fittingDeads 13 = .ok (.iaload, 1) := by decide +kernel
theorem dX3_fittingDeads_14 : decode cX3_fittingDeads 14 = .ok (.if_icmp .ge 36, 3) := by decide +kernel
theorem dX3_fittingDeads_17 : decode cX3_fittingDeads 17 = .ok (.aload_n 0, 1) := by decide +kernel
theorem dX3_fittingDeads_18 : decode cX3_fittingDeads 18 = .ok (.iload_n 2, 1) := by decide +kernel
theorem dX3_fittingDeads_19 : decode cX3_fittingDeads 19 = .ok (.invokevirtual 332, 3) := by decide +kernel
theorem dX3_fittingDeads_22 : decode cX3_fittingDeads 22 = .ok (.aload_n 0, 1) := by decide +kernel
theorem dX3_fittingDeads_23 : decode cX3_fittingDeads 23 = .ok (.aload_n 0, 1) := by decide +kernel
theorem dX3_fittingDeads_24 : decode cX3_fittingDeads 24 = .ok (.getfield 16, 3) := by decide +kernel
theorem dX3_fittingDeads_27 : decode cX3_fittingDeads 27 = .ok (.getfield 82, 3) := by decide +kernel
theorem dX3_fittingDeads_30 : decode cX3_fittingDeads 30 = .ok (.iconst 5, 1) := by decide +kernel
theorem dX3_fittingDeads_31 : decode cX3_fittingDeads 31 = .ok (.iaload, 1) := by decide +kernel
theorem dX3_fittingDeads_32 : decode cX3_fittingDeads 32 = .ok (.invokevirtual 194, 3) := by decide +kernel
theorem dX3_fittingDeads_35 : decode cX3_fittingDeads 35 = .ok (.ifCond .eq 9, 3) := by decide +kernel
theorem dX3_fittingDeads_38 : decode cX3_fittingDeads 38 = .ok (.iload_n 1, 1) := by decide +kernel
theorem dX3_fittingDeads_39 : decode cX3_fittingDeads 39 = .ok (.iconst 1, 1) := by decide +kernel
theorem dX3_fittingDeads_40 : decode cX3_fittingDeads 40 = .ok (.iload_n 2, 1) := by decide +kernel
theorem dX3_fittingDeads_41 : decode cX3_fittingDeads 41 = .ok (.ishl, 1) := by decide +kernel
theorem dX3_fittingDeads_42 : decode cX3_fittingDeads 42 = .ok (.ior, 1) := by decide +kernel
theorem dX3_fittingDeads_43 : decode cX3_fittingDeads 43 = .ok (.istore_n 1, 1) := by decide +kernel
theorem dX3_fittingDeads_44 : decode cX3_fittingDeads 44 = .ok (.iinc 2 1, 3) := by decide +kernel
theorem dX3_fittingDeads_47 : decode cX3_fittingDeads 47 = .ok (.goto (-43), 3) := by decide +kernel
theorem dX3_fittingDeads_50 : decode cX3_fittingDeads 50 = .ok (.iload_n 1, 1) := by decide +kernel
theorem dX3_fittingDeads_51 : decode cX3_fittingDeads 51 = .ok (.ireturn, 1) := by decide +kernel
theorem qq_X3_fittingCaps_0 {c : Cond} (j : Nat) (h : wsX3_fittingCaps_r1[j]? = some c) : c ∈ wsX3_fittingCaps := List.mem_cons_of_mem _ (List.mem_append_left _ (List.mem_append_left _ (List.mem_append_left _ (List.mem_append_left _ (List.mem_of_getElem? h)))))
theorem qq_X3_fittingCaps_1 {c : Cond} (j : Nat) (h : wsX3_fittingCaps_r2[j]? = some c) : c ∈ wsX3_fittingCaps := List.mem_cons_of_mem _ (List.mem_append_left _ (List.mem_append_left _ (List.mem_append_left _ (List.mem_append_right _ (List.mem_append_left _ (List.mem_of_getElem? h))))))
theorem qq_X3_fittingCaps_2 {c : Cond} (j : Nat) (h : wsX3_fittingCaps_r3[j]? = some c) : c ∈ wsX3_fittingCaps := List.mem_cons_of_mem _ (List.mem_append_left _ (List.mem_append_left _ (List.mem_append_left _ (List.mem_append_right _ (List.mem_append_right _ (List.mem_of_getElem? h))))))
theorem uq_X3_fittingCaps_X3 : wsub wsX30 wsX3_fittingCaps := fun _ h => List.mem_cons_of_mem _ (List.mem_append_left _ (List.mem_append_left _ (List.mem_append_right _ (h))))
theorem uq_X3_fittingCaps_X0 : wsub wsX00 wsX3_fittingCaps := fun _ h => List.mem_cons_of_mem _ (List.mem_append_left _ (List.mem_append_right _ (h)))
theorem uq_X3_fittingCaps_X1 : wsub wsX10 wsX3_fittingCaps := fun _ h => List.mem_cons_of_mem _ (List.mem_append_right _ (h))
set_option maxRecDepth 20000 in
theorem ggX3_fittingCaps_X0_all : GoodIn wsX3_fittingCaps wsX0_all := goodIn_sub (sb_c (qq_X3_fittingCaps_0 7 rfl) (sb_a (sb_c (qq_X3_fittingCaps_0 8 rfl) sb_n) (uq_X3_fittingCaps_X0))) gw_X0_all
set_option maxRecDepth 20000 in
theorem gX3_fittingCaps_X0_all_n92 : GoodIn wsX3_fittingCaps (wsX0_all) := ggX3_fittingCaps_X0_all
set_option maxRecDepth 20000 in
theorem ggX3_fittingCaps_X0_livingBy : GoodIn wsX3_fittingCaps wsX0_livingBy := goodIn_sub (sb_c (qq_X3_fittingCaps_0 11 rfl) (sb_a (sb_c (qq_X3_fittingCaps_0 8 rfl) (sb_c (qq_X3_fittingCaps_0 12 rfl) (sb_c (qq_X3_fittingCaps_0 13 rfl) (sb_c (qq_X3_fittingCaps_0 14 rfl) (sb_c (qq_X3_fittingCaps_0 15 rfl) (sb_c (qq_X3_fittingCaps_0 16 rfl) (sb_c (qq_X3_fittingCaps_0 17 rfl) (sb_c (qq_X3_fittingCaps_0 18 rfl) (sb_c (qq_X3_fittingCaps_0 19 rfl) (sb_c (qq_X3_fittingCaps_0 5 rfl) (sb_c (qq_X3_fittingCaps_0 20 rfl) (sb_c (qq_X3_fittingCaps_0 21 rfl) (sb_c (qq_X3_fittingCaps_0 22 rfl) sb_n))))))))))))) (uq_X3_fittingCaps_X0))) gw_X0_livingBy
set_option maxRecDepth 20000 in
theorem gX3_fittingCaps_X0_livingBy_n97 : GoodIn wsX3_fittingCaps (wsX0_livingBy) := ggX3_fittingCaps_X0_livingBy
set_option maxRecDepth 20000 in
theorem ggX3_fittingCaps_X3_fitsSeen : GoodIn wsX3_fittingCaps wsX3_fitsSeen := goodIn_sub (sb_c (qq_X3_fittingCaps_1 3 rfl) (sb_a (sb_a (sb_a (sb_c (qq_X3_fittingCaps_1 4 rfl) (sb_c (qq_X3_fittingCaps_1 5 rfl) (sb_c (qq_X3_fittingCaps_1 6 rfl) (sb_c (qq_X3_fittingCaps_0 1 rfl) (sb_c (qq_X3_fittingCaps_1 7 rfl) (sb_c (qq_X3_fittingCaps_1 8 rfl) (sb_c (qq_X3_fittingCaps_1 9 rfl) (sb_c (qq_X3_fittingCaps_1 10 rfl) (sb_c (qq_X3_fittingCaps_1 11 rfl) (sb_c (qq_X3_fittingCaps_1 12 rfl) (sb_c (qq_X3_fittingCaps_1 13 rfl) (sb_c (qq_X3_fittingCaps_1 14 rfl) (sb_c (qq_X3_fittingCaps_1 15 rfl) (sb_c (qq_X3_fittingCaps_1 16 rfl) (sb_c (qq_X3_fittingCaps_1 17 rfl) (sb_c (qq_X3_fittingCaps_1 18 rfl) (sb_c (qq_X3_fittingCaps_1 19 rfl) (sb_c (qq_X3_fittingCaps_1 20 rfl) (sb_c (qq_X3_fittingCaps_1 21 rfl) (sb_c (qq_X3_fittingCaps_1 22 rfl) (sb_c (qq_X3_fittingCaps_1 23 rfl) (sb_c (qq_X3_fittingCaps_2 0 rfl) (sb_c (qq_X3_fittingCaps_2 1 rfl) (sb_c (qq_X3_fittingCaps_2 2 rfl) sb_n)))))))))))))))))))))))) (sb_c (qq_X3_fittingCaps_2 3 rfl) (sb_c (qq_X3_fittingCaps_2 4 rfl) (sb_c (qq_X3_fittingCaps_2 5 rfl) (sb_c (qq_X3_fittingCaps_2 6 rfl) (sb_c (qq_X3_fittingCaps_2 7 rfl) (sb_c (qq_X3_fittingCaps_2 8 rfl) (sb_c (qq_X3_fittingCaps_2 9 rfl) (sb_c (qq_X3_fittingCaps_2 10 rfl) (sb_c (qq_X3_fittingCaps_2 11 rfl) (sb_c (qq_X3_fittingCaps_2 12 rfl) (sb_c (qq_X3_fittingCaps_2 13 rfl) (sb_c (qq_X3_fittingCaps_2 14 rfl) (sb_c (qq_X3_fittingCaps_2 15 rfl) (sb_c (qq_X3_fittingCaps_2 16 rfl) sb_n))))))))))))))) (uq_X3_fittingCaps_X3)) (uq_X3_fittingCaps_X1))) gw_X3_fitsSeen
set_option maxRecDepth 20000 in
theorem gX3_fittingCaps_X3_fitsSeen : GoodIn wsX3_fittingCaps (wsV RX3 194 RX3 yX3_fitsSeen wsX3_fitsSeen) := goodIn_app (goodIn_sub (sb_c (qq_X3_fittingCaps_0 23 rfl) (sb_c (qq_X3_fittingCaps_1 0 rfl) (sb_c (qq_X3_fittingCaps_1 1 rfl) (sb_c (qq_X3_fittingCaps_1 2 rfl) sb_n)))) (by decide +kernel)) ggX3_fittingCaps_X3_fitsSeen
theorem dX3_fittingCaps_0 : decode cX3_fittingCaps 0 = .ok (.iconst 0, 1) := by decide +kernel
theorem dX3_fittingCaps_1 : decode cX3_fittingCaps 1 = .ok (.istore_n 1, 1) := by decide +kernel
theorem dX3_fittingCaps_2 : decode cX3_fittingCaps 2 = .ok (.aload_n 0, 1) := by decide +kernel
theorem dX3_fittingCaps_3 : decode cX3_fittingCaps 3 = .ok (.getfield 26, 3) := by decide +kernel
theorem dX3_fittingCaps_6 : decode cX3_fittingCaps 6 = .ok (.aload_n 0, 1) := by decide +kernel
theorem dX3_fittingCaps_7 : decode cX3_fittingCaps 7 = .ok (.getfield 26, 3) := by decide +kernel
theorem dX3_fittingCaps_10 : decode cX3_fittingCaps 10 = .ok (.invokevirtual 92, 3) := by decide +kernel
theorem dX3_fittingCaps_13 : decode cX3_fittingCaps 13 = .ok (.aload_n 0, 1) := by decide +kernel
theorem dX3_fittingCaps_14 : decode cX3_fittingCaps 14 = .ok (.getfield 30, 3) := by decide +kernel
theorem dX3_fittingCaps_17 : decode cX3_fittingCaps 17 = .ok (.invokevirtual 97, 3) := by decide +kernel
theorem dX3_fittingCaps_20 : decode cX3_fittingCaps 20 = .ok (.getstatic 75, 3) := by decide +kernel
theorem dX3_fittingCaps_23 : decode cX3_fittingCaps 23 = .ok (.iconst 5, 1) := by decide +kernel
theorem dX3_fittingCaps_24 : decode cX3_fittingCaps 24 = .ok (.iaload, 1) := by decide +kernel
theorem dX3_fittingCaps_25 : decode cX3_fittingCaps 25 = .ok (.istore_n 2, 1) := by decide +kernel
theorem dX3_fittingCaps_26 : decode cX3_fittingCaps 26 = .ok (.iload_n 2, 1) := by decide +kernel
theorem dX3_fittingCaps_27 : decode cX3_fittingCaps 27 = .ok (.getstatic 78, 3) := by decide +kernel
theorem dX3_fittingCaps_30 : decode cX3_fittingCaps 30 = .ok (.iconst 5, 1) := by decide +kernel
theorem dX3_fittingCaps_31 : decode cX3_fittingCaps 31 = .ok (.iaload, 1) := by decide +kernel
theorem dX3_fittingCaps_32 : decode cX3_fittingCaps 32 = .ok (.if_icmp .gt 23, 3) := by decide +kernel
theorem dX3_fittingCaps_35 : decode cX3_fittingCaps 35 = .ok (.aload_n 0, 1) := by decide +kernel
theorem dX3_fittingCaps_36 : decode cX3_fittingCaps 36 = .ok (.iload_n 2, 1) := by decide +kernel
theorem dX3_fittingCaps_37 : decode cX3_fittingCaps 37 = .ok (.invokevirtual 194, 3) := by decide +kernel
theorem dX3_fittingCaps_40 : decode cX3_fittingCaps 40 = .ok (.ifCond .eq 9, 3) := by decide +kernel
theorem dX3_fittingCaps_43 : decode cX3_fittingCaps 43 = .ok (.iload_n 1, 1) := by decide +kernel
theorem dX3_fittingCaps_44 : decode cX3_fittingCaps 44 = .ok (.iconst 1, 1) := by decide +kernel
theorem dX3_fittingCaps_45 : decode cX3_fittingCaps 45 = .ok (.iload_n 2, 1) := by decide +kernel
theorem dX3_fittingCaps_46 : decode cX3_fittingCaps 46 = .ok (.ishl, 1) := by decide +kernel
theorem dX3_fittingCaps_47 : decode cX3_fittingCaps 47 = .ok (.ior, 1) := by decide +kernel
theorem dX3_fittingCaps_48 : decode cX3_fittingCaps 48 = .ok (.istore_n 1, 1) := by decide +kernel
theorem dX3_fittingCaps_49 : decode cX3_fittingCaps 49 = .ok (.iinc 2 1, 3) := by decide +kernel
theorem dX3_fittingCaps_52 : decode cX3_fittingCaps 52 = .ok (.goto (-26), 3) := by decide +kernel
theorem dX3_fittingCaps_55 : decode cX3_fittingCaps 55 = .ok (.iload_n 1, 1) := by decide +kernel
theorem dX3_fittingCaps_56 : decode cX3_fittingCaps 56 = .ok (.ireturn, 1) := by decide +kernel
theorem qq_X3_greatestGroup_0 {c : Cond} (j : Nat) (h : wsX3_greatestGroup_r1[j]? = some c) : c ∈ wsX3_greatestGroup := List.mem_cons_of_mem _ (List.mem_append_left _ (List.mem_append_left _ (List.mem_append_left _ (List.mem_of_getElem? h))))
theorem qq_X3_greatestGroup_1 {c : Cond} (j : Nat) (h : wsX3_greatestGroup_r2[j]? = some c) : c ∈ wsX3_greatestGroup := List.mem_cons_of_mem _ (List.mem_append_left _ (List.mem_append_left _ (List.mem_append_right _ (List.mem_of_getElem? h))))
theorem uq_X3_greatestGroup_X3 : wsub wsX30 wsX3_greatestGroup := fun _ h => List.mem_cons_of_mem _ (List.mem_append_left _ (List.mem_append_right _ (h)))
theorem uq_X3_greatestGroup_X1 : wsub wsX10 wsX3_greatestGroup := fun _ h => List.mem_cons_of_mem _ (List.mem_append_right _ (h))
set_option maxRecDepth 20000 in
theorem ggX3_greatestGroup_J7_fill_53178 : GoodIn wsX3_greatestGroup wsJ7_fill_53178 := goodIn_sub (sb_c (qq_X3_greatestGroup_0 10 rfl) (sb_n)) gw_J7_fill_53178
set_option maxRecDepth 20000 in
theorem gX3_greatestGroup_J7_fill_53178 : GoodIn wsX3_greatestGroup (va_wsS RX3 329 yJ7_fill_53178 wsJ7_fill_53178) := goodIn_app (goodIn_sub (sb_c (qq_X3_greatestGroup_0 7 rfl) (sb_c (qq_X3_greatestGroup_0 8 rfl) (sb_c (qq_X3_greatestGroup_0 9 rfl) sb_n))) (by decide +kernel)) ggX3_greatestGroup_J7_fill_53178
set_option maxRecDepth 20000 in
theorem ggX3_greatestGroup_X3_letDieAlone : GoodIn wsX3_greatestGroup wsX3_letDieAlone := goodIn_sub (sb_c (qq_X3_greatestGroup_0 15 rfl) (sb_a (sb_c (qq_X3_greatestGroup_0 2 rfl) (sb_c (qq_X3_greatestGroup_0 7 rfl) (sb_c (qq_X3_greatestGroup_0 8 rfl) (sb_c (qq_X3_greatestGroup_0 9 rfl) (sb_c (qq_X3_greatestGroup_0 10 rfl) sb_n))))) (uq_X3_greatestGroup_X3))) gw_X3_letDieAlone
set_option maxRecDepth 20000 in
theorem gX3_greatestGroup_X3_letDieAlone : GoodIn wsX3_greatestGroup (wsV RX3 332 RX3 yX3_letDieAlone wsX3_letDieAlone) := goodIn_app (goodIn_sub (sb_c (qq_X3_greatestGroup_0 11 rfl) (sb_c (qq_X3_greatestGroup_0 12 rfl) (sb_c (qq_X3_greatestGroup_0 13 rfl) (sb_c (qq_X3_greatestGroup_0 14 rfl) sb_n)))) (by decide +kernel)) ggX3_greatestGroup_X3_letDieAlone
set_option maxRecDepth 20000 in
theorem ggX3_greatestGroup_X1_fewestMissed : GoodIn wsX3_greatestGroup wsX1_fewestMissed := goodIn_sub (sb_c (qq_X3_greatestGroup_0 19 rfl) (sb_a (sb_a (sb_c (qq_X3_greatestGroup_0 20 rfl) (sb_c (qq_X3_greatestGroup_0 21 rfl) (sb_c (qq_X3_greatestGroup_0 22 rfl) (sb_c (qq_X3_greatestGroup_0 23 rfl) (sb_c (qq_X3_greatestGroup_0 4 rfl) (sb_c (qq_X3_greatestGroup_0 5 rfl) (sb_c (qq_X3_greatestGroup_0 6 rfl) (sb_c (qq_X3_greatestGroup_1 0 rfl) (sb_c (qq_X3_greatestGroup_1 1 rfl) (sb_c (qq_X3_greatestGroup_1 2 rfl) (sb_c (qq_X3_greatestGroup_0 17 rfl) (sb_c (qq_X3_greatestGroup_1 3 rfl) (sb_c (qq_X3_greatestGroup_1 4 rfl) (sb_c (qq_X3_greatestGroup_1 5 rfl) (sb_c (qq_X3_greatestGroup_1 6 rfl) (sb_c (qq_X3_greatestGroup_1 7 rfl) (sb_c (qq_X3_greatestGroup_1 8 rfl) (sb_c (qq_X3_greatestGroup_1 9 rfl) (sb_c (qq_X3_greatestGroup_1 10 rfl) (sb_c (qq_X3_greatestGroup_1 11 rfl) (sb_c (qq_X3_greatestGroup_1 12 rfl) (sb_c (qq_X3_greatestGroup_1 13 rfl) (sb_c (qq_X3_greatestGroup_1 14 rfl) (sb_c (qq_X3_greatestGroup_1 15 rfl) sb_n)))))))))))))))))))))))) (sb_c (qq_X3_greatestGroup_1 16 rfl) (sb_c (qq_X3_greatestGroup_1 17 rfl) (sb_c (qq_X3_greatestGroup_1 18 rfl) (sb_c (qq_X3_greatestGroup_1 19 rfl) (sb_c (qq_X3_greatestGroup_1 20 rfl) (sb_c (qq_X3_greatestGroup_1 21 rfl) sb_n))))))) (uq_X3_greatestGroup_X1))) gw_X1_fewestMissed
set_option maxRecDepth 20000 in
theorem gX3_greatestGroup_X1_fewestMissed_n164 : GoodIn wsX3_greatestGroup (wsX1_fewestMissed) := ggX3_greatestGroup_X1_fewestMissed
theorem dX3_greatestGroup_0 : decode cX3_greatestGroup 0 = .ok (.iconst 0, 1) := by decide +kernel
theorem dX3_greatestGroup_1 : decode cX3_greatestGroup 1 = .ok (.istore_n 3, 1) := by decide +kernel
theorem dX3_greatestGroup_2 : decode cX3_greatestGroup 2 = .ok (.aload_n 0, 1) := by decide +kernel
theorem dX3_greatestGroup_3 : decode cX3_greatestGroup 3 = .ok (.getfield 44, 3) := by decide +kernel
theorem dX3_greatestGroup_6 : decode cX3_greatestGroup 6 = .ok (.iconst 0, 1) := by decide +kernel
theorem dX3_greatestGroup_7 : decode cX3_greatestGroup 7 = .ok (.invokestatic 329, 3) := by decide +kernel
theorem dX3_greatestGroup_10 : decode cX3_greatestGroup 10 = .ok (.iconst 0, 1) := by decide +kernel
theorem dX3_greatestGroup_11 : decode cX3_greatestGroup 11 = .ok (.istore 4, 2) := by decide +kernel
theorem dX3_greatestGroup_13 : decode cX3_greatestGroup 13 = .ok (.iload 4, 2) := by decide +kernel
theorem dX3_greatestGroup_15 : decode cX3_greatestGroup 15 = .ok (.aload_n 0, 1) := by decide +kernel
theorem dX3_greatestGroup_16 : decode cX3_greatestGroup 16 = .ok (.getfield 16, 3) := by decide +kernel
theorem dX3_greatestGroup_19 : decode cX3_greatestGroup 19 = .ok (.getfield 82, 3) := by decide +kernel
theorem dX3_greatestGroup_22 : decode cX3_greatestGroup 22 = .ok (.iconst 0, 1) := by decide +kernel
theorem dX3_greatestGroup_23 : decode cX3_greatestGroup 23 = .ok (.iaload, 1) := by decide +kernel
theorem dX3_greatestGroup_24 : decode cX3_greatestGroup 24 = .ok (.if_icmp .ge 71, 3) := by decide +kernel
theorem dX3_greatestGroup_27 : decode cX3_greatestGroup 27 = .ok (.iload_n 2, 1) := by decide +kernel
theorem dX3_greatestGroup_28 : decode cX3_greatestGroup 28 = .ok (.iload 4, 2) := by decide +kernel
theorem dX3_greatestGroup_30 : decode cX3_greatestGroup 30 = .ok (.ishr, 1) := by decide +kernel
theorem dX3_greatestGroup_31 : decode cX3_greatestGroup 31 = .ok (.iconst 1, 1) := by decide +kernel
theorem dX3_greatestGroup_32 : decode cX3_greatestGroup 32 = .ok (.iand, 1) := by decide +kernel
theorem dX3_greatestGroup_33 : decode cX3_greatestGroup 33 = .ok (.iconst 1, 1) := by decide +kernel
theorem dX3_greatestGroup_34 : decode cX3_greatestGroup 34 = .ok (.if_icmp .ne 55, 3) := by decide +kernel
theorem dX3_greatestGroup_37 : decode cX3_greatestGroup 37 = .ok (.aload_n 0, 1) := by decide +kernel
theorem dX3_greatestGroup_38 : decode cX3_greatestGroup 38 = .ok (.iload 4, 2) := by decide +kernel
theorem dX3_greatestGroup_40 : decode cX3_greatestGroup 40 = .ok (.invokevirtual 332, 3) := by decide +kernel
theorem dX3_greatestGroup_43 : decode cX3_greatestGroup 43 = .ok (.aload_n 0, 1) := by decide +kernel
theorem dX3_greatestGroup_44 : decode cX3_greatestGroup 44 = .ok (.getfield 16, 3) := by decide +kernel
theorem dX3_greatestGroup_47 : decode cX3_greatestGroup 47 = .ok (.iload_n 1, 1) := by decide +kernel
theorem dX3_greatestGroup_48 : decode cX3_greatestGroup 48 = .ok (.aload_n 0, 1) := by decide +kernel
theorem dX3_greatestGroup_49 : decode cX3_greatestGroup 49 = .ok (.getfield 30, 3) := by decide +kernel
theorem dX3_greatestGroup_52 : decode cX3_greatestGroup 52 = .ok (.aload_n 0, 1) := by decide +kernel
theorem dX3_greatestGroup_53 : decode cX3_greatestGroup 53 = .ok (.getfield 16, 3) := by decide +kernel
theorem dX3_greatestGroup_56 : decode cX3_greatestGroup 56 = .ok (.getfield 82, 3) := by decide +kernel
theorem dX3_greatestGroup_59 : decode cX3_greatestGroup 59 = .ok (.iconst 5, 1) := by decide +kernel
theorem dX3_greatestGroup_60 : decode cX3_greatestGroup 60 = .ok (.iaload, 1) := by decide +kernel
theorem dX3_greatestGroup_61 : decode cX3_greatestGroup 61 = .ok (.invokevirtual 164, 3) := by decide +kernel
theorem dX3_greatestGroup_64 : decode cX3_greatestGroup 64 = .ok (.istore 5, 2) := by decide +kernel
theorem dX3_greatestGroup_66 : decode cX3_greatestGroup 66 = .ok (.aload_n 0, 1) := by decide +kernel
theorem dX3_greatestGroup_67 : decode cX3_greatestGroup 67 = .ok (.getfield 44, 3) := by decide +kernel
theorem dX3_greatestGroup_70 : decode cX3_greatestGroup 70 = .ok (.iload 5, 2) := by decide +kernel
theorem dX3_greatestGroup_72 : decode cX3_greatestGroup 72 = .ok (.dup2, 1) := by decide +kernel
theorem dX3_greatestGroup_73 : decode cX3_greatestGroup 73 = .ok (.iaload, 1) := by decide +kernel
theorem dX3_greatestGroup_74 : decode cX3_greatestGroup 74 = .ok (.iconst 1, 1) := by decide +kernel
theorem dX3_greatestGroup_75 : decode cX3_greatestGroup 75 = .ok (.iadd, 1) := by decide +kernel
theorem dX3_greatestGroup_76 : decode cX3_greatestGroup 76 = .ok (.iastore, 1) := by decide +kernel
theorem dX3_greatestGroup_77 : decode cX3_greatestGroup 77 = .ok (.iload_n 3, 1) := by decide +kernel
theorem dX3_greatestGroup_78 : decode cX3_greatestGroup 78 = .ok (.aload_n 0, 1) := by decide +kernel
theorem dX3_greatestGroup_79 : decode cX3_greatestGroup 79 = .ok (.getfield 44, 3) := by decide +kernel
theorem dX3_greatestGroup_82 : decode cX3_greatestGroup 82 = .ok (.iload 5, 2) := by decide +kernel
theorem dX3_greatestGroup_84 : decode cX3_greatestGroup 84 = .ok (.iaload, 1) := by decide +kernel
theorem dX3_greatestGroup_85 : decode cX3_greatestGroup 85 = .ok (.invokestatic 171, 3) := by decide +kernel
theorem dX3_greatestGroup_88 : decode cX3_greatestGroup 88 = .ok (.istore_n 3, 1) := by decide +kernel
theorem dX3_greatestGroup_89 : decode cX3_greatestGroup 89 = .ok (.iinc 4 1, 3) := by decide +kernel
theorem dX3_greatestGroup_92 : decode cX3_greatestGroup 92 = .ok (.goto (-79), 3) := by decide +kernel
theorem dX3_greatestGroup_95 : decode cX3_greatestGroup 95 = .ok (.iload_n 3, 1) := by decide +kernel
theorem dX3_greatestGroup_96 : decode cX3_greatestGroup 96 = .ok (.ireturn, 1) := by decide +kernel
theorem dX4_init_0 : decode cX4_init 0 = .ok (.aload_n 0, 1) := by decide +kernel
theorem dX4_init_1 : decode cX4_init 1 = .ok (.invokespecial 1, 3) := by decide +kernel
theorem dX4_init_4 : decode cX4_init 4 = .ok (.aload_n 0, 1) := by decide +kernel
theorem dX4_init_5 : decode cX4_init 5 = .ok (.bipush 16, 2) := by decide +kernel
theorem dX4_init_7 : decode cX4_init 7 = .ok (.newarray .int, 2) := by decide +kernel
theorem dX4_init_9 : decode cX4_init 9 = .ok (.putfield 7, 3) := by decide +kernel
theorem dX4_init_12 : decode cX4_init 12 = .ok (.aload_n 0, 1) := by decide +kernel
theorem dX4_init_13 : decode cX4_init 13 = .ok (.bipush 9, 2) := by decide +kernel
theorem dX4_init_15 : decode cX4_init 15 = .ok (.newarray .int, 2) := by decide +kernel
theorem dX4_init_17 : decode cX4_init 17 = .ok (.putfield 13, 3) := by decide +kernel
theorem dX4_init_20 : decode cX4_init 20 = .ok (.aload_n 0, 1) := by decide +kernel
theorem dX4_init_21 : decode cX4_init 21 = .ok (.bipush 8, 2) := by decide +kernel
theorem dX4_init_23 : decode cX4_init 23 = .ok (.newarray .int, 2) := by decide +kernel
theorem dX4_init_25 : decode cX4_init 25 = .ok (.putfield 16, 3) := by decide +kernel
theorem dX4_init_28 : decode cX4_init 28 = .ok (.aload_n 0, 1) := by decide +kernel
theorem dX4_init_29 : decode cX4_init 29 = .ok (.bipush 8, 2) := by decide +kernel
theorem dX4_init_31 : decode cX4_init 31 = .ok (.newarray .int, 2) := by decide +kernel
theorem dX4_init_33 : decode cX4_init 33 = .ok (.putfield 19, 3) := by decide +kernel
theorem dX4_init_36 : decode cX4_init 36 = .ok (.aload_n 0, 1) := by decide +kernel
theorem dX4_init_37 : decode cX4_init 37 = .ok (.bipush 8, 2) := by decide +kernel
theorem dX4_init_39 : decode cX4_init 39 = .ok (.newarray .int, 2) := by decide +kernel
theorem dX4_init_41 : decode cX4_init 41 = .ok (.putfield 22, 3) := by decide +kernel
theorem dX4_init_44 : decode cX4_init 44 = .ok (.aload_n 0, 1) := by decide +kernel
theorem dX4_init_45 : decode cX4_init 45 = .ok (.bipush 16, 2) := by decide +kernel
theorem dX4_init_47 : decode cX4_init 47 = .ok (.newarray .int, 2) := by decide +kernel
theorem dX4_init_49 : decode cX4_init 49 = .ok (.putfield 25, 3) := by decide +kernel
theorem dX4_init_52 : decode cX4_init 52 = .ok (.aload_n 0, 1) := by decide +kernel
theorem dX4_init_53 : decode cX4_init 53 = .ok (.bipush 9, 2) := by decide +kernel
theorem dX4_init_55 : decode cX4_init 55 = .ok (.newarray .int, 2) := by decide +kernel
theorem dX4_init_57 : decode cX4_init 57 = .ok (.putfield 28, 3) := by decide +kernel
theorem dX4_init_60 : decode cX4_init 60 = .ok (.aload_n 0, 1) := by decide +kernel
theorem dX4_init_61 : decode cX4_init 61 = .ok (.bipush 16, 2) := by decide +kernel
theorem dX4_init_63 : decode cX4_init 63 = .ok (.newarray .int, 2) := by decide +kernel
theorem dX4_init_65 : decode cX4_init 65 = .ok (.putfield 31, 3) := by decide +kernel
theorem dX4_init_68 : decode cX4_init 68 = .ok (.aload_n 0, 1) := by decide +kernel
theorem dX4_init_69 : decode cX4_init 69 = .ok (.sipush 192, 3) := by decide +kernel
theorem dX4_init_72 : decode cX4_init 72 = .ok (.newarray .int, 2) := by decide +kernel
theorem dX4_init_74 : decode cX4_init 74 = .ok (.putfield 34, 3) := by decide +kernel
theorem dX4_init_77 : decode cX4_init 77 = .ok (.aload_n 0, 1) := by decide +kernel
theorem dX4_init_78 : decode cX4_init 78 = .ok (.sipush 192, 3) := by decide +kernel
theorem dX4_init_81 : decode cX4_init 81 = .ok (.newarray .int, 2) := by decide +kernel
theorem dX4_init_83 : decode cX4_init 83 = .ok (.putfield 37, 3) := by decide +kernel
theorem dX4_init_86 : decode cX4_init 86 = .ok (.aload_n 0, 1) := by decide +kernel
theorem dX4_init_87 : decode cX4_init 87 = .ok (.sipush 192, 3) := by decide +kernel
theorem dX4_init_90 : decode cX4_init 90 = .ok (.newarray .int, 2) := by decide +kernel
theorem dX4_init_92 : decode cX4_init 92 = .ok (.putfield 40, 3) := by decide +kernel
theorem dX4_init_95 : decode cX4_init 95 = .ok (.aload_n 0, 1) := by decide +kernel
theorem dX4_init_96 : decode cX4_init 96 = .ok (.sipush 128, 3) := by decide +kernel
theorem dX4_init_99 : decode cX4_init 99 = .ok (.newarray .int, 2) := by decide +kernel
theorem dX4_init_101 : decode cX4_init 101 = .ok (.putfield 43, 3) := by decide +kernel
theorem dX4_init_104 : decode cX4_init 104 = .ok (.aload_n 0, 1) := by decide +kernel
theorem dX4_init_105 : decode cX4_init 105 = .ok (.sipush 128, 3) := by decide +kernel
theorem dX4_init_108 : decode cX4_init 108 = .ok (.newarray .int, 2) := by decide +kernel
theorem dX4_init_110 : decode cX4_init 110 = .ok (.putfield 46, 3) := by decide +kernel
theorem dX4_init_113 : decode cX4_init 113 = .ok (.aload_n 0, 1) := by decide +kernel
theorem dX4_init_114 : decode cX4_init 114 = .ok (.bipush 16, 2) := by decide +kernel
theorem dX4_init_116 : decode cX4_init 116 = .ok (.newarray .int, 2) := by decide +kernel
theorem dX4_init_118 : decode cX4_init 118 = .ok (.putfield 49, 3) := by decide +kernel
theorem dX4_init_121 : decode cX4_init 121 = .ok (.aload_n 0, 1) := by decide +kernel
theorem dX4_init_122 : decode cX4_init 122 = .ok (.bipush 96, 2) := by decide +kernel
theorem dX4_init_124 : decode cX4_init 124 = .ok (.newarray .int, 2) := by decide +kernel
theorem dX4_init_126 : decode cX4_init 126 = .ok (.putfield 52, 3) := by decide +kernel
theorem dX4_init_129 : decode cX4_init 129 = .ok (.aload_n 0, 1) := by decide +kernel
theorem dX4_init_130 : decode cX4_init 130 = .ok (.bipush 96, 2) := by decide +kernel
theorem dX4_init_132 : decode cX4_init 132 = .ok (.newarray .int, 2) := by decide +kernel
theorem dX4_init_134 : decode cX4_init 134 = .ok (.putfield 55, 3) := by decide +kernel
theorem dX4_init_137 : decode cX4_init 137 = .ok (.aload_n 0, 1) := by decide +kernel
theorem dX4_init_138 : decode cX4_init 138 = .ok (.bipush 8, 2) := by decide +kernel
theorem dX4_init_140 : decode cX4_init 140 = .ok (.newarray .int, 2) := by decide +kernel
theorem dX4_init_142 : decode cX4_init 142 = .ok (.putfield 58, 3) := by decide +kernel
theorem dX4_init_145 : decode cX4_init 145 = .ok (.aload_n 0, 1) := by decide +kernel
theorem dX4_init_146 : decode cX4_init 146 = .ok (.iconst 2, 1) := by decide +kernel
theorem dX4_init_147 : decode cX4_init 147 = .ok (.newarray .int, 2) := by decide +kernel
theorem dX4_init_149 : decode cX4_init 149 = .ok (.putfield 61, 3) := by decide +kernel
theorem dX4_init_152 : decode cX4_init 152 = .ok (.aload_n 0, 1) := by decide +kernel
theorem dX4_init_153 : decode cX4_init 153 = .ok (.bipush 8, 2) := by decide +kernel
theorem dX4_init_155 : decode cX4_init 155 = .ok (.newarray .int, 2) := by decide +kernel
theorem dX4_init_157 : decode cX4_init 157 = .ok (.putfield 64, 3) := by decide +kernel
theorem dX4_init_160 : decode cX4_init 160 = .ok (.aload_n 0, 1) := by decide +kernel

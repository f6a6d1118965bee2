theorem dX2_fill_14 : decode cX2_fill 14 = .ok (.goto 17, 3) := by decide +kernel
theorem dX2_fill_17 : decode cX2_fill 17 = .ok (.aload_n 0, 1) := by decide +kernel
theorem dX2_fill_18 : decode cX2_fill 18 = .ok (.getfield 15, 3) := by decide +kernel
theorem dX2_fill_21 : decode cX2_fill 21 = .ok (.iconst 1, 1) := by decide +kernel
theorem dX2_fill_22 : decode cX2_fill 22 = .ok (.if_icmp .ne 8, 3) := by decide +kernel
theorem dX2_fill_25 : decode cX2_fill 25 = .ok (.iload_n 2, 1) := by decide +kernel
theorem dX2_fill_26 : decode cX2_fill 26 = .ok (.i2s, 1) := by decide +kernel
theorem dX2_fill_27 : decode cX2_fill 27 = .ok (.goto 4, 3) := by decide +kernel
theorem dX2_fill_30 : decode cX2_fill 30 = .ok (.iload_n 2, 1) := by decide +kernel
theorem dX2_fill_31 : decode cX2_fill 31 = .ok (.iastore, 1) := by decide +kernel
theorem dX2_fill_32 : decode cX2_fill 32 = .ok (.return_, 1) := by decide +kernel
theorem qq_X3_init_0 {c : Cond} (j : Nat) (h : wsX3_init_r1[j]? = some c) : c ∈ wsX3_init := List.mem_cons_of_mem _ (List.mem_append_left _ (List.mem_append_left _ (List.mem_append_left _ (List.mem_append_left _ (List.mem_append_left _ (List.mem_of_getElem? h))))))
theorem qq_X3_init_1 {c : Cond} (j : Nat) (h : wsX3_init_r2[j]? = some c) : c ∈ wsX3_init := List.mem_cons_of_mem _ (List.mem_append_left _ (List.mem_append_left _ (List.mem_append_left _ (List.mem_append_left _ (List.mem_append_right _ (List.mem_append_left _ (List.mem_of_getElem? h)))))))
theorem qq_X3_init_2 {c : Cond} (j : Nat) (h : wsX3_init_r3[j]? = some c) : c ∈ wsX3_init := List.mem_cons_of_mem _ (List.mem_append_left _ (List.mem_append_left _ (List.mem_append_left _ (List.mem_append_left _ (List.mem_append_right _ (List.mem_append_right _ (List.mem_append_left _ (List.mem_of_getElem? h))))))))
theorem qq_X3_init_3 {c : Cond} (j : Nat) (h : wsX3_init_r4[j]? = some c) : c ∈ wsX3_init := List.mem_cons_of_mem _ (List.mem_append_left _ (List.mem_append_left _ (List.mem_append_left _ (List.mem_append_left _ (List.mem_append_right _ (List.mem_append_right _ (List.mem_append_right _ (List.mem_append_left _ (List.mem_of_getElem? h)))))))))
theorem qq_X3_init_4 {c : Cond} (j : Nat) (h : wsX3_init_r5[j]? = some c) : c ∈ wsX3_init := List.mem_cons_of_mem _ (List.mem_append_left _ (List.mem_append_left _ (List.mem_append_left _ (List.mem_append_left _ (List.mem_append_right _ (List.mem_append_right _ (List.mem_append_right _ (List.mem_append_right _ (List.mem_append_left _ (List.mem_of_getElem? h))))))))))
theorem qq_X3_init_5 {c : Cond} (j : Nat) (h : wsX3_init_r6[j]? = some c) : c ∈ wsX3_init := List.mem_cons_of_mem _ (List.mem_append_left _ (List.mem_append_left _ (List.mem_append_left _ (List.mem_append_left _ (List.mem_append_right _ (List.mem_append_right _ (List.mem_append_right _ (List.mem_append_right _ (List.mem_append_right _ (List.mem_of_getElem? h))))))))))
theorem uq_X3_init_X1 : wsub wsX10 wsX3_init := fun _ h => List.mem_cons_of_mem _ (List.mem_append_left _ (List.mem_append_left _ (List.mem_append_left _ (List.mem_append_right _ (h)))))
theorem uq_X3_init_X3 : wsub wsX30 wsX3_init := fun _ h => List.mem_cons_of_mem _ (List.mem_append_left _ (List.mem_append_left _ (List.mem_append_right _ (h))))
theorem uq_X3_init_X0 : wsub wsX00 wsX3_init := fun _ h => List.mem_cons_of_mem _ (List.mem_append_left _ (List.mem_append_right _ (h)))
theorem uq_X3_init_X2 : wsub wsX20 wsX3_init := fun _ h => List.mem_cons_of_mem _ (List.mem_append_right _ (h))
set_option maxRecDepth 20000 in
theorem gw_X1_init : wsX1_init.all goodWord = true := by decide +kernel
set_option maxRecDepth 20000 in
theorem ggX3_init_X1_init : GoodIn wsX3_init wsX1_init := goodIn_sub (sb_c (qq_X3_init_1 2 rfl) (sb_a (sb_a (sb_c (qq_X3_init_1 3 rfl) (sb_c (qq_X3_init_0 1 rfl) (sb_c (qq_X3_init_0 2 rfl) (sb_c (qq_X3_init_0 12 rfl) (sb_c (qq_X3_init_1 4 rfl) (sb_c (qq_X3_init_1 5 rfl) (sb_c (qq_X3_init_1 6 rfl) (sb_c (qq_X3_init_1 7 rfl) (sb_c (qq_X3_init_1 8 rfl) (sb_c (qq_X3_init_1 9 rfl) (sb_c (qq_X3_init_1 10 rfl) (sb_c (qq_X3_init_1 11 rfl) (sb_c (qq_X3_init_1 12 rfl) (sb_c (qq_X3_init_1 13 rfl) (sb_c (qq_X3_init_1 14 rfl) (sb_c (qq_X3_init_1 15 rfl) (sb_c (qq_X3_init_1 16 rfl) (sb_c (qq_X3_init_1 17 rfl) (sb_c (qq_X3_init_1 18 rfl) (sb_c (qq_X3_init_1 19 rfl) (sb_c (qq_X3_init_1 20 rfl) (sb_c (qq_X3_init_1 21 rfl) (sb_c (qq_X3_init_1 22 rfl) (sb_c (qq_X3_init_1 23 rfl) sb_n)))))))))))))))))))))))) (sb_c (qq_X3_init_2 0 rfl) (sb_c (qq_X3_init_2 1 rfl) (sb_c (qq_X3_init_2 2 rfl) (sb_c (qq_X3_init_2 3 rfl) sb_n))))) (uq_X3_init_X1))) gw_X1_init
set_option maxRecDepth 20000 in
theorem gX3_init_X1_init_n15 : GoodIn wsX3_init (wsX1_init) := ggX3_init_X1_init
set_option maxRecDepth 20000 in
theorem gw_X0_init : wsX0_init.all goodWord = true := by decide +kernel
set_option maxRecDepth 20000 in
theorem ggX3_init_X0_init : GoodIn wsX3_init wsX0_init := goodIn_sub (sb_c (qq_X3_init_2 5 rfl) (sb_a (sb_c (qq_X3_init_2 6 rfl) (sb_c (qq_X3_init_0 1 rfl) (sb_c (qq_X3_init_0 2 rfl) (sb_c (qq_X3_init_0 12 rfl) (sb_c (qq_X3_init_2 7 rfl) (sb_c (qq_X3_init_2 8 rfl) (sb_c (qq_X3_init_2 9 rfl) (sb_c (qq_X3_init_2 10 rfl) sb_n)))))))) (uq_X3_init_X0))) gw_X0_init
set_option maxRecDepth 20000 in
theorem gX3_init_X0_init_n25 : GoodIn wsX3_init (wsX0_init) := ggX3_init_X0_init
set_option maxRecDepth 20000 in
theorem gw_X2_init : wsX2_init.all goodWord = true := by decide +kernel
set_option maxRecDepth 20000 in
theorem ggX3_init_X2_init : GoodIn wsX3_init wsX2_init := goodIn_sub (sb_c (qq_X3_init_2 12 rfl) (sb_a (sb_c (qq_X3_init_2 13 rfl) (sb_c (qq_X3_init_0 1 rfl) (sb_c (qq_X3_init_0 2 rfl) (sb_c (qq_X3_init_0 12 rfl) (sb_c (qq_X3_init_2 14 rfl) (sb_c (qq_X3_init_2 15 rfl) (sb_c (qq_X3_init_2 16 rfl) (sb_c (qq_X3_init_2 17 rfl) sb_n)))))))) (uq_X3_init_X2))) gw_X2_init
set_option maxRecDepth 20000 in
theorem gX3_init_X2_init_n53 : GoodIn wsX3_init (wsX2_init) := ggX3_init_X2_init
set_option maxRecDepth 20000 in
theorem gw_X1_print : wsX1_print.all goodWord = true := by decide +kernel
set_option maxRecDepth 20000 in
theorem ggX3_init_X1_print : GoodIn wsX3_init wsX1_print := goodIn_sub (sb_c (qq_X3_init_2 20 rfl) (sb_a (sb_a (sb_c (qq_X3_init_1 15 rfl) (sb_c (qq_X3_init_1 16 rfl) (sb_c (qq_X3_init_1 17 rfl) (sb_c (qq_X3_init_1 18 rfl) (sb_c (qq_X3_init_1 19 rfl) (sb_c (qq_X3_init_1 21 rfl) (sb_c (qq_X3_init_1 20 rfl) (sb_c (qq_X3_init_1 11 rfl) (sb_c (qq_X3_init_2 21 rfl) (sb_c (qq_X3_init_2 22 rfl) (sb_c (qq_X3_init_2 23 rfl) (sb_c (qq_X3_init_0 5 rfl) (sb_c (qq_X3_init_3 0 rfl) (sb_c (qq_X3_init_1 13 rfl) (sb_c (qq_X3_init_1 14 rfl) (sb_c (qq_X3_init_2 0 rfl) (sb_c (qq_X3_init_2 1 rfl) (sb_c (qq_X3_init_2 2 rfl) (sb_c (qq_X3_init_2 3 rfl) (sb_c (qq_X3_init_3 1 rfl) (sb_c (qq_X3_init_3 2 rfl) (sb_c (qq_X3_init_3 3 rfl) (sb_c (qq_X3_init_3 4 rfl) (sb_c (qq_X3_init_3 5 rfl) sb_n)))))))))))))))))))))))) (sb_a (sb_c (qq_X3_init_3 6 rfl) (sb_c (qq_X3_init_3 7 rfl) (sb_c (qq_X3_init_3 8 rfl) (sb_c (qq_X3_init_3 9 rfl) (sb_c (qq_X3_init_3 10 rfl) (sb_c (qq_X3_init_1 4 rfl) (sb_c (qq_X3_init_1 23 rfl) (sb_c (qq_X3_init_3 11 rfl) (sb_c (qq_X3_init_3 12 rfl) (sb_c (qq_X3_init_3 13 rfl) (sb_c (qq_X3_init_3 14 rfl) (sb_c (qq_X3_init_1 22 rfl) (sb_c (qq_X3_init_1 12 rfl) (sb_c (qq_X3_init_3 15 rfl) (sb_c (qq_X3_init_3 16 rfl) (sb_c (qq_X3_init_3 17 rfl) (sb_c (qq_X3_init_3 18 rfl) (sb_c (qq_X3_init_3 19 rfl) (sb_c (qq_X3_init_3 20 rfl) (sb_c (qq_X3_init_3 21 rfl) (sb_c (qq_X3_init_3 22 rfl) (sb_c (qq_X3_init_3 23 rfl) (sb_c (qq_X3_init_4 0 rfl) (sb_c (qq_X3_init_4 1 rfl) sb_n)))))))))))))))))))))))) (sb_a (sb_c (qq_X3_init_4 2 rfl) (sb_c (qq_X3_init_4 3 rfl) (sb_c (qq_X3_init_4 4 rfl) (sb_c (qq_X3_init_4 5 rfl) (sb_c (qq_X3_init_4 6 rfl) (sb_c (qq_X3_init_4 7 rfl) (sb_c (qq_X3_init_4 8 rfl) (sb_c (qq_X3_init_4 9 rfl) (sb_c (qq_X3_init_4 10 rfl) (sb_c (qq_X3_init_4 11 rfl) (sb_c (qq_X3_init_4 12 rfl) (sb_c (qq_X3_init_4 13 rfl) (sb_c (qq_X3_init_4 14 rfl) (sb_c (qq_X3_init_4 15 rfl) (sb_c (qq_X3_init_4 16 rfl) (sb_c (qq_X3_init_4 17 rfl) (sb_c (qq_X3_init_4 18 rfl) (sb_c (qq_X3_init_4 19 rfl) (sb_c (qq_X3_init_4 20 rfl) (sb_c (qq_X3_init_4 21 rfl) (sb_c (qq_X3_init_4 22 rfl) (sb_c (qq_X3_init_4 23 rfl) (sb_c (qq_X3_init_5 0 rfl) (sb_c (qq_X3_init_5 1 rfl) sb_n)))))))))))))))))))))))) (sb_c (qq_X3_init_5 2 rfl) (sb_c (qq_X3_init_5 3 rfl) (sb_c (qq_X3_init_5 4 rfl) (sb_c (qq_X3_init_5 5 rfl) (sb_c (qq_X3_init_5 6 rfl) (sb_c (qq_X3_init_5 7 rfl) (sb_c (qq_X3_init_5 8 rfl) (sb_c (qq_X3_init_5 9 rfl) (sb_c (qq_X3_init_5 10 rfl) (sb_c (qq_X3_init_5 11 rfl) (sb_c (qq_X3_init_5 12 rfl) (sb_c (qq_X3_init_5 13 rfl) (sb_c (qq_X3_init_5 14 rfl) (sb_c (qq_X3_init_5 15 rfl) sb_n))))))))))))))))) (uq_X3_init_X1))) gw_X1_print
set_option maxRecDepth 20000 in
theorem gX3_init_X1_print_n61 : GoodIn wsX3_init (wsX1_print) := ggX3_init_X1_print
theorem dX3_init_0 : decode cX3_init 0 = .ok (.aload_n 0, 1) := by decide +kernel
theorem dX3_init_1 : decode cX3_init 1 = .ok (.invokespecial 7, 3) := by decide +kernel
theorem dX3_init_4 : decode cX3_init 4 = .ok (.aload_n 0, 1) := by decide +kernel
theorem dX3_init_5 : decode cX3_init 5 = .ok (.new 13, 3) := by decide +kernel
theorem dX3_init_8 : decode cX3_init 8 = .ok (.dup, 1) := by decide +kernel
theorem dX3_init_9 : decode cX3_init 9 = .ok (.invokespecial 15, 3) := by decide +kernel
theorem dX3_init_12 : decode cX3_init 12 = .ok (.putfield 16, 3) := by decide +kernel
theorem dX3_init_15 : decode cX3_init 15 = .ok (.aload_n 0, 1) := by decide +kernel
theorem dX3_init_16 : decode cX3_init 16 = .ok (.new 13, 3) := by decide +kernel
theorem dX3_init_19 : decode cX3_init 19 = .ok (.dup, 1) := by decide +kernel
theorem dX3_init_20 : decode cX3_init 20 = .ok (.invokespecial 15, 3) := by decide +kernel
theorem dX3_init_23 : decode cX3_init 23 = .ok (.putfield 20, 3) := by decide +kernel
theorem dX3_init_26 : decode cX3_init 26 = .ok (.aload_n 0, 1) := by decide +kernel
theorem dX3_init_27 : decode cX3_init 27 = .ok (.new 23, 3) := by decide +kernel
theorem dX3_init_30 : decode cX3_init 30 = .ok (.dup, 1) := by decide +kernel
theorem dX3_init_31 : decode cX3_init 31 = .ok (.invokespecial 25, 3) := by decide +kernel
theorem dX3_init_34 : decode cX3_init 34 = .ok (.putfield 26, 3) := by decide +kernel
theorem dX3_init_37 : decode cX3_init 37 = .ok (.aload_n 0, 1) := by decide +kernel
theorem dX3_init_38 : decode cX3_init 38 = .ok (.bipush 8, 2) := by decide +kernel
theorem dX3_init_40 : decode cX3_init 40 = .ok (.newarray .int, 2) := by decide +kernel
theorem dX3_init_42 : decode cX3_init 42 = .ok (.putfield 30, 3) := by decide +kernel
theorem dX3_init_45 : decode cX3_init 45 = .ok (.aload_n 0, 1) := by decide +kernel
theorem dX3_init_46 : decode cX3_init 46 = .ok (.bipush 8, 2) := by decide +kernel
theorem dX3_init_48 : decode cX3_init 48 = .ok (.newarray .int, 2) := by decide +kernel
theorem dX3_init_50 : decode cX3_init 50 = .ok (.putfield 34, 3) := by decide +kernel
theorem dX3_init_53 : decode cX3_init 53 = .ok (.aload_n 0, 1) := by decide +kernel
theorem dX3_init_54 : decode cX3_init 54 = .ok (.bipush 8, 2) := by decide +kernel
theorem dX3_init_56 : decode cX3_init 56 = .ok (.newarray .int, 2) := by decide +kernel
theorem dX3_init_58 : decode cX3_init 58 = .ok (.putfield 37, 3) := by decide +kernel
theorem dX3_init_61 : decode cX3_init 61 = .ok (.aload_n 0, 1) := by decide +kernel
theorem dX3_init_62 : decode cX3_init 62 = .ok (.iconst 0, 1) := by decide +kernel
theorem dX3_init_63 : decode cX3_init 63 = .ok (.putfield 40, 3) := by decide +kernel
theorem dX3_init_66 : decode cX3_init 66 = .ok (.aload_n 0, 1) := by decide +kernel
theorem dX3_init_67 : decode cX3_init 67 = .ok (.bipush 9, 2) := by decide +kernel
theorem dX3_init_69 : decode cX3_init 69 = .ok (.newarray .int, 2) := by decide +kernel
theorem dX3_init_71 : decode cX3_init 71 = .ok (.putfield 44, 3) := by decide +kernel
theorem dX3_init_74 : decode cX3_init 74 = .ok (.aload_n 0, 1) := by decide +kernel
theorem dX3_init_75 : decode cX3_init 75 = .ok (.bipush 9, 2) := by decide +kernel
theorem dX3_init_77 : decode cX3_init 77 = .ok (.newarray .long, 2) := by decide +kernel
theorem dX3_init_79 : decode cX3_init 79 = .ok (.putfield 47, 3) := by decide +kernel
theorem dX3_init_82 : decode cX3_init 82 = .ok (.aload_n 0, 1) := by decide +kernel
theorem dX3_init_83 : decode cX3_init 83 = .ok (.iconst 4, 1) := by decide +kernel
theorem dX3_init_84 : decode cX3_init 84 = .ok (.anewarray 51, 3) := by decide +kernel
theorem dX3_init_87 : decode cX3_init 87 = .ok (.dup, 1) := by decide +kernel
theorem dX3_init_88 : decode cX3_init 88 = .ok (.iconst 0, 1) := by decide +kernel
theorem dX3_init_89 : decode cX3_init 89 = .ok (.new 51, 3) := by decide +kernel
theorem dX3_init_92 : decode cX3_init 92 = .ok (.dup, 1) := by decide +kernel
theorem dX3_init_93 : decode cX3_init 93 = .ok (.invokespecial 53, 3) := by decide +kernel
theorem dX3_init_96 : decode cX3_init 96 = .ok (.aastore, 1) := by decide +kernel
theorem dX3_init_97 : decode cX3_init 97 = .ok (.dup, 1) := by decide +kernel
theorem dX3_init_98 : decode cX3_init 98 = .ok (.iconst 1, 1) := by decide +kernel
theorem dX3_init_99 : decode cX3_init 99 = .ok (.new 51, 3) := by decide +kernel
theorem dX3_init_102 : decode cX3_init 102 = .ok (.dup, 1) := by decide +kernel
theorem dX3_init_103 : decode cX3_init 103 = .ok (.invokespecial 53, 3) := by decide +kernel
theorem dX3_init_106 : decode cX3_init 106 = .ok (.aastore, 1) := by decide +kernel
theorem dX3_init_107 : decode cX3_init 107 = .ok (.dup, 1) := by decide +kernel
theorem dX3_init_108 : decode cX3_init 108 = .ok (.iconst 2, 1) := by decide +kernel
theorem dX3_init_109 : decode cX3_init 109 = .ok (.new 51, 3) := by decide +kernel
theorem dX3_init_112 : decode cX3_init 112 = .ok (.dup, 1) := by decide +kernel
theorem dX3_init_113 : decode cX3_init 113 = .ok (.invokespecial 53, 3) := by decide +kernel
theorem dX3_init_116 : decode cX3_init 116 = .ok (.aastore, 1) := by decide +kernel
theorem dX3_init_117 : decode cX3_init 117 = .ok (.dup, 1) := by decide +kernel
theorem dX3_init_118 : decode cX3_init 118 = .ok (.iconst 3, 1) := by decide +kernel
theorem dX3_init_119 : decode cX3_init 119 = .ok (.new 51, 3) := by decide +kernel
theorem dX3_init_122 : decode cX3_init 122 = .ok (.dup, 1) := by decide +kernel
theorem dX3_init_123 : decode cX3_init 123 = .ok (.invokespecial 53, 3) := by decide +kernel
theorem dX3_init_126 : decode cX3_init 126 = .ok (.aastore, 1) := by decide +kernel
theorem dX3_init_127 : decode cX3_init 127 = .ok (.putfield 54, 3) := by decide +kernel
theorem dX3_init_130 : decode cX3_init 130 = .ok (.aload_n 0, 1) := by decide +kernel
theorem dX3_init_131 : decode cX3_init 131 = .ok (.iconst 0, 1) := by decide +kernel
theorem dX3_init_132 : decode cX3_init 132 = .ok (.putfield 58, 3) := by decide +kernel
theorem dX3_init_135 : decode cX3_init 135 = .ok (.aload_n 0, 1) := by decide +kernel
theorem dX3_init_136 : decode cX3_init 136 = .ok (.getfield 16, 3) := by decide +kernel
theorem dX3_init_139 : decode cX3_init 139 = .ok (.invokevirtual 61, 3) := by decide +kernel
theorem dX3_init_142 : decode cX3_init 142 = .ok (.return_, 1) := by decide +kernel
theorem qq_X3_line_0 {c : Cond} (j : Nat) (h : wsX3_line_r1[j]? = some c) : c ∈ wsX3_line := List.mem_cons_of_mem _ (List.mem_append_left _ (List.mem_append_left _ (List.mem_append_left _ (List.mem_of_getElem? h))))
theorem qq_X3_line_1 {c : Cond} (j : Nat) (h : wsX3_line_r2[j]? = some c) : c ∈ wsX3_line := List.mem_cons_of_mem _ (List.mem_append_left _ (List.mem_append_left _ (List.mem_append_right _ (List.mem_append_left _ (List.mem_of_getElem? h)))))
theorem qq_X3_line_2 {c : Cond} (j : Nat) (h : wsX3_line_r3[j]? = some c) : c ∈ wsX3_line := List.mem_cons_of_mem _ (List.mem_append_left _ (List.mem_append_left _ (List.mem_append_right _ (List.mem_append_right _ (List.mem_append_left _ (List.mem_of_getElem? h))))))
theorem qq_X3_line_3 {c : Cond} (j : Nat) (h : wsX3_line_r4[j]? = some c) : c ∈ wsX3_line := List.mem_cons_of_mem _ (List.mem_append_left _ (List.mem_append_left _ (List.mem_append_right _ (List.mem_append_right _ (List.mem_append_right _ (List.mem_of_getElem? h))))))
theorem uq_X3_line_X3 : wsub wsX30 wsX3_line := fun _ h => List.mem_cons_of_mem _ (List.mem_append_left _ (List.mem_append_right _ (h)))
theorem uq_X3_line_X1 : wsub wsX10 wsX3_line := fun _ h => List.mem_cons_of_mem _ (List.mem_append_right _ (h))
set_option maxRecDepth 20000 in
theorem ggX3_line_X3_isLine : GoodIn wsX3_line wsX3_isLine := goodIn_sub (sb_c (qq_X3_line_0 4 rfl) (sb_c (qq_X3_line_0 5 rfl) (sb_c (qq_X3_line_0 6 rfl) (sb_c (qq_X3_line_0 3 rfl) (sb_c (qq_X3_line_0 7 rfl) sb_n))))) gw_X3_isLine
set_option maxRecDepth 20000 in
theorem gX3_line_X3_isLine : GoodIn wsX3_line (va_wsS RX3 64 yX3_isLine wsX3_isLine) := goodIn_app (goodIn_sub (sb_c (qq_X3_line_0 1 rfl) (sb_c (qq_X3_line_0 2 rfl) (sb_c (qq_X3_line_0 3 rfl) sb_n))) (by decide +kernel)) ggX3_line_X3_isLine
set_option maxRecDepth 20000 in
theorem gw_X3_within : wsX3_within.all goodWord = true := by decide +kernel
set_option maxRecDepth 20000 in
theorem ggX3_line_X3_within : GoodIn wsX3_line wsX3_within := goodIn_sub (sb_c (qq_X3_line_0 7 rfl) (sb_n)) gw_X3_within
set_option maxRecDepth 20000 in
theorem gX3_line_X3_within : GoodIn wsX3_line (va_wsS RX3 68 yX3_within wsX3_within) := goodIn_app (goodIn_sub (sb_c (qq_X3_line_0 5 rfl) (sb_c (qq_X3_line_0 6 rfl) (sb_c (qq_X3_line_0 3 rfl) sb_n))) (by decide +kernel)) ggX3_line_X3_within
set_option maxRecDepth 20000 in
theorem ggX3_line_X1_print : GoodIn wsX3_line wsX1_print := goodIn_sub (sb_c (qq_X3_line_0 11 rfl) (sb_a (sb_a (sb_c (qq_X3_line_0 12 rfl) (sb_c (qq_X3_line_0 13 rfl) (sb_c (qq_X3_line_0 14 rfl) (sb_c (qq_X3_line_0 15 rfl) (sb_c (qq_X3_line_0 16 rfl) (sb_c (qq_X3_line_0 17 rfl) (sb_c (qq_X3_line_0 18 rfl) (sb_c (qq_X3_line_0 19 rfl) (sb_c (qq_X3_line_0 20 rfl) (sb_c (qq_X3_line_0 21 rfl) (sb_c (qq_X3_line_0 22 rfl) (sb_c (qq_X3_line_0 9 rfl) (sb_c (qq_X3_line_0 23 rfl) (sb_c (qq_X3_line_1 0 rfl) (sb_c (qq_X3_line_1 1 rfl) (sb_c (qq_X3_line_1 2 rfl) (sb_c (qq_X3_line_1 3 rfl) (sb_c (qq_X3_line_1 4 rfl) (sb_c (qq_X3_line_1 5 rfl) (sb_c (qq_X3_line_0 2 rfl) (sb_c (qq_X3_line_0 3 rfl) (sb_c (qq_X3_line_0 4 rfl) (sb_c (qq_X3_line_0 5 rfl) (sb_c (qq_X3_line_0 6 rfl) sb_n)))))))))))))))))))))))) (sb_a (sb_c (qq_X3_line_0 7 rfl) (sb_c (qq_X3_line_1 6 rfl) (sb_c (qq_X3_line_1 7 rfl) (sb_c (qq_X3_line_1 8 rfl) (sb_c (qq_X3_line_1 9 rfl) (sb_c (qq_X3_line_1 10 rfl) (sb_c (qq_X3_line_1 11 rfl) (sb_c (qq_X3_line_1 12 rfl) (sb_c (qq_X3_line_1 13 rfl) (sb_c (qq_X3_line_1 14 rfl) (sb_c (qq_X3_line_1 15 rfl) (sb_c (qq_X3_line_1 16 rfl) (sb_c (qq_X3_line_1 17 rfl) (sb_c (qq_X3_line_1 18 rfl) (sb_c (qq_X3_line_1 19 rfl) (sb_c (qq_X3_line_1 20 rfl) (sb_c (qq_X3_line_1 21 rfl) (sb_c (qq_X3_line_1 22 rfl) (sb_c (qq_X3_line_1 23 rfl) (sb_c (qq_X3_line_2 0 rfl) (sb_c (qq_X3_line_2 1 rfl) (sb_c (qq_X3_line_2 2 rfl) (sb_c (qq_X3_line_2 3 rfl) (sb_c (qq_X3_line_2 4 rfl) sb_n)))))))))))))))))))))))) (sb_a (sb_c (qq_X3_line_2 5 rfl) (sb_c (qq_X3_line_2 6 rfl) (sb_c (qq_X3_line_2 7 rfl) (sb_c (qq_X3_line_2 8 rfl) (sb_c (qq_X3_line_2 9 rfl) (sb_c (qq_X3_line_2 10 rfl) (sb_c (qq_X3_line_2 11 rfl) (sb_c (qq_X3_line_2 12 rfl) (sb_c (qq_X3_line_2 13 rfl) (sb_c (qq_X3_line_2 14 rfl) (sb_c (qq_X3_line_2 15 rfl) (sb_c (qq_X3_line_2 16 rfl) (sb_c (qq_X3_line_2 17 rfl) (sb_c (qq_X3_line_2 18 rfl) (sb_c (qq_X3_line_2 19 rfl) (sb_c (qq_X3_line_2 20 rfl) (sb_c (qq_X3_line_2 21 rfl) (sb_c (qq_X3_line_2 22 rfl) (sb_c (qq_X3_line_2 23 rfl) (sb_c (qq_X3_line_3 0 rfl) (sb_c (qq_X3_line_3 1 rfl) (sb_c (qq_X3_line_3 2 rfl) (sb_c (qq_X3_line_3 3 rfl) (sb_c (qq_X3_line_3 4 rfl) sb_n)))))))))))))))))))))))) (sb_c (qq_X3_line_3 5 rfl) (sb_c (qq_X3_line_3 6 rfl) (sb_c (qq_X3_line_3 7 rfl) (sb_c (qq_X3_line_3 8 rfl) (sb_c (qq_X3_line_3 9 rfl) (sb_c (qq_X3_line_3 10 rfl) (sb_c (qq_X3_line_3 11 rfl) (sb_c (qq_X3_line_3 12 rfl) (sb_c (qq_X3_line_3 13 rfl) (sb_c (qq_X3_line_3 14 rfl) (sb_c (qq_X3_line_3 15 rfl) (sb_c (qq_X3_line_3 16 rfl) (sb_c (qq_X3_line_3 17 rfl) (sb_c (qq_X3_line_3 18 rfl) sb_n))))))))))))))))) (uq_X3_line_X1))) gw_X1_print
set_option maxRecDepth 20000 in
theorem gX3_line_X1_print_n61 : GoodIn wsX3_line (wsX1_print) := ggX3_line_X1_print
theorem dX3_line_0 : decode cX3_line 0 = .ok (.iload_n 1, 1) := by decide +kernel
theorem dX3_line_1 : decode cX3_line 1 = .ok (.invokestatic 64, 3) := by decide +kernel
theorem dX3_line_4 : decode cX3_line 4 = .ok (.ifCond .eq 14, 3) := by decide +kernel
theorem dX3_line_7 : decode cX3_line 7 = .ok (.iload_n 2, 1) := by decide +kernel
theorem dX3_line_8 : decode cX3_line 8 = .ok (.iconst 0, 1) := by decide +kernel
theorem dX3_line_9 : decode cX3_line 9 = .ok (.sipush 255, 3) := by decide +kernel
theorem dX3_line_12 : decode cX3_line 12 = .ok (.invokestatic 68, 3) := by decide +kernel
theorem dX3_line_15 : decode cX3_line 15 = .ok (.ifCond .ne 6, 3) := by decide +kernel
theorem dX3_line_18 : decode cX3_line 18 = .ok (.bipush (-2), 2) := by decide +kernel
theorem dX3_line_20 : decode cX3_line 20 = .ok (.ireturn, 1) := by decide +kernel
theorem dX3_line_21 : decode cX3_line 21 = .ok (.aload_n 0, 1) := by decide +kernel
theorem dX3_line_22 : decode cX3_line 22 = .ok (.getfield 16, 3) := by decide +kernel
theorem dX3_line_25 : decode cX3_line 25 = .ok (.getfield 72, 3) := by decide +kernel
theorem dX3_line_28 : decode cX3_line 28 = .ok (.iload_n 1, 1) := by decide +kernel
theorem dX3_line_29 : decode cX3_line 29 = .ok (.iaload, 1) := by decide +kernel
theorem dX3_line_30 : decode cX3_line 30 = .ok (.istore_n 3, 1) := by decide +kernel
theorem dX3_line_31 : decode cX3_line 31 = .ok (.aload_n 0, 1) := by decide +kernel
theorem dX3_line_32 : decode cX3_line 32 = .ok (.getfield 16, 3) := by decide +kernel
theorem dX3_line_35 : decode cX3_line 35 = .ok (.getfield 72, 3) := by decide +kernel
theorem dX3_line_38 : decode cX3_line 38 = .ok (.iload_n 1, 1) := by decide +kernel
theorem dX3_line_39 : decode cX3_line 39 = .ok (.iload_n 2, 1) := by decide +kernel
theorem dX3_line_40 : decode cX3_line 40 = .ok (.iastore, 1) := by decide +kernel
theorem dX3_line_41 : decode cX3_line 41 = .ok (.aload_n 0, 1) := by decide +kernel
theorem dX3_line_42 : decode cX3_line 42 = .ok (.getfield 16, 3) := by decide +kernel
theorem dX3_line_45 : decode cX3_line 45 = .ok (.invokevirtual 61, 3) := by decide +kernel
theorem dX3_line_48 : decode cX3_line 48 = .ok (.iload_n 3, 1) := by decide +kernel
theorem dX3_line_49 : decode cX3_line 49 = .ok (.ireturn, 1) := by decide +kernel
theorem qq_X3_set_0 {c : Cond} (j : Nat) (h : wsX3_set_r1[j]? = some c) : c ∈ wsX3_set := List.mem_cons_of_mem _ (List.mem_append_left _ (List.mem_append_left _ (List.mem_append_left _ (List.mem_of_getElem? h))))
theorem qq_X3_set_1 {c : Cond} (j : Nat) (h : wsX3_set_r2[j]? = some c) : c ∈ wsX3_set := List.mem_cons_of_mem _ (List.mem_append_left _ (List.mem_append_left _ (List.mem_append_right _ (List.mem_append_left _ (List.mem_of_getElem? h)))))
theorem qq_X3_set_2 {c : Cond} (j : Nat) (h : wsX3_set_r3[j]? = some c) : c ∈ wsX3_set := List.mem_cons_of_mem _ (List.mem_append_left _ (List.mem_append_left _ (List.mem_append_right _ (List.mem_append_right _ (List.mem_append_left _ (List.mem_of_getElem? h))))))
theorem qq_X3_set_3 {c : Cond} (j : Nat) (h : wsX3_set_r4[j]? = some c) : c ∈ wsX3_set := List.mem_cons_of_mem _ (List.mem_append_left _ (List.mem_append_left _ (List.mem_append_right _ (List.mem_append_right _ (List.mem_append_right _ (List.mem_of_getElem? h))))))
theorem uq_X3_set_X3 : wsub wsX30 wsX3_set := fun _ h => List.mem_cons_of_mem _ (List.mem_append_left _ (List.mem_append_right _ (h)))
theorem uq_X3_set_X1 : wsub wsX10 wsX3_set := fun _ h => List.mem_cons_of_mem _ (List.mem_append_right _ (h))
set_option maxRecDepth 20000 in
theorem ggX3_set_X3_within : GoodIn wsX3_set wsX3_within := goodIn_sub (sb_c (qq_X3_set_0 7 rfl) (sb_n)) gw_X3_within
set_option maxRecDepth 20000 in
theorem gX3_set_X3_within : GoodIn wsX3_set (va_wsS RX3 68 yX3_within wsX3_within) := goodIn_app (goodIn_sub (sb_c (qq_X3_set_0 4 rfl) (sb_c (qq_X3_set_0 5 rfl) (sb_c (qq_X3_set_0 6 rfl) sb_n))) (by decide +kernel)) ggX3_set_X3_within
set_option maxRecDepth 20000 in
theorem ggX3_set_X1_print : GoodIn wsX3_set wsX1_print := goodIn_sub (sb_c (qq_X3_set_0 11 rfl) (sb_a (sb_a (sb_c (qq_X3_set_0 12 rfl) (sb_c (qq_X3_set_0 13 rfl) (sb_c (qq_X3_set_0 14 rfl) (sb_c (qq_X3_set_0 15 rfl) (sb_c (qq_X3_set_0 16 rfl) (sb_c (qq_X3_set_0 17 rfl) (sb_c (qq_X3_set_0 18 rfl) (sb_c (qq_X3_set_0 19 rfl) (sb_c (qq_X3_set_0 20 rfl) (sb_c (qq_X3_set_0 21 rfl) (sb_c (qq_X3_set_0 22 rfl) (sb_c (qq_X3_set_0 9 rfl) (sb_c (qq_X3_set_0 23 rfl) (sb_c (qq_X3_set_1 0 rfl) (sb_c (qq_X3_set_1 1 rfl) (sb_c (qq_X3_set_1 2 rfl) (sb_c (qq_X3_set_1 3 rfl) (sb_c (qq_X3_set_1 4 rfl) (sb_c (qq_X3_set_1 5 rfl) (sb_c (qq_X3_set_1 6 rfl) (sb_c (qq_X3_set_0 6 rfl) (sb_c (qq_X3_set_1 7 rfl) (sb_c (qq_X3_set_0 4 rfl) (sb_c (qq_X3_set_0 5 rfl) sb_n)))))))))))))))))))))))) (sb_a (sb_c (qq_X3_set_0 7 rfl) (sb_c (qq_X3_set_1 8 rfl) (sb_c (qq_X3_set_1 9 rfl) (sb_c (qq_X3_set_1 10 rfl) (sb_c (qq_X3_set_1 11 rfl) (sb_c (qq_X3_set_1 12 rfl) (sb_c (qq_X3_set_1 13 rfl) (sb_c (qq_X3_set_1 14 rfl) (sb_c (qq_X3_set_1 15 rfl) (sb_c (qq_X3_set_1 16 rfl) (sb_c (qq_X3_set_1 17 rfl) (sb_c (qq_X3_set_1 18 rfl) (sb_c (qq_X3_set_1 19 rfl) (sb_c (qq_X3_set_1 20 rfl) (sb_c (qq_X3_set_1 21 rfl) (sb_c (qq_X3_set_1 22 rfl) (sb_c (qq_X3_set_1 23 rfl) (sb_c (qq_X3_set_2 0 rfl) (sb_c (qq_X3_set_2 1 rfl) (sb_c (qq_X3_set_2 2 rfl) (sb_c (qq_X3_set_2 3 rfl) (sb_c (qq_X3_set_2 4 rfl) (sb_c (qq_X3_set_2 5 rfl) (sb_c (qq_X3_set_2 6 rfl) sb_n)))))))))))))))))))))))) (sb_a (sb_c (qq_X3_set_2 7 rfl) (sb_c (qq_X3_set_2 8 rfl) (sb_c (qq_X3_set_2 9 rfl) (sb_c (qq_X3_set_2 10 rfl) (sb_c (qq_X3_set_2 11 rfl) (sb_c (qq_X3_set_2 12 rfl) (sb_c (qq_X3_set_2 13 rfl) (sb_c (qq_X3_set_2 14 rfl) (sb_c (qq_X3_set_2 15 rfl) (sb_c (qq_X3_set_2 16 rfl) (sb_c (qq_X3_set_2 17 rfl) (sb_c (qq_X3_set_2 18 rfl) (sb_c (qq_X3_set_2 19 rfl) (sb_c (qq_X3_set_2 20 rfl) (sb_c (qq_X3_set_2 21 rfl) (sb_c (qq_X3_set_2 22 rfl) (sb_c (qq_X3_set_2 23 rfl) (sb_c (qq_X3_set_3 0 rfl) (sb_c (qq_X3_set_3 1 rfl) (sb_c (qq_X3_set_3 2 rfl) (sb_c (qq_X3_set_3 3 rfl) (sb_c (qq_X3_set_3 4 rfl) (sb_c (qq_X3_set_3 5 rfl) (sb_c (qq_X3_set_3 6 rfl) sb_n)))))))))))))))))))))))) (sb_c (qq_X3_set_3 7 rfl) (sb_c (qq_X3_set_3 8 rfl) (sb_c (qq_X3_set_3 9 rfl) (sb_c (qq_X3_set_3 10 rfl) (sb_c (qq_X3_set_3 11 rfl) (sb_c (qq_X3_set_3 12 rfl) (sb_c (qq_X3_set_3 13 rfl) (sb_c (qq_X3_set_3 14 rfl) (sb_c (qq_X3_set_3 15 rfl) (sb_c (qq_X3_set_3 16 rfl) (sb_c (qq_X3_set_3 17 rfl) (sb_c (qq_X3_set_3 18 rfl) (sb_c (qq_X3_set_3 19 rfl) (sb_c (qq_X3_set_3 20 rfl) sb_n))))))))))))))))) (uq_X3_set_X1))) gw_X1_print
set_option maxRecDepth 20000 in
theorem gX3_set_X1_print_n61 : GoodIn wsX3_set (wsX1_print) := ggX3_set_X1_print
theorem dX3_set_0 : decode cX3_set 0 = .ok (.iload_n 1, 1) := by decide +kernel
theorem dX3_set_1 : decode cX3_set 1 = .ok (.iconst 0, 1) := by decide +kernel
theorem dX3_set_2 : decode cX3_set 2 = .ok (.bipush 8, 2) := by decide +kernel
theorem dX3_set_4 : decode cX3_set 4 = .ok (.invokestatic 68, 3) := by decide +kernel
theorem dX3_set_7 : decode cX3_set 7 = .ok (.ifCond .eq 20, 3) := by decide +kernel
theorem dX3_set_10 : decode cX3_set 10 = .ok (.iload_n 2, 1) := by decide +kernel
theorem dX3_set_11 : decode cX3_set 11 = .ok (.getstatic 75, 3) := by decide +kernel
theorem dX3_set_14 : decode cX3_set 14 = .ok (.iload_n 1, 1) := by decide +kernel
theorem dX3_set_15 : decode cX3_set 15 = .ok (.iaload, 1) := by decide +kernel
theorem dX3_set_16 : decode cX3_set 16 = .ok (.getstatic 78, 3) := by decide +kernel
theorem dX3_set_19 : decode cX3_set 19 = .ok (.iload_n 1, 1) := by decide +kernel
theorem dX3_set_20 : decode cX3_set 20 = .ok (.iaload, 1) := by decide +kernel
theorem dX3_set_21 : decode cX3_set 21 = .ok (.invokestatic 68, 3) := by decide +kernel
theorem dX3_set_24 : decode cX3_set 24 = .ok (.ifCond .ne 6, 3) := by decide +kernel
theorem dX3_set_27 : decode cX3_set 27 = .ok (.ldc 81, 2) := by decide +kernel
theorem dX3_set_29 : decode cX3_set 29 = .ok (.ireturn, 1) := by decide +kernel
theorem dX3_set_30 : decode cX3_set 30 = .ok (.aload_n 0, 1) := by decide +kernel
theorem dX3_set_31 : decode cX3_set 31 = .ok (.getfield 16, 3) := by decide +kernel
theorem dX3_set_34 : decode cX3_set 34 = .ok (.getfield 82, 3) := by decide +kernel
theorem dX3_set_37 : decode cX3_set 37 = .ok (.iload_n 1, 1) := by decide +kernel
theorem dX3_set_38 : decode cX3_set 38 = .ok (.iaload, 1) := by decide +kernel
theorem dX3_set_39 : decode cX3_set 39 = .ok (.istore_n 3, 1) := by decide +kernel
theorem dX3_set_40 : decode cX3_set 40 = .ok (.aload_n 0, 1) := by decide +kernel
theorem dX3_set_41 : decode cX3_set 41 = .ok (.getfield 16, 3) := by decide +kernel
theorem dX3_set_44 : decode cX3_set 44 = .ok (.getfield 82, 3) := by decide +kernel
theorem dX3_set_47 : decode cX3_set 47 = .ok (.iload_n 1, 1) := by decide +kernel
theorem dX3_set_48 : decode cX3_set 48 = .ok (.iload_n 2, 1) := by decide +kernel
theorem dX3_set_49 : decode cX3_set 49 = .ok (.iastore, 1) := by decide +kernel
theorem dX3_set_50 : decode cX3_set 50 = .ok (.aload_n 0, 1) := by decide +kernel
theorem dX3_set_51 : decode cX3_set 51 = .ok (.getfield 16, 3) := by decide +kernel
theorem dX3_set_54 : decode cX3_set 54 = .ok (.invokevirtual 61, 3) := by decide +kernel
theorem dX3_set_57 : decode cX3_set 57 = .ok (.iload_n 3, 1) := by decide +kernel
theorem dX3_set_58 : decode cX3_set 58 = .ok (.ireturn, 1) := by decide +kernel
theorem qq_X3_event_0 {c : Cond} (j : Nat) (h : wsX3_event_r1[j]? = some c) : c ∈ wsX3_event := List.mem_cons_of_mem _ (List.mem_append_left _ (List.mem_append_left _ (List.mem_append_left _ (List.mem_append_left _ (List.mem_of_getElem? h)))))
theorem qq_X3_event_1 {c : Cond} (j : Nat) (h : wsX3_event_r2[j]? = some c) : c ∈ wsX3_event := List.mem_cons_of_mem _ (List.mem_append_left _ (List.mem_append_left _ (List.mem_append_left _ (List.mem_append_right _ (List.mem_append_left _ (List.mem_of_getElem? h))))))
theorem qq_X3_event_2 {c : Cond} (j : Nat) (h : wsX3_event_r3[j]? = some c) : c ∈ wsX3_event := List.mem_cons_of_mem _ (List.mem_append_left _ (List.mem_append_left _ (List.mem_append_left _ (List.mem_append_right _ (List.mem_append_right _ (List.mem_append_left _ (List.mem_of_getElem? h)))))))
theorem qq_X3_event_3 {c : Cond} (j : Nat) (h : wsX3_event_r4[j]? = some c) : c ∈ wsX3_event := List.mem_cons_of_mem _ (List.mem_append_left _ (List.mem_append_left _ (List.mem_append_left _ (List.mem_append_right _ (List.mem_append_right _ (List.mem_append_right _ (List.mem_append_left _ (List.mem_of_getElem? h))))))))
theorem qq_X3_event_4 {c : Cond} (j : Nat) (h : wsX3_event_r5[j]? = some c) : c ∈ wsX3_event := List.mem_cons_of_mem _ (List.mem_append_left _ (List.mem_append_left _ (List.mem_append_left _ (List.mem_append_right _ (List.mem_append_right _ (List.mem_append_right _ (List.mem_append_right _ (List.mem_of_getElem? h))))))))
theorem uq_X3_event_X3 : wsub wsX30 wsX3_event := fun _ h => List.mem_cons_of_mem _ (List.mem_append_left _ (List.mem_append_left _ (List.mem_append_right _ (h))))
theorem uq_X3_event_X0 : wsub wsX00 wsX3_event := fun _ h => List.mem_cons_of_mem _ (List.mem_append_left _ (List.mem_append_right _ (h)))
theorem uq_X3_event_X1 : wsub wsX10 wsX3_event := fun _ h => List.mem_cons_of_mem _ (List.mem_append_right _ (h))
set_option maxRecDepth 20000 in
theorem ggX3_event_X3_within : GoodIn wsX3_event wsX3_within := goodIn_sub (sb_c (qq_X3_event_0 5 rfl) (sb_n)) gw_X3_within
set_option maxRecDepth 20000 in
theorem gX3_event_X3_within : GoodIn wsX3_event (va_wsS RX3 68 yX3_within wsX3_within) := goodIn_app (goodIn_sub (sb_c (qq_X3_event_0 2 rfl) (sb_c (qq_X3_event_0 3 rfl) (sb_c (qq_X3_event_0 4 rfl) sb_n))) (by decide +kernel)) ggX3_event_X3_within
set_option maxRecDepth 20000 in
theorem gw_X0_add : wsX0_add.all goodWord = true := by decide +kernel
set_option maxRecDepth 20000 in
theorem ggX3_event_X0_add : GoodIn wsX3_event wsX0_add := goodIn_sub (sb_c (qq_X3_event_0 9 rfl) (sb_a (sb_c (qq_X3_event_0 10 rfl) (sb_c (qq_X3_event_0 11 rfl) (sb_c (qq_X3_event_0 12 rfl) (sb_c (qq_X3_event_0 13 rfl) sb_n)))) (uq_X3_event_X0))) gw_X0_add
set_option maxRecDepth 20000 in
theorem gX3_event_X0_add_n88 : GoodIn wsX3_event (wsX0_add) := ggX3_event_X0_add
set_option maxRecDepth 20000 in
theorem gw_X0_all : wsX0_all.all goodWord = true := by decide +kernel
set_option maxRecDepth 20000 in
theorem ggX3_event_X0_all : GoodIn wsX3_event wsX0_all := goodIn_sub (sb_c (qq_X3_event_0 16 rfl) (sb_a (sb_c (qq_X3_event_0 11 rfl) sb_n) (uq_X3_event_X0))) gw_X0_all
set_option maxRecDepth 20000 in
theorem gX3_event_X0_all_n92 : GoodIn wsX3_event (wsX0_all) := ggX3_event_X0_all
set_option maxRecDepth 20000 in
theorem gw_X0_livingBy : wsX0_livingBy.all goodWord = true := by decide +kernel
set_option maxRecDepth 20000 in
theorem ggX3_event_X0_livingBy : GoodIn wsX3_event wsX0_livingBy := goodIn_sub (sb_c (qq_X3_event_0 19 rfl) (sb_a (sb_c (qq_X3_event_0 11 rfl) (sb_c (qq_X3_event_0 12 rfl) (sb_c (qq_X3_event_0 20 rfl) (sb_c (qq_X3_event_0 21 rfl) (sb_c (qq_X3_event_0 22 rfl) (sb_c (qq_X3_event_0 23 rfl) (sb_c (qq_X3_event_1 0 rfl) (sb_c (qq_X3_event_1 1 rfl) (sb_c (qq_X3_event_1 2 rfl) (sb_c (qq_X3_event_0 7 rfl) (sb_c (qq_X3_event_1 3 rfl) (sb_c (qq_X3_event_0 10 rfl) (sb_c (qq_X3_event_0 13 rfl) sb_n))))))))))))) (uq_X3_event_X0))) gw_X0_livingBy
set_option maxRecDepth 20000 in
theorem gX3_event_X0_livingBy_n97 : GoodIn wsX3_event (wsX0_livingBy) := ggX3_event_X0_livingBy
set_option maxRecDepth 20000 in
theorem ggX3_event_X1_print : GoodIn wsX3_event wsX1_print := goodIn_sub (sb_c (qq_X3_event_1 7 rfl) (sb_a (sb_a (sb_c (qq_X3_event_1 8 rfl) (sb_c (qq_X3_event_1 9 rfl) (sb_c (qq_X3_event_1 10 rfl) (sb_c (qq_X3_event_1 11 rfl) (sb_c (qq_X3_event_1 12 rfl) (sb_c (qq_X3_event_1 13 rfl) (sb_c (qq_X3_event_1 14 rfl) (sb_c (qq_X3_event_1 15 rfl) (sb_c (qq_X3_event_1 16 rfl) (sb_c (qq_X3_event_1 17 rfl) (sb_c (qq_X3_event_1 18 rfl) (sb_c (qq_X3_event_1 5 rfl) (sb_c (qq_X3_event_1 19 rfl) (sb_c (qq_X3_event_1 20 rfl) (sb_c (qq_X3_event_1 21 rfl) (sb_c (qq_X3_event_1 22 rfl) (sb_c (qq_X3_event_0 21 rfl) (sb_c (qq_X3_event_0 22 rfl) (sb_c (qq_X3_event_0 23 rfl) (sb_c (qq_X3_event_1 23 rfl) (sb_c (qq_X3_event_0 4 rfl) (sb_c (qq_X3_event_2 0 rfl) (sb_c (qq_X3_event_0 2 rfl) (sb_c (qq_X3_event_0 3 rfl) sb_n)))))))))))))))))))))))) (sb_a (sb_c (qq_X3_event_0 5 rfl) (sb_c (qq_X3_event_2 1 rfl) (sb_c (qq_X3_event_2 2 rfl) (sb_c (qq_X3_event_2 3 rfl) (sb_c (qq_X3_event_2 4 rfl) (sb_c (qq_X3_event_2 5 rfl) (sb_c (qq_X3_event_2 6 rfl) (sb_c (qq_X3_event_2 7 rfl) (sb_c (qq_X3_event_2 8 rfl) (sb_c (qq_X3_event_2 9 rfl) (sb_c (qq_X3_event_2 10 rfl) (sb_c (qq_X3_event_2 11 rfl) (sb_c (qq_X3_event_2 12 rfl) (sb_c (qq_X3_event_2 13 rfl) (sb_c (qq_X3_event_2 14 rfl) (sb_c (qq_X3_event_2 15 rfl) (sb_c (qq_X3_event_2 16 rfl) (sb_c (qq_X3_event_2 17 rfl) (sb_c (qq_X3_event_2 18 rfl) (sb_c (qq_X3_event_2 19 rfl) (sb_c (qq_X3_event_2 20 rfl) (sb_c (qq_X3_event_2 21 rfl) (sb_c (qq_X3_event_2 22 rfl) (sb_c (qq_X3_event_2 23 rfl) sb_n)))))))))))))))))))))))) (sb_a (sb_c (qq_X3_event_3 0 rfl) (sb_c (qq_X3_event_3 1 rfl) (sb_c (qq_X3_event_3 2 rfl) (sb_c (qq_X3_event_3 3 rfl) (sb_c (qq_X3_event_3 4 rfl) (sb_c (qq_X3_event_3 5 rfl) (sb_c (qq_X3_event_3 6 rfl) (sb_c (qq_X3_event_3 7 rfl) (sb_c (qq_X3_event_3 8 rfl) (sb_c (qq_X3_event_3 9 rfl) (sb_c (qq_X3_event_3 10 rfl) (sb_c (qq_X3_event_3 11 rfl) (sb_c (qq_X3_event_3 12 rfl) (sb_c (qq_X3_event_3 13 rfl) (sb_c (qq_X3_event_3 14 rfl) (sb_c (qq_X3_event_3 15 rfl) (sb_c (qq_X3_event_3 16 rfl) (sb_c (qq_X3_event_3 17 rfl) (sb_c (qq_X3_event_3 18 rfl) (sb_c (qq_X3_event_3 19 rfl) (sb_c (qq_X3_event_3 20 rfl) (sb_c (qq_X3_event_3 21 rfl) (sb_c (qq_X3_event_3 22 rfl) (sb_c (qq_X3_event_3 23 rfl) sb_n)))))))))))))))))))))))) (sb_c (qq_X3_event_4 0 rfl) (sb_c (qq_X3_event_4 1 rfl) (sb_c (qq_X3_event_4 2 rfl) (sb_c (qq_X3_event_4 3 rfl) (sb_c (qq_X3_event_4 4 rfl) (sb_c (qq_X3_event_4 5 rfl) (sb_c (qq_X3_event_4 6 rfl) (sb_c (qq_X3_event_4 7 rfl) (sb_c (qq_X3_event_4 8 rfl) (sb_c (qq_X3_event_4 9 rfl) (sb_c (qq_X3_event_4 10 rfl) (sb_c (qq_X3_event_4 11 rfl) (sb_c (qq_X3_event_4 12 rfl) (sb_c (qq_X3_event_4 13 rfl) sb_n))))))))))))))))) (uq_X3_event_X1))) gw_X1_print
set_option maxRecDepth 20000 in
theorem gX3_event_X1_print_n61 : GoodIn wsX3_event (wsX1_print) := ggX3_event_X1_print
theorem dX3_event_0 : decode cX3_event 0 = .ok (.iload_n 1, 1) := by decide +kernel
theorem dX3_event_1 : decode cX3_event 1 = .ok (.iconst 0, 1) := by decide +kernel
theorem dX3_event_2 : decode cX3_event 2 = .ok (.iconst 1, 1) := by decide +kernel
theorem dX3_event_3 : decode cX3_event 3 = .ok (.invokestatic 68, 3) := by decide +kernel
theorem dX3_event_6 : decode cX3_event 6 = .ok (.ifCond .eq 23, 3) := by decide +kernel
theorem dX3_event_9 : decode cX3_event 9 = .ok (.iload_n 2, 1) := by decide +kernel
theorem dX3_event_10 : decode cX3_event 10 = .ok (.iconst 0, 1) := by decide +kernel
theorem dX3_event_11 : decode cX3_event 11 = .ok (.bipush 11, 2) := by decide +kernel
theorem dX3_event_13 : decode cX3_event 13 = .ok (.invokestatic 68, 3) := by decide +kernel
theorem dX3_event_16 : decode cX3_event 16 = .ok (.ifCond .eq 13, 3) := by decide +kernel
theorem dX3_event_19 : decode cX3_event 19 = .ok (.iload_n 3, 1) := by decide +kernel
theorem dX3_event_20 : decode cX3_event 20 = .ok (.iconst 0, 1) := by decide +kernel
theorem dX3_event_21 : decode cX3_event 21 = .ok (.bipush 7, 2) := by decide +kernel
theorem dX3_event_23 : decode cX3_event 23 = .ok (.invokestatic 68, 3) := by decide +kernel
theorem dX3_event_26 : decode cX3_event 26 = .ok (.ifCond .ne 6, 3) := by decide +kernel
theorem dX3_event_29 : decode cX3_event 29 = .ok (.bipush (-2), 2) := by decide +kernel
theorem dX3_event_31 : decode cX3_event 31 = .ok (.ireturn, 1) := by decide +kernel
theorem dX3_event_32 : decode cX3_event 32 = .ok (.aload_n 0, 1) := by decide +kernel
theorem dX3_event_33 : decode cX3_event 33 = .ok (.getfield 26, 3) := by decide +kernel
theorem dX3_event_36 : decode cX3_event 36 = .ok (.getfield 85, 3) := by decide +kernel
theorem dX3_event_39 : decode cX3_event 39 = .ok (.bipush 8, 2) := by decide +kernel
theorem dX3_event_41 : decode cX3_event 41 = .ok (.if_icmp .lt 6, 3) := by decide +kernel
theorem dX3_event_44 : decode cX3_event 44 = .ok (.bipush (-4), 2) := by decide +kernel
theorem dX3_event_46 : decode cX3_event 46 = .ok (.ireturn, 1) := by decide +kernel
theorem dX3_event_47 : decode cX3_event 47 = .ok (.aload_n 0, 1) := by decide +kernel
theorem dX3_event_48 : decode cX3_event 48 = .ok (.getfield 26, 3) := by decide +kernel
theorem dX3_event_51 : decode cX3_event 51 = .ok (.iload_n 1, 1) := by decide +kernel
theorem dX3_event_52 : decode cX3_event 52 = .ok (.iload_n 2, 1) := by decide +kernel
theorem dX3_event_53 : decode cX3_event 53 = .ok (.iload_n 3, 1) := by decide +kernel
theorem dX3_event_54 : decode cX3_event 54 = .ok (.invokevirtual 88, 3) := by decide +kernel
theorem dX3_event_57 : decode cX3_event 57 = .ok (.aload_n 0, 1) := by decide +kernel
theorem dX3_event_58 : decode cX3_event 58 = .ok (.getfield 26, 3) := by decide +kernel
theorem dX3_event_61 : decode cX3_event 61 = .ok (.aload_n 0, 1) := by decide +kernel
theorem dX3_event_62 : decode cX3_event 62 = .ok (.getfield 26, 3) := by decide +kernel
theorem dX3_event_65 : decode cX3_event 65 = .ok (.invokevirtual 92, 3) := by decide +kernel
theorem dX3_event_68 : decode cX3_event 68 = .ok (.aload_n 0, 1) := by decide +kernel
theorem dX3_event_69 : decode cX3_event 69 = .ok (.getfield 16, 3) := by decide +kernel
theorem dX3_event_72 : decode cX3_event 72 = .ok (.getfield 96, 3) := by decide +kernel
theorem dX3_event_75 : decode cX3_event 75 = .ok (.invokevirtual 97, 3) := by decide +kernel
theorem dX3_event_78 : decode cX3_event 78 = .ok (.aload_n 0, 1) := by decide +kernel
theorem dX3_event_79 : decode cX3_event 79 = .ok (.getfield 16, 3) := by decide +kernel
theorem dX3_event_82 : decode cX3_event 82 = .ok (.invokevirtual 61, 3) := by decide +kernel
theorem dX3_event_85 : decode cX3_event 85 = .ok (.aload_n 0, 1) := by decide +kernel
theorem dX3_event_86 : decode cX3_event 86 = .ok (.getfield 26, 3) := by decide +kernel
theorem dX3_event_89 : decode cX3_event 89 = .ok (.getfield 85, 3) := by decide +kernel
theorem dX3_event_92 : decode cX3_event 92 = .ok (.ireturn, 1) := by decide +kernel
theorem qq_X3_back_0 {c : Cond} (j : Nat) (h : wsX3_back_r1[j]? = some c) : c ∈ wsX3_back := List.mem_cons_of_mem _ (List.mem_append_left _ (List.mem_append_left _ (List.mem_append_left _ (List.mem_append_left _ (List.mem_of_getElem? h)))))
theorem qq_X3_back_1 {c : Cond} (j : Nat) (h : wsX3_back_r2[j]? = some c) : c ∈ wsX3_back := List.mem_cons_of_mem _ (List.mem_append_left _ (List.mem_append_left _ (List.mem_append_left _ (List.mem_append_right _ (List.mem_append_left _ (List.mem_of_getElem? h))))))
theorem qq_X3_back_2 {c : Cond} (j : Nat) (h : wsX3_back_r3[j]? = some c) : c ∈ wsX3_back := List.mem_cons_of_mem _ (List.mem_append_left _ (List.mem_append_left _ (List.mem_append_left _ (List.mem_append_right _ (List.mem_append_right _ (List.mem_append_left _ (List.mem_of_getElem? h)))))))
theorem qq_X3_back_3 {c : Cond} (j : Nat) (h : wsX3_back_r4[j]? = some c) : c ∈ wsX3_back := List.mem_cons_of_mem _ (List.mem_append_left _ (List.mem_append_left _ (List.mem_append_left _ (List.mem_append_right _ (List.mem_append_right _ (List.mem_append_right _ (List.mem_append_left _ (List.mem_of_getElem? h))))))))
theorem qq_X3_back_4 {c : Cond} (j : Nat) (h : wsX3_back_r5[j]? = some c) : c ∈ wsX3_back := List.mem_cons_of_mem _ (List.mem_append_left _ (List.mem_append_left _ (List.mem_append_left _ (List.mem_append_right _ (List.mem_append_right _ (List.mem_append_right _ (List.mem_append_right _ (List.mem_of_getElem? h))))))))
theorem uq_X3_back_X3 : wsub wsX30 wsX3_back := fun _ h => List.mem_cons_of_mem _ (List.mem_append_left _ (List.mem_append_left _ (List.mem_append_right _ (h))))
theorem uq_X3_back_X0 : wsub wsX00 wsX3_back := fun _ h => List.mem_cons_of_mem _ (List.mem_append_left _ (List.mem_append_right _ (h)))
theorem uq_X3_back_X1 : wsub wsX10 wsX3_back := fun _ h => List.mem_cons_of_mem _ (List.mem_append_right _ (h))
set_option maxRecDepth 20000 in
theorem ggX3_back_X0_all : GoodIn wsX3_back wsX0_all := goodIn_sub (sb_c (qq_X3_back_0 5 rfl) (sb_a (sb_c (qq_X3_back_0 6 rfl) sb_n) (uq_X3_back_X0))) gw_X0_all
set_option maxRecDepth 20000 in
theorem gX3_back_X0_all_n92 : GoodIn wsX3_back (wsX0_all) := ggX3_back_X0_all
set_option maxRecDepth 20000 in
theorem ggX3_back_X0_livingBy : GoodIn wsX3_back wsX0_livingBy := goodIn_sub (sb_c (qq_X3_back_0 9 rfl) (sb_a (sb_c (qq_X3_back_0 6 rfl) (sb_c (qq_X3_back_0 10 rfl) (sb_c (qq_X3_back_0 11 rfl) (sb_c (qq_X3_back_0 12 rfl) (sb_c (qq_X3_back_0 13 rfl) (sb_c (qq_X3_back_0 14 rfl) (sb_c (qq_X3_back_0 15 rfl) (sb_c (qq_X3_back_0 16 rfl) (sb_c (qq_X3_back_0 17 rfl) (sb_c (qq_X3_back_0 3 rfl) (sb_c (qq_X3_back_0 18 rfl) (sb_c (qq_X3_back_0 19 rfl) (sb_c (qq_X3_back_0 20 rfl) sb_n))))))))))))) (uq_X3_back_X0))) gw_X0_livingBy
set_option maxRecDepth 20000 in
theorem gX3_back_X0_livingBy_n97 : GoodIn wsX3_back (wsX0_livingBy) := ggX3_back_X0_livingBy
set_option maxRecDepth 20000 in
theorem ggX3_back_X1_print : GoodIn wsX3_back wsX1_print := goodIn_sub (sb_c (qq_X3_back_1 0 rfl) (sb_a (sb_a (sb_c (qq_X3_back_1 1 rfl) (sb_c (qq_X3_back_1 2 rfl) (sb_c (qq_X3_back_1 3 rfl) (sb_c (qq_X3_back_1 4 rfl) (sb_c (qq_X3_back_1 5 rfl) (sb_c (qq_X3_back_1 6 rfl) (sb_c (qq_X3_back_1 7 rfl) (sb_c (qq_X3_back_1 8 rfl) (sb_c (qq_X3_back_1 9 rfl) (sb_c (qq_X3_back_1 10 rfl) (sb_c (qq_X3_back_1 11 rfl) (sb_c (qq_X3_back_0 22 rfl) (sb_c (qq_X3_back_1 12 rfl) (sb_c (qq_X3_back_1 13 rfl) (sb_c (qq_X3_back_1 14 rfl) (sb_c (qq_X3_back_1 15 rfl) (sb_c (qq_X3_back_0 12 rfl) (sb_c (qq_X3_back_0 13 rfl) (sb_c (qq_X3_back_0 14 rfl) (sb_c (qq_X3_back_1 16 rfl) (sb_c (qq_X3_back_1 17 rfl) (sb_c (qq_X3_back_1 18 rfl) (sb_c (qq_X3_back_1 19 rfl) (sb_c (qq_X3_back_1 20 rfl) sb_n)))))))))))))))))))))))) (sb_a (sb_c (qq_X3_back_1 21 rfl) (sb_c (qq_X3_back_1 22 rfl) (sb_c (qq_X3_back_1 23 rfl) (sb_c (qq_X3_back_2 0 rfl) (sb_c (qq_X3_back_2 1 rfl) (sb_c (qq_X3_back_2 2 rfl) (sb_c (qq_X3_back_2 3 rfl) (sb_c (qq_X3_back_2 4 rfl) (sb_c (qq_X3_back_2 5 rfl) (sb_c (qq_X3_back_2 6 rfl) (sb_c (qq_X3_back_2 7 rfl) (sb_c (qq_X3_back_2 8 rfl) (sb_c (qq_X3_back_2 9 rfl) (sb_c (qq_X3_back_2 10 rfl) (sb_c (qq_X3_back_2 11 rfl) (sb_c (qq_X3_back_2 12 rfl) (sb_c (qq_X3_back_2 13 rfl) (sb_c (qq_X3_back_2 14 rfl) (sb_c (qq_X3_back_2 15 rfl) (sb_c (qq_X3_back_2 16 rfl) (sb_c (qq_X3_back_2 17 rfl) (sb_c (qq_X3_back_2 18 rfl) (sb_c (qq_X3_back_2 19 rfl) (sb_c (qq_X3_back_2 20 rfl) sb_n)))))))))))))))))))))))) (sb_a (sb_c (qq_X3_back_2 21 rfl) (sb_c (qq_X3_back_2 22 rfl) (sb_c (qq_X3_back_2 23 rfl) (sb_c (qq_X3_back_3 0 rfl) (sb_c (qq_X3_back_3 1 rfl) (sb_c (qq_X3_back_3 2 rfl) (sb_c (qq_X3_back_3 3 rfl) (sb_c (qq_X3_back_3 4 rfl) (sb_c (qq_X3_back_3 5 rfl) (sb_c (qq_X3_back_3 6 rfl) (sb_c (qq_X3_back_3 7 rfl) (sb_c (qq_X3_back_3 8 rfl) (sb_c (qq_X3_back_3 9 rfl) (sb_c (qq_X3_back_3 10 rfl) (sb_c (qq_X3_back_3 11 rfl) (sb_c (qq_X3_back_3 12 rfl) (sb_c (qq_X3_back_3 13 rfl) (sb_c (qq_X3_back_3 14 rfl) (sb_c (qq_X3_back_3 15 rfl) (sb_c (qq_X3_back_3 16 rfl) (sb_c (qq_X3_back_3 17 rfl) (sb_c (qq_X3_back_3 18 rfl) (sb_c (qq_X3_back_3 19 rfl) (sb_c (qq_X3_back_3 20 rfl) sb_n)))))))))))))))))))))))) (sb_c (qq_X3_back_3 21 rfl) (sb_c (qq_X3_back_3 22 rfl) (sb_c (qq_X3_back_3 23 rfl) (sb_c (qq_X3_back_4 0 rfl) (sb_c (qq_X3_back_4 1 rfl) (sb_c (qq_X3_back_4 2 rfl) (sb_c (qq_X3_back_4 3 rfl) (sb_c (qq_X3_back_4 4 rfl) (sb_c (qq_X3_back_4 5 rfl) (sb_c (qq_X3_back_4 6 rfl) (sb_c (qq_X3_back_4 7 rfl) (sb_c (qq_X3_back_4 8 rfl) (sb_c (qq_X3_back_4 9 rfl) (sb_c (qq_X3_back_4 10 rfl) sb_n))))))))))))))))) (uq_X3_back_X1))) gw_X1_print
set_option maxRecDepth 20000 in
theorem gX3_back_X1_print_n61 : GoodIn wsX3_back (wsX1_print) := ggX3_back_X1_print
theorem dX3_back_0 : decode cX3_back 0 = .ok (.aload_n 0, 1) := by decide +kernel
theorem dX3_back_1 : decode cX3_back 1 = .ok (.getfield 26, 3) := by decide +kernel
theorem dX3_back_4 : decode cX3_back 4 = .ok (.getfield 85, 3) := by decide +kernel
theorem dX3_back_7 : decode cX3_back 7 = .ok (.ifCond .gt 6, 3) := by decide +kernel
theorem dX3_back_10 : decode cX3_back 10 = .ok (.bipush (-3), 2) := by decide +kernel
theorem dX3_back_12 : decode cX3_back 12 = .ok (.ireturn, 1) := by decide +kernel
theorem dX3_back_13 : decode cX3_back 13 = .ok (.aload_n 0, 1) := by decide +kernel
theorem dX3_back_14 : decode cX3_back 14 = .ok (.getfield 26, 3) := by decide +kernel
theorem dX3_back_17 : decode cX3_back 17 = .ok (.dup, 1) := by decide +kernel
theorem dX3_back_18 : decode cX3_back 18 = .ok (.getfield 85, 3) := by decide +kernel
theorem dX3_back_21 : decode cX3_back 21 = .ok (.iconst 1, 1) := by decide +kernel
theorem dX3_back_22 : decode cX3_back 22 = .ok (.isub, 1) := by decide +kernel
theorem dX3_back_23 : decode cX3_back 23 = .ok (.putfield 85, 3) := by decide +kernel
theorem dX3_back_26 : decode cX3_back 26 = .ok (.aload_n 0, 1) := by decide +kernel
theorem dX3_back_27 : decode cX3_back 27 = .ok (.getfield 26, 3) := by decide +kernel
theorem dX3_back_30 : decode cX3_back 30 = .ok (.aload_n 0, 1) := by decide +kernel
theorem dX3_back_31 : decode cX3_back 31 = .ok (.getfield 26, 3) := by decide +kernel
theorem dX3_back_34 : decode cX3_back 34 = .ok (.invokevirtual 92, 3) := by decide +kernel
theorem dX3_back_37 : decode cX3_back 37 = .ok (.aload_n 0, 1) := by decide +kernel
theorem dX3_back_38 : decode cX3_back 38 = .ok (.getfield 16, 3) := by decide +kernel
theorem dX3_back_41 : decode cX3_back 41 = .ok (.getfield 96, 3) := by decide +kernel
theorem dX3_back_44 : decode cX3_back 44 = .ok (.invokevirtual 97, 3) := by decide +kernel
theorem dX3_back_47 : decode cX3_back 47 = .ok (.aload_n 0, 1) := by decide +kernel
theorem dX3_back_48 : decode cX3_back 48 = .ok (.getfield 16, 3) := by decide +kernel
theorem dX3_back_51 : decode cX3_back 51 = .ok (.invokevirtual 61, 3) := by decide +kernel
theorem dX3_back_54 : decode cX3_back 54 = .ok (.aload_n 0, 1) := by decide +kernel
theorem dX3_back_55 : decode cX3_back 55 = .ok (.getfield 26, 3) := by decide +kernel
theorem dX3_back_58 : decode cX3_back 58 = .ok (.getfield 85, 3) := by decide +kernel
theorem dX3_back_61 : decode cX3_back 61 = .ok (.ireturn, 1) := by decide +kernel
theorem qq_X3_read_0 {c : Cond} (j : Nat) (h : wsX3_read_r1[j]? = some c) : c ∈ wsX3_read := List.mem_cons_of_mem _ (List.mem_append_left _ (List.mem_append_left _ (List.mem_append_left _ (List.mem_append_left _ (List.mem_of_getElem? h)))))
theorem qq_X3_read_1 {c : Cond} (j : Nat) (h : wsX3_read_r2[j]? = some c) : c ∈ wsX3_read := List.mem_cons_of_mem _ (List.mem_append_left _ (List.mem_append_left _ (List.mem_append_left _ (List.mem_append_right _ (List.mem_append_left _ (List.mem_of_getElem? h))))))
theorem qq_X3_read_2 {c : Cond} (j : Nat) (h : wsX3_read_r3[j]? = some c) : c ∈ wsX3_read := List.mem_cons_of_mem _ (List.mem_append_left _ (List.mem_append_left _ (List.mem_append_left _ (List.mem_append_right _ (List.mem_append_right _ (List.mem_append_left _ (List.mem_of_getElem? h)))))))
theorem qq_X3_read_3 {c : Cond} (j : Nat) (h : wsX3_read_r4[j]? = some c) : c ∈ wsX3_read := List.mem_cons_of_mem _ (List.mem_append_left _ (List.mem_append_left _ (List.mem_append_left _ (List.mem_append_right _ (List.mem_append_right _ (List.mem_append_right _ (List.mem_append_left _ (List.mem_of_getElem? h))))))))
theorem qq_X3_read_4 {c : Cond} (j : Nat) (h : wsX3_read_r5[j]? = some c) : c ∈ wsX3_read := List.mem_cons_of_mem _ (List.mem_append_left _ (List.mem_append_left _ (List.mem_append_left _ (List.mem_append_right _ (List.mem_append_right _ (List.mem_append_right _ (List.mem_append_right _ (List.mem_of_getElem? h))))))))
theorem uq_X3_read_X3 : wsub wsX30 wsX3_read := fun _ h => List.mem_cons_of_mem _ (List.mem_append_left _ (List.mem_append_left _ (List.mem_append_right _ (h))))
theorem uq_X3_read_X2 : wsub wsX20 wsX3_read := fun _ h => List.mem_cons_of_mem _ (List.mem_append_left _ (List.mem_append_right _ (h)))
theorem uq_X3_read_X1 : wsub wsX10 wsX3_read := fun _ h => List.mem_cons_of_mem _ (List.mem_append_right _ (h))
set_option maxRecDepth 20000 in
theorem gw_X3_isSheet : wsX3_isSheet.all goodWord = true := by decide +kernel
set_option maxRecDepth 20000 in
theorem ggX3_read_X3_isSheet : GoodIn wsX3_read wsX3_isSheet := goodIn_sub (sb_c (qq_X3_read_0 9 rfl) (sb_c (qq_X3_read_0 10 rfl) (sb_c (qq_X3_read_0 11 rfl) (sb_c (qq_X3_read_0 8 rfl) (sb_c (qq_X3_read_0 12 rfl) sb_n))))) gw_X3_isSheet
set_option maxRecDepth 20000 in
theorem gX3_read_X3_isSheet : GoodIn wsX3_read (va_wsS RX3 101 yX3_isSheet wsX3_isSheet) := goodIn_app (goodIn_sub (sb_c (qq_X3_read_0 6 rfl) (sb_c (qq_X3_read_0 7 rfl) (sb_c (qq_X3_read_0 8 rfl) sb_n))) (by decide +kernel)) ggX3_read_X3_isSheet
set_option maxRecDepth 20000 in
theorem gw_X3_finding : wsX3_finding.all goodWord = true := by decide +kernel
set_option maxRecDepth 20000 in
theorem ggX3_read_X3_finding : GoodIn wsX3_read wsX3_finding := goodIn_sub (sb_c (qq_X3_read_0 16 rfl) (sb_a (sb_c (qq_X3_read_0 17 rfl) sb_n) (uq_X3_read_X3))) gw_X3_finding
set_option maxRecDepth 20000 in
theorem gX3_read_X3_finding : GoodIn wsX3_read (wsV RX3 108 RX3 yX3_finding wsX3_finding) := goodIn_app (goodIn_sub (sb_c (qq_X3_read_0 13 rfl) (sb_c (qq_X3_read_0 14 rfl) (sb_c (qq_X3_read_0 15 rfl) (sb_c (qq_X3_read_0 8 rfl) sb_n)))) (by decide +kernel)) ggX3_read_X3_finding
set_option maxRecDepth 20000 in
theorem ggX3_read_X3_within : GoodIn wsX3_read wsX3_within := goodIn_sub (sb_c (qq_X3_read_0 12 rfl) (sb_n)) gw_X3_within
set_option maxRecDepth 20000 in
theorem gX3_read_X3_within : GoodIn wsX3_read (va_wsS RX3 68 yX3_within wsX3_within) := goodIn_app (goodIn_sub (sb_c (qq_X3_read_0 10 rfl) (sb_c (qq_X3_read_0 11 rfl) (sb_c (qq_X3_read_0 8 rfl) sb_n))) (by decide +kernel)) ggX3_read_X3_within
set_option maxRecDepth 20000 in
theorem ggX3_read_X1_print : GoodIn wsX3_read wsX1_print := goodIn_sub (sb_c (qq_X3_read_0 21 rfl) (sb_a (sb_a (sb_c (qq_X3_read_0 22 rfl) (sb_c (qq_X3_read_0 23 rfl) (sb_c (qq_X3_read_1 0 rfl) (sb_c (qq_X3_read_1 1 rfl) (sb_c (qq_X3_read_1 2 rfl) (sb_c (qq_X3_read_1 3 rfl) (sb_c (qq_X3_read_1 4 rfl) (sb_c (qq_X3_read_1 5 rfl) (sb_c (qq_X3_read_1 6 rfl) (sb_c (qq_X3_read_1 7 rfl) (sb_c (qq_X3_read_1 8 rfl) (sb_c (qq_X3_read_0 19 rfl) (sb_c (qq_X3_read_1 9 rfl) (sb_c (qq_X3_read_1 10 rfl) (sb_c (qq_X3_read_1 11 rfl) (sb_c (qq_X3_read_1 12 rfl) (sb_c (qq_X3_read_1 13 rfl) (sb_c (qq_X3_read_1 14 rfl) (sb_c (qq_X3_read_1 15 rfl) (sb_c (qq_X3_read_1 16 rfl) (sb_c (qq_X3_read_0 8 rfl) (sb_c (qq_X3_read_1 17 rfl) (sb_c (qq_X3_read_0 10 rfl) (sb_c (qq_X3_read_0 11 rfl) sb_n)))))))))))))))))))))))) (sb_a (sb_c (qq_X3_read_0 12 rfl) (sb_c (qq_X3_read_1 18 rfl) (sb_c (qq_X3_read_1 19 rfl) (sb_c (qq_X3_read_1 20 rfl) (sb_c (qq_X3_read_1 21 rfl) (sb_c (qq_X3_read_1 22 rfl) (sb_c (qq_X3_read_1 23 rfl) (sb_c (qq_X3_read_2 0 rfl) (sb_c (qq_X3_read_2 1 rfl) (sb_c (qq_X3_read_2 2 rfl) (sb_c (qq_X3_read_2 3 rfl) (sb_c (qq_X3_read_2 4 rfl) (sb_c (qq_X3_read_2 5 rfl) (sb_c (qq_X3_read_2 6 rfl) (sb_c (qq_X3_read_2 7 rfl) (sb_c (qq_X3_read_2 8 rfl) (sb_c (qq_X3_read_2 9 rfl) (sb_c (qq_X3_read_2 10 rfl) (sb_c (qq_X3_read_2 11 rfl) (sb_c (qq_X3_read_2 12 rfl) (sb_c (qq_X3_read_2 13 rfl) (sb_c (qq_X3_read_2 14 rfl) (sb_c (qq_X3_read_2 15 rfl) (sb_c (qq_X3_read_2 16 rfl) sb_n)))))))))))))))))))))))) (sb_a (sb_c (qq_X3_read_2 17 rfl) (sb_c (qq_X3_read_2 18 rfl) (sb_c (qq_X3_read_2 19 rfl) (sb_c (qq_X3_read_2 20 rfl) (sb_c (qq_X3_read_2 21 rfl) (sb_c (qq_X3_read_2 22 rfl) (sb_c (qq_X3_read_2 23 rfl) (sb_c (qq_X3_read_3 0 rfl) (sb_c (qq_X3_read_3 1 rfl) (sb_c (qq_X3_read_3 2 rfl) (sb_c (qq_X3_read_3 3 rfl) (sb_c (qq_X3_read_3 4 rfl) (sb_c (qq_X3_read_3 5 rfl) (sb_c (qq_X3_read_3 6 rfl) (sb_c (qq_X3_read_3 7 rfl) (sb_c (qq_X3_read_3 8 rfl) (sb_c (qq_X3_read_0 2 rfl) (sb_c (qq_X3_read_0 3 rfl) (sb_c (qq_X3_read_0 4 rfl) (sb_c (qq_X3_read_3 9 rfl) (sb_c (qq_X3_read_3 10 rfl) (sb_c (qq_X3_read_3 11 rfl) (sb_c (qq_X3_read_3 12 rfl) (sb_c (qq_X3_read_3 13 rfl) sb_n)))))))))))))))))))))))) (sb_c (qq_X3_read_3 14 rfl) (sb_c (qq_X3_read_3 15 rfl) (sb_c (qq_X3_read_3 16 rfl) (sb_c (qq_X3_read_3 17 rfl) (sb_c (qq_X3_read_3 18 rfl) (sb_c (qq_X3_read_3 19 rfl) (sb_c (qq_X3_read_3 20 rfl) (sb_c (qq_X3_read_3 21 rfl) (sb_c (qq_X3_read_3 22 rfl) (sb_c (qq_X3_read_3 23 rfl) (sb_c (qq_X3_read_4 0 rfl) (sb_c (qq_X3_read_4 1 rfl) (sb_c (qq_X3_read_4 2 rfl) (sb_c (qq_X3_read_4 3 rfl) sb_n))))))))))))))))) (uq_X3_read_X1))) gw_X1_print
set_option maxRecDepth 20000 in
theorem gX3_read_X1_print_n61 : GoodIn wsX3_read (wsX1_print) := ggX3_read_X1_print
theorem dX3_read_0 : decode cX3_read 0 = .ok (.iload_n 1, 1) := by decide +kernel
theorem dX3_read_1 : decode cX3_read 1 = .ok (.invokestatic 101, 3) := by decide +kernel
theorem dX3_read_4 : decode cX3_read 4 = .ok (.ifCond .ne 6, 3) := by decide +kernel
theorem dX3_read_7 : decode cX3_read 7 = .ok (.bipush (-2), 2) := by decide +kernel
theorem dX3_read_9 : decode cX3_read 9 = .ok (.ireturn, 1) := by decide +kernel
theorem dX3_read_10 : decode cX3_read 10 = .ok (.aload_n 0, 1) := by decide +kernel
theorem dX3_read_11 : decode cX3_read 11 = .ok (.getfield 54, 3) := by decide +kernel
theorem dX3_read_14 : decode cX3_read 14 = .ok (.iload_n 1, 1) := by decide +kernel
theorem dX3_read_15 : decode cX3_read 15 = .ok (.aaload, 1) := by decide +kernel
theorem dX3_read_16 : decode cX3_read 16 = .ok (.astore_n 2, 1) := by decide +kernel
theorem dX3_read_17 : decode cX3_read 17 = .ok (.aload_n 2, 1) := by decide +kernel
theorem dX3_read_18 : decode cX3_read 18 = .ok (.getfield 104, 3) := by decide +kernel
theorem dX3_read_21 : decode cX3_read 21 = .ok (.ifCond .eq 9, 3) := by decide +kernel
theorem dX3_read_24 : decode cX3_read 24 = .ok (.aload_n 0, 1) := by decide +kernel
theorem dX3_read_25 : decode cX3_read 25 = .ok (.iconst 1, 1) := by decide +kernel
theorem dX3_read_26 : decode cX3_read 26 = .ok (.invokevirtual 108, 3) := by decide +kernel
theorem dX3_read_29 : decode cX3_read 29 = .ok (.ireturn, 1) := by decide +kernel
theorem dX3_read_30 : decode cX3_read 30 = .ok (.aload_n 2, 1) := by decide +kernel
theorem dX3_read_31 : decode cX3_read 31 = .ok (.getfield 112, 3) := by decide +kernel
theorem dX3_read_34 : decode cX3_read 34 = .ok (.bipush 16, 2) := by decide +kernel
theorem dX3_read_36 : decode cX3_read 36 = .ok (.invokestatic 113, 3) := by decide +kernel
theorem dX3_read_39 : decode cX3_read 39 = .ok (.istore_n 3, 1) := by decide +kernel
theorem dX3_read_40 : decode cX3_read 40 = .ok (.iconst 0, 1) := by decide +kernel
theorem dX3_read_41 : decode cX3_read 41 = .ok (.istore 4, 2) := by decide +kernel
theorem dX3_read_43 : decode cX3_read 43 = .ok (.iload 4, 2) := by decide +kernel
theorem dX3_read_45 : decode cX3_read 45 = .ok (.iload_n 3, 1) := by decide +kernel
theorem dX3_read_46 : decode cX3_read 46 = .ok (.if_icmp .ge 43, 3) := by decide +kernel
theorem dX3_read_49 : decode cX3_read 49 = .ok (.aload_n 2, 1) := by decide +kernel
theorem dX3_read_50 : decode cX3_read 50 = .ok (.getfield 119, 3) := by decide +kernel
theorem dX3_read_53 : decode cX3_read 53 = .ok (.iload 4, 2) := by decide +kernel
theorem dX3_read_55 : decode cX3_read 55 = .ok (.iaload, 1) := by decide +kernel
theorem dX3_read_56 : decode cX3_read 56 = .ok (.iconst 0, 1) := by decide +kernel
theorem dX3_read_57 : decode cX3_read 57 = .ok (.sipush 255, 3) := by decide +kernel
theorem dX3_read_60 : decode cX3_read 60 = .ok (.invokestatic 68, 3) := by decide +kernel
theorem dX3_read_63 : decode cX3_read 63 = .ok (.ifCond .eq 26, 3) := by decide +kernel
theorem dX3_read_66 : decode cX3_read 66 = .ok (.aload_n 0, 1) := by decide +kernel
theorem dX3_read_67 : decode cX3_read 67 = .ok (.getfield 16, 3) := by decide +kernel
theorem dX3_read_70 : decode cX3_read 70 = .ok (.getfield 72, 3) := by decide +kernel
theorem dX3_read_73 : decode cX3_read 73 = .ok (.iload 4, 2) := by decide +kernel
theorem dX3_read_75 : decode cX3_read 75 = .ok (.aload_n 2, 1) := by decide +kernel
theorem dX3_read_76 : decode cX3_read 76 = .ok (.getfield 119, 3) := by decide +kernel
theorem dX3_read_79 : decode cX3_read 79 = .ok (.iload 4, 2) := by decide +kernel
theorem dX3_read_81 : decode cX3_read 81 = .ok (.iaload, 1) := by decide +kernel
theorem dX3_read_82 : decode cX3_read 82 = .ok (.iastore, 1) := by decide +kernel
theorem dX3_read_83 : decode cX3_read 83 = .ok (.iinc 4 1, 3) := by decide +kernel
theorem dX3_read_86 : decode cX3_read 86 = .ok (.goto (-43), 3) := by decide +kernel
theorem dX3_read_89 : decode cX3_read 89 = .ok (.aload_n 0, 1) := by decide +kernel
theorem dX3_read_90 : decode cX3_read 90 = .ok (.getfield 16, 3) := by decide +kernel
theorem dX3_read_93 : decode cX3_read 93 = .ok (.invokevirtual 61, 3) := by decide +kernel
theorem dX3_read_96 : decode cX3_read 96 = .ok (.iload 4, 2) := by decide +kernel
theorem dX3_read_98 : decode cX3_read 98 = .ok (.ireturn, 1) := by decide +kernel
theorem qq_X3_hits_0 {c : Cond} (j : Nat) (h : ([.fieldLink RX3 16 "InkSwaths" "told" "LInkSwaths$Plan;", .methodLink RX3 64 yX3_isLine, .static yX3_isLine, .initialized RX3, .code yX3_isLine cX3_isLine 1 (some .boolean), .methodLink RX3 68 yX3_within, .static yX3_within, .code yX3_within cX3_within 3 (some .boolean)] : List Cond)[j]? = some c) : c ∈ wsX3_hits := List.mem_cons_of_mem _ (List.mem_append_left _ (List.mem_append_left _ (List.mem_of_getElem? h)))
theorem uq_X3_hits_X3 : wsub wsX30 wsX3_hits := fun _ h => List.mem_cons_of_mem _ (List.mem_append_left _ (List.mem_append_right _ (h)))
theorem uq_X3_hits_X1 : wsub wsX10 wsX3_hits := fun _ h => List.mem_cons_of_mem _ (List.mem_append_right _ (h))
set_option maxRecDepth 20000 in
theorem ggX3_hits_X3_isLine : GoodIn wsX3_hits wsX3_isLine := goodIn_sub (sb_c (qq_X3_hits_0 4 rfl) (sb_c (qq_X3_hits_0 5 rfl) (sb_c (qq_X3_hits_0 6 rfl) (sb_c (qq_X3_hits_0 3 rfl) (sb_c (qq_X3_hits_0 7 rfl) sb_n))))) gw_X3_isLine
set_option maxRecDepth 20000 in
theorem gX3_hits_X3_isLine : GoodIn wsX3_hits (va_wsS RX3 64 yX3_isLine wsX3_isLine) := goodIn_app (goodIn_sub (sb_c (qq_X3_hits_0 1 rfl) (sb_c (qq_X3_hits_0 2 rfl) (sb_c (qq_X3_hits_0 3 rfl) sb_n))) (by decide +kernel)) ggX3_hits_X3_isLine
theorem dX3_hits_0 : decode cX3_hits 0 = .ok (.iload_n 1, 1) := by decide +kernel
theorem dX3_hits_1 : decode cX3_hits 1 = .ok (.invokestatic 64, 3) := by decide +kernel
theorem dX3_hits_4 : decode cX3_hits 4 = .ok (.ifCond .eq 15, 3) := by decide +kernel
theorem dX3_hits_7 : decode cX3_hits 7 = .ok (.aload_n 0, 1) := by decide +kernel
theorem dX3_hits_8 : decode cX3_hits 8 = .ok (.getfield 16, 3) := by decide +kernel
theorem dX3_hits_11 : decode cX3_hits 11 = .ok (.getfield 122, 3) := by decide +kernel
theorem dX3_hits_14 : decode cX3_hits 14 = .ok (.iload_n 1, 1) := by decide +kernel
theorem dX3_hits_15 : decode cX3_hits 15 = .ok (.iaload, 1) := by decide +kernel
theorem dX3_hits_16 : decode cX3_hits 16 = .ok (.goto 5, 3) := by decide +kernel
theorem dX3_hits_19 : decode cX3_hits 19 = .ok (.bipush (-2), 2) := by decide +kernel
theorem dX3_hits_21 : decode cX3_hits 21 = .ok (.ireturn, 1) := by decide +kernel
theorem qq_X3_hit_0 {c : Cond} (j : Nat) (h : ([.fieldLink RX3 16 "InkSwaths" "told" "LInkSwaths$Plan;", .methodLink RX3 64 yX3_isLine, .static yX3_isLine, .initialized RX3, .code yX3_isLine cX3_isLine 1 (some .boolean), .methodLink RX3 68 yX3_within, .static yX3_within, .code yX3_within cX3_within 3 (some .boolean), .instanceMethod yX1_passOf, .initialized RX1, .selects RX1 yX1_passOf yX1_passOf, .code yX1_passOf cX1_passOf 3 (some .int), .fieldLink RX1 32 "InkSwaths$Plan" "hitPlace" "[I", .instanceMethod yX1_nozzleOf, .selects RX1 yX1_nozzleOf yX1_nozzleOf, .code yX1_nozzleOf cX1_nozzleOf 3 (some .int)] : List Cond)[j]? = some c) : c ∈ wsX3_hit := List.mem_cons_of_mem _ (List.mem_append_left _ (List.mem_append_left _ (List.mem_of_getElem? h)))
theorem uq_X3_hit_X3 : wsub wsX30 wsX3_hit := fun _ h => List.mem_cons_of_mem _ (List.mem_append_left _ (List.mem_append_right _ (h)))
theorem uq_X3_hit_X1 : wsub wsX10 wsX3_hit := fun _ h => List.mem_cons_of_mem _ (List.mem_append_right _ (h))
set_option maxRecDepth 20000 in
theorem ggX3_hit_X3_isLine : GoodIn wsX3_hit wsX3_isLine := goodIn_sub (sb_c (qq_X3_hit_0 4 rfl) (sb_c (qq_X3_hit_0 5 rfl) (sb_c (qq_X3_hit_0 6 rfl) (sb_c (qq_X3_hit_0 3 rfl) (sb_c (qq_X3_hit_0 7 rfl) sb_n))))) gw_X3_isLine
set_option maxRecDepth 20000 in
theorem gX3_hit_X3_isLine : GoodIn wsX3_hit (va_wsS RX3 64 yX3_isLine wsX3_isLine) := goodIn_app (goodIn_sub (sb_c (qq_X3_hit_0 1 rfl) (sb_c (qq_X3_hit_0 2 rfl) (sb_c (qq_X3_hit_0 3 rfl) sb_n))) (by decide +kernel)) ggX3_hit_X3_isLine
set_option maxRecDepth 20000 in
theorem ggX3_hit_X3_within : GoodIn wsX3_hit wsX3_within := goodIn_sub (sb_c (qq_X3_hit_0 7 rfl) (sb_n)) gw_X3_within
set_option maxRecDepth 20000 in
theorem gX3_hit_X3_within : GoodIn wsX3_hit (va_wsS RX3 68 yX3_within wsX3_within) := goodIn_app (goodIn_sub (sb_c (qq_X3_hit_0 5 rfl) (sb_c (qq_X3_hit_0 6 rfl) (sb_c (qq_X3_hit_0 3 rfl) sb_n))) (by decide +kernel)) ggX3_hit_X3_within
set_option maxRecDepth 20000 in
theorem ggX3_hit_X1_passOf : GoodIn wsX3_hit wsX1_passOf := goodIn_sub (sb_c (qq_X3_hit_0 11 rfl) (sb_a (sb_c (qq_X3_hit_0 12 rfl) sb_n) (uq_X3_hit_X1))) gw_X1_passOf
set_option maxRecDepth 20000 in
theorem gX3_hit_X1_passOf_n125 : GoodIn wsX3_hit (wsX1_passOf) := ggX3_hit_X1_passOf
set_option maxRecDepth 20000 in
theorem ggX3_hit_X1_nozzleOf : GoodIn wsX3_hit wsX1_nozzleOf := goodIn_sub (sb_c (qq_X3_hit_0 15 rfl) (sb_a (sb_c (qq_X3_hit_0 12 rfl) sb_n) (uq_X3_hit_X1))) gw_X1_nozzleOf
set_option maxRecDepth 20000 in
theorem gX3_hit_X1_nozzleOf_n128 : GoodIn wsX3_hit (wsX1_nozzleOf) := ggX3_hit_X1_nozzleOf
theorem dX3_hit_0 : decode cX3_hit 0 = .ok (.iload_n 1, 1) := by decide +kernel
theorem dX3_hit_1 : decode cX3_hit 1 = .ok (.invokestatic 64, 3) := by decide +kernel
theorem dX3_hit_4 : decode cX3_hit 4 = .ok (.ifCond .eq 22, 3) := by decide +kernel
theorem dX3_hit_7 : decode cX3_hit 7 = .ok (.iload_n 2, 1) := by decide +kernel
theorem dX3_hit_8 : decode cX3_hit 8 = .ok (.iconst 0, 1) := by decide +kernel
theorem dX3_hit_9 : decode cX3_hit 9 = .ok (.bipush 11, 2) := by decide +kernel
theorem dX3_hit_11 : decode cX3_hit 11 = .ok (.invokestatic 68, 3) := by decide +kernel
theorem dX3_hit_14 : decode cX3_hit 14 = .ok (.ifCond .eq 12, 3) := by decide +kernel
theorem dX3_hit_17 : decode cX3_hit 17 = .ok (.iload_n 3, 1) := by decide +kernel
theorem dX3_hit_18 : decode cX3_hit 18 = .ok (.iconst 0, 1) := by decide +kernel
theorem dX3_hit_19 : decode cX3_hit 19 = .ok (.iconst 1, 1) := by decide +kernel
theorem dX3_hit_20 : decode cX3_hit 20 = .ok (.invokestatic 68, 3) := by decide +kernel
theorem dX3_hit_23 : decode cX3_hit 23 = .ok (.ifCond .ne 6, 3) := by decide +kernel
theorem dX3_hit_26 : decode cX3_hit 26 = .ok (.bipush (-2), 2) := by decide +kernel
theorem dX3_hit_28 : decode cX3_hit 28 = .ok (.ireturn, 1) := by decide +kernel
theorem dX3_hit_29 : decode cX3_hit 29 = .ok (.iload_n 2, 1) := by decide +kernel
theorem dX3_hit_30 : decode cX3_hit 30 = .ok (.aload_n 0, 1) := by decide +kernel
theorem dX3_hit_31 : decode cX3_hit 31 = .ok (.getfield 16, 3) := by decide +kernel
theorem dX3_hit_34 : decode cX3_hit 34 = .ok (.getfield 122, 3) := by decide +kernel
theorem dX3_hit_37 : decode cX3_hit 37 = .ok (.iload_n 1, 1) := by decide +kernel
theorem dX3_hit_38 : decode cX3_hit 38 = .ok (.iaload, 1) := by decide +kernel
theorem dX3_hit_39 : decode cX3_hit 39 = .ok (.if_icmp .lt 5, 3) := by decide +kernel
theorem dX3_hit_42 : decode cX3_hit 42 = .ok (.iconst (-1), 1) := by decide +kernel
theorem dX3_hit_43 : decode cX3_hit 43 = .ok (.ireturn, 1) := by decide +kernel
theorem dX3_hit_44 : decode cX3_hit 44 = .ok (.iload_n 3, 1) := by decide +kernel
theorem dX3_hit_45 : decode cX3_hit 45 = .ok (.ifCond .ne 15, 3) := by decide +kernel
theorem dX3_hit_48 : decode cX3_hit 48 = .ok (.aload_n 0, 1) := by decide +kernel
theorem dX3_hit_49 : decode cX3_hit 49 = .ok (.getfield 16, 3) := by decide +kernel
theorem dX3_hit_52 : decode cX3_hit 52 = .ok (.iload_n 1, 1) := by decide +kernel
theorem dX3_hit_53 : decode cX3_hit 53 = .ok (.iload_n 2, 1) := by decide +kernel
theorem dX3_hit_54 : decode cX3_hit 54 = .ok (.invokevirtual 125, 3) := by decide +kernel
theorem dX3_hit_57 : decode cX3_hit 57 = .ok (.goto 12, 3) := by decide +kernel
theorem dX3_hit_60 : decode cX3_hit 60 = .ok (.aload_n 0, 1) := by decide +kernel
theorem dX3_hit_61 : decode cX3_hit 61 = .ok (.getfield 16, 3) := by decide +kernel
theorem dX3_hit_64 : decode cX3_hit 64 = .ok (.iload_n 1, 1) := by decide +kernel
theorem dX3_hit_65 : decode cX3_hit 65 = .ok (.iload_n 2, 1) := by decide +kernel
theorem dX3_hit_66 : decode cX3_hit 66 = .ok (.invokevirtual 128, 3) := by decide +kernel
theorem dX3_hit_69 : decode cX3_hit 69 = .ok (.ireturn, 1) := by decide +kernel
theorem qq_X3_by_0 {c : Cond} (j : Nat) (h : ([.fieldLink RX3 16 "InkSwaths" "told" "LInkSwaths$Plan;", .methodLink RX3 64 yX3_isLine, .static yX3_isLine, .initialized RX3, .code yX3_isLine cX3_isLine 1 (some .boolean), .methodLink RX3 68 yX3_within, .static yX3_within, .code yX3_within cX3_within 3 (some .boolean), .instanceMethod yX1_wantedHit, .initialized RX1, .selects RX1 yX1_wantedHit yX1_wantedHit, .code yX1_wantedHit cX1_wantedHit 4 (some .int), .fieldLink RX1 29 "InkSwaths$Plan" "hitCount" "[I", .methodLink RX1 93 yX1_isDot, .instanceMethod yX1_isDot, .selects RX1 yX1_isDot yX1_isDot, .code yX1_isDot cX1_isDot 3 (some .boolean), .fieldLink RX1 9 "InkSwaths$Plan" "picture" "[I", .methodLink RX1 130 yX1_maskNumber, .instanceMethod yX1_maskNumber, .selects RX1 yX1_maskNumber yX1_maskNumber, .code yX1_maskNumber cX1_maskNumber 3 (some .int), .fieldLink RX1 23 "InkSwaths$Plan" "head" "[I"] : List Cond)[j]? = some c) : c ∈ wsX3_by := List.mem_cons_of_mem _ (List.mem_append_left _ (List.mem_append_left _ (List.mem_of_getElem? h)))
theorem uq_X3_by_X3 : wsub wsX30 wsX3_by := fun _ h => List.mem_cons_of_mem _ (List.mem_append_left _ (List.mem_append_right _ (h)))
theorem uq_X3_by_X1 : wsub wsX10 wsX3_by := fun _ h => List.mem_cons_of_mem _ (List.mem_append_right _ (h))
set_option maxRecDepth 20000 in
theorem ggX3_by_X3_isLine : GoodIn wsX3_by wsX3_isLine := goodIn_sub (sb_c (qq_X3_by_0 4 rfl) (sb_c (qq_X3_by_0 5 rfl) (sb_c (qq_X3_by_0 6 rfl) (sb_c (qq_X3_by_0 3 rfl) (sb_c (qq_X3_by_0 7 rfl) sb_n))))) gw_X3_isLine
set_option maxRecDepth 20000 in
theorem gX3_by_X3_isLine : GoodIn wsX3_by (va_wsS RX3 64 yX3_isLine wsX3_isLine) := goodIn_app (goodIn_sub (sb_c (qq_X3_by_0 1 rfl) (sb_c (qq_X3_by_0 2 rfl) (sb_c (qq_X3_by_0 3 rfl) sb_n))) (by decide +kernel)) ggX3_by_X3_isLine
set_option maxRecDepth 20000 in
theorem ggX3_by_X3_within : GoodIn wsX3_by wsX3_within := goodIn_sub (sb_c (qq_X3_by_0 7 rfl) (sb_n)) gw_X3_within
set_option maxRecDepth 20000 in
theorem gX3_by_X3_within : GoodIn wsX3_by (va_wsS RX3 68 yX3_within wsX3_within) := goodIn_app (goodIn_sub (sb_c (qq_X3_by_0 5 rfl) (sb_c (qq_X3_by_0 6 rfl) (sb_c (qq_X3_by_0 3 rfl) sb_n))) (by decide +kernel)) ggX3_by_X3_within
set_option maxRecDepth 20000 in
theorem ggX3_by_X1_wantedHit : GoodIn wsX3_by wsX1_wantedHit := goodIn_sub (sb_c (qq_X3_by_0 11 rfl) (sb_a (sb_c (qq_X3_by_0 12 rfl) (sb_c (qq_X3_by_0 13 rfl) (sb_c (qq_X3_by_0 14 rfl) (sb_c (qq_X3_by_0 15 rfl) (sb_c (qq_X3_by_0 9 rfl) (sb_c (qq_X3_by_0 16 rfl) (sb_c (qq_X3_by_0 17 rfl) (sb_c (qq_X3_by_0 18 rfl) (sb_c (qq_X3_by_0 19 rfl) (sb_c (qq_X3_by_0 20 rfl) (sb_c (qq_X3_by_0 21 rfl) (sb_c (qq_X3_by_0 22 rfl) sb_n)))))))))))) (uq_X3_by_X1))) gw_X1_wantedHit
set_option maxRecDepth 20000 in
theorem gX3_by_X1_wantedHit_n134 : GoodIn wsX3_by (wsX1_wantedHit) := ggX3_by_X1_wantedHit
theorem dX3_by_0 : decode cX3_by 0 = .ok (.iload_n 1, 1) := by decide +kernel
theorem dX3_by_1 : decode cX3_by 1 = .ok (.invokestatic 64, 3) := by decide +kernel
theorem dX3_by_4 : decode cX3_by 4 = .ok (.ifCond .eq 22, 3) := by decide +kernel
theorem dX3_by_7 : decode cX3_by 7 = .ok (.iload_n 2, 1) := by decide +kernel
theorem dX3_by_8 : decode cX3_by 8 = .ok (.iconst 0, 1) := by decide +kernel
theorem dX3_by_9 : decode cX3_by 9 = .ok (.bipush 7, 2) := by decide +kernel
theorem dX3_by_11 : decode cX3_by 11 = .ok (.invokestatic 68, 3) := by decide +kernel
theorem dX3_by_14 : decode cX3_by 14 = .ok (.ifCond .eq 12, 3) := by decide +kernel
theorem dX3_by_17 : decode cX3_by 17 = .ok (.iload_n 3, 1) := by decide +kernel
theorem dX3_by_18 : decode cX3_by 18 = .ok (.iconst 0, 1) := by decide +kernel
theorem dX3_by_19 : decode cX3_by 19 = .ok (.iconst 1, 1) := by decide +kernel
theorem dX3_by_20 : decode cX3_by 20 = .ok (.invokestatic 68, 3) := by decide +kernel
theorem dX3_by_23 : decode cX3_by 23 = .ok (.ifCond .ne 6, 3) := by decide +kernel
theorem dX3_by_26 : decode cX3_by 26 = .ok (.bipush (-2), 2) := by decide +kernel
theorem dX3_by_28 : decode cX3_by 28 = .ok (.ireturn, 1) := by decide +kernel
theorem dX3_by_29 : decode cX3_by 29 = .ok (.iload_n 3, 1) := by decide +kernel
theorem dX3_by_30 : decode cX3_by 30 = .ok (.ifCond .ne 20, 3) := by decide +kernel
theorem dX3_by_33 : decode cX3_by 33 = .ok (.aload_n 0, 1) := by decide +kernel
theorem dX3_by_34 : decode cX3_by 34 = .ok (.getfield 16, 3) := by decide +kernel
theorem dX3_by_37 : decode cX3_by 37 = .ok (.getfield 131, 3) := by decide +kernel
theorem dX3_by_40 : decode cX3_by 40 = .ok (.iload_n 1, 1) := by decide +kernel
theorem dX3_by_41 : decode cX3_by 41 = .ok (.bipush 8, 2) := by decide +kernel
theorem dX3_by_43 : decode cX3_by 43 = .ok (.imul, 1) := by decide +kernel
theorem dX3_by_44 : decode cX3_by 44 = .ok (.iload_n 2, 1) := by decide +kernel
theorem dX3_by_45 : decode cX3_by 45 = .ok (.iadd, 1) := by decide +kernel
theorem dX3_by_46 : decode cX3_by 46 = .ok (.iaload, 1) := by decide +kernel
theorem dX3_by_47 : decode cX3_by 47 = .ok (.goto 12, 3) := by decide +kernel
theorem dX3_by_50 : decode cX3_by 50 = .ok (.aload_n 0, 1) := by decide +kernel
theorem dX3_by_51 : decode cX3_by 51 = .ok (.getfield 16, 3) := by decide +kernel
theorem dX3_by_54 : decode cX3_by 54 = .ok (.iload_n 1, 1) := by decide +kernel
theorem dX3_by_55 : decode cX3_by 55 = .ok (.iload_n 2, 1) := by decide +kernel
theorem dX3_by_56 : decode cX3_by 56 = .ok (.invokevirtual 134, 3) := by decide +kernel
theorem dX3_by_59 : decode cX3_by 59 = .ok (.ireturn, 1) := by decide +kernel
theorem qq_X3_missed_0 {c : Cond} (j : Nat) (h : ([.fieldLink RX3 16 "InkSwaths" "told" "LInkSwaths$Plan;", .methodLink RX3 64 yX3_isLine, .static yX3_isLine, .initialized RX3, .code yX3_isLine cX3_isLine 1 (some .boolean), .methodLink RX3 68 yX3_within, .static yX3_within, .code yX3_within cX3_within 3 (some .boolean)] : List Cond)[j]? = some c) : c ∈ wsX3_missed := List.mem_cons_of_mem _ (List.mem_append_left _ (List.mem_append_left _ (List.mem_of_getElem? h)))
theorem uq_X3_missed_X3 : wsub wsX30 wsX3_missed := fun _ h => List.mem_cons_of_mem _ (List.mem_append_left _ (List.mem_append_right _ (h)))
theorem uq_X3_missed_X1 : wsub wsX10 wsX3_missed := fun _ h => List.mem_cons_of_mem _ (List.mem_append_right _ (h))
set_option maxRecDepth 20000 in
theorem ggX3_missed_X3_isLine : GoodIn wsX3_missed wsX3_isLine := goodIn_sub (sb_c (qq_X3_missed_0 4 rfl) (sb_c (qq_X3_missed_0 5 rfl) (sb_c (qq_X3_missed_0 6 rfl) (sb_c (qq_X3_missed_0 3 rfl) (sb_c (qq_X3_missed_0 7 rfl) sb_n))))) gw_X3_isLine
set_option maxRecDepth 20000 in
theorem gX3_missed_X3_isLine : GoodIn wsX3_missed (va_wsS RX3 64 yX3_isLine wsX3_isLine) := goodIn_app (goodIn_sub (sb_c (qq_X3_missed_0 1 rfl) (sb_c (qq_X3_missed_0 2 rfl) (sb_c (qq_X3_missed_0 3 rfl) sb_n))) (by decide +kernel)) ggX3_missed_X3_isLine
theorem dX3_missed_0 : decode cX3_missed 0 = .ok (.iload_n 1, 1) := by decide +kernel
theorem dX3_missed_1 : decode cX3_missed 1 = .ok (.invokestatic 64, 3) := by decide +kernel
theorem dX3_missed_4 : decode cX3_missed 4 = .ok (.ifCond .eq 15, 3) := by decide +kernel
theorem dX3_missed_7 : decode cX3_missed 7 = .ok (.aload_n 0, 1) := by decide +kernel
theorem dX3_missed_8 : decode cX3_missed 8 = .ok (.getfield 16, 3) := by decide +kernel
theorem dX3_missed_11 : decode cX3_missed 11 = .ok (.getfield 137, 3) := by decide +kernel
theorem dX3_missed_14 : decode cX3_missed 14 = .ok (.iload_n 1, 1) := by decide +kernel
theorem dX3_missed_15 : decode cX3_missed 15 = .ok (.iaload, 1) := by decide +kernel
theorem dX3_missed_16 : decode cX3_missed 16 = .ok (.goto 5, 3) := by decide +kernel
theorem dX3_missed_19 : decode cX3_missed 19 = .ok (.bipush (-2), 2) := by decide +kernel
theorem dX3_missed_21 : decode cX3_missed 21 = .ok (.ireturn, 1) := by decide +kernel
theorem qq_X3_done_0 {c : Cond} (j : Nat) (h : ([.fieldLink RX3 16 "InkSwaths" "told" "LInkSwaths$Plan;", .methodLink RX3 64 yX3_isLine, .static yX3_isLine, .initialized RX3, .code yX3_isLine cX3_isLine 1 (some .boolean), .methodLink RX3 68 yX3_within, .static yX3_within, .code yX3_within cX3_within 3 (some .boolean)] : List Cond)[j]? = some c) : c ∈ wsX3_done := List.mem_cons_of_mem _ (List.mem_append_left _ (List.mem_append_left _ (List.mem_of_getElem? h)))
theorem uq_X3_done_X3 : wsub wsX30 wsX3_done := fun _ h => List.mem_cons_of_mem _ (List.mem_append_left _ (List.mem_append_right _ (h)))
theorem uq_X3_done_X1 : wsub wsX10 wsX3_done := fun _ h => List.mem_cons_of_mem _ (List.mem_append_right _ (h))
set_option maxRecDepth 20000 in
theorem ggX3_done_X3_isLine : GoodIn wsX3_done wsX3_isLine := goodIn_sub (sb_c (qq_X3_done_0 4 rfl) (sb_c (qq_X3_done_0 5 rfl) (sb_c (qq_X3_done_0 6 rfl) (sb_c (qq_X3_done_0 3 rfl) (sb_c (qq_X3_done_0 7 rfl) sb_n))))) gw_X3_isLine
set_option maxRecDepth 20000 in
theorem gX3_done_X3_isLine : GoodIn wsX3_done (va_wsS RX3 64 yX3_isLine wsX3_isLine) := goodIn_app (goodIn_sub (sb_c (qq_X3_done_0 1 rfl) (sb_c (qq_X3_done_0 2 rfl) (sb_c (qq_X3_done_0 3 rfl) sb_n))) (by decide +kernel)) ggX3_done_X3_isLine
theorem dX3_done_0 : decode cX3_done 0 = .ok (.iload_n 1, 1) := by decide +kernel
theorem dX3_done_1 : decode cX3_done 1 = .ok (.invokestatic 64, 3) := by decide +kernel
theorem dX3_done_4 : decode cX3_done 4 = .ok (.ifCond .eq 15, 3) := by decide +kernel
theorem dX3_done_7 : decode cX3_done 7 = .ok (.aload_n 0, 1) := by decide +kernel
theorem dX3_done_8 : decode cX3_done 8 = .ok (.getfield 16, 3) := by decide +kernel
theorem dX3_done_11 : decode cX3_done 11 = .ok (.getfield 140, 3) := by decide +kernel
theorem dX3_done_14 : decode cX3_done 14 = .ok (.iload_n 1, 1) := by decide +kernel
theorem dX3_done_15 : decode cX3_done 15 = .ok (.iaload, 1) := by decide +kernel
theorem dX3_done_16 : decode cX3_done 16 = .ok (.goto 5, 3) := by decide +kernel
theorem dX3_done_19 : decode cX3_done 19 = .ok (.bipush (-2), 2) := by decide +kernel
theorem dX3_done_21 : decode cX3_done 21 = .ok (.ireturn, 1) := by decide +kernel
theorem qq_X3_pass_0 {c : Cond} (j : Nat) (h : ([.fieldLink RX3 16 "InkSwaths" "told" "LInkSwaths$Plan;", .methodLink RX3 68 yX3_within, .static yX3_within, .initialized RX3, .code yX3_within cX3_within 3 (some .boolean), .methodLink RX3 143 yX3_isNozzle, .instanceMethod yX3_isNozzle, .selects RX3 yX3_isNozzle yX3_isNozzle, .code yX3_isNozzle cX3_isNozzle 2 (some .boolean)] : List Cond)[j]? = some c) : c ∈ wsX3_pass := List.mem_cons_of_mem _ (List.mem_append_left _ (List.mem_append_left _ (List.mem_of_getElem? h)))
theorem uq_X3_pass_X3 : wsub wsX30 wsX3_pass := fun _ h => List.mem_cons_of_mem _ (List.mem_append_left _ (List.mem_append_right _ (h)))
theorem uq_X3_pass_X1 : wsub wsX10 wsX3_pass := fun _ h => List.mem_cons_of_mem _ (List.mem_append_right _ (h))
set_option maxRecDepth 20000 in
theorem ggX3_pass_X3_within : GoodIn wsX3_pass wsX3_within := goodIn_sub (sb_c (qq_X3_pass_0 4 rfl) (sb_n)) gw_X3_within
set_option maxRecDepth 20000 in
theorem gX3_pass_X3_within : GoodIn wsX3_pass (va_wsS RX3 68 yX3_within wsX3_within) := goodIn_app (goodIn_sub (sb_c (qq_X3_pass_0 1 rfl) (sb_c (qq_X3_pass_0 2 rfl) (sb_c (qq_X3_pass_0 3 rfl) sb_n))) (by decide +kernel)) ggX3_pass_X3_within
set_option maxRecDepth 20000 in
theorem gw_X3_isNozzle : wsX3_isNozzle.all goodWord = true := by decide +kernel
set_option maxRecDepth 20000 in
theorem ggX3_pass_X3_isNozzle : GoodIn wsX3_pass wsX3_isNozzle := goodIn_sub (sb_c (qq_X3_pass_0 8 rfl) (sb_a (sb_a (sb_c (qq_X3_pass_0 0 rfl) (sb_c (qq_X3_pass_0 1 rfl) (sb_c (qq_X3_pass_0 2 rfl) (sb_c (qq_X3_pass_0 3 rfl) (sb_c (qq_X3_pass_0 4 rfl) sb_n))))) (uq_X3_pass_X3)) (uq_X3_pass_X1))) gw_X3_isNozzle
set_option maxRecDepth 20000 in
theorem gX3_pass_X3_isNozzle : GoodIn wsX3_pass (wsV RX3 143 RX3 yX3_isNozzle wsX3_isNozzle) := goodIn_app (goodIn_sub (sb_c (qq_X3_pass_0 5 rfl) (sb_c (qq_X3_pass_0 6 rfl) (sb_c (qq_X3_pass_0 7 rfl) (sb_c (qq_X3_pass_0 3 rfl) sb_n)))) (by decide +kernel)) ggX3_pass_X3_isNozzle
theorem dX3_pass_0 : decode cX3_pass 0 = .ok (.iload_n 1, 1) := by decide +kernel
theorem dX3_pass_1 : decode cX3_pass 1 = .ok (.iconst 0, 1) := by decide +kernel
theorem dX3_pass_2 : decode cX3_pass 2 = .ok (.aload_n 0, 1) := by decide +kernel
theorem dX3_pass_3 : decode cX3_pass 3 = .ok (.getfield 16, 3) := by decide +kernel
theorem dX3_pass_6 : decode cX3_pass 6 = .ok (.getfield 82, 3) := by decide +kernel
theorem dX3_pass_9 : decode cX3_pass 9 = .ok (.iconst 3, 1) := by decide +kernel
theorem dX3_pass_10 : decode cX3_pass 10 = .ok (.iaload, 1) := by decide +kernel
theorem dX3_pass_11 : decode cX3_pass 11 = .ok (.iconst 1, 1) := by decide +kernel
theorem dX3_pass_12 : decode cX3_pass 12 = .ok (.isub, 1) := by decide +kernel
theorem dX3_pass_13 : decode cX3_pass 13 = .ok (.invokestatic 68, 3) := by decide +kernel
theorem dX3_pass_16 : decode cX3_pass 16 = .ok (.ifCond .eq 20, 3) := by decide +kernel
theorem dX3_pass_19 : decode cX3_pass 19 = .ok (.aload_n 0, 1) := by decide +kernel
theorem dX3_pass_20 : decode cX3_pass 20 = .ok (.iload_n 2, 1) := by decide +kernel
theorem dX3_pass_21 : decode cX3_pass 21 = .ok (.invokevirtual 143, 3) := by decide +kernel
theorem dX3_pass_24 : decode cX3_pass 24 = .ok (.ifCond .eq 12, 3) := by decide +kernel
theorem dX3_pass_27 : decode cX3_pass 27 = .ok (.iload_n 3, 1) := by decide +kernel
theorem dX3_pass_28 : decode cX3_pass 28 = .ok (.iconst 0, 1) := by decide +kernel
theorem dX3_pass_29 : decode cX3_pass 29 = .ok (.iconst 2, 1) := by decide +kernel
theorem dX3_pass_30 : decode cX3_pass 30 = .ok (.invokestatic 68, 3) := by decide +kernel
theorem dX3_pass_33 : decode cX3_pass 33 = .ok (.ifCond .ne 6, 3) := by decide +kernel
theorem dX3_pass_36 : decode cX3_pass 36 = .ok (.bipush (-2), 2) := by decide +kernel
theorem dX3_pass_38 : decode cX3_pass 38 = .ok (.ireturn, 1) := by decide +kernel
theorem dX3_pass_39 : decode cX3_pass 39 = .ok (.iload_n 3, 1) := by decide +kernel
theorem dX3_pass_40 : decode cX3_pass 40 = .ok (.lookupswitch 57 #[(0, 28), (1, 43)], 28) := by decide +kernel
theorem dX3_pass_68 : decode cX3_pass 68 = .ok (.aload_n 0, 1) := by decide +kernel
theorem dX3_pass_69 : decode cX3_pass 69 = .ok (.getfield 16, 3) := by decide +kernel
theorem dX3_pass_72 : decode cX3_pass 72 = .ok (.getfield 146, 3) := by decide +kernel
theorem dX3_pass_75 : decode cX3_pass 75 = .ok (.iload_n 1, 1) := by decide +kernel
theorem dX3_pass_76 : decode cX3_pass 76 = .ok (.bipush 8, 2) := by decide +kernel
theorem dX3_pass_78 : decode cX3_pass 78 = .ok (.imul, 1) := by decide +kernel
theorem dX3_pass_79 : decode cX3_pass 79 = .ok (.iload_n 2, 1) := by decide +kernel
theorem dX3_pass_80 : decode cX3_pass 80 = .ok (.iadd, 1) := by decide +kernel
theorem dX3_pass_81 : decode cX3_pass 81 = .ok (.iaload, 1) := by decide +kernel
theorem dX3_pass_82 : decode cX3_pass 82 = .ok (.ireturn, 1) := by decide +kernel
theorem dX3_pass_83 : decode cX3_pass 83 = .ok (.aload_n 0, 1) := by decide +kernel
theorem dX3_pass_84 : decode cX3_pass 84 = .ok (.getfield 16, 3) := by decide +kernel
theorem dX3_pass_87 : decode cX3_pass 87 = .ok (.getfield 149, 3) := by decide +kernel
theorem dX3_pass_90 : decode cX3_pass 90 = .ok (.iload_n 2, 1) := by decide +kernel
theorem dX3_pass_91 : decode cX3_pass 91 = .ok (.iaload, 1) := by decide +kernel
theorem dX3_pass_92 : decode cX3_pass 92 = .ok (.iload_n 1, 1) := by decide +kernel
theorem dX3_pass_93 : decode cX3_pass 93 = .ok (.ishr, 1) := by decide +kernel
theorem dX3_pass_94 : decode cX3_pass 94 = .ok (.iconst 1, 1) := by decide +kernel
theorem dX3_pass_95 : decode cX3_pass 95 = .ok (.iand, 1) := by decide +kernel
theorem dX3_pass_96 : decode cX3_pass 96 = .ok (.ireturn, 1) := by decide +kernel
theorem dX3_pass_97 : decode cX3_pass 97 = .ok (.aload_n 0, 1) := by decide +kernel
theorem dX3_pass_98 : decode cX3_pass 98 = .ok (.getfield 16, 3) := by decide +kernel
theorem dX3_pass_101 : decode cX3_pass 101 = .ok (.getfield 96, 3) := by decide +kernel
theorem dX3_pass_104 : decode cX3_pass 104 = .ok (.iload_n 2, 1) := by decide +kernel
theorem dX3_pass_105 : decode cX3_pass 105 = .ok (.iaload, 1) := by decide +kernel
theorem dX3_pass_106 : decode cX3_pass 106 = .ok (.iload_n 1, 1) := by decide +kernel
theorem dX3_pass_107 : decode cX3_pass 107 = .ok (.ishr, 1) := by decide +kernel
theorem dX3_pass_108 : decode cX3_pass 108 = .ok (.iconst 1, 1) := by decide +kernel
theorem dX3_pass_109 : decode cX3_pass 109 = .ok (.iand, 1) := by decide +kernel
theorem dX3_pass_110 : decode cX3_pass 110 = .ok (.ireturn, 1) := by decide +kernel
theorem qq_X3_sum_0 {c : Cond} (j : Nat) (h : wsX3_sum_r1[j]? = some c) : c ∈ wsX3_sum := List.mem_cons_of_mem _ (List.mem_append_left _ (List.mem_append_left _ (List.mem_append_left _ (List.mem_of_getElem? h))))
theorem qq_X3_sum_1 {c : Cond} (j : Nat) (h : wsX3_sum_r2[j]? = some c) : c ∈ wsX3_sum := List.mem_cons_of_mem _ (List.mem_append_left _ (List.mem_append_left _ (List.mem_append_right _ (List.mem_of_getElem? h))))
theorem uq_X3_sum_X3 : wsub wsX30 wsX3_sum := fun _ h => List.mem_cons_of_mem _ (List.mem_append_left _ (List.mem_append_right _ (h)))
theorem uq_X3_sum_X1 : wsub wsX10 wsX3_sum := fun _ h => List.mem_cons_of_mem _ (List.mem_append_right _ (h))
set_option maxRecDepth 20000 in
theorem ggX3_sum_X3_within : GoodIn wsX3_sum wsX3_within := goodIn_sub (sb_c (qq_X3_sum_0 4 rfl) (sb_n)) gw_X3_within
set_option maxRecDepth 20000 in
theorem gX3_sum_X3_within : GoodIn wsX3_sum (va_wsS RX3 68 yX3_within wsX3_within) := goodIn_app (goodIn_sub (sb_c (qq_X3_sum_0 1 rfl) (sb_c (qq_X3_sum_0 2 rfl) (sb_c (qq_X3_sum_0 3 rfl) sb_n))) (by decide +kernel)) ggX3_sum_X3_within
set_option maxRecDepth 20000 in
theorem gw_X1_allDots : wsX1_allDots.all goodWord = true := by decide +kernel
set_option maxRecDepth 20000 in
theorem ggX3_sum_X1_allDots : GoodIn wsX3_sum wsX1_allDots := goodIn_sub (sb_c (qq_X3_sum_0 8 rfl) (sb_a (sb_c (qq_X3_sum_0 9 rfl) (sb_c (qq_X3_sum_0 10 rfl) (sb_c (qq_X3_sum_0 11 rfl) (sb_c (qq_X3_sum_0 6 rfl) (sb_c (qq_X3_sum_0 12 rfl) (sb_c (qq_X3_sum_0 13 rfl) (sb_c (qq_X3_sum_0 14 rfl) (sb_c (qq_X3_sum_0 15 rfl) (sb_c (qq_X3_sum_0 16 rfl) (sb_c (qq_X3_sum_0 17 rfl) (sb_c (qq_X3_sum_0 18 rfl) (sb_c (qq_X3_sum_0 19 rfl) sb_n)))))))))))) (uq_X3_sum_X1))) gw_X1_allDots
set_option maxRecDepth 20000 in
theorem gX3_sum_X1_allDots_n152 : GoodIn wsX3_sum (wsX1_allDots) := ggX3_sum_X1_allDots
set_option maxRecDepth 20000 in
theorem gw_X1_allMissed : wsX1_allMissed.all goodWord = true := by decide +kernel
set_option maxRecDepth 20000 in
theorem ggX3_sum_X1_allMissed : GoodIn wsX3_sum wsX1_allMissed := goodIn_sub (sb_c (qq_X3_sum_0 22 rfl) (sb_a (sb_c (qq_X3_sum_0 23 rfl) (sb_c (qq_X3_sum_0 10 rfl) (sb_c (qq_X3_sum_0 11 rfl) (sb_c (qq_X3_sum_0 6 rfl) (sb_c (qq_X3_sum_0 12 rfl) (sb_c (qq_X3_sum_0 13 rfl) (sb_c (qq_X3_sum_0 14 rfl) (sb_c (qq_X3_sum_0 15 rfl) (sb_c (qq_X3_sum_0 16 rfl) (sb_c (qq_X3_sum_0 17 rfl) (sb_c (qq_X3_sum_0 18 rfl) (sb_c (qq_X3_sum_0 19 rfl) sb_n)))))))))))) (uq_X3_sum_X1))) gw_X1_allMissed
set_option maxRecDepth 20000 in
theorem gX3_sum_X1_allMissed_n155 : GoodIn wsX3_sum (wsX1_allMissed) := ggX3_sum_X1_allMissed
set_option maxRecDepth 20000 in
theorem gw_X1_gutterDrops : wsX1_gutterDrops.all goodWord = true := by decide +kernel
set_option maxRecDepth 20000 in
theorem ggX3_sum_X1_gutterDrops : GoodIn wsX3_sum wsX1_gutterDrops := goodIn_sub (sb_c (qq_X3_sum_1 2 rfl) (sb_a (sb_c (qq_X3_sum_1 3 rfl) (sb_c (qq_X3_sum_0 10 rfl) (sb_c (qq_X3_sum_0 11 rfl) (sb_c (qq_X3_sum_0 6 rfl) (sb_c (qq_X3_sum_0 12 rfl) (sb_c (qq_X3_sum_0 13 rfl) (sb_c (qq_X3_sum_0 14 rfl) (sb_c (qq_X3_sum_0 15 rfl) (sb_c (qq_X3_sum_0 16 rfl) (sb_c (qq_X3_sum_0 17 rfl) (sb_c (qq_X3_sum_0 18 rfl) (sb_c (qq_X3_sum_0 19 rfl) sb_n)))))))))))) (uq_X3_sum_X1))) gw_X1_gutterDrops
set_option maxRecDepth 20000 in
theorem gX3_sum_X1_gutterDrops_n161 : GoodIn wsX3_sum (wsX1_gutterDrops) := ggX3_sum_X1_gutterDrops
theorem dX3_sum_0 : decode cX3_sum 0 = .ok (.iload_n 1, 1) := by decide +kernel
theorem dX3_sum_1 : decode cX3_sum 1 = .ok (.iconst 0, 1) := by decide +kernel
theorem dX3_sum_2 : decode cX3_sum 2 = .ok (.iconst 3, 1) := by decide +kernel
theorem dX3_sum_3 : decode cX3_sum 3 = .ok (.invokestatic 68, 3) := by decide +kernel
theorem dX3_sum_6 : decode cX3_sum 6 = .ok (.ifCond .ne 6, 3) := by decide +kernel
theorem dX3_sum_9 : decode cX3_sum 9 = .ok (.bipush (-2), 2) := by decide +kernel
theorem dX3_sum_11 : decode cX3_sum 11 = .ok (.ireturn, 1) := by decide +kernel
theorem dX3_sum_12 : decode cX3_sum 12 = .ok (.iload_n 1, 1) := by decide +kernel
theorem dX3_sum_13 : decode cX3_sum 13 = .ok (.tableswitch 51 0 2 #[27, 35, 43], 27) := by decide +kernel
theorem dX3_sum_40 : decode cX3_sum 40 = .ok (.aload_n 0, 1) := by decide +kernel
theorem dX3_sum_41 : decode cX3_sum 41 = .ok (.getfield 16, 3) := by decide +kernel
theorem dX3_sum_44 : decode cX3_sum 44 = .ok (.invokevirtual 152, 3) := by decide +kernel
theorem dX3_sum_47 : decode cX3_sum 47 = .ok (.ireturn, 1) := by decide +kernel
theorem dX3_sum_48 : decode cX3_sum 48 = .ok (.aload_n 0, 1) := by decide +kernel
theorem dX3_sum_49 : decode cX3_sum 49 = .ok (.getfield 16, 3) := by decide +kernel
theorem dX3_sum_52 : decode cX3_sum 52 = .ok (.invokevirtual 155, 3) := by decide +kernel
theorem dX3_sum_55 : decode cX3_sum 55 = .ok (.ireturn, 1) := by decide +kernel
theorem dX3_sum_56 : decode cX3_sum 56 = .ok (.aload_n 0, 1) := by decide +kernel
theorem dX3_sum_57 : decode cX3_sum 57 = .ok (.getfield 16, 3) := by decide +kernel
theorem dX3_sum_60 : decode cX3_sum 60 = .ok (.getfield 158, 3) := by decide +kernel
theorem dX3_sum_63 : decode cX3_sum 63 = .ok (.ireturn, 1) := by decide +kernel
theorem dX3_sum_64 : decode cX3_sum 64 = .ok (.aload_n 0, 1) := by decide +kernel
theorem dX3_sum_65 : decode cX3_sum 65 = .ok (.getfield 16, 3) := by decide +kernel
theorem dX3_sum_68 : decode cX3_sum 68 = .ok (.invokevirtual 161, 3) := by decide +kernel
theorem dX3_sum_71 : decode cX3_sum 71 = .ok (.ireturn, 1) := by decide +kernel
theorem qq_X3_least_0 {c : Cond} (j : Nat) (h : wsX3_least_r1[j]? = some c) : c ∈ wsX3_least := List.mem_cons_of_mem _ (List.mem_append_left _ (List.mem_append_left _ (List.mem_append_left _ (List.mem_of_getElem? h))))
theorem qq_X3_least_1 {c : Cond} (j : Nat) (h : wsX3_least_r2[j]? = some c) : c ∈ wsX3_least := List.mem_cons_of_mem _ (List.mem_append_left _ (List.mem_append_left _ (List.mem_append_right _ (List.mem_of_getElem? h))))
theorem uq_X3_least_X3 : wsub wsX30 wsX3_least := fun _ h => List.mem_cons_of_mem _ (List.mem_append_left _ (List.mem_append_right _ (h)))
theorem uq_X3_least_X1 : wsub wsX10 wsX3_least := fun _ h => List.mem_cons_of_mem _ (List.mem_append_right _ (h))
set_option maxRecDepth 20000 in
theorem gw_X1_fewestMissed : wsX1_fewestMissed.all goodWord = true := by decide +kernel
set_option maxRecDepth 20000 in
theorem ggX3_least_X1_fewestMissed : GoodIn wsX3_least wsX1_fewestMissed := goodIn_sub (sb_c (qq_X3_least_0 4 rfl) (sb_a (sb_a (sb_c (qq_X3_least_0 5 rfl) (sb_c (qq_X3_least_0 6 rfl) (sb_c (qq_X3_least_0 7 rfl) (sb_c (qq_X3_least_0 8 rfl) (sb_c (qq_X3_least_0 9 rfl) (sb_c (qq_X3_least_0 10 rfl) (sb_c (qq_X3_least_0 11 rfl) (sb_c (qq_X3_least_0 12 rfl) (sb_c (qq_X3_least_0 13 rfl) (sb_c (qq_X3_least_0 14 rfl) (sb_c (qq_X3_least_0 2 rfl) (sb_c (qq_X3_least_0 15 rfl) (sb_c (qq_X3_least_0 16 rfl) (sb_c (qq_X3_least_0 17 rfl) (sb_c (qq_X3_least_0 18 rfl) (sb_c (qq_X3_least_0 19 rfl) (sb_c (qq_X3_least_0 20 rfl) (sb_c (qq_X3_least_0 21 rfl) (sb_c (qq_X3_least_0 22 rfl) (sb_c (qq_X3_least_0 23 rfl) (sb_c (qq_X3_least_1 0 rfl) (sb_c (qq_X3_least_1 1 rfl) (sb_c (qq_X3_least_1 2 rfl) (sb_c (qq_X3_least_1 3 rfl) sb_n)))))))))))))))))))))))) (sb_c (qq_X3_least_1 4 rfl) (sb_c (qq_X3_least_1 5 rfl) (sb_c (qq_X3_least_1 6 rfl) (sb_c (qq_X3_least_1 7 rfl) (sb_c (qq_X3_least_1 8 rfl) (sb_c (qq_X3_least_1 9 rfl) sb_n))))))) (uq_X3_least_X1))) gw_X1_fewestMissed
set_option maxRecDepth 20000 in
theorem gX3_least_X1_fewestMissed_n164 : GoodIn wsX3_least (wsX1_fewestMissed) := ggX3_least_X1_fewestMissed
theorem dX3_least_0 : decode cX3_least 0 = .ok (.iconst 0, 1) := by decide +kernel
theorem dX3_least_1 : decode cX3_least 1 = .ok (.istore_n 1, 1) := by decide +kernel
theorem dX3_least_2 : decode cX3_least 2 = .ok (.iconst 0, 1) := by decide +kernel
theorem dX3_least_3 : decode cX3_least 3 = .ok (.istore_n 2, 1) := by decide +kernel
theorem dX3_least_4 : decode cX3_least 4 = .ok (.iload_n 2, 1) := by decide +kernel
theorem dX3_least_5 : decode cX3_least 5 = .ok (.bipush 16, 2) := by decide +kernel
theorem dX3_least_7 : decode cX3_least 7 = .ok (.if_icmp .ge 36, 3) := by decide +kernel
theorem dX3_least_10 : decode cX3_least 10 = .ok (.iload_n 1, 1) := by decide +kernel
theorem dX3_least_11 : decode cX3_least 11 = .ok (.aload_n 0, 1) := by decide +kernel
theorem dX3_least_12 : decode cX3_least 12 = .ok (.getfield 16, 3) := by decide +kernel
theorem dX3_least_15 : decode cX3_least 15 = .ok (.iload_n 2, 1) := by decide +kernel
theorem dX3_least_16 : decode cX3_least 16 = .ok (.aload_n 0, 1) := by decide +kernel
theorem dX3_least_17 : decode cX3_least 17 = .ok (.getfield 16, 3) := by decide +kernel
theorem dX3_least_20 : decode cX3_least 20 = .ok (.getfield 96, 3) := by decide +kernel
theorem dX3_least_23 : decode cX3_least 23 = .ok (.aload_n 0, 1) := by decide +kernel
theorem dX3_least_24 : decode cX3_least 24 = .ok (.getfield 16, 3) := by decide +kernel
theorem dX3_least_27 : decode cX3_least 27 = .ok (.getfield 82, 3) := by decide +kernel
theorem dX3_least_30 : decode cX3_least 30 = .ok (.iconst 5, 1) := by decide +kernel
theorem dX3_least_31 : decode cX3_least 31 = .ok (.iaload, 1) := by decide +kernel
theorem dX3_least_32 : decode cX3_least 32 = .ok (.invokevirtual 164, 3) := by decide +kernel
theorem dX3_least_35 : decode cX3_least 35 = .ok (.iadd, 1) := by decide +kernel
theorem dX3_least_36 : decode cX3_least 36 = .ok (.istore_n 1, 1) := by decide +kernel
theorem dX3_least_37 : decode cX3_least 37 = .ok (.iinc 2 1, 3) := by decide +kernel
theorem dX3_least_40 : decode cX3_least 40 = .ok (.goto (-36), 3) := by decide +kernel
theorem dX3_least_43 : decode cX3_least 43 = .ok (.iload_n 1, 1) := by decide +kernel
theorem dX3_least_44 : decode cX3_least 44 = .ok (.ireturn, 1) := by decide +kernel
theorem qq_X3_drops_0 {c : Cond} (j : Nat) (h : ([.fieldLink RX3 16 "InkSwaths" "told" "LInkSwaths$Plan;", .methodLink RX3 143 yX3_isNozzle, .instanceMethod yX3_isNozzle, .selects RX3 yX3_isNozzle yX3_isNozzle, .initialized RX3, .code yX3_isNozzle cX3_isNozzle 2 (some .boolean), .methodLink RX3 68 yX3_within, .static yX3_within, .code yX3_within cX3_within 3 (some .boolean), .instanceMethod yX1_dropsOf, .initialized RX1, .selects RX1 yX1_dropsOf yX1_dropsOf, .code yX1_dropsOf cX1_dropsOf 4 (some .int), .fieldLink RX1 50 "InkSwaths$Plan" "gutter" "[I", .fieldLink RX1 23 "InkSwaths$Plan" "head" "[I", .fieldLink RX1 47 "InkSwaths$Plan" "dotsPrinted" "[I", .methodLink RX1 136 yJ6_bitCount_0f7a4, .static yJ6_bitCount_0f7a4, .initialized RJ6, .code yJ6_bitCount_0f7a4 cJ6_bitCount_0f7a4 1 (some .int), .constant RJ6 265 (1431655765), .constant RJ6 266 (858993459), .constant RJ6 267 (252645135)] : List Cond)[j]? = some c) : c ∈ wsX3_drops := List.mem_cons_of_mem _ (List.mem_append_left _ (List.mem_append_left _ (List.mem_of_getElem? h)))
theorem uq_X3_drops_X3 : wsub wsX30 wsX3_drops := fun _ h => List.mem_cons_of_mem _ (List.mem_append_left _ (List.mem_append_right _ (h)))
theorem uq_X3_drops_X1 : wsub wsX10 wsX3_drops := fun _ h => List.mem_cons_of_mem _ (List.mem_append_right _ (h))
set_option maxRecDepth 20000 in
theorem ggX3_drops_X3_isNozzle : GoodIn wsX3_drops wsX3_isNozzle := goodIn_sub (sb_c (qq_X3_drops_0 5 rfl) (sb_a (sb_a (sb_c (qq_X3_drops_0 0 rfl) (sb_c (qq_X3_drops_0 6 rfl) (sb_c (qq_X3_drops_0 7 rfl) (sb_c (qq_X3_drops_0 4 rfl) (sb_c (qq_X3_drops_0 8 rfl) sb_n))))) (uq_X3_drops_X3)) (uq_X3_drops_X1))) gw_X3_isNozzle
set_option maxRecDepth 20000 in
theorem gX3_drops_X3_isNozzle : GoodIn wsX3_drops (wsV RX3 143 RX3 yX3_isNozzle wsX3_isNozzle) := goodIn_app (goodIn_sub (sb_c (qq_X3_drops_0 1 rfl) (sb_c (qq_X3_drops_0 2 rfl) (sb_c (qq_X3_drops_0 3 rfl) (sb_c (qq_X3_drops_0 4 rfl) sb_n)))) (by decide +kernel)) ggX3_drops_X3_isNozzle
set_option maxRecDepth 20000 in
theorem gw_X1_dropsOf : wsX1_dropsOf.all goodWord = true := by decide +kernel
set_option maxRecDepth 20000 in
theorem ggX3_drops_X1_dropsOf : GoodIn wsX3_drops wsX1_dropsOf := goodIn_sub (sb_c (qq_X3_drops_0 12 rfl) (sb_a (sb_c (qq_X3_drops_0 13 rfl) (sb_c (qq_X3_drops_0 14 rfl) (sb_c (qq_X3_drops_0 15 rfl) (sb_c (qq_X3_drops_0 16 rfl) (sb_c (qq_X3_drops_0 17 rfl) (sb_c (qq_X3_drops_0 18 rfl) (sb_c (qq_X3_drops_0 19 rfl) (sb_c (qq_X3_drops_0 20 rfl) (sb_c (qq_X3_drops_0 21 rfl) (sb_c (qq_X3_drops_0 22 rfl) sb_n)))))))))) (uq_X3_drops_X1))) gw_X1_dropsOf
set_option maxRecDepth 20000 in
theorem gX3_drops_X1_dropsOf_n168 : GoodIn wsX3_drops (wsX1_dropsOf) := ggX3_drops_X1_dropsOf
theorem dX3_drops_0 : decode cX3_drops 0 = .ok (.aload_n 0, 1) := by decide +kernel
theorem dX3_drops_1 : decode cX3_drops 1 = .ok (.iload_n 1, 1) := by decide +kernel
theorem dX3_drops_2 : decode cX3_drops 2 = .ok (.invokevirtual 143, 3) := by decide +kernel
theorem dX3_drops_5 : decode cX3_drops 5 = .ok (.ifCond .eq 14, 3) := by decide +kernel
theorem dX3_drops_8 : decode cX3_drops 8 = .ok (.aload_n 0, 1) := by decide +kernel
theorem dX3_drops_9 : decode cX3_drops 9 = .ok (.getfield 16, 3) := by decide +kernel
theorem dX3_drops_12 : decode cX3_drops 12 = .ok (.iload_n 1, 1) := by decide +kernel
theorem dX3_drops_13 : decode cX3_drops 13 = .ok (.invokevirtual 168, 3) := by decide +kernel
theorem dX3_drops_16 : decode cX3_drops 16 = .ok (.goto 5, 3) := by decide +kernel
theorem dX3_drops_19 : decode cX3_drops 19 = .ok (.bipush (-2), 2) := by decide +kernel
theorem dX3_drops_21 : decode cX3_drops 21 = .ok (.ireturn, 1) := by decide +kernel
theorem qq_X3_even_0 {c : Cond} (j : Nat) (h : ([.fieldLink RX3 16 "InkSwaths" "told" "LInkSwaths$Plan;", .methodLink RX3 113 Lib.Math.min.name, .static Lib.Math.min.name, .initialized "java/lang/Math", .code Lib.Math.min.name Lib.Math.min.code 2 (some .int), .methodLink RX3 171 Lib.Math.max.name, .static Lib.Math.max.name, .code Lib.Math.max.name Lib.Math.max.code 2 (some .int), .methodLink RX3 68 yX3_within, .static yX3_within, .initialized RX3, .code yX3_within cX3_within 3 (some .boolean)] : List Cond)[j]? = some c) : c ∈ wsX3_even := List.mem_cons_of_mem _ (List.mem_append_left _ (List.mem_append_left _ (List.mem_of_getElem? h)))
theorem uq_X3_even_X3 : wsub wsX30 wsX3_even := fun _ h => List.mem_cons_of_mem _ (List.mem_append_left _ (List.mem_append_right _ (h)))
theorem uq_X3_even_X1 : wsub wsX10 wsX3_even := fun _ h => List.mem_cons_of_mem _ (List.mem_append_right _ (h))
set_option maxRecDepth 20000 in
theorem ggX3_even_X3_within : GoodIn wsX3_even wsX3_within := goodIn_sub (sb_c (qq_X3_even_0 11 rfl) (sb_n)) gw_X3_within
set_option maxRecDepth 20000 in
theorem gX3_even_X3_within : GoodIn wsX3_even (va_wsS RX3 68 yX3_within wsX3_within) := goodIn_app (goodIn_sub (sb_c (qq_X3_even_0 8 rfl) (sb_c (qq_X3_even_0 9 rfl) (sb_c (qq_X3_even_0 10 rfl) sb_n))) (by decide +kernel)) ggX3_even_X3_within
theorem dX3_even_0 : decode cX3_even 0 = .ok (.iload_n 1, 1) := by decide +kernel
theorem dX3_even_1 : decode cX3_even 1 = .ok (.iconst 0, 1) := by decide +kernel
theorem dX3_even_2 : decode cX3_even 2 = .ok (.iconst 2, 1) := by decide +kernel
theorem dX3_even_3 : decode cX3_even 3 = .ok (.invokestatic 68, 3) := by decide +kernel
theorem dX3_even_6 : decode cX3_even 6 = .ok (.ifCond .ne 6, 3) := by decide +kernel
theorem dX3_even_9 : decode cX3_even 9 = .ok (.bipush (-2), 2) := by decide +kernel
theorem dX3_even_11 : decode cX3_even 11 = .ok (.ireturn, 1) := by decide +kernel
theorem dX3_even_12 : decode cX3_even 12 = .ok (.bipush 12, 2) := by decide +kernel
theorem dX3_even_14 : decode cX3_even 14 = .ok (.istore_n 2, 1) := by decide +kernel
theorem dX3_even_15 : decode cX3_even 15 = .ok (.iconst 0, 1) := by decide +kernel
theorem dX3_even_16 : decode cX3_even 16 = .ok (.istore_n 3, 1) := by decide +kernel
theorem dX3_even_17 : decode cX3_even 17 = .ok (.iconst 0, 1) := by decide +kernel
theorem dX3_even_18 : decode cX3_even 18 = .ok (.istore 4, 2) := by decide +kernel
theorem dX3_even_20 : decode cX3_even 20 = .ok (.aload_n 0, 1) := by decide +kernel
theorem dX3_even_21 : decode cX3_even 21 = .ok (.getfield 16, 3) := by decide +kernel
theorem dX3_even_24 : decode cX3_even 24 = .ok (.getfield 122, 3) := by decide +kernel
theorem dX3_even_27 : decode cX3_even 27 = .ok (.astore 5, 2) := by decide +kernel
theorem dX3_even_29 : decode cX3_even 29 = .ok (.aload 5, 2) := by decide +kernel
theorem dX3_even_31 : decode cX3_even 31 = .ok (.arraylength, 1) := by decide +kernel
theorem dX3_even_32 : decode cX3_even 32 = .ok (.istore 6, 2) := by decide +kernel
theorem dX3_even_34 : decode cX3_even 34 = .ok (.iconst 0, 1) := by decide +kernel
theorem dX3_even_35 : decode cX3_even 35 = .ok (.istore 7, 2) := by decide +kernel
theorem dX3_even_37 : decode cX3_even 37 = .ok (.iload 7, 2) := by decide +kernel
theorem dX3_even_39 : decode cX3_even 39 = .ok (.iload 6, 2) := by decide +kernel
theorem dX3_even_41 : decode cX3_even 41 = .ok (.if_icmp .ge 46, 3) := by decide +kernel
theorem dX3_even_44 : decode cX3_even 44 = .ok (.aload 5, 2) := by decide +kernel
theorem dX3_even_46 : decode cX3_even 46 = .ok (.iload 7, 2) := by decide +kernel
theorem dX3_even_48 : decode cX3_even 48 = .ok (.iaload, 1) := by decide +kernel
theorem dX3_even_49 : decode cX3_even 49 = .ok (.istore 8, 2) := by decide +kernel
theorem dX3_even_51 : decode cX3_even 51 = .ok (.iload_n 2, 1) := by decide +kernel
theorem dX3_even_52 : decode cX3_even 52 = .ok (.iload 8, 2) := by decide +kernel
theorem dX3_even_54 : decode cX3_even 54 = .ok (.invokestatic 113, 3) := by decide +kernel
theorem dX3_even_57 : decode cX3_even 57 = .ok (.istore_n 2, 1) := by decide +kernel
theorem dX3_even_58 : decode cX3_even 58 = .ok (.iload_n 3, 1) := by decide +kernel
theorem dX3_even_59 : decode cX3_even 59 = .ok (.iload 8, 2) := by decide +kernel
theorem dX3_even_61 : decode cX3_even 61 = .ok (.invokestatic 171, 3) := by decide +kernel
theorem dX3_even_64 : decode cX3_even 64 = .ok (.istore_n 3, 1) := by decide +kernel
theorem dX3_even_65 : decode cX3_even 65 = .ok (.iload 4, 2) := by decide +kernel
theorem dX3_even_67 : decode cX3_even 67 = .ok (.iload 8, 2) := by decide +kernel
theorem dX3_even_69 : decode cX3_even 69 = .ok (.iconst 1, 1) := by decide +kernel
theorem dX3_even_70 : decode cX3_even 70 = .ok (.if_icmp .ne 7, 3) := by decide +kernel
theorem dX3_even_73 : decode cX3_even 73 = .ok (.iconst 1, 1) := by decide +kernel
theorem dX3_even_74 : decode cX3_even 74 = .ok (.goto 4, 3) := by decide +kernel
theorem dX3_even_77 : decode cX3_even 77 = .ok (.iconst 0, 1) := by decide +kernel
theorem dX3_even_78 : decode cX3_even 78 = .ok (.iadd, 1) := by decide +kernel
theorem dX3_even_79 : decode cX3_even 79 = .ok (.istore 4, 2) := by decide +kernel
theorem dX3_even_81 : decode cX3_even 81 = .ok (.iinc 7 1, 3) := by decide +kernel
theorem dX3_even_84 : decode cX3_even 84 = .ok (.goto (-47), 3) := by decide +kernel
theorem dX3_even_87 : decode cX3_even 87 = .ok (.iload_n 1, 1) := by decide +kernel
theorem dX3_even_88 : decode cX3_even 88 = .ok (.ifCond .ne 7, 3) := by decide +kernel
theorem dX3_even_91 : decode cX3_even 91 = .ok (.iload_n 2, 1) := by decide +kernel
theorem dX3_even_92 : decode cX3_even 92 = .ok (.goto 14, 3) := by decide +kernel
theorem dX3_even_95 : decode cX3_even 95 = .ok (.iload_n 1, 1) := by decide +kernel
theorem dX3_even_96 : decode cX3_even 96 = .ok (.iconst 1, 1) := by decide +kernel
theorem dX3_even_97 : decode cX3_even 97 = .ok (.if_icmp .ne 7, 3) := by decide +kernel
theorem dX3_even_100 : decode cX3_even 100 = .ok (.iload_n 3, 1) := by decide +kernel
theorem dX3_even_101 : decode cX3_even 101 = .ok (.goto 5, 3) := by decide +kernel
theorem dX3_even_104 : decode cX3_even 104 = .ok (.iload 4, 2) := by decide +kernel
theorem dX3_even_106 : decode cX3_even 106 = .ok (.ireturn, 1) := by decide +kernel
theorem qq_X3_open_0 {c : Cond} (j : Nat) (h : ([.fieldLink RX3 16 "InkSwaths" "told" "LInkSwaths$Plan;", .methodLink RX3 171 Lib.Math.max.name, .static Lib.Math.max.name, .initialized "java/lang/Math", .code Lib.Math.max.name Lib.Math.max.code 2 (some .int), .instanceMethod yX1_openLines, .initialized RX1, .selects RX1 yX1_openLines yX1_openLines, .code yX1_openLines cX1_openLines 5 (some .int), .fieldLink RX1 41 "InkSwaths$Plan" "firstPass" "[I", .fieldLink RX1 44 "InkSwaths$Plan" "lastPass" "[I"] : List Cond)[j]? = some c) : c ∈ wsX3_open := List.mem_cons_of_mem _ (List.mem_append_left _ (List.mem_append_left _ (List.mem_of_getElem? h)))
theorem uq_X3_open_X3 : wsub wsX30 wsX3_open := fun _ h => List.mem_cons_of_mem _ (List.mem_append_left _ (List.mem_append_right _ (h)))
theorem uq_X3_open_X1 : wsub wsX10 wsX3_open := fun _ h => List.mem_cons_of_mem _ (List.mem_append_right _ (h))
set_option maxRecDepth 20000 in
theorem gw_X1_openLines : wsX1_openLines.all goodWord = true := by decide +kernel
set_option maxRecDepth 20000 in
theorem ggX3_open_X1_openLines : GoodIn wsX3_open wsX1_openLines := goodIn_sub (sb_c (qq_X3_open_0 8 rfl) (sb_a (sb_c (qq_X3_open_0 9 rfl) (sb_c (qq_X3_open_0 10 rfl) sb_n)) (uq_X3_open_X1))) gw_X1_openLines
set_option maxRecDepth 20000 in
theorem gX3_open_X1_openLines_n174 : GoodIn wsX3_open (wsX1_openLines) := ggX3_open_X1_openLines
theorem dX3_open_0 : decode cX3_open 0 = .ok (.iconst 0, 1) := by decide +kernel
theorem dX3_open_1 : decode cX3_open 1 = .ok (.istore_n 1, 1) := by decide +kernel
theorem dX3_open_2 : decode cX3_open 2 = .ok (.iconst 0, 1) := by decide +kernel
theorem dX3_open_3 : decode cX3_open 3 = .ok (.istore_n 2, 1) := by decide +kernel
theorem dX3_open_4 : decode cX3_open 4 = .ok (.iload_n 2, 1) := by decide +kernel
theorem dX3_open_5 : decode cX3_open 5 = .ok (.aload_n 0, 1) := by decide +kernel
theorem dX3_open_6 : decode cX3_open 6 = .ok (.getfield 16, 3) := by decide +kernel
theorem dX3_open_9 : decode cX3_open 9 = .ok (.getfield 82, 3) := by decide +kernel
theorem dX3_open_12 : decode cX3_open 12 = .ok (.iconst 3, 1) := by decide +kernel
theorem dX3_open_13 : decode cX3_open 13 = .ok (.iaload, 1) := by decide +kernel
theorem dX3_open_14 : decode cX3_open 14 = .ok (.if_icmp .ge 22, 3) := by decide +kernel
theorem dX3_open_17 : decode cX3_open 17 = .ok (.iload_n 1, 1) := by decide +kernel
theorem dX3_open_18 : decode cX3_open 18 = .ok (.aload_n 0, 1) := by decide +kernel
theorem dX3_open_19 : decode cX3_open 19 = .ok (.getfield 16, 3) := by decide +kernel
theorem dX3_open_22 : decode cX3_open 22 = .ok (.iload_n 2, 1) := by decide +kernel
theorem dX3_open_23 : decode cX3_open 23 = .ok (.invokevirtual 174, 3) := by decide +kernel
theorem dX3_open_26 : decode cX3_open 26 = .ok (.invokestatic 171, 3) := by decide +kernel
theorem dX3_open_29 : decode cX3_open 29 = .ok (.istore_n 1, 1) := by decide +kernel
theorem dX3_open_30 : decode cX3_open 30 = .ok (.iinc 2 1, 3) := by decide +kernel
theorem dX3_open_33 : decode cX3_open 33 = .ok (.goto (-29), 3) := by decide +kernel
theorem dX3_open_36 : decode cX3_open 36 = .ok (.iload_n 1, 1) := by decide +kernel
theorem dX3_open_37 : decode cX3_open 37 = .ok (.ireturn, 1) := by decide +kernel
theorem qq_X3_better_0 {c : Cond} (j : Nat) (h : wsX3_better_r1[j]? = some c) : c ∈ wsX3_better := List.mem_cons_of_mem _ (List.mem_append_left _ (List.mem_append_left _ (List.mem_append_left _ (List.mem_of_getElem? h))))
theorem qq_X3_better_1 {c : Cond} (j : Nat) (h : wsX3_better_r2[j]? = some c) : c ∈ wsX3_better := List.mem_cons_of_mem _ (List.mem_append_left _ (List.mem_append_left _ (List.mem_append_right _ (List.mem_append_left _ (List.mem_of_getElem? h)))))
theorem qq_X3_better_2 {c : Cond} (j : Nat) (h : wsX3_better_r3[j]? = some c) : c ∈ wsX3_better := List.mem_cons_of_mem _ (List.mem_append_left _ (List.mem_append_left _ (List.mem_append_right _ (List.mem_append_right _ (List.mem_append_left _ (List.mem_of_getElem? h))))))
theorem qq_X3_better_3 {c : Cond} (j : Nat) (h : wsX3_better_r4[j]? = some c) : c ∈ wsX3_better := List.mem_cons_of_mem _ (List.mem_append_left _ (List.mem_append_left _ (List.mem_append_right _ (List.mem_append_right _ (List.mem_append_right _ (List.mem_append_left _ (List.mem_of_getElem? h)))))))
theorem qq_X3_better_4 {c : Cond} (j : Nat) (h : wsX3_better_r5[j]? = some c) : c ∈ wsX3_better := List.mem_cons_of_mem _ (List.mem_append_left _ (List.mem_append_left _ (List.mem_append_right _ (List.mem_append_right _ (List.mem_append_right _ (List.mem_append_right _ (List.mem_of_getElem? h)))))))
theorem uq_X3_better_X3 : wsub wsX30 wsX3_better := fun _ h => List.mem_cons_of_mem _ (List.mem_append_left _ (List.mem_append_right _ (h)))
theorem uq_X3_better_X1 : wsub wsX10 wsX3_better := fun _ h => List.mem_cons_of_mem _ (List.mem_append_right _ (h))
set_option maxRecDepth 20000 in
theorem ggX3_better_X3_within : GoodIn wsX3_better wsX3_within := goodIn_sub (sb_c (qq_X3_better_0 10 rfl) (sb_n)) gw_X3_within
set_option maxRecDepth 20000 in
theorem gX3_better_X3_within : GoodIn wsX3_better (va_wsS RX3 68 yX3_within wsX3_within) := goodIn_app (goodIn_sub (sb_c (qq_X3_better_0 7 rfl) (sb_c (qq_X3_better_0 8 rfl) (sb_c (qq_X3_better_0 9 rfl) sb_n))) (by decide +kernel)) ggX3_better_X3_within
set_option maxRecDepth 20000 in
theorem gw_X1_takeInputs : wsX1_takeInputs.all goodWord = true := by decide +kernel
set_option maxRecDepth 20000 in
theorem ggX3_better_X1_takeInputs : GoodIn wsX3_better wsX1_takeInputs := goodIn_sub (sb_c (qq_X3_better_0 14 rfl) (sb_a (sb_c (qq_X3_better_0 15 rfl) (sb_c (qq_X3_better_0 16 rfl) (sb_c (qq_X3_better_0 17 rfl) (sb_c (qq_X3_better_0 18 rfl) (sb_c (qq_X3_better_0 19 rfl) (sb_c (qq_X3_better_0 20 rfl) (sb_c (qq_X3_better_0 21 rfl) sb_n))))))) (uq_X3_better_X1))) gw_X1_takeInputs
set_option maxRecDepth 20000 in
theorem gX3_better_X1_takeInputs_n181 : GoodIn wsX3_better (wsX1_takeInputs) := ggX3_better_X1_takeInputs
set_option maxRecDepth 20000 in
theorem ggX3_better_X1_print : GoodIn wsX3_better wsX1_print := goodIn_sub (sb_c (qq_X3_better_1 0 rfl) (sb_a (sb_a (sb_c (qq_X3_better_1 1 rfl) (sb_c (qq_X3_better_1 2 rfl) (sb_c (qq_X3_better_1 3 rfl) (sb_c (qq_X3_better_1 4 rfl) (sb_c (qq_X3_better_1 5 rfl) (sb_c (qq_X3_better_1 6 rfl) (sb_c (qq_X3_better_1 7 rfl) (sb_c (qq_X3_better_0 20 rfl) (sb_c (qq_X3_better_1 8 rfl) (sb_c (qq_X3_better_1 9 rfl) (sb_c (qq_X3_better_1 10 rfl) (sb_c (qq_X3_better_0 12 rfl) (sb_c (qq_X3_better_1 11 rfl) (sb_c (qq_X3_better_1 12 rfl) (sb_c (qq_X3_better_1 13 rfl) (sb_c (qq_X3_better_1 14 rfl) (sb_c (qq_X3_better_1 15 rfl) (sb_c (qq_X3_better_1 16 rfl) (sb_c (qq_X3_better_1 17 rfl) (sb_c (qq_X3_better_1 18 rfl) (sb_c (qq_X3_better_0 9 rfl) (sb_c (qq_X3_better_1 19 rfl) (sb_c (qq_X3_better_0 7 rfl) (sb_c (qq_X3_better_0 8 rfl) sb_n)))))))))))))))))))))))) (sb_a (sb_c (qq_X3_better_0 10 rfl) (sb_c (qq_X3_better_1 20 rfl) (sb_c (qq_X3_better_1 21 rfl) (sb_c (qq_X3_better_1 22 rfl) (sb_c (qq_X3_better_1 23 rfl) (sb_c (qq_X3_better_0 15 rfl) (sb_c (qq_X3_better_2 0 rfl) (sb_c (qq_X3_better_2 1 rfl) (sb_c (qq_X3_better_2 2 rfl) (sb_c (qq_X3_better_2 3 rfl) (sb_c (qq_X3_better_2 4 rfl) (sb_c (qq_X3_better_2 5 rfl) (sb_c (qq_X3_better_0 21 rfl) (sb_c (qq_X3_better_2 6 rfl) (sb_c (qq_X3_better_2 7 rfl) (sb_c (qq_X3_better_2 8 rfl) (sb_c (qq_X3_better_2 9 rfl) (sb_c (qq_X3_better_2 10 rfl) (sb_c (qq_X3_better_2 11 rfl) (sb_c (qq_X3_better_2 12 rfl) (sb_c (qq_X3_better_2 13 rfl) (sb_c (qq_X3_better_2 14 rfl) (sb_c (qq_X3_better_2 15 rfl) (sb_c (qq_X3_better_2 16 rfl) sb_n)))))))))))))))))))))))) (sb_a (sb_c (qq_X3_better_2 17 rfl) (sb_c (qq_X3_better_2 18 rfl) (sb_c (qq_X3_better_2 19 rfl) (sb_c (qq_X3_better_2 20 rfl) (sb_c (qq_X3_better_2 21 rfl) (sb_c (qq_X3_better_2 22 rfl) (sb_c (qq_X3_better_2 23 rfl) (sb_c (qq_X3_better_3 0 rfl) (sb_c (qq_X3_better_3 1 rfl) (sb_c (qq_X3_better_3 2 rfl) (sb_c (qq_X3_better_3 3 rfl) (sb_c (qq_X3_better_3 4 rfl) (sb_c (qq_X3_better_3 5 rfl) (sb_c (qq_X3_better_3 6 rfl) (sb_c (qq_X3_better_3 7 rfl) (sb_c (qq_X3_better_3 8 rfl) (sb_c (qq_X3_better_3 9 rfl) (sb_c (qq_X3_better_3 10 rfl) (sb_c (qq_X3_better_3 11 rfl) (sb_c (qq_X3_better_3 12 rfl) (sb_c (qq_X3_better_3 13 rfl) (sb_c (qq_X3_better_3 14 rfl) (sb_c (qq_X3_better_3 15 rfl) (sb_c (qq_X3_better_3 16 rfl) sb_n)))))))))))))))))))))))) (sb_c (qq_X3_better_3 17 rfl) (sb_c (qq_X3_better_3 18 rfl) (sb_c (qq_X3_better_3 19 rfl) (sb_c (qq_X3_better_3 20 rfl) (sb_c (qq_X3_better_3 21 rfl) (sb_c (qq_X3_better_3 22 rfl) (sb_c (qq_X3_better_3 23 rfl) (sb_c (qq_X3_better_4 0 rfl) (sb_c (qq_X3_better_4 1 rfl) (sb_c (qq_X3_better_4 2 rfl) (sb_c (qq_X3_better_4 3 rfl) (sb_c (qq_X3_better_4 4 rfl) (sb_c (qq_X3_better_4 5 rfl) (sb_c (qq_X3_better_4 6 rfl) sb_n))))))))))))))))) (uq_X3_better_X1))) gw_X1_print
set_option maxRecDepth 20000 in
theorem gX3_better_X1_print_n61 : GoodIn wsX3_better (wsX1_print) := ggX3_better_X1_print
set_option maxRecDepth 20000 in
theorem ggX3_better_X1_allMissed : GoodIn wsX3_better wsX1_allMissed := goodIn_sub (sb_c (qq_X3_better_4 9 rfl) (sb_a (sb_c (qq_X3_better_1 2 rfl) (sb_c (qq_X3_better_4 10 rfl) (sb_c (qq_X3_better_4 11 rfl) (sb_c (qq_X3_better_0 12 rfl) (sb_c (qq_X3_better_4 12 rfl) (sb_c (qq_X3_better_4 13 rfl) (sb_c (qq_X3_better_4 14 rfl) (sb_c (qq_X3_better_4 15 rfl) (sb_c (qq_X3_better_4 16 rfl) (sb_c (qq_X3_better_4 17 rfl) (sb_c (qq_X3_better_4 18 rfl) (sb_c (qq_X3_better_4 19 rfl) sb_n)))))))))))) (uq_X3_better_X1))) gw_X1_allMissed
set_option maxRecDepth 20000 in
theorem gX3_better_X1_allMissed_n155 : GoodIn wsX3_better (wsX1_allMissed) := ggX3_better_X1_allMissed
theorem dX3_better_0 : decode cX3_better 0 = .ok (.iload_n 1, 1) := by decide +kernel
theorem dX3_better_1 : decode cX3_better 1 = .ok (.iconst 0, 1) := by decide +kernel
theorem dX3_better_2 : decode cX3_better 2 = .ok (.getstatic 177, 3) := by decide +kernel
theorem dX3_better_5 : decode cX3_better 5 = .ok (.arraylength, 1) := by decide +kernel
theorem dX3_better_6 : decode cX3_better 6 = .ok (.iconst 1, 1) := by decide +kernel
theorem dX3_better_7 : decode cX3_better 7 = .ok (.isub, 1) := by decide +kernel
theorem dX3_better_8 : decode cX3_better 8 = .ok (.invokestatic 68, 3) := by decide +kernel
theorem dX3_better_11 : decode cX3_better 11 = .ok (.ifCond .eq 12, 3) := by decide +kernel
theorem dX3_better_14 : decode cX3_better 14 = .ok (.iload_n 2, 1) := by decide +kernel
theorem dX3_better_15 : decode cX3_better 15 = .ok (.iconst 0, 1) := by decide +kernel
theorem dX3_better_16 : decode cX3_better 16 = .ok (.iconst 1, 1) := by decide +kernel
theorem dX3_better_17 : decode cX3_better 17 = .ok (.invokestatic 68, 3) := by decide +kernel
theorem dX3_better_20 : decode cX3_better 20 = .ok (.ifCond .ne 6, 3) := by decide +kernel
theorem dX3_better_23 : decode cX3_better 23 = .ok (.ldc 81, 2) := by decide +kernel
theorem dX3_better_25 : decode cX3_better 25 = .ok (.ireturn, 1) := by decide +kernel
theorem dX3_better_26 : decode cX3_better 26 = .ok (.getstatic 177, 3) := by decide +kernel
theorem dX3_better_29 : decode cX3_better 29 = .ok (.iload_n 1, 1) := by decide +kernel
theorem dX3_better_30 : decode cX3_better 30 = .ok (.iaload, 1) := by decide +kernel
theorem dX3_better_31 : decode cX3_better 31 = .ok (.istore_n 3, 1) := by decide +kernel
theorem dX3_better_32 : decode cX3_better 32 = .ok (.iconst (-1), 1) := by decide +kernel
theorem dX3_better_33 : decode cX3_better 33 = .ok (.istore 4, 2) := by decide +kernel
theorem dX3_better_35 : decode cX3_better 35 = .ok (.ldc 180, 2) := by decide +kernel
theorem dX3_better_37 : decode cX3_better 37 = .ok (.istore 5, 2) := by decide +kernel
theorem dX3_better_39 : decode cX3_better 39 = .ok (.ldc 180, 2) := by decide +kernel
theorem dX3_better_41 : decode cX3_better 41 = .ok (.istore 6, 2) := by decide +kernel
theorem dX3_better_43 : decode cX3_better 43 = .ok (.aload_n 0, 1) := by decide +kernel
theorem dX3_better_44 : decode cX3_better 44 = .ok (.getfield 20, 3) := by decide +kernel
theorem dX3_better_47 : decode cX3_better 47 = .ok (.aload_n 0, 1) := by decide +kernel
theorem dX3_better_48 : decode cX3_better 48 = .ok (.getfield 16, 3) := by decide +kernel
theorem dX3_better_51 : decode cX3_better 51 = .ok (.invokevirtual 181, 3) := by decide +kernel
theorem dX3_better_54 : decode cX3_better 54 = .ok (.getstatic 75, 3) := by decide +kernel
theorem dX3_better_57 : decode cX3_better 57 = .ok (.iload_n 3, 1) := by decide +kernel
theorem dX3_better_58 : decode cX3_better 58 = .ok (.iaload, 1) := by decide +kernel
theorem dX3_better_59 : decode cX3_better 59 = .ok (.istore 7, 2) := by decide +kernel
theorem dX3_better_61 : decode cX3_better 61 = .ok (.iload 7, 2) := by decide +kernel
theorem dX3_better_63 : decode cX3_better 63 = .ok (.getstatic 78, 3) := by decide +kernel
theorem dX3_better_66 : decode cX3_better 66 = .ok (.iload_n 3, 1) := by decide +kernel
theorem dX3_better_67 : decode cX3_better 67 = .ok (.iaload, 1) := by decide +kernel
theorem dX3_better_68 : decode cX3_better 68 = .ok (.if_icmp .gt 79, 3) := by decide +kernel
theorem dX3_better_71 : decode cX3_better 71 = .ok (.aload_n 0, 1) := by decide +kernel
theorem dX3_better_72 : decode cX3_better 72 = .ok (.getfield 20, 3) := by decide +kernel
theorem dX3_better_75 : decode cX3_better 75 = .ok (.getfield 82, 3) := by decide +kernel
theorem dX3_better_78 : decode cX3_better 78 = .ok (.iload_n 3, 1) := by decide +kernel
theorem dX3_better_79 : decode cX3_better 79 = .ok (.iload 7, 2) := by decide +kernel
theorem dX3_better_81 : decode cX3_better 81 = .ok (.iastore, 1) := by decide +kernel
theorem dX3_better_82 : decode cX3_better 82 = .ok (.aload_n 0, 1) := by decide +kernel
theorem dX3_better_83 : decode cX3_better 83 = .ok (.getfield 20, 3) := by decide +kernel
theorem dX3_better_86 : decode cX3_better 86 = .ok (.invokevirtual 61, 3) := by decide +kernel
theorem dX3_better_89 : decode cX3_better 89 = .ok (.aload_n 0, 1) := by decide +kernel
theorem dX3_better_90 : decode cX3_better 90 = .ok (.getfield 20, 3) := by decide +kernel
theorem dX3_better_93 : decode cX3_better 93 = .ok (.invokevirtual 155, 3) := by decide +kernel
theorem dX3_better_96 : decode cX3_better 96 = .ok (.istore 8, 2) := by decide +kernel
theorem dX3_better_98 : decode cX3_better 98 = .ok (.iload 8, 2) := by decide +kernel
theorem dX3_better_100 : decode cX3_better 100 = .ok (.iload 5, 2) := by decide +kernel
theorem dX3_better_102 : decode cX3_better 102 = .ok (.if_icmp .lt 22, 3) := by decide +kernel
theorem dX3_better_105 : decode cX3_better 105 = .ok (.iload 8, 2) := by decide +kernel
theorem dX3_better_107 : decode cX3_better 107 = .ok (.iload 5, 2) := by decide +kernel
theorem dX3_better_109 : decode cX3_better 109 = .ok (.if_icmp .ne 32, 3) := by decide +kernel
theorem dX3_better_112 : decode cX3_better 112 = .ok (.aload_n 0, 1) := by decide +kernel
theorem dX3_better_113 : decode cX3_better 113 = .ok (.getfield 20, 3) := by decide +kernel
theorem dX3_better_116 : decode cX3_better 116 = .ok (.getfield 158, 3) := by decide +kernel
theorem dX3_better_119 : decode cX3_better 119 = .ok (.iload 6, 2) := by decide +kernel
theorem dX3_better_121 : decode cX3_better 121 = .ok (.if_icmp .ge 20, 3) := by decide +kernel
theorem dX3_better_124 : decode cX3_better 124 = .ok (.iload 7, 2) := by decide +kernel
theorem dX3_better_126 : decode cX3_better 126 = .ok (.istore 4, 2) := by decide +kernel
theorem dX3_better_128 : decode cX3_better 128 = .ok (.iload 8, 2) := by decide +kernel
theorem dX3_better_130 : decode cX3_better 130 = .ok (.istore 5, 2) := by decide +kernel
theorem dX3_better_132 : decode cX3_better 132 = .ok (.aload_n 0, 1) := by decide +kernel
theorem dX3_better_133 : decode cX3_better 133 = .ok (.getfield 20, 3) := by decide +kernel
theorem dX3_better_136 : decode cX3_better 136 = .ok (.getfield 158, 3) := by decide +kernel
theorem dX3_better_139 : decode cX3_better 139 = .ok (.istore 6, 2) := by decide +kernel
theorem dX3_better_141 : decode cX3_better 141 = .ok (.iinc 7 1, 3) := by decide +kernel
theorem dX3_better_144 : decode cX3_better 144 = .ok (.goto (-83), 3) := by decide +kernel
theorem dX3_better_147 : decode cX3_better 147 = .ok (.iload_n 2, 1) := by decide +kernel
theorem dX3_better_148 : decode cX3_better 148 = .ok (.ifCond .ne 8, 3) := by decide +kernel
theorem dX3_better_151 : decode cX3_better 151 = .ok (.iload 4, 2) := by decide +kernel
theorem dX3_better_153 : decode cX3_better 153 = .ok (.goto 5, 3) := by decide +kernel
theorem dX3_better_156 : decode cX3_better 156 = .ok (.iload 5, 2) := by decide +kernel
theorem dX3_better_158 : decode cX3_better 158 = .ok (.ireturn, 1) := by decide +kernel
theorem qq_X3_spare_0 {c : Cond} (j : Nat) (h : wsX3_spare_r1[j]? = some c) : c ∈ wsX3_spare := List.mem_cons_of_mem _ (List.mem_append_left _ (List.mem_append_left _ (List.mem_append_left _ (List.mem_append_left _ (List.mem_of_getElem? h)))))
theorem qq_X3_spare_1 {c : Cond} (j : Nat) (h : wsX3_spare_r2[j]? = some c) : c ∈ wsX3_spare := List.mem_cons_of_mem _ (List.mem_append_left _ (List.mem_append_left _ (List.mem_append_left _ (List.mem_append_right _ (List.mem_append_left _ (List.mem_of_getElem? h))))))
theorem qq_X3_spare_2 {c : Cond} (j : Nat) (h : wsX3_spare_r3[j]? = some c) : c ∈ wsX3_spare := List.mem_cons_of_mem _ (List.mem_append_left _ (List.mem_append_left _ (List.mem_append_left _ (List.mem_append_right _ (List.mem_append_right _ (List.mem_of_getElem? h))))))
theorem uq_X3_spare_X3 : wsub wsX30 wsX3_spare := fun _ h => List.mem_cons_of_mem _ (List.mem_append_left _ (List.mem_append_left _ (List.mem_append_right _ (h))))
theorem uq_X3_spare_X0 : wsub wsX00 wsX3_spare := fun _ h => List.mem_cons_of_mem _ (List.mem_append_left _ (List.mem_append_right _ (h)))
theorem uq_X3_spare_X1 : wsub wsX10 wsX3_spare := fun _ h => List.mem_cons_of_mem _ (List.mem_append_right _ (h))
set_option maxRecDepth 20000 in
theorem ggX3_spare_X3_within : GoodIn wsX3_spare wsX3_within := goodIn_sub (sb_c (qq_X3_spare_0 3 rfl) (sb_n)) gw_X3_within
set_option maxRecDepth 20000 in
theorem gX3_spare_X3_within : GoodIn wsX3_spare (va_wsS RX3 68 yX3_within wsX3_within) := goodIn_app (goodIn_sub (sb_c (qq_X3_spare_0 0 rfl) (sb_c (qq_X3_spare_0 1 rfl) (sb_c (qq_X3_spare_0 2 rfl) sb_n))) (by decide +kernel)) ggX3_spare_X3_within
set_option maxRecDepth 20000 in
theorem gw_X3_sparedEvents : wsX3_sparedEvents.all goodWord = true := by decide +kernel
set_option maxRecDepth 20000 in
theorem ggX3_spare_X3_sparedEvents : GoodIn wsX3_spare wsX3_sparedEvents := goodIn_sub (sb_c (qq_X3_spare_0 7 rfl) (sb_a (sb_a (sb_a (sb_a (sb_c (qq_X3_spare_0 8 rfl) (sb_c (qq_X3_spare_0 9 rfl) (sb_c (qq_X3_spare_0 10 rfl) (sb_c (qq_X3_spare_0 11 rfl) (sb_c (qq_X3_spare_0 12 rfl) (sb_c (qq_X3_spare_0 13 rfl) (sb_c (qq_X3_spare_0 14 rfl) (sb_c (qq_X3_spare_0 15 rfl) (sb_c (qq_X3_spare_0 16 rfl) (sb_c (qq_X3_spare_0 2 rfl) (sb_c (qq_X3_spare_0 17 rfl) (sb_c (qq_X3_spare_0 18 rfl) (sb_c (qq_X3_spare_0 19 rfl) (sb_c (qq_X3_spare_0 20 rfl) (sb_c (qq_X3_spare_0 21 rfl) (sb_c (qq_X3_spare_0 22 rfl) (sb_c (qq_X3_spare_0 23 rfl) (sb_c (qq_X3_spare_1 0 rfl) (sb_c (qq_X3_spare_1 1 rfl) (sb_c (qq_X3_spare_1 2 rfl) (sb_c (qq_X3_spare_1 3 rfl) (sb_c (qq_X3_spare_1 4 rfl) (sb_c (qq_X3_spare_1 5 rfl) (sb_c (qq_X3_spare_1 6 rfl) sb_n)))))))))))))))))))))))) (sb_a (sb_c (qq_X3_spare_1 7 rfl) (sb_c (qq_X3_spare_1 8 rfl) (sb_c (qq_X3_spare_1 9 rfl) (sb_c (qq_X3_spare_1 10 rfl) (sb_c (qq_X3_spare_1 11 rfl) (sb_c (qq_X3_spare_1 12 rfl) (sb_c (qq_X3_spare_1 13 rfl) (sb_c (qq_X3_spare_1 14 rfl) (sb_c (qq_X3_spare_1 15 rfl) (sb_c (qq_X3_spare_1 16 rfl) (sb_c (qq_X3_spare_1 17 rfl) (sb_c (qq_X3_spare_1 18 rfl) (sb_c (qq_X3_spare_1 19 rfl) (sb_c (qq_X3_spare_1 20 rfl) (sb_c (qq_X3_spare_1 21 rfl) (sb_c (qq_X3_spare_1 22 rfl) (sb_c (qq_X3_spare_1 23 rfl) (sb_c (qq_X3_spare_2 0 rfl) (sb_c (qq_X3_spare_2 1 rfl) (sb_c (qq_X3_spare_2 2 rfl) (sb_c (qq_X3_spare_2 3 rfl) (sb_c (qq_X3_spare_2 4 rfl) (sb_c (qq_X3_spare_2 5 rfl) (sb_c (qq_X3_spare_2 6 rfl) sb_n)))))))))))))))))))))))) (sb_c (qq_X3_spare_2 7 rfl) (sb_c (qq_X3_spare_2 8 rfl) (sb_c (qq_X3_spare_2 9 rfl) (sb_c (qq_X3_spare_2 10 rfl) (sb_c (qq_X3_spare_2 11 rfl) (sb_c (qq_X3_spare_2 12 rfl) (sb_c (qq_X3_spare_2 13 rfl) (sb_c (qq_X3_spare_2 14 rfl) (sb_c (qq_X3_spare_2 15 rfl) (sb_c (qq_X3_spare_2 16 rfl) (sb_c (qq_X3_spare_2 17 rfl) (sb_c (qq_X3_spare_2 18 rfl) sb_n)))))))))))))) (uq_X3_spare_X3)) (uq_X3_spare_X0)) (uq_X3_spare_X1))) gw_X3_sparedEvents
set_option maxRecDepth 20000 in
theorem gX3_spare_X3_sparedEvents : GoodIn wsX3_spare (wsV RX3 185 RX3 yX3_sparedEvents wsX3_sparedEvents) := goodIn_app (goodIn_sub (sb_c (qq_X3_spare_0 4 rfl) (sb_c (qq_X3_spare_0 5 rfl) (sb_c (qq_X3_spare_0 6 rfl) (sb_c (qq_X3_spare_0 2 rfl) sb_n)))) (by decide +kernel)) ggX3_spare_X3_sparedEvents
set_option maxRecDepth 20000 in
theorem ggX3_spare_J6_bitCount_0f7a4 : GoodIn wsX3_spare wsJ6_bitCount_0f7a4 := goodIn_sub (sb_c (qq_X3_spare_2 15 rfl) (sb_c (qq_X3_spare_2 16 rfl) (sb_c (qq_X3_spare_2 17 rfl) (sb_c (qq_X3_spare_2 18 rfl) sb_n)))) gw_J6_bitCount_0f7a4
set_option maxRecDepth 20000 in
theorem gX3_spare_J6_bitCount_0f7a4 : GoodIn wsX3_spare (va_wsS RX3 188 yJ6_bitCount_0f7a4 wsJ6_bitCount_0f7a4) := goodIn_app (goodIn_sub (sb_c (qq_X3_spare_2 19 rfl) (sb_c (qq_X3_spare_2 13 rfl) (sb_c (qq_X3_spare_2 14 rfl) sb_n))) (by decide +kernel)) ggX3_spare_J6_bitCount_0f7a4
set_option maxRecDepth 20000 in
theorem gw_X3_numberOfBit : wsX3_numberOfBit.all goodWord = true := by decide +kernel
set_option maxRecDepth 20000 in
theorem ggX3_spare_X3_numberOfBit : GoodIn wsX3_spare wsX3_numberOfBit := goodIn_sub (sb_c (qq_X3_spare_2 22 rfl) (sb_n)) gw_X3_numberOfBit
set_option maxRecDepth 20000 in
theorem gX3_spare_X3_numberOfBit : GoodIn wsX3_spare (va_wsS RX3 191 yX3_numberOfBit wsX3_numberOfBit) := goodIn_app (goodIn_sub (sb_c (qq_X3_spare_2 20 rfl) (sb_c (qq_X3_spare_2 21 rfl) (sb_c (qq_X3_spare_0 2 rfl) sb_n))) (by decide +kernel)) ggX3_spare_X3_numberOfBit
theorem dX3_spare_0 : decode cX3_spare 0 = .ok (.iload_n 1, 1) := by decide +kernel
theorem dX3_spare_1 : decode cX3_spare 1 = .ok (.iconst (-1), 1) := by decide +kernel
theorem dX3_spare_2 : decode cX3_spare 2 = .ok (.iconst 1, 1) := by decide +kernel
theorem dX3_spare_3 : decode cX3_spare 3 = .ok (.invokestatic 68, 3) := by decide +kernel
theorem dX3_spare_6 : decode cX3_spare 6 = .ok (.ifCond .ne 6, 3) := by decide +kernel
theorem dX3_spare_9 : decode cX3_spare 9 = .ok (.bipush (-2), 2) := by decide +kernel
theorem dX3_spare_11 : decode cX3_spare 11 = .ok (.ireturn, 1) := by decide +kernel
theorem dX3_spare_12 : decode cX3_spare 12 = .ok (.aload_n 0, 1) := by decide +kernel
theorem dX3_spare_13 : decode cX3_spare 13 = .ok (.invokevirtual 185, 3) := by decide +kernel
theorem dX3_spare_16 : decode cX3_spare 16 = .ok (.istore_n 2, 1) := by decide +kernel
theorem dX3_spare_17 : decode cX3_spare 17 = .ok (.iload_n 2, 1) := by decide +kernel
theorem dX3_spare_18 : decode cX3_spare 18 = .ok (.iconst (-1), 1) := by decide +kernel
theorem dX3_spare_19 : decode cX3_spare 19 = .ok (.if_icmp .ne 5, 3) := by decide +kernel
theorem dX3_spare_22 : decode cX3_spare 22 = .ok (.iconst (-1), 1) := by decide +kernel
theorem dX3_spare_23 : decode cX3_spare 23 = .ok (.ireturn, 1) := by decide +kernel
theorem dX3_spare_24 : decode cX3_spare 24 = .ok (.iload_n 1, 1) := by decide +kernel
theorem dX3_spare_25 : decode cX3_spare 25 = .ok (.iconst (-1), 1) := by decide +kernel
theorem dX3_spare_26 : decode cX3_spare 26 = .ok (.if_icmp .ne 10, 3) := by decide +kernel
theorem dX3_spare_29 : decode cX3_spare 29 = .ok (.iload_n 2, 1) := by decide +kernel
theorem dX3_spare_30 : decode cX3_spare 30 = .ok (.invokestatic 188, 3) := by decide +kernel
theorem dX3_spare_33 : decode cX3_spare 33 = .ok (.goto 8, 3) := by decide +kernel
theorem dX3_spare_36 : decode cX3_spare 36 = .ok (.iload_n 2, 1) := by decide +kernel
theorem dX3_spare_37 : decode cX3_spare 37 = .ok (.iload_n 1, 1) := by decide +kernel
theorem dX3_spare_38 : decode cX3_spare 38 = .ok (.invokestatic 191, 3) := by decide +kernel
theorem dX3_spare_41 : decode cX3_spare 41 = .ok (.ireturn, 1) := by decide +kernel
theorem qq_X3_seen_0 {c : Cond} (j : Nat) (h : ([.fieldLink RX3 40 "InkSwaths" "seenSize" "I", .fieldLink RX3 34 "InkSwaths" "seenLine" "[I", .fieldLink RX3 37 "InkSwaths" "seenMany" "[I", .methodLink RX3 64 yX3_isLine, .static yX3_isLine, .initialized RX3, .code yX3_isLine cX3_isLine 1 (some .boolean), .methodLink RX3 68 yX3_within, .static yX3_within, .code yX3_within cX3_within 3 (some .boolean)] : List Cond)[j]? = some c) : c ∈ wsX3_seen := List.mem_cons_of_mem _ (List.mem_append_left _ (List.mem_of_getElem? h))
theorem uq_X3_seen_X3 : wsub wsX30 wsX3_seen := fun _ h => List.mem_cons_of_mem _ (List.mem_append_right _ (h))
set_option maxRecDepth 20000 in
theorem ggX3_seen_X3_isLine : GoodIn wsX3_seen wsX3_isLine := goodIn_sub (sb_c (qq_X3_seen_0 6 rfl) (sb_c (qq_X3_seen_0 7 rfl) (sb_c (qq_X3_seen_0 8 rfl) (sb_c (qq_X3_seen_0 5 rfl) (sb_c (qq_X3_seen_0 9 rfl) sb_n))))) gw_X3_isLine
set_option maxRecDepth 20000 in
theorem gX3_seen_X3_isLine : GoodIn wsX3_seen (va_wsS RX3 64 yX3_isLine wsX3_isLine) := goodIn_app (goodIn_sub (sb_c (qq_X3_seen_0 3 rfl) (sb_c (qq_X3_seen_0 4 rfl) (sb_c (qq_X3_seen_0 5 rfl) sb_n))) (by decide +kernel)) ggX3_seen_X3_isLine
set_option maxRecDepth 20000 in
theorem ggX3_seen_X3_within : GoodIn wsX3_seen wsX3_within := goodIn_sub (sb_c (qq_X3_seen_0 9 rfl) (sb_n)) gw_X3_within
set_option maxRecDepth 20000 in
theorem gX3_seen_X3_within : GoodIn wsX3_seen (va_wsS RX3 68 yX3_within wsX3_within) := goodIn_app (goodIn_sub (sb_c (qq_X3_seen_0 7 rfl) (sb_c (qq_X3_seen_0 8 rfl) (sb_c (qq_X3_seen_0 5 rfl) sb_n))) (by decide +kernel)) ggX3_seen_X3_within
theorem dX3_seen_0 : decode cX3_seen 0 = .ok (.iload_n 1, 1) := by decide +kernel
theorem dX3_seen_1 : decode cX3_seen 1 = .ok (.invokestatic 64, 3) := by decide +kernel
theorem dX3_seen_4 : decode cX3_seen 4 = .ok (.ifCond .eq 13, 3) := by decide +kernel
theorem dX3_seen_7 : decode cX3_seen 7 = .ok (.iload_n 2, 1) := by decide +kernel
theorem dX3_seen_8 : decode cX3_seen 8 = .ok (.iconst 0, 1) := by decide +kernel
theorem dX3_seen_9 : decode cX3_seen 9 = .ok (.bipush 8, 2) := by decide +kernel
theorem dX3_seen_11 : decode cX3_seen 11 = .ok (.invokestatic 68, 3) := by decide +kernel
theorem dX3_seen_14 : decode cX3_seen 14 = .ok (.ifCond .ne 6, 3) := by decide +kernel
theorem dX3_seen_17 : decode cX3_seen 17 = .ok (.bipush (-2), 2) := by decide +kernel
theorem dX3_seen_19 : decode cX3_seen 19 = .ok (.ireturn, 1) := by decide +kernel
theorem dX3_seen_20 : decode cX3_seen 20 = .ok (.aload_n 0, 1) := by decide +kernel
theorem dX3_seen_21 : decode cX3_seen 21 = .ok (.getfield 40, 3) := by decide +kernel
theorem dX3_seen_24 : decode cX3_seen 24 = .ok (.bipush 8, 2) := by decide +kernel
theorem dX3_seen_26 : decode cX3_seen 26 = .ok (.if_icmp .lt 6, 3) := by decide +kernel
theorem dX3_seen_29 : decode cX3_seen 29 = .ok (.bipush (-4), 2) := by decide +kernel
theorem dX3_seen_31 : decode cX3_seen 31 = .ok (.ireturn, 1) := by decide +kernel
theorem dX3_seen_32 : decode cX3_seen 32 = .ok (.aload_n 0, 1) := by decide +kernel
theorem dX3_seen_33 : decode cX3_seen 33 = .ok (.getfield 34, 3) := by decide +kernel
theorem dX3_seen_36 : decode cX3_seen 36 = .ok (.aload_n 0, 1) := by decide +kernel
theorem dX3_seen_37 : decode cX3_seen 37 = .ok (.getfield 40, 3) := by decide +kernel
theorem dX3_seen_40 : decode cX3_seen 40 = .ok (.iload_n 1, 1) := by decide +kernel
theorem dX3_seen_41 : decode cX3_seen 41 = .ok (.iastore, 1) := by decide +kernel
theorem dX3_seen_42 : decode cX3_seen 42 = .ok (.aload_n 0, 1) := by decide +kernel
theorem dX3_seen_43 : decode cX3_seen 43 = .ok (.getfield 37, 3) := by decide +kernel
theorem dX3_seen_46 : decode cX3_seen 46 = .ok (.aload_n 0, 1) := by decide +kernel
theorem dX3_seen_47 : decode cX3_seen 47 = .ok (.getfield 40, 3) := by decide +kernel
theorem dX3_seen_50 : decode cX3_seen 50 = .ok (.iload_n 2, 1) := by decide +kernel
theorem dX3_seen_51 : decode cX3_seen 51 = .ok (.iastore, 1) := by decide +kernel
theorem dX3_seen_52 : decode cX3_seen 52 = .ok (.aload_n 0, 1) := by decide +kernel
theorem dX3_seen_53 : decode cX3_seen 53 = .ok (.dup, 1) := by decide +kernel
theorem dX3_seen_54 : decode cX3_seen 54 = .ok (.getfield 40, 3) := by decide +kernel
theorem dX3_seen_57 : decode cX3_seen 57 = .ok (.iconst 1, 1) := by decide +kernel
theorem dX3_seen_58 : decode cX3_seen 58 = .ok (.iadd, 1) := by decide +kernel
theorem dX3_seen_59 : decode cX3_seen 59 = .ok (.putfield 40, 3) := by decide +kernel
theorem dX3_seen_62 : decode cX3_seen 62 = .ok (.aload_n 0, 1) := by decide +kernel
theorem dX3_seen_63 : decode cX3_seen 63 = .ok (.getfield 40, 3) := by decide +kernel
theorem dX3_seen_66 : decode cX3_seen 66 = .ok (.ireturn, 1) := by decide +kernel
theorem dX3_forget_0 : decode cX3_forget 0 = .ok (.aload_n 0, 1) := by decide +kernel
theorem dX3_forget_1 : decode cX3_forget 1 = .ok (.getfield 40, 3) := by decide +kernel
theorem dX3_forget_4 : decode cX3_forget 4 = .ok (.istore_n 1, 1) := by decide +kernel
theorem dX3_forget_5 : decode cX3_forget 5 = .ok (.aload_n 0, 1) := by decide +kernel
theorem dX3_forget_6 : decode cX3_forget 6 = .ok (.iconst 0, 1) := by decide +kernel
theorem dX3_forget_7 : decode cX3_forget 7 = .ok (.putfield 40, 3) := by decide +kernel
theorem dX3_forget_10 : decode cX3_forget 10 = .ok (.iload_n 1, 1) := by decide +kernel
theorem dX3_forget_11 : decode cX3_forget 11 = .ok (.ireturn, 1) := by decide +kernel
theorem qq_X3_never_0 {c : Cond} (j : Nat) (h : wsX3_never_r1[j]? = some c) : c ∈ wsX3_never := List.mem_cons_of_mem _ (List.mem_append_left _ (List.mem_append_left _ (List.mem_append_left _ (List.mem_append_left _ (List.mem_of_getElem? h)))))
theorem qq_X3_never_1 {c : Cond} (j : Nat) (h : wsX3_never_r2[j]? = some c) : c ∈ wsX3_never := List.mem_cons_of_mem _ (List.mem_append_left _ (List.mem_append_left _ (List.mem_append_left _ (List.mem_append_right _ (List.mem_append_left _ (List.mem_of_getElem? h))))))
theorem qq_X3_never_2 {c : Cond} (j : Nat) (h : wsX3_never_r3[j]? = some c) : c ∈ wsX3_never := List.mem_cons_of_mem _ (List.mem_append_left _ (List.mem_append_left _ (List.mem_append_left _ (List.mem_append_right _ (List.mem_append_right _ (List.mem_of_getElem? h))))))
theorem uq_X3_never_X3 : wsub wsX30 wsX3_never := fun _ h => List.mem_cons_of_mem _ (List.mem_append_left _ (List.mem_append_left _ (List.mem_append_right _ (h))))
theorem uq_X3_never_X0 : wsub wsX00 wsX3_never := fun _ h => List.mem_cons_of_mem _ (List.mem_append_left _ (List.mem_append_right _ (h)))
theorem uq_X3_never_X1 : wsub wsX10 wsX3_never := fun _ h => List.mem_cons_of_mem _ (List.mem_append_right _ (h))
set_option maxRecDepth 20000 in
theorem ggX3_never_X0_all : GoodIn wsX3_never wsX0_all := goodIn_sub (sb_c (qq_X3_never_0 6 rfl) (sb_a (sb_c (qq_X3_never_0 7 rfl) sb_n) (uq_X3_never_X0))) gw_X0_all
set_option maxRecDepth 20000 in
theorem gX3_never_X0_all_n92 : GoodIn wsX3_never (wsX0_all) := ggX3_never_X0_all
set_option maxRecDepth 20000 in
theorem ggX3_never_X0_livingBy : GoodIn wsX3_never wsX0_livingBy := goodIn_sub (sb_c (qq_X3_never_0 10 rfl) (sb_a (sb_c (qq_X3_never_0 7 rfl) (sb_c (qq_X3_never_0 11 rfl) (sb_c (qq_X3_never_0 12 rfl) (sb_c (qq_X3_never_0 13 rfl) (sb_c (qq_X3_never_0 14 rfl) (sb_c (qq_X3_never_0 15 rfl) (sb_c (qq_X3_never_0 16 rfl) (sb_c (qq_X3_never_0 17 rfl) (sb_c (qq_X3_never_0 18 rfl) (sb_c (qq_X3_never_0 4 rfl) (sb_c (qq_X3_never_0 19 rfl) (sb_c (qq_X3_never_0 20 rfl) (sb_c (qq_X3_never_0 21 rfl) sb_n))))))))))))) (uq_X3_never_X0))) gw_X0_livingBy
set_option maxRecDepth 20000 in
theorem gX3_never_X0_livingBy_n97 : GoodIn wsX3_never (wsX0_livingBy) := ggX3_never_X0_livingBy
set_option maxRecDepth 20000 in
theorem gw_X3_fitsSeen : wsX3_fitsSeen.all goodWord = true := by decide +kernel
set_option maxRecDepth 20000 in
theorem ggX3_never_X3_fitsSeen : GoodIn wsX3_never wsX3_fitsSeen := goodIn_sub (sb_c (qq_X3_never_1 2 rfl) (sb_a (sb_a (sb_a (sb_c (qq_X3_never_1 3 rfl) (sb_c (qq_X3_never_0 2 rfl) (sb_c (qq_X3_never_1 4 rfl) (sb_c (qq_X3_never_0 1 rfl) (sb_c (qq_X3_never_1 5 rfl) (sb_c (qq_X3_never_1 6 rfl) (sb_c (qq_X3_never_1 7 rfl) (sb_c (qq_X3_never_1 8 rfl) (sb_c (qq_X3_never_1 9 rfl) (sb_c (qq_X3_never_1 10 rfl) (sb_c (qq_X3_never_1 11 rfl) (sb_c (qq_X3_never_1 12 rfl) (sb_c (qq_X3_never_1 13 rfl) (sb_c (qq_X3_never_1 14 rfl) (sb_c (qq_X3_never_1 15 rfl) (sb_c (qq_X3_never_1 16 rfl) (sb_c (qq_X3_never_1 17 rfl) (sb_c (qq_X3_never_1 18 rfl) (sb_c (qq_X3_never_1 19 rfl) (sb_c (qq_X3_never_1 20 rfl) (sb_c (qq_X3_never_1 21 rfl) (sb_c (qq_X3_never_1 22 rfl) (sb_c (qq_X3_never_1 23 rfl) (sb_c (qq_X3_never_2 0 rfl) sb_n)))))))))))))))))))))))) (sb_c (qq_X3_never_2 1 rfl) (sb_c (qq_X3_never_2 2 rfl) (sb_c (qq_X3_never_2 3 rfl) (sb_c (qq_X3_never_2 4 rfl) (sb_c (qq_X3_never_2 5 rfl) (sb_c (qq_X3_never_2 6 rfl) (sb_c (qq_X3_never_2 7 rfl) (sb_c (qq_X3_never_2 8 rfl) (sb_c (qq_X3_never_2 9 rfl) (sb_c (qq_X3_never_2 10 rfl) (sb_c (qq_X3_never_2 11 rfl) (sb_c (qq_X3_never_2 12 rfl) (sb_c (qq_X3_never_2 13 rfl) (sb_c (qq_X3_never_2 14 rfl) sb_n))))))))))))))) (uq_X3_never_X3)) (uq_X3_never_X1))) gw_X3_fitsSeen
set_option maxRecDepth 20000 in
theorem gX3_never_X3_fitsSeen : GoodIn wsX3_never (wsV RX3 194 RX3 yX3_fitsSeen wsX3_fitsSeen) := goodIn_app (goodIn_sub (sb_c (qq_X3_never_0 22 rfl) (sb_c (qq_X3_never_0 23 rfl) (sb_c (qq_X3_never_1 0 rfl) (sb_c (qq_X3_never_1 1 rfl) sb_n)))) (by decide +kernel)) ggX3_never_X3_fitsSeen
theorem dX3_never_0 : decode cX3_never 0 = .ok (.iconst 0, 1) := by decide +kernel
theorem dX3_never_1 : decode cX3_never 1 = .ok (.istore_n 1, 1) := by decide +kernel
theorem dX3_never_2 : decode cX3_never 2 = .ok (.iconst 0, 1) := by decide +kernel
theorem dX3_never_3 : decode cX3_never 3 = .ok (.istore_n 2, 1) := by decide +kernel
theorem dX3_never_4 : decode cX3_never 4 = .ok (.iload_n 2, 1) := by decide +kernel
theorem dX3_never_5 : decode cX3_never 5 = .ok (.aload_n 0, 1) := by decide +kernel
theorem dX3_never_6 : decode cX3_never 6 = .ok (.getfield 26, 3) := by decide +kernel
theorem dX3_never_9 : decode cX3_never 9 = .ok (.getfield 85, 3) := by decide +kernel
theorem dX3_never_12 : decode cX3_never 12 = .ok (.if_icmp .ge 55, 3) := by decide +kernel
theorem dX3_never_15 : decode cX3_never 15 = .ok (.aload_n 0, 1) := by decide +kernel
theorem dX3_never_16 : decode cX3_never 16 = .ok (.getfield 26, 3) := by decide +kernel
theorem dX3_never_19 : decode cX3_never 19 = .ok (.aload_n 0, 1) := by decide +kernel
theorem dX3_never_20 : decode cX3_never 20 = .ok (.getfield 26, 3) := by decide +kernel
theorem dX3_never_23 : decode cX3_never 23 = .ok (.invokevirtual 92, 3) := by decide +kernel
theorem dX3_never_26 : decode cX3_never 26 = .ok (.iconst 1, 1) := by decide +kernel
theorem dX3_never_27 : decode cX3_never 27 = .ok (.iload_n 2, 1) := by decide +kernel
theorem dX3_never_28 : decode cX3_never 28 = .ok (.ishl, 1) := by decide +kernel
theorem dX3_never_29 : decode cX3_never 29 = .ok (.iconst (-1), 1) := by decide +kernel
theorem dX3_never_30 : decode cX3_never 30 = .ok (.ixor, 1) := by decide +kernel
theorem dX3_never_31 : decode cX3_never 31 = .ok (.iand, 1) := by decide +kernel
theorem dX3_never_32 : decode cX3_never 32 = .ok (.aload_n 0, 1) := by decide +kernel
theorem dX3_never_33 : decode cX3_never 33 = .ok (.getfield 30, 3) := by decide +kernel
theorem dX3_never_36 : decode cX3_never 36 = .ok (.invokevirtual 97, 3) := by decide +kernel
theorem dX3_never_39 : decode cX3_never 39 = .ok (.aload_n 0, 1) := by decide +kernel
theorem dX3_never_40 : decode cX3_never 40 = .ok (.aload_n 0, 1) := by decide +kernel
theorem dX3_never_41 : decode cX3_never 41 = .ok (.getfield 16, 3) := by decide +kernel
theorem dX3_never_44 : decode cX3_never 44 = .ok (.getfield 82, 3) := by decide +kernel
theorem dX3_never_47 : decode cX3_never 47 = .ok (.iconst 5, 1) := by decide +kernel
theorem dX3_never_48 : decode cX3_never 48 = .ok (.iaload, 1) := by decide +kernel
theorem dX3_never_49 : decode cX3_never 49 = .ok (.invokevirtual 194, 3) := by decide +kernel
theorem dX3_never_52 : decode cX3_never 52 = .ok (.ifCond .eq 9, 3) := by decide +kernel
theorem dX3_never_55 : decode cX3_never 55 = .ok (.iload_n 1, 1) := by decide +kernel
theorem dX3_never_56 : decode cX3_never 56 = .ok (.iconst 1, 1) := by decide +kernel
theorem dX3_never_57 : decode cX3_never 57 = .ok (.iload_n 2, 1) := by decide +kernel
theorem dX3_never_58 : decode cX3_never 58 = .ok (.ishl, 1) := by decide +kernel
theorem dX3_never_59 : decode cX3_never 59 = .ok (.ior, 1) := by decide +kernel
theorem dX3_never_60 : decode cX3_never 60 = .ok (.istore_n 1, 1) := by decide +kernel
theorem dX3_never_61 : decode cX3_never 61 = .ok (.iinc 2 1, 3) := by decide +kernel
theorem dX3_never_64 : decode cX3_never 64 = .ok (.goto (-60), 3) := by decide +kernel
theorem dX3_never_67 : decode cX3_never 67 = .ok (.iload_n 1, 1) := by decide +kernel
theorem dX3_never_68 : decode cX3_never 68 = .ok (.ireturn, 1) := by decide +kernel
theorem qq_X3_was_0 {c : Cond} (j : Nat) (h : wsX3_was_r1[j]? = some c) : c ∈ wsX3_was := List.mem_cons_of_mem _ (List.mem_append_left _ (List.mem_append_left _ (List.mem_append_left _ (List.mem_append_left _ (List.mem_of_getElem? h)))))
theorem qq_X3_was_1 {c : Cond} (j : Nat) (h : wsX3_was_r2[j]? = some c) : c ∈ wsX3_was := List.mem_cons_of_mem _ (List.mem_append_left _ (List.mem_append_left _ (List.mem_append_left _ (List.mem_append_right _ (List.mem_append_left _ (List.mem_of_getElem? h))))))
theorem qq_X3_was_2 {c : Cond} (j : Nat) (h : wsX3_was_r3[j]? = some c) : c ∈ wsX3_was := List.mem_cons_of_mem _ (List.mem_append_left _ (List.mem_append_left _ (List.mem_append_left _ (List.mem_append_right _ (List.mem_append_right _ (List.mem_append_left _ (List.mem_of_getElem? h)))))))
theorem qq_X3_was_3 {c : Cond} (j : Nat) (h : wsX3_was_r4[j]? = some c) : c ∈ wsX3_was := List.mem_cons_of_mem _ (List.mem_append_left _ (List.mem_append_left _ (List.mem_append_left _ (List.mem_append_right _ (List.mem_append_right _ (List.mem_append_right _ (List.mem_of_getElem? h)))))))
theorem uq_X3_was_X3 : wsub wsX30 wsX3_was := fun _ h => List.mem_cons_of_mem _ (List.mem_append_left _ (List.mem_append_left _ (List.mem_append_right _ (h))))
theorem uq_X3_was_X1 : wsub wsX10 wsX3_was := fun _ h => List.mem_cons_of_mem _ (List.mem_append_left _ (List.mem_append_right _ (h)))
theorem uq_X3_was_X0 : wsub wsX00 wsX3_was := fun _ h => List.mem_cons_of_mem _ (List.mem_append_right _ (h))
set_option maxRecDepth 20000 in
theorem ggX3_was_X3_within : GoodIn wsX3_was wsX3_within := goodIn_sub (sb_c (qq_X3_was_0 3 rfl) (sb_n)) gw_X3_within
set_option maxRecDepth 20000 in
theorem gX3_was_X3_within : GoodIn wsX3_was (va_wsS RX3 68 yX3_within wsX3_within) := goodIn_app (goodIn_sub (sb_c (qq_X3_was_0 0 rfl) (sb_c (qq_X3_was_0 1 rfl) (sb_c (qq_X3_was_0 2 rfl) sb_n))) (by decide +kernel)) ggX3_was_X3_within
set_option maxRecDepth 20000 in
theorem gw_X3_fittingDeads : wsX3_fittingDeads.all goodWord = true := by decide +kernel
set_option maxRecDepth 20000 in
theorem ggX3_was_X3_fittingDeads : GoodIn wsX3_was wsX3_fittingDeads := goodIn_sub (sb_c (qq_X3_was_0 7 rfl) (sb_a (sb_a (sb_a (sb_c (qq_X3_was_0 8 rfl) (sb_c (qq_X3_was_0 9 rfl) (sb_c (qq_X3_was_0 10 rfl) (sb_c (qq_X3_was_0 11 rfl) (sb_c (qq_X3_was_0 2 rfl) (sb_c (qq_X3_was_0 12 rfl) (sb_c (qq_X3_was_0 13 rfl) (sb_c (qq_X3_was_0 14 rfl) (sb_c (qq_X3_was_0 15 rfl) (sb_c (qq_X3_was_0 16 rfl) (sb_c (qq_X3_was_0 17 rfl) (sb_c (qq_X3_was_0 18 rfl) (sb_c (qq_X3_was_0 19 rfl) (sb_c (qq_X3_was_0 20 rfl) (sb_c (qq_X3_was_0 21 rfl) (sb_c (qq_X3_was_0 22 rfl) (sb_c (qq_X3_was_0 23 rfl) (sb_c (qq_X3_was_1 0 rfl) (sb_c (qq_X3_was_1 1 rfl) (sb_c (qq_X3_was_1 2 rfl) (sb_c (qq_X3_was_1 3 rfl) (sb_c (qq_X3_was_1 4 rfl) (sb_c (qq_X3_was_1 5 rfl) (sb_c (qq_X3_was_1 6 rfl) sb_n)))))))))))))))))))))))) (sb_a (sb_c (qq_X3_was_1 7 rfl) (sb_c (qq_X3_was_1 8 rfl) (sb_c (qq_X3_was_1 9 rfl) (sb_c (qq_X3_was_1 10 rfl) (sb_c (qq_X3_was_1 11 rfl) (sb_c (qq_X3_was_1 12 rfl) (sb_c (qq_X3_was_1 13 rfl) (sb_c (qq_X3_was_1 14 rfl) (sb_c (qq_X3_was_1 15 rfl) (sb_c (qq_X3_was_1 16 rfl) (sb_c (qq_X3_was_1 17 rfl) (sb_c (qq_X3_was_1 18 rfl) (sb_c (qq_X3_was_1 19 rfl) (sb_c (qq_X3_was_1 20 rfl) (sb_c (qq_X3_was_1 21 rfl) (sb_c (qq_X3_was_1 22 rfl) (sb_c (qq_X3_was_1 23 rfl) (sb_c (qq_X3_was_2 0 rfl) (sb_c (qq_X3_was_2 1 rfl) (sb_c (qq_X3_was_2 2 rfl) (sb_c (qq_X3_was_2 3 rfl) (sb_c (qq_X3_was_2 4 rfl) (sb_c (qq_X3_was_2 5 rfl) (sb_c (qq_X3_was_2 6 rfl) sb_n)))))))))))))))))))))))) (sb_c (qq_X3_was_2 7 rfl) (sb_c (qq_X3_was_2 8 rfl) (sb_c (qq_X3_was_2 9 rfl) sb_n))))) (uq_X3_was_X3)) (uq_X3_was_X1))) gw_X3_fittingDeads
set_option maxRecDepth 20000 in
theorem gX3_was_X3_fittingDeads : GoodIn wsX3_was (wsV RX3 197 RX3 yX3_fittingDeads wsX3_fittingDeads) := goodIn_app (goodIn_sub (sb_c (qq_X3_was_0 4 rfl) (sb_c (qq_X3_was_0 5 rfl) (sb_c (qq_X3_was_0 6 rfl) (sb_c (qq_X3_was_0 2 rfl) sb_n)))) (by decide +kernel)) ggX3_was_X3_fittingDeads
set_option maxRecDepth 20000 in
theorem gw_X3_fittingCaps : wsX3_fittingCaps.all goodWord = true := by decide +kernel
set_option maxRecDepth 20000 in
theorem ggX3_was_X3_fittingCaps : GoodIn wsX3_was wsX3_fittingCaps := goodIn_sub (sb_c (qq_X3_was_2 13 rfl) (sb_a (sb_a (sb_a (sb_a (sb_c (qq_X3_was_2 14 rfl) (sb_c (qq_X3_was_0 13 rfl) (sb_c (qq_X3_was_2 15 rfl) (sb_c (qq_X3_was_2 16 rfl) (sb_c (qq_X3_was_2 17 rfl) (sb_c (qq_X3_was_2 18 rfl) (sb_c (qq_X3_was_2 19 rfl) (sb_c (qq_X3_was_2 20 rfl) (sb_c (qq_X3_was_2 21 rfl) (sb_c (qq_X3_was_2 22 rfl) (sb_c (qq_X3_was_2 23 rfl) (sb_c (qq_X3_was_3 0 rfl) (sb_c (qq_X3_was_3 1 rfl) (sb_c (qq_X3_was_3 2 rfl) (sb_c (qq_X3_was_0 15 rfl) (sb_c (qq_X3_was_0 16 rfl) (sb_c (qq_X3_was_0 17 rfl) (sb_c (qq_X3_was_3 3 rfl) (sb_c (qq_X3_was_3 4 rfl) (sb_c (qq_X3_was_3 5 rfl) (sb_c (qq_X3_was_3 6 rfl) (sb_c (qq_X3_was_3 7 rfl) (sb_c (qq_X3_was_3 8 rfl) (sb_c (qq_X3_was_0 18 rfl) sb_n)))))))))))))))))))))))) (sb_a (sb_c (qq_X3_was_0 19 rfl) (sb_c (qq_X3_was_0 20 rfl) (sb_c (qq_X3_was_0 2 rfl) (sb_c (qq_X3_was_0 21 rfl) (sb_c (qq_X3_was_0 22 rfl) (sb_c (qq_X3_was_0 8 rfl) (sb_c (qq_X3_was_0 23 rfl) (sb_c (qq_X3_was_1 0 rfl) (sb_c (qq_X3_was_1 1 rfl) (sb_c (qq_X3_was_1 2 rfl) (sb_c (qq_X3_was_1 3 rfl) (sb_c (qq_X3_was_1 4 rfl) (sb_c (qq_X3_was_1 5 rfl) (sb_c (qq_X3_was_1 6 rfl) (sb_c (qq_X3_was_1 7 rfl) (sb_c (qq_X3_was_1 8 rfl) (sb_c (qq_X3_was_1 9 rfl) (sb_c (qq_X3_was_1 10 rfl) (sb_c (qq_X3_was_1 11 rfl) (sb_c (qq_X3_was_1 12 rfl) (sb_c (qq_X3_was_1 13 rfl) (sb_c (qq_X3_was_1 14 rfl) (sb_c (qq_X3_was_1 15 rfl) (sb_c (qq_X3_was_1 16 rfl) sb_n)))))))))))))))))))))))) (sb_c (qq_X3_was_1 17 rfl) (sb_c (qq_X3_was_1 18 rfl) (sb_c (qq_X3_was_1 19 rfl) (sb_c (qq_X3_was_1 20 rfl) (sb_c (qq_X3_was_1 21 rfl) (sb_c (qq_X3_was_1 22 rfl) (sb_c (qq_X3_was_1 23 rfl) (sb_c (qq_X3_was_2 0 rfl) (sb_c (qq_X3_was_2 1 rfl) (sb_c (qq_X3_was_2 2 rfl) (sb_c (qq_X3_was_2 3 rfl) (sb_c (qq_X3_was_2 4 rfl) (sb_c (qq_X3_was_2 5 rfl) (sb_c (qq_X3_was_2 6 rfl) (sb_c (qq_X3_was_2 7 rfl) (sb_c (qq_X3_was_2 8 rfl) (sb_c (qq_X3_was_2 9 rfl) sb_n))))))))))))))))))) (uq_X3_was_X3)) (uq_X3_was_X0)) (uq_X3_was_X1))) gw_X3_fittingCaps
set_option maxRecDepth 20000 in
theorem gX3_was_X3_fittingCaps : GoodIn wsX3_was (wsV RX3 200 RX3 yX3_fittingCaps wsX3_fittingCaps) := goodIn_app (goodIn_sub (sb_c (qq_X3_was_2 10 rfl) (sb_c (qq_X3_was_2 11 rfl) (sb_c (qq_X3_was_2 12 rfl) (sb_c (qq_X3_was_0 2 rfl) sb_n)))) (by decide +kernel)) ggX3_was_X3_fittingCaps
theorem dX3_was_0 : decode cX3_was 0 = .ok (.iload_n 1, 1) := by decide +kernel
theorem dX3_was_1 : decode cX3_was 1 = .ok (.iconst 0, 1) := by decide +kernel
theorem dX3_was_2 : decode cX3_was 2 = .ok (.iconst 1, 1) := by decide +kernel
theorem dX3_was_3 : decode cX3_was 3 = .ok (.invokestatic 68, 3) := by decide +kernel
theorem dX3_was_6 : decode cX3_was 6 = .ok (.ifCond .ne 6, 3) := by decide +kernel
theorem dX3_was_9 : decode cX3_was 9 = .ok (.bipush (-2), 2) := by decide +kernel
theorem dX3_was_11 : decode cX3_was 11 = .ok (.ireturn, 1) := by decide +kernel
theorem dX3_was_12 : decode cX3_was 12 = .ok (.iload_n 1, 1) := by decide +kernel
theorem dX3_was_13 : decode cX3_was 13 = .ok (.ifCond .ne 10, 3) := by decide +kernel
theorem dX3_was_16 : decode cX3_was 16 = .ok (.aload_n 0, 1) := by decide +kernel
theorem dX3_was_17 : decode cX3_was 17 = .ok (.invokevirtual 197, 3) := by decide +kernel
theorem dX3_was_20 : decode cX3_was 20 = .ok (.goto 7, 3) := by decide +kernel
theorem dX3_was_23 : decode cX3_was 23 = .ok (.aload_n 0, 1) := by decide +kernel
theorem dX3_was_24 : decode cX3_was 24 = .ok (.invokevirtual 200, 3) := by decide +kernel
theorem dX3_was_27 : decode cX3_was 27 = .ok (.ireturn, 1) := by decide +kernel
theorem qq_X3_ask_0 {c : Cond} (j : Nat) (h : wsX3_ask_r1[j]? = some c) : c ∈ wsX3_ask := List.mem_cons_of_mem _ (List.mem_append_left _ (List.mem_append_left _ (List.mem_append_left _ (List.mem_of_getElem? h))))
theorem qq_X3_ask_1 {c : Cond} (j : Nat) (h : wsX3_ask_r2[j]? = some c) : c ∈ wsX3_ask := List.mem_cons_of_mem _ (List.mem_append_left _ (List.mem_append_left _ (List.mem_append_right _ (List.mem_append_left _ (List.mem_of_getElem? h)))))
theorem qq_X3_ask_2 {c : Cond} (j : Nat) (h : wsX3_ask_r3[j]? = some c) : c ∈ wsX3_ask := List.mem_cons_of_mem _ (List.mem_append_left _ (List.mem_append_left _ (List.mem_append_right _ (List.mem_append_right _ (List.mem_of_getElem? h)))))
theorem uq_X3_ask_X3 : wsub wsX30 wsX3_ask := fun _ h => List.mem_cons_of_mem _ (List.mem_append_left _ (List.mem_append_right _ (h)))
theorem uq_X3_ask_X1 : wsub wsX10 wsX3_ask := fun _ h => List.mem_cons_of_mem _ (List.mem_append_right _ (h))
set_option maxRecDepth 20000 in
theorem ggX3_ask_X3_fittingDeads : GoodIn wsX3_ask wsX3_fittingDeads := goodIn_sub (sb_c (qq_X3_ask_0 5 rfl) (sb_a (sb_a (sb_a (sb_c (qq_X3_ask_0 6 rfl) (sb_c (qq_X3_ask_0 7 rfl) (sb_c (qq_X3_ask_0 8 rfl) (sb_c (qq_X3_ask_0 9 rfl) (sb_c (qq_X3_ask_0 4 rfl) (sb_c (qq_X3_ask_0 10 rfl) (sb_c (qq_X3_ask_0 11 rfl) (sb_c (qq_X3_ask_0 12 rfl) (sb_c (qq_X3_ask_0 13 rfl) (sb_c (qq_X3_ask_0 14 rfl) (sb_c (qq_X3_ask_0 15 rfl) (sb_c (qq_X3_ask_0 16 rfl) (sb_c (qq_X3_ask_0 17 rfl) (sb_c (qq_X3_ask_0 18 rfl) (sb_c (qq_X3_ask_0 19 rfl) (sb_c (qq_X3_ask_0 20 rfl) (sb_c (qq_X3_ask_0 21 rfl) (sb_c (qq_X3_ask_0 22 rfl) (sb_c (qq_X3_ask_0 23 rfl) (sb_c (qq_X3_ask_1 0 rfl) (sb_c (qq_X3_ask_1 1 rfl) (sb_c (qq_X3_ask_1 2 rfl) (sb_c (qq_X3_ask_1 3 rfl) (sb_c (qq_X3_ask_1 4 rfl) sb_n)))))))))))))))))))))))) (sb_a (sb_c (qq_X3_ask_1 5 rfl) (sb_c (qq_X3_ask_1 6 rfl) (sb_c (qq_X3_ask_1 7 rfl) (sb_c (qq_X3_ask_1 8 rfl) (sb_c (qq_X3_ask_1 9 rfl) (sb_c (qq_X3_ask_1 10 rfl) (sb_c (qq_X3_ask_1 11 rfl) (sb_c (qq_X3_ask_1 12 rfl) (sb_c (qq_X3_ask_1 13 rfl) (sb_c (qq_X3_ask_1 14 rfl) (sb_c (qq_X3_ask_1 15 rfl) (sb_c (qq_X3_ask_1 16 rfl) (sb_c (qq_X3_ask_1 17 rfl) (sb_c (qq_X3_ask_1 18 rfl) (sb_c (qq_X3_ask_1 19 rfl) (sb_c (qq_X3_ask_1 20 rfl) (sb_c (qq_X3_ask_1 21 rfl) (sb_c (qq_X3_ask_1 22 rfl) (sb_c (qq_X3_ask_1 23 rfl) (sb_c (qq_X3_ask_2 0 rfl) (sb_c (qq_X3_ask_2 1 rfl) (sb_c (qq_X3_ask_2 2 rfl) (sb_c (qq_X3_ask_2 3 rfl) (sb_c (qq_X3_ask_2 4 rfl) sb_n)))))))))))))))))))))))) (sb_c (qq_X3_ask_2 5 rfl) (sb_c (qq_X3_ask_2 6 rfl) (sb_c (qq_X3_ask_2 7 rfl) sb_n))))) (uq_X3_ask_X3)) (uq_X3_ask_X1))) gw_X3_fittingDeads
set_option maxRecDepth 20000 in
theorem gX3_ask_X3_fittingDeads : GoodIn wsX3_ask (wsV RX3 197 RX3 yX3_fittingDeads wsX3_fittingDeads) := goodIn_app (goodIn_sub (sb_c (qq_X3_ask_0 1 rfl) (sb_c (qq_X3_ask_0 2 rfl) (sb_c (qq_X3_ask_0 3 rfl) (sb_c (qq_X3_ask_0 4 rfl) sb_n)))) (by decide +kernel)) ggX3_ask_X3_fittingDeads
set_option maxRecDepth 20000 in
theorem gw_X3_greatestGroup : wsX3_greatestGroup.all goodWord = true := by decide +kernel
set_option maxRecDepth 20000 in
theorem ggX3_ask_X3_greatestGroup : GoodIn wsX3_ask wsX3_greatestGroup := goodIn_sub (sb_c (qq_X3_ask_2 11 rfl) (sb_a (sb_a (sb_a (sb_c (qq_X3_ask_2 12 rfl) (sb_c (qq_X3_ask_0 6 rfl) (sb_c (qq_X3_ask_0 11 rfl) (sb_c (qq_X3_ask_2 13 rfl) (sb_c (qq_X3_ask_1 7 rfl) (sb_c (qq_X3_ask_1 8 rfl) (sb_c (qq_X3_ask_1 9 rfl) (sb_c (qq_X3_ask_0 12 rfl) (sb_c (qq_X3_ask_0 13 rfl) (sb_c (qq_X3_ask_0 14 rfl) (sb_c (qq_X3_ask_0 15 rfl) (sb_c (qq_X3_ask_0 7 rfl) (sb_c (qq_X3_ask_0 8 rfl) (sb_c (qq_X3_ask_0 9 rfl) (sb_c (qq_X3_ask_0 4 rfl) (sb_c (qq_X3_ask_0 10 rfl) (sb_c (qq_X3_ask_0 23 rfl) (sb_c (qq_X3_ask_1 0 rfl) (sb_c (qq_X3_ask_1 1 rfl) (sb_c (qq_X3_ask_1 2 rfl) (sb_c (qq_X3_ask_1 3 rfl) (sb_c (qq_X3_ask_1 4 rfl) (sb_c (qq_X3_ask_1 5 rfl) (sb_c (qq_X3_ask_1 6 rfl) sb_n)))))))))))))))))))))))) (sb_c (qq_X3_ask_1 10 rfl) (sb_c (qq_X3_ask_1 11 rfl) (sb_c (qq_X3_ask_1 12 rfl) (sb_c (qq_X3_ask_1 13 rfl) (sb_c (qq_X3_ask_1 14 rfl) (sb_c (qq_X3_ask_1 15 rfl) (sb_c (qq_X3_ask_1 16 rfl) (sb_c (qq_X3_ask_1 17 rfl) (sb_c (qq_X3_ask_1 18 rfl) (sb_c (qq_X3_ask_1 19 rfl) (sb_c (qq_X3_ask_1 20 rfl) (sb_c (qq_X3_ask_1 21 rfl) (sb_c (qq_X3_ask_1 22 rfl) (sb_c (qq_X3_ask_1 23 rfl) (sb_c (qq_X3_ask_2 0 rfl) (sb_c (qq_X3_ask_2 1 rfl) (sb_c (qq_X3_ask_2 2 rfl) (sb_c (qq_X3_ask_2 3 rfl) (sb_c (qq_X3_ask_2 4 rfl) (sb_c (qq_X3_ask_2 5 rfl) (sb_c (qq_X3_ask_2 6 rfl) (sb_c (qq_X3_ask_2 7 rfl) sb_n))))))))))))))))))))))) (uq_X3_ask_X3)) (uq_X3_ask_X1))) gw_X3_greatestGroup
set_option maxRecDepth 20000 in
theorem gX3_ask_X3_greatestGroup : GoodIn wsX3_ask (wsV RX3 203 RX3 yX3_greatestGroup wsX3_greatestGroup) := goodIn_app (goodIn_sub (sb_c (qq_X3_ask_2 8 rfl) (sb_c (qq_X3_ask_2 9 rfl) (sb_c (qq_X3_ask_2 10 rfl) (sb_c (qq_X3_ask_0 4 rfl) sb_n)))) (by decide +kernel)) ggX3_ask_X3_greatestGroup
theorem dX3_ask_0 : decode cX3_ask 0 = .ok (.aload_n 0, 1) := by decide +kernel
theorem dX3_ask_1 : decode cX3_ask 1 = .ok (.invokevirtual 197, 3) := by decide +kernel
theorem dX3_ask_4 : decode cX3_ask 4 = .ok (.istore_n 1, 1) := by decide +kernel
theorem dX3_ask_5 : decode cX3_ask 5 = .ok (.iconst 0, 1) := by decide +kernel
theorem dX3_ask_6 : decode cX3_ask 6 = .ok (.istore_n 2, 1) := by decide +kernel
theorem dX3_ask_7 : decode cX3_ask 7 = .ok (.ldc 180, 2) := by decide +kernel
theorem dX3_ask_9 : decode cX3_ask 9 = .ok (.istore_n 3, 1) := by decide +kernel
theorem dX3_ask_10 : decode cX3_ask 10 = .ok (.iconst 0, 1) := by decide +kernel
theorem dX3_ask_11 : decode cX3_ask 11 = .ok (.istore 4, 2) := by decide +kernel
theorem dX3_ask_13 : decode cX3_ask 13 = .ok (.iload 4, 2) := by decide +kernel
theorem dX3_ask_15 : decode cX3_ask 15 = .ok (.bipush 16, 2) := by decide +kernel
theorem dX3_ask_17 : decode cX3_ask 17 = .ok (.if_icmp .ge 30, 3) := by decide +kernel
theorem dX3_ask_20 : decode cX3_ask 20 = .ok (.aload_n 0, 1) := by decide +kernel
theorem dX3_ask_21 : decode cX3_ask 21 = .ok (.iload 4, 2) := by decide +kernel
theorem dX3_ask_23 : decode cX3_ask 23 = .ok (.iload_n 1, 1) := by decide +kernel
theorem dX3_ask_24 : decode cX3_ask 24 = .ok (.invokevirtual 203, 3) := by decide +kernel
theorem dX3_ask_27 : decode cX3_ask 27 = .ok (.istore 5, 2) := by decide +kernel
theorem dX3_ask_29 : decode cX3_ask 29 = .ok (.iload 5, 2) := by decide +kernel
theorem dX3_ask_31 : decode cX3_ask 31 = .ok (.iload_n 3, 1) := by decide +kernel
theorem dX3_ask_32 : decode cX3_ask 32 = .ok (.if_icmp .ge 9, 3) := by decide +kernel
theorem dX3_ask_35 : decode cX3_ask 35 = .ok (.iload 4, 2) := by decide +kernel
theorem dX3_ask_37 : decode cX3_ask 37 = .ok (.istore_n 2, 1) := by decide +kernel
theorem dX3_ask_38 : decode cX3_ask 38 = .ok (.iload 5, 2) := by decide +kernel
theorem dX3_ask_40 : decode cX3_ask 40 = .ok (.istore_n 3, 1) := by decide +kernel
theorem dX3_ask_41 : decode cX3_ask 41 = .ok (.iinc 4 1, 3) := by decide +kernel
theorem dX3_ask_44 : decode cX3_ask 44 = .ok (.goto (-31), 3) := by decide +kernel
theorem dX3_ask_47 : decode cX3_ask 47 = .ok (.iload_n 2, 1) := by decide +kernel
theorem dX3_ask_48 : decode cX3_ask 48 = .ok (.ireturn, 1) := by decide +kernel
theorem qq_X3_chance_0 {c : Cond} (j : Nat) (h : wsX3_chance_r1[j]? = some c) : c ∈ wsX3_chance := List.mem_cons_of_mem _ (List.mem_append_left _ (List.mem_append_left _ (List.mem_append_left _ (List.mem_append_left _ (List.mem_of_getElem? h)))))
theorem qq_X3_chance_1 {c : Cond} (j : Nat) (h : wsX3_chance_r2[j]? = some c) : c ∈ wsX3_chance := List.mem_cons_of_mem _ (List.mem_append_left _ (List.mem_append_left _ (List.mem_append_left _ (List.mem_append_right _ (List.mem_append_left _ (List.mem_of_getElem? h))))))
theorem qq_X3_chance_2 {c : Cond} (j : Nat) (h : wsX3_chance_r3[j]? = some c) : c ∈ wsX3_chance := List.mem_cons_of_mem _ (List.mem_append_left _ (List.mem_append_left _ (List.mem_append_left _ (List.mem_append_right _ (List.mem_append_right _ (List.mem_append_left _ (List.mem_of_getElem? h)))))))
theorem qq_X3_chance_3 {c : Cond} (j : Nat) (h : wsX3_chance_r4[j]? = some c) : c ∈ wsX3_chance := List.mem_cons_of_mem _ (List.mem_append_left _ (List.mem_append_left _ (List.mem_append_left _ (List.mem_append_right _ (List.mem_append_right _ (List.mem_append_right _ (List.mem_of_getElem? h)))))))
theorem uq_X3_chance_X3 : wsub wsX30 wsX3_chance := fun _ h => List.mem_cons_of_mem _ (List.mem_append_left _ (List.mem_append_left _ (List.mem_append_right _ (h))))
theorem uq_X3_chance_X0 : wsub wsX00 wsX3_chance := fun _ h => List.mem_cons_of_mem _ (List.mem_append_left _ (List.mem_append_right _ (h)))
theorem uq_X3_chance_X1 : wsub wsX10 wsX3_chance := fun _ h => List.mem_cons_of_mem _ (List.mem_append_right _ (h))
set_option maxRecDepth 20000 in
theorem ggX3_chance_X3_within : GoodIn wsX3_chance wsX3_within := goodIn_sub (sb_c (qq_X3_chance_0 7 rfl) (sb_n)) gw_X3_within
set_option maxRecDepth 20000 in
theorem gX3_chance_X3_within : GoodIn wsX3_chance (va_wsS RX3 68 yX3_within wsX3_within) := goodIn_app (goodIn_sub (sb_c (qq_X3_chance_0 4 rfl) (sb_c (qq_X3_chance_0 5 rfl) (sb_c (qq_X3_chance_0 6 rfl) sb_n))) (by decide +kernel)) ggX3_chance_X3_within
set_option maxRecDepth 20000 in
theorem gw_X3_countSafe : wsX3_countSafe.all goodWord = true := by decide +kernel
set_option maxRecDepth 20000 in
theorem ggX3_chance_X3_countSafe : GoodIn wsX3_chance wsX3_countSafe := goodIn_sub (sb_c (qq_X3_chance_0 11 rfl) (sb_a (sb_a (sb_a (sb_a (sb_c (qq_X3_chance_0 2 rfl) (sb_c (qq_X3_chance_0 1 rfl) (sb_c (qq_X3_chance_0 12 rfl) (sb_c (qq_X3_chance_0 13 rfl) (sb_c (qq_X3_chance_0 14 rfl) (sb_c (qq_X3_chance_0 15 rfl) (sb_c (qq_X3_chance_0 16 rfl) (sb_c (qq_X3_chance_0 17 rfl) (sb_c (qq_X3_chance_0 18 rfl) (sb_c (qq_X3_chance_0 19 rfl) (sb_c (qq_X3_chance_0 20 rfl) (sb_c (qq_X3_chance_0 21 rfl) (sb_c (qq_X3_chance_0 22 rfl) (sb_c (qq_X3_chance_0 23 rfl) (sb_c (qq_X3_chance_0 6 rfl) (sb_c (qq_X3_chance_1 0 rfl) (sb_c (qq_X3_chance_1 1 rfl) (sb_c (qq_X3_chance_1 2 rfl) (sb_c (qq_X3_chance_1 3 rfl) (sb_c (qq_X3_chance_1 4 rfl) (sb_c (qq_X3_chance_1 5 rfl) (sb_c (qq_X3_chance_1 6 rfl) (sb_c (qq_X3_chance_1 7 rfl) (sb_c (qq_X3_chance_1 8 rfl) sb_n)))))))))))))))))))))))) (sb_a (sb_c (qq_X3_chance_1 9 rfl) (sb_c (qq_X3_chance_1 10 rfl) (sb_c (qq_X3_chance_1 11 rfl) (sb_c (qq_X3_chance_1 12 rfl) (sb_c (qq_X3_chance_1 13 rfl) (sb_c (qq_X3_chance_1 14 rfl) (sb_c (qq_X3_chance_1 15 rfl) (sb_c (qq_X3_chance_1 16 rfl) (sb_c (qq_X3_chance_1 17 rfl) (sb_c (qq_X3_chance_1 18 rfl) (sb_c (qq_X3_chance_1 19 rfl) (sb_c (qq_X3_chance_1 20 rfl) (sb_c (qq_X3_chance_1 21 rfl) (sb_c (qq_X3_chance_1 22 rfl) (sb_c (qq_X3_chance_1 23 rfl) (sb_c (qq_X3_chance_2 0 rfl) (sb_c (qq_X3_chance_2 1 rfl) (sb_c (qq_X3_chance_2 2 rfl) (sb_c (qq_X3_chance_2 3 rfl) (sb_c (qq_X3_chance_2 4 rfl) (sb_c (qq_X3_chance_2 5 rfl) (sb_c (qq_X3_chance_2 6 rfl) (sb_c (qq_X3_chance_2 7 rfl) (sb_c (qq_X3_chance_2 8 rfl) sb_n)))))))))))))))))))))))) (sb_c (qq_X3_chance_2 9 rfl) (sb_c (qq_X3_chance_2 10 rfl) (sb_c (qq_X3_chance_2 11 rfl) (sb_c (qq_X3_chance_2 12 rfl) (sb_c (qq_X3_chance_2 13 rfl) (sb_c (qq_X3_chance_2 14 rfl) (sb_c (qq_X3_chance_2 15 rfl) (sb_c (qq_X3_chance_2 16 rfl) (sb_c (qq_X3_chance_2 17 rfl) (sb_c (qq_X3_chance_2 18 rfl) (sb_c (qq_X3_chance_2 19 rfl) (sb_c (qq_X3_chance_2 20 rfl) (sb_c (qq_X3_chance_2 21 rfl) (sb_c (qq_X3_chance_2 22 rfl) (sb_c (qq_X3_chance_2 23 rfl) (sb_c (qq_X3_chance_3 0 rfl) (sb_c (qq_X3_chance_3 1 rfl) sb_n))))))))))))))))))) (uq_X3_chance_X3)) (uq_X3_chance_X0)) (uq_X3_chance_X1))) gw_X3_countSafe
set_option maxRecDepth 20000 in
theorem gX3_chance_X3_countSafe : GoodIn wsX3_chance (wsV RX3 208 RX3 yX3_countSafe wsX3_countSafe) := goodIn_app (goodIn_sub (sb_c (qq_X3_chance_0 8 rfl) (sb_c (qq_X3_chance_0 9 rfl) (sb_c (qq_X3_chance_0 10 rfl) (sb_c (qq_X3_chance_0 6 rfl) sb_n)))) (by decide +kernel)) ggX3_chance_X3_countSafe
set_option maxRecDepth 20000 in
theorem gw_X3_power : wsX3_power.all goodWord = true := by decide +kernel
set_option maxRecDepth 20000 in
theorem ggX3_chance_X3_power : GoodIn wsX3_chance wsX3_power := goodIn_sub (sb_c (qq_X3_chance_3 4 rfl) (sb_n)) gw_X3_power
set_option maxRecDepth 20000 in
theorem gX3_chance_X3_power : GoodIn wsX3_chance (va_wsS RX3 211 yX3_power wsX3_power) := goodIn_app (goodIn_sub (sb_c (qq_X3_chance_3 2 rfl) (sb_c (qq_X3_chance_3 3 rfl) (sb_c (qq_X3_chance_0 6 rfl) sb_n))) (by decide +kernel)) ggX3_chance_X3_power
theorem dX3_chance_0 : decode cX3_chance 0 = .ok (.iload_n 1, 1) := by decide +kernel
theorem dX3_chance_1 : decode cX3_chance 1 = .ok (.iconst 0, 1) := by decide +kernel
theorem dX3_chance_2 : decode cX3_chance 2 = .ok (.bipush 16, 2) := by decide +kernel
theorem dX3_chance_4 : decode cX3_chance 4 = .ok (.invokestatic 68, 3) := by decide +kernel
theorem dX3_chance_7 : decode cX3_chance 7 = .ok (.ifCond .eq 12, 3) := by decide +kernel
theorem dX3_chance_10 : decode cX3_chance 10 = .ok (.iload_n 2, 1) := by decide +kernel
theorem dX3_chance_11 : decode cX3_chance 11 = .ok (.iconst 0, 1) := by decide +kernel
theorem dX3_chance_12 : decode cX3_chance 12 = .ok (.iconst 1, 1) := by decide +kernel
theorem dX3_chance_13 : decode cX3_chance 13 = .ok (.invokestatic 68, 3) := by decide +kernel
theorem dX3_chance_16 : decode cX3_chance 16 = .ok (.ifCond .ne 7, 3) := by decide +kernel
theorem dX3_chance_19 : decode cX3_chance 19 = .ok (.ldc2_w 206, 3) := by decide +kernel
theorem dX3_chance_22 : decode cX3_chance 22 = .ok (.lreturn, 1) := by decide +kernel
theorem dX3_chance_23 : decode cX3_chance 23 = .ok (.aload_n 0, 1) := by decide +kernel
theorem dX3_chance_24 : decode cX3_chance 24 = .ok (.invokevirtual 208, 3) := by decide +kernel
theorem dX3_chance_27 : decode cX3_chance 27 = .ok (.lconst 0, 1) := by decide +kernel
theorem dX3_chance_28 : decode cX3_chance 28 = .ok (.lstore_n 3, 1) := by decide +kernel
theorem dX3_chance_29 : decode cX3_chance 29 = .ok (.iconst 0, 1) := by decide +kernel
theorem dX3_chance_30 : decode cX3_chance 30 = .ok (.istore 5, 2) := by decide +kernel
theorem dX3_chance_32 : decode cX3_chance 32 = .ok (.iload 5, 2) := by decide +kernel
theorem dX3_chance_34 : decode cX3_chance 34 = .ok (.aload_n 0, 1) := by decide +kernel
theorem dX3_chance_35 : decode cX3_chance 35 = .ok (.getfield 26, 3) := by decide +kernel
theorem dX3_chance_38 : decode cX3_chance 38 = .ok (.getfield 85, 3) := by decide +kernel
theorem dX3_chance_41 : decode cX3_chance 41 = .ok (.if_icmp .gt 46, 3) := by decide +kernel
theorem dX3_chance_44 : decode cX3_chance 44 = .ok (.lload_n 3, 1) := by decide +kernel
theorem dX3_chance_45 : decode cX3_chance 45 = .ok (.aload_n 0, 1) := by decide +kernel
theorem dX3_chance_46 : decode cX3_chance 46 = .ok (.getfield 47, 3) := by decide +kernel
theorem dX3_chance_49 : decode cX3_chance 49 = .ok (.iload 5, 2) := by decide +kernel
theorem dX3_chance_51 : decode cX3_chance 51 = .ok (.laload, 1) := by decide +kernel
theorem dX3_chance_52 : decode cX3_chance 52 = .ok (.iload_n 1, 1) := by decide +kernel
theorem dX3_chance_53 : decode cX3_chance 53 = .ok (.i2l, 1) := by decide +kernel
theorem dX3_chance_54 : decode cX3_chance 54 = .ok (.iload 5, 2) := by decide +kernel
theorem dX3_chance_56 : decode cX3_chance 56 = .ok (.invokestatic 211, 3) := by decide +kernel
theorem dX3_chance_59 : decode cX3_chance 59 = .ok (.lmul, 1) := by decide +kernel
theorem dX3_chance_60 : decode cX3_chance 60 = .ok (.bipush 16, 2) := by decide +kernel
theorem dX3_chance_62 : decode cX3_chance 62 = .ok (.iload_n 1, 1) := by decide +kernel
theorem dX3_chance_63 : decode cX3_chance 63 = .ok (.isub, 1) := by decide +kernel
theorem dX3_chance_64 : decode cX3_chance 64 = .ok (.i2l, 1) := by decide +kernel
theorem dX3_chance_65 : decode cX3_chance 65 = .ok (.aload_n 0, 1) := by decide +kernel
theorem dX3_chance_66 : decode cX3_chance 66 = .ok (.getfield 26, 3) := by decide +kernel
theorem dX3_chance_69 : decode cX3_chance 69 = .ok (.getfield 85, 3) := by decide +kernel
theorem dX3_chance_72 : decode cX3_chance 72 = .ok (.iload 5, 2) := by decide +kernel
theorem dX3_chance_74 : decode cX3_chance 74 = .ok (.isub, 1) := by decide +kernel
theorem dX3_chance_75 : decode cX3_chance 75 = .ok (.invokestatic 211, 3) := by decide +kernel
theorem dX3_chance_78 : decode cX3_chance 78 = .ok (.lmul, 1) := by decide +kernel
theorem dX3_chance_79 : decode cX3_chance 79 = .ok (.ladd, 1) := by decide +kernel
theorem dX3_chance_80 : decode cX3_chance 80 = .ok (.lstore_n 3, 1) := by decide +kernel
theorem dX3_chance_81 : decode cX3_chance 81 = .ok (.iinc 5 1, 3) := by decide +kernel
theorem dX3_chance_84 : decode cX3_chance 84 = .ok (.goto (-52), 3) := by decide +kernel
theorem dX3_chance_87 : decode cX3_chance 87 = .ok (.ldc2_w 215, 3) := by decide +kernel
theorem dX3_chance_90 : decode cX3_chance 90 = .ok (.aload_n 0, 1) := by decide +kernel
theorem dX3_chance_91 : decode cX3_chance 91 = .ok (.getfield 26, 3) := by decide +kernel
theorem dX3_chance_94 : decode cX3_chance 94 = .ok (.getfield 85, 3) := by decide +kernel
theorem dX3_chance_97 : decode cX3_chance 97 = .ok (.invokestatic 211, 3) := by decide +kernel
theorem dX3_chance_100 : decode cX3_chance 100 = .ok (.lstore 5, 2) := by decide +kernel
theorem dX3_chance_102 : decode cX3_chance 102 = .ok (.iconst 0, 1) := by decide +kernel
theorem dX3_chance_103 : decode cX3_chance 103 = .ok (.istore 7, 2) := by decide +kernel
theorem dX3_chance_105 : decode cX3_chance 105 = .ok (.iload 7, 2) := by decide +kernel
theorem dX3_chance_107 : decode cX3_chance 107 = .ok (.iconst 4, 1) := by decide +kernel
theorem dX3_chance_108 : decode cX3_chance 108 = .ok (.aload_n 0, 1) := by decide +kernel
theorem dX3_chance_109 : decode cX3_chance 109 = .ok (.getfield 26, 3) := by decide +kernel
theorem dX3_chance_112 : decode cX3_chance 112 = .ok (.getfield 85, 3) := by decide +kernel
theorem dX3_chance_115 : decode cX3_chance 115 = .ok (.imul, 1) := by decide +kernel
theorem dX3_chance_116 : decode cX3_chance 116 = .ok (.if_icmp .ge 27, 3) := by decide +kernel
theorem dX3_chance_119 : decode cX3_chance 119 = .ok (.lload_n 3, 1) := by decide +kernel
theorem dX3_chance_120 : decode cX3_chance 120 = .ok (.lconst 1, 1) := by decide +kernel
theorem dX3_chance_121 : decode cX3_chance 121 = .ok (.land, 1) := by decide +kernel
theorem dX3_chance_122 : decode cX3_chance 122 = .ok (.lconst 0, 1) := by decide +kernel
theorem dX3_chance_123 : decode cX3_chance 123 = .ok (.lcmp, 1) := by decide +kernel
theorem dX3_chance_124 : decode cX3_chance 124 = .ok (.ifCond .ne 19, 3) := by decide +kernel
theorem dX3_chance_127 : decode cX3_chance 127 = .ok (.lload_n 3, 1) := by decide +kernel
theorem dX3_chance_128 : decode cX3_chance 128 = .ok (.iconst 1, 1) := by decide +kernel
theorem dX3_chance_129 : decode cX3_chance 129 = .ok (.lshr, 1) := by decide +kernel
theorem dX3_chance_130 : decode cX3_chance 130 = .ok (.lstore_n 3, 1) := by decide +kernel
theorem dX3_chance_131 : decode cX3_chance 131 = .ok (.lload 5, 2) := by decide +kernel
theorem dX3_chance_133 : decode cX3_chance 133 = .ok (.iconst 1, 1) := by decide +kernel
theorem dX3_chance_134 : decode cX3_chance 134 = .ok (.lshr, 1) := by decide +kernel
theorem dX3_chance_135 : decode cX3_chance 135 = .ok (.lstore 5, 2) := by decide +kernel
theorem dX3_chance_137 : decode cX3_chance 137 = .ok (.iinc 7 1, 3) := by decide +kernel
theorem dX3_chance_140 : decode cX3_chance 140 = .ok (.goto (-35), 3) := by decide +kernel
theorem dX3_chance_143 : decode cX3_chance 143 = .ok (.iload_n 2, 1) := by decide +kernel
theorem dX3_chance_144 : decode cX3_chance 144 = .ok (.ifCond .ne 7, 3) := by decide +kernel
theorem dX3_chance_147 : decode cX3_chance 147 = .ok (.lload_n 3, 1) := by decide +kernel
theorem dX3_chance_148 : decode cX3_chance 148 = .ok (.goto 5, 3) := by decide +kernel
theorem dX3_chance_151 : decode cX3_chance 151 = .ok (.lload 5, 2) := by decide +kernel
theorem dX3_chance_153 : decode cX3_chance 153 = .ok (.lreturn, 1) := by decide +kernel
theorem qq_X3_tests_0 {c : Cond} (j : Nat) (h : wsX3_tests_r1[j]? = some c) : c ∈ wsX3_tests := List.mem_cons_of_mem _ (List.mem_append_left _ (List.mem_append_left _ (List.mem_append_left _ (List.mem_of_getElem? h))))
theorem qq_X3_tests_1 {c : Cond} (j : Nat) (h : wsX3_tests_r2[j]? = some c) : c ∈ wsX3_tests := List.mem_cons_of_mem _ (List.mem_append_left _ (List.mem_append_left _ (List.mem_append_right _ (List.mem_append_left _ (List.mem_of_getElem? h)))))
theorem qq_X3_tests_2 {c : Cond} (j : Nat) (h : wsX3_tests_r3[j]? = some c) : c ∈ wsX3_tests := List.mem_cons_of_mem _ (List.mem_append_left _ (List.mem_append_left _ (List.mem_append_right _ (List.mem_append_right _ (List.mem_append_left _ (List.mem_of_getElem? h))))))
theorem qq_X3_tests_3 {c : Cond} (j : Nat) (h : wsX3_tests_r4[j]? = some c) : c ∈ wsX3_tests := List.mem_cons_of_mem _ (List.mem_append_left _ (List.mem_append_left _ (List.mem_append_right _ (List.mem_append_right _ (List.mem_append_right _ (List.mem_append_left _ (List.mem_of_getElem? h)))))))
theorem qq_X3_tests_4 {c : Cond} (j : Nat) (h : wsX3_tests_r5[j]? = some c) : c ∈ wsX3_tests := List.mem_cons_of_mem _ (List.mem_append_left _ (List.mem_append_left _ (List.mem_append_right _ (List.mem_append_right _ (List.mem_append_right _ (List.mem_append_right _ (List.mem_of_getElem? h)))))))
theorem uq_X3_tests_X3 : wsub wsX30 wsX3_tests := fun _ h => List.mem_cons_of_mem _ (List.mem_append_left _ (List.mem_append_right _ (h)))
theorem uq_X3_tests_X1 : wsub wsX10 wsX3_tests := fun _ h => List.mem_cons_of_mem _ (List.mem_append_right _ (h))
set_option maxRecDepth 20000 in
theorem ggX3_tests_X3_within : GoodIn wsX3_tests wsX3_within := goodIn_sub (sb_c (qq_X3_tests_0 6 rfl) (sb_n)) gw_X3_within
set_option maxRecDepth 20000 in
theorem gX3_tests_X3_within : GoodIn wsX3_tests (va_wsS RX3 68 yX3_within wsX3_within) := goodIn_app (goodIn_sub (sb_c (qq_X3_tests_0 3 rfl) (sb_c (qq_X3_tests_0 4 rfl) (sb_c (qq_X3_tests_0 5 rfl) sb_n))) (by decide +kernel)) ggX3_tests_X3_within
set_option maxRecDepth 20000 in
theorem ggX3_tests_X1_takeInputs : GoodIn wsX3_tests wsX1_takeInputs := goodIn_sub (sb_c (qq_X3_tests_0 10 rfl) (sb_a (sb_c (qq_X3_tests_0 11 rfl) (sb_c (qq_X3_tests_0 12 rfl) (sb_c (qq_X3_tests_0 13 rfl) (sb_c (qq_X3_tests_0 14 rfl) (sb_c (qq_X3_tests_0 15 rfl) (sb_c (qq_X3_tests_0 16 rfl) (sb_c (qq_X3_tests_0 17 rfl) sb_n))))))) (uq_X3_tests_X1))) gw_X1_takeInputs
set_option maxRecDepth 20000 in
theorem gX3_tests_X1_takeInputs_n181 : GoodIn wsX3_tests (wsX1_takeInputs) := ggX3_tests_X1_takeInputs
set_option maxRecDepth 20000 in
theorem ggX3_tests_X1_print : GoodIn wsX3_tests wsX1_print := goodIn_sub (sb_c (qq_X3_tests_0 20 rfl) (sb_a (sb_a (sb_c (qq_X3_tests_0 21 rfl) (sb_c (qq_X3_tests_0 22 rfl) (sb_c (qq_X3_tests_0 23 rfl) (sb_c (qq_X3_tests_1 0 rfl) (sb_c (qq_X3_tests_1 1 rfl) (sb_c (qq_X3_tests_1 2 rfl) (sb_c (qq_X3_tests_1 3 rfl) (sb_c (qq_X3_tests_0 16 rfl) (sb_c (qq_X3_tests_1 4 rfl) (sb_c (qq_X3_tests_1 5 rfl) (sb_c (qq_X3_tests_1 6 rfl) (sb_c (qq_X3_tests_0 8 rfl) (sb_c (qq_X3_tests_1 7 rfl) (sb_c (qq_X3_tests_1 8 rfl) (sb_c (qq_X3_tests_1 9 rfl) (sb_c (qq_X3_tests_1 10 rfl) (sb_c (qq_X3_tests_1 11 rfl) (sb_c (qq_X3_tests_1 12 rfl) (sb_c (qq_X3_tests_1 13 rfl) (sb_c (qq_X3_tests_1 14 rfl) (sb_c (qq_X3_tests_0 5 rfl) (sb_c (qq_X3_tests_1 15 rfl) (sb_c (qq_X3_tests_0 3 rfl) (sb_c (qq_X3_tests_0 4 rfl) sb_n)))))))))))))))))))))))) (sb_a (sb_c (qq_X3_tests_0 6 rfl) (sb_c (qq_X3_tests_1 16 rfl) (sb_c (qq_X3_tests_1 17 rfl) (sb_c (qq_X3_tests_1 18 rfl) (sb_c (qq_X3_tests_1 19 rfl) (sb_c (qq_X3_tests_0 11 rfl) (sb_c (qq_X3_tests_1 20 rfl) (sb_c (qq_X3_tests_1 21 rfl) (sb_c (qq_X3_tests_1 22 rfl) (sb_c (qq_X3_tests_1 23 rfl) (sb_c (qq_X3_tests_2 0 rfl) (sb_c (qq_X3_tests_2 1 rfl) (sb_c (qq_X3_tests_0 17 rfl) (sb_c (qq_X3_tests_2 2 rfl) (sb_c (qq_X3_tests_2 3 rfl) (sb_c (qq_X3_tests_2 4 rfl) (sb_c (qq_X3_tests_2 5 rfl) (sb_c (qq_X3_tests_2 6 rfl) (sb_c (qq_X3_tests_2 7 rfl) (sb_c (qq_X3_tests_2 8 rfl) (sb_c (qq_X3_tests_2 9 rfl) (sb_c (qq_X3_tests_2 10 rfl) (sb_c (qq_X3_tests_2 11 rfl) (sb_c (qq_X3_tests_2 12 rfl) sb_n)))))))))))))))))))))))) (sb_a (sb_c (qq_X3_tests_2 13 rfl) (sb_c (qq_X3_tests_2 14 rfl) (sb_c (qq_X3_tests_2 15 rfl) (sb_c (qq_X3_tests_2 16 rfl) (sb_c (qq_X3_tests_2 17 rfl) (sb_c (qq_X3_tests_2 18 rfl) (sb_c (qq_X3_tests_2 19 rfl) (sb_c (qq_X3_tests_2 20 rfl) (sb_c (qq_X3_tests_2 21 rfl) (sb_c (qq_X3_tests_2 22 rfl) (sb_c (qq_X3_tests_2 23 rfl) (sb_c (qq_X3_tests_3 0 rfl) (sb_c (qq_X3_tests_3 1 rfl) (sb_c (qq_X3_tests_3 2 rfl) (sb_c (qq_X3_tests_3 3 rfl) (sb_c (qq_X3_tests_3 4 rfl) (sb_c (qq_X3_tests_3 5 rfl) (sb_c (qq_X3_tests_3 6 rfl) (sb_c (qq_X3_tests_3 7 rfl) (sb_c (qq_X3_tests_3 8 rfl) (sb_c (qq_X3_tests_3 9 rfl) (sb_c (qq_X3_tests_3 10 rfl) (sb_c (qq_X3_tests_3 11 rfl) (sb_c (qq_X3_tests_3 12 rfl) sb_n)))))))))))))))))))))))) (sb_c (qq_X3_tests_3 13 rfl) (sb_c (qq_X3_tests_3 14 rfl) (sb_c (qq_X3_tests_3 15 rfl) (sb_c (qq_X3_tests_3 16 rfl) (sb_c (qq_X3_tests_3 17 rfl) (sb_c (qq_X3_tests_3 18 rfl) (sb_c (qq_X3_tests_3 19 rfl) (sb_c (qq_X3_tests_3 20 rfl) (sb_c (qq_X3_tests_3 21 rfl) (sb_c (qq_X3_tests_3 22 rfl) (sb_c (qq_X3_tests_3 23 rfl) (sb_c (qq_X3_tests_4 0 rfl) (sb_c (qq_X3_tests_4 1 rfl) (sb_c (qq_X3_tests_4 2 rfl) sb_n))))))))))))))))) (uq_X3_tests_X1))) gw_X1_print
set_option maxRecDepth 20000 in
theorem gX3_tests_X1_print_n61 : GoodIn wsX3_tests (wsX1_print) := ggX3_tests_X1_print
set_option maxRecDepth 20000 in
theorem ggX3_tests_X1_allMissed : GoodIn wsX3_tests wsX1_allMissed := goodIn_sub (sb_c (qq_X3_tests_4 5 rfl) (sb_a (sb_c (qq_X3_tests_0 22 rfl) (sb_c (qq_X3_tests_4 6 rfl) (sb_c (qq_X3_tests_4 7 rfl) (sb_c (qq_X3_tests_0 8 rfl) (sb_c (qq_X3_tests_4 8 rfl) (sb_c (qq_X3_tests_4 9 rfl) (sb_c (qq_X3_tests_4 10 rfl) (sb_c (qq_X3_tests_4 11 rfl) (sb_c (qq_X3_tests_4 12 rfl) (sb_c (qq_X3_tests_4 13 rfl) (sb_c (qq_X3_tests_4 14 rfl) (sb_c (qq_X3_tests_4 15 rfl) sb_n)))))))))))) (uq_X3_tests_X1))) gw_X1_allMissed
set_option maxRecDepth 20000 in
theorem gX3_tests_X1_allMissed_n155 : GoodIn wsX3_tests (wsX1_allMissed) := ggX3_tests_X1_allMissed
set_option maxRecDepth 20000 in
theorem ggX3_tests_X1_gutterDrops : GoodIn wsX3_tests wsX1_gutterDrops := goodIn_sub (sb_c (qq_X3_tests_4 18 rfl) (sb_a (sb_c (qq_X3_tests_1 3 rfl) (sb_c (qq_X3_tests_4 6 rfl) (sb_c (qq_X3_tests_4 7 rfl) (sb_c (qq_X3_tests_0 8 rfl) (sb_c (qq_X3_tests_4 8 rfl) (sb_c (qq_X3_tests_4 9 rfl) (sb_c (qq_X3_tests_4 10 rfl) (sb_c (qq_X3_tests_4 11 rfl) (sb_c (qq_X3_tests_4 12 rfl) (sb_c (qq_X3_tests_4 13 rfl) (sb_c (qq_X3_tests_4 14 rfl) (sb_c (qq_X3_tests_4 15 rfl) sb_n)))))))))))) (uq_X3_tests_X1))) gw_X1_gutterDrops
set_option maxRecDepth 20000 in
theorem gX3_tests_X1_gutterDrops_n161 : GoodIn wsX3_tests (wsX1_gutterDrops) := ggX3_tests_X1_gutterDrops
theorem dX3_tests_0 : decode cX3_tests 0 = .ok (.iload_n 2, 1) := by decide +kernel
theorem dX3_tests_1 : decode cX3_tests 1 = .ok (.iconst 0, 1) := by decide +kernel
theorem dX3_tests_2 : decode cX3_tests 2 = .ok (.bipush 16, 2) := by decide +kernel
theorem dX3_tests_4 : decode cX3_tests 4 = .ok (.invokestatic 68, 3) := by decide +kernel
theorem dX3_tests_7 : decode cX3_tests 7 = .ok (.ifCond .eq 12, 3) := by decide +kernel
theorem dX3_tests_10 : decode cX3_tests 10 = .ok (.iload_n 3, 1) := by decide +kernel
theorem dX3_tests_11 : decode cX3_tests 11 = .ok (.iconst 0, 1) := by decide +kernel
theorem dX3_tests_12 : decode cX3_tests 12 = .ok (.iconst 1, 1) := by decide +kernel
theorem dX3_tests_13 : decode cX3_tests 13 = .ok (.invokestatic 68, 3) := by decide +kernel
theorem dX3_tests_16 : decode cX3_tests 16 = .ok (.ifCond .ne 6, 3) := by decide +kernel
theorem dX3_tests_19 : decode cX3_tests 19 = .ok (.bipush (-2), 2) := by decide +kernel
theorem dX3_tests_21 : decode cX3_tests 21 = .ok (.ireturn, 1) := by decide +kernel
theorem dX3_tests_22 : decode cX3_tests 22 = .ok (.aload_n 0, 1) := by decide +kernel
theorem dX3_tests_23 : decode cX3_tests 23 = .ok (.getfield 20, 3) := by decide +kernel
theorem dX3_tests_26 : decode cX3_tests 26 = .ok (.aload_n 0, 1) := by decide +kernel
theorem dX3_tests_27 : decode cX3_tests 27 = .ok (.getfield 16, 3) := by decide +kernel
theorem dX3_tests_30 : decode cX3_tests 30 = .ok (.invokevirtual 181, 3) := by decide +kernel
theorem dX3_tests_33 : decode cX3_tests 33 = .ok (.iload_n 1, 1) := by decide +kernel
theorem dX3_tests_34 : decode cX3_tests 34 = .ok (.istore 4, 2) := by decide +kernel
theorem dX3_tests_36 : decode cX3_tests 36 = .ok (.iconst 0, 1) := by decide +kernel
theorem dX3_tests_37 : decode cX3_tests 37 = .ok (.istore 5, 2) := by decide +kernel
theorem dX3_tests_39 : decode cX3_tests 39 = .ok (.iload 5, 2) := by decide +kernel
theorem dX3_tests_41 : decode cX3_tests 41 = .ok (.bipush 16, 2) := by decide +kernel
theorem dX3_tests_43 : decode cX3_tests 43 = .ok (.if_icmp .ge 49, 3) := by decide +kernel
theorem dX3_tests_46 : decode cX3_tests 46 = .ok (.ldc 217, 2) := by decide +kernel
theorem dX3_tests_48 : decode cX3_tests 48 = .ok (.iload 4, 2) := by decide +kernel
theorem dX3_tests_50 : decode cX3_tests 50 = .ok (.imul, 1) := by decide +kernel
theorem dX3_tests_51 : decode cX3_tests 51 = .ok (.sipush 12345, 3) := by decide +kernel
theorem dX3_tests_54 : decode cX3_tests 54 = .ok (.iadd, 1) := by decide +kernel
theorem dX3_tests_55 : decode cX3_tests 55 = .ok (.istore 4, 2) := by decide +kernel
theorem dX3_tests_57 : decode cX3_tests 57 = .ok (.aload_n 0, 1) := by decide +kernel
theorem dX3_tests_58 : decode cX3_tests 58 = .ok (.getfield 20, 3) := by decide +kernel
theorem dX3_tests_61 : decode cX3_tests 61 = .ok (.getfield 72, 3) := by decide +kernel
theorem dX3_tests_64 : decode cX3_tests 64 = .ok (.iload 5, 2) := by decide +kernel
theorem dX3_tests_66 : decode cX3_tests 66 = .ok (.iload 5, 2) := by decide +kernel
theorem dX3_tests_68 : decode cX3_tests 68 = .ok (.iload_n 2, 1) := by decide +kernel
theorem dX3_tests_69 : decode cX3_tests 69 = .ok (.if_icmp .ge 15, 3) := by decide +kernel
theorem dX3_tests_72 : decode cX3_tests 72 = .ok (.iload 4, 2) := by decide +kernel
theorem dX3_tests_74 : decode cX3_tests 74 = .ok (.bipush 16, 2) := by decide +kernel
theorem dX3_tests_76 : decode cX3_tests 76 = .ok (.iushr, 1) := by decide +kernel
theorem dX3_tests_77 : decode cX3_tests 77 = .ok (.sipush 256, 3) := by decide +kernel
theorem dX3_tests_80 : decode cX3_tests 80 = .ok (.irem, 1) := by decide +kernel
theorem dX3_tests_81 : decode cX3_tests 81 = .ok (.goto 4, 3) := by decide +kernel
theorem dX3_tests_84 : decode cX3_tests 84 = .ok (.iconst 0, 1) := by decide +kernel
theorem dX3_tests_85 : decode cX3_tests 85 = .ok (.iastore, 1) := by decide +kernel
theorem dX3_tests_86 : decode cX3_tests 86 = .ok (.iinc 5 1, 3) := by decide +kernel
theorem dX3_tests_89 : decode cX3_tests 89 = .ok (.goto (-50), 3) := by decide +kernel
theorem dX3_tests_92 : decode cX3_tests 92 = .ok (.aload_n 0, 1) := by decide +kernel
theorem dX3_tests_93 : decode cX3_tests 93 = .ok (.getfield 20, 3) := by decide +kernel
theorem dX3_tests_96 : decode cX3_tests 96 = .ok (.invokevirtual 61, 3) := by decide +kernel
theorem dX3_tests_99 : decode cX3_tests 99 = .ok (.iload_n 3, 1) := by decide +kernel
theorem dX3_tests_100 : decode cX3_tests 100 = .ok (.ifCond .ne 13, 3) := by decide +kernel
theorem dX3_tests_103 : decode cX3_tests 103 = .ok (.aload_n 0, 1) := by decide +kernel
theorem dX3_tests_104 : decode cX3_tests 104 = .ok (.getfield 20, 3) := by decide +kernel
theorem dX3_tests_107 : decode cX3_tests 107 = .ok (.invokevirtual 155, 3) := by decide +kernel
theorem dX3_tests_110 : decode cX3_tests 110 = .ok (.goto 10, 3) := by decide +kernel
theorem dX3_tests_113 : decode cX3_tests 113 = .ok (.aload_n 0, 1) := by decide +kernel
theorem dX3_tests_114 : decode cX3_tests 114 = .ok (.getfield 20, 3) := by decide +kernel
theorem dX3_tests_117 : decode cX3_tests 117 = .ok (.invokevirtual 161, 3) := by decide +kernel
theorem dX3_tests_120 : decode cX3_tests 120 = .ok (.ireturn, 1) := by decide +kernel
theorem qq_X3_sheet_0 {c : Cond} (j : Nat) (h : wsX3_sheet_r1[j]? = some c) : c ∈ wsX3_sheet := List.mem_cons_of_mem _ (List.mem_append_left _ (List.mem_append_left _ (List.mem_append_left _ (List.mem_of_getElem? h))))
theorem qq_X3_sheet_1 {c : Cond} (j : Nat) (h : wsX3_sheet_r2[j]? = some c) : c ∈ wsX3_sheet := List.mem_cons_of_mem _ (List.mem_append_left _ (List.mem_append_left _ (List.mem_append_right _ (List.mem_of_getElem? h))))
theorem uq_X3_sheet_X3 : wsub wsX30 wsX3_sheet := fun _ h => List.mem_cons_of_mem _ (List.mem_append_left _ (List.mem_append_right _ (h)))
theorem uq_X3_sheet_X2 : wsub wsX20 wsX3_sheet := fun _ h => List.mem_cons_of_mem _ (List.mem_append_right _ (h))
set_option maxRecDepth 20000 in
theorem ggX3_sheet_X3_isSheet : GoodIn wsX3_sheet wsX3_isSheet := goodIn_sub (sb_c (qq_X3_sheet_0 4 rfl) (sb_c (qq_X3_sheet_0 5 rfl) (sb_c (qq_X3_sheet_0 6 rfl) (sb_c (qq_X3_sheet_0 3 rfl) (sb_c (qq_X3_sheet_0 7 rfl) sb_n))))) gw_X3_isSheet
set_option maxRecDepth 20000 in
theorem gX3_sheet_X3_isSheet : GoodIn wsX3_sheet (va_wsS RX3 101 yX3_isSheet wsX3_isSheet) := goodIn_app (goodIn_sub (sb_c (qq_X3_sheet_0 1 rfl) (sb_c (qq_X3_sheet_0 2 rfl) (sb_c (qq_X3_sheet_0 3 rfl) sb_n))) (by decide +kernel)) ggX3_sheet_X3_isSheet
set_option maxRecDepth 20000 in
theorem gw_X3_isForm : wsX3_isForm.all goodWord = true := by decide +kernel
set_option maxRecDepth 20000 in
theorem ggX3_sheet_X3_isForm : GoodIn wsX3_sheet wsX3_isForm := goodIn_sub (sb_c (qq_X3_sheet_0 10 rfl) (sb_c (qq_X3_sheet_0 5 rfl) (sb_c (qq_X3_sheet_0 6 rfl) (sb_c (qq_X3_sheet_0 3 rfl) (sb_c (qq_X3_sheet_0 7 rfl) sb_n))))) gw_X3_isForm
set_option maxRecDepth 20000 in
theorem gX3_sheet_X3_isForm : GoodIn wsX3_sheet (va_wsS RX3 218 yX3_isForm wsX3_isForm) := goodIn_app (goodIn_sub (sb_c (qq_X3_sheet_0 8 rfl) (sb_c (qq_X3_sheet_0 9 rfl) (sb_c (qq_X3_sheet_0 3 rfl) sb_n))) (by decide +kernel)) ggX3_sheet_X3_isForm
set_option maxRecDepth 20000 in
theorem ggX3_sheet_X3_finding : GoodIn wsX3_sheet wsX3_finding := goodIn_sub (sb_c (qq_X3_sheet_0 14 rfl) (sb_a (sb_c (qq_X3_sheet_0 15 rfl) sb_n) (uq_X3_sheet_X3))) gw_X3_finding
set_option maxRecDepth 20000 in
theorem gX3_sheet_X3_finding : GoodIn wsX3_sheet (wsV RX3 108 RX3 yX3_finding wsX3_finding) := goodIn_app (goodIn_sub (sb_c (qq_X3_sheet_0 11 rfl) (sb_c (qq_X3_sheet_0 12 rfl) (sb_c (qq_X3_sheet_0 13 rfl) (sb_c (qq_X3_sheet_0 3 rfl) sb_n)))) (by decide +kernel)) ggX3_sheet_X3_finding
set_option maxRecDepth 20000 in
theorem gw_X2_begin : wsX2_begin.all goodWord = true := by decide +kernel
set_option maxRecDepth 20000 in
theorem ggX3_sheet_X2_begin : GoodIn wsX3_sheet wsX2_begin := goodIn_sub (sb_c (qq_X3_sheet_0 19 rfl) (sb_a (sb_c (qq_X3_sheet_0 20 rfl) (sb_c (qq_X3_sheet_0 21 rfl) (sb_c (qq_X3_sheet_0 22 rfl) (sb_c (qq_X3_sheet_0 23 rfl) (sb_c (qq_X3_sheet_1 0 rfl) (sb_c (qq_X3_sheet_1 1 rfl) (sb_c (qq_X3_sheet_1 2 rfl) (sb_c (qq_X3_sheet_1 3 rfl) sb_n)))))))) (uq_X3_sheet_X2))) gw_X2_begin
set_option maxRecDepth 20000 in
theorem gX3_sheet_X2_begin_n221 : GoodIn wsX3_sheet (wsX2_begin) := ggX3_sheet_X2_begin
theorem dX3_sheet_0 : decode cX3_sheet 0 = .ok (.iload_n 1, 1) := by decide +kernel
theorem dX3_sheet_1 : decode cX3_sheet 1 = .ok (.invokestatic 101, 3) := by decide +kernel
theorem dX3_sheet_4 : decode cX3_sheet 4 = .ok (.ifCond .eq 16, 3) := by decide +kernel
theorem dX3_sheet_7 : decode cX3_sheet 7 = .ok (.iload_n 2, 1) := by decide +kernel
theorem dX3_sheet_8 : decode cX3_sheet 8 = .ok (.invokestatic 218, 3) := by decide +kernel
theorem dX3_sheet_11 : decode cX3_sheet 11 = .ok (.ifCond .eq 9, 3) := by decide +kernel
theorem dX3_sheet_14 : decode cX3_sheet 14 = .ok (.iload_n 3, 1) := by decide +kernel
theorem dX3_sheet_15 : decode cX3_sheet 15 = .ok (.bipush 60, 2) := by decide +kernel
theorem dX3_sheet_17 : decode cX3_sheet 17 = .ok (.if_icmp .le 6, 3) := by decide +kernel
theorem dX3_sheet_20 : decode cX3_sheet 20 = .ok (.bipush (-2), 2) := by decide +kernel
theorem dX3_sheet_22 : decode cX3_sheet 22 = .ok (.ireturn, 1) := by decide +kernel

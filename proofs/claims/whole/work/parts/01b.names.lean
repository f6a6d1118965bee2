def wsub (l A : List Cond) : Prop := ∀ w ∈ l, w ∈ A
theorem sb_c {A l : List Cond} {c : Cond} (h : c ∈ A) (t : wsub l A) : wsub (c :: l) A := List.forall_mem_cons.mpr ⟨h, t⟩
theorem sb_n {A : List Cond} : wsub ([] : List Cond) A := fun _ h => absurd h List.not_mem_nil
theorem sb_a {A l m : List Cond} (h : wsub l A) (t : wsub m A) : wsub (l ++ m) A := List.forall_mem_append.mpr ⟨h, t⟩
theorem inJ7 : ∀ w ∈ wsJ70, w ∈ lw_tbl := by decide +kernel
theorem dX0_init_0 : decode cX0_init 0 = .ok (.aload_n 0, 1) := by decide +kernel
theorem dX0_init_1 : decode cX0_init 1 = .ok (.invokespecial 3, 3) := by decide +kernel
theorem dX0_init_4 : decode cX0_init 4 = .ok (.aload_n 0, 1) := by decide +kernel
theorem dX0_init_5 : decode cX0_init 5 = .ok (.bipush 8, 2) := by decide +kernel
theorem dX0_init_7 : decode cX0_init 7 = .ok (.newarray .int, 2) := by decide +kernel
theorem dX0_init_9 : decode cX0_init 9 = .ok (.putfield 9, 3) := by decide +kernel
theorem dX0_init_12 : decode cX0_init 12 = .ok (.aload_n 0, 1) := by decide +kernel
theorem dX0_init_13 : decode cX0_init 13 = .ok (.bipush 8, 2) := by decide +kernel
theorem dX0_init_15 : decode cX0_init 15 = .ok (.newarray .int, 2) := by decide +kernel
theorem dX0_init_17 : decode cX0_init 17 = .ok (.putfield 15, 3) := by decide +kernel
theorem dX0_init_20 : decode cX0_init 20 = .ok (.aload_n 0, 1) := by decide +kernel
theorem dX0_init_21 : decode cX0_init 21 = .ok (.bipush 8, 2) := by decide +kernel
theorem dX0_init_23 : decode cX0_init 23 = .ok (.newarray .int, 2) := by decide +kernel
theorem dX0_init_25 : decode cX0_init 25 = .ok (.putfield 18, 3) := by decide +kernel
theorem dX0_init_28 : decode cX0_init 28 = .ok (.aload_n 0, 1) := by decide +kernel
theorem dX0_init_29 : decode cX0_init 29 = .ok (.iconst 0, 1) := by decide +kernel
theorem dX0_init_30 : decode cX0_init 30 = .ok (.putfield 21, 3) := by decide +kernel
theorem dX0_init_33 : decode cX0_init 33 = .ok (.return_, 1) := by decide +kernel
theorem dX0_add_0 : decode cX0_add 0 = .ok (.aload_n 0, 1) := by decide +kernel
theorem dX0_add_1 : decode cX0_add 1 = .ok (.getfield 9, 3) := by decide +kernel
theorem dX0_add_4 : decode cX0_add 4 = .ok (.aload_n 0, 1) := by decide +kernel
theorem dX0_add_5 : decode cX0_add 5 = .ok (.getfield 21, 3) := by decide +kernel
theorem dX0_add_8 : decode cX0_add 8 = .ok (.iload_n 1, 1) := by decide +kernel
theorem dX0_add_9 : decode cX0_add 9 = .ok (.iastore, 1) := by decide +kernel
theorem dX0_add_10 : decode cX0_add 10 = .ok (.aload_n 0, 1) := by decide +kernel
theorem dX0_add_11 : decode cX0_add 11 = .ok (.getfield 15, 3) := by decide +kernel
theorem dX0_add_14 : decode cX0_add 14 = .ok (.aload_n 0, 1) := by decide +kernel
theorem dX0_add_15 : decode cX0_add 15 = .ok (.getfield 21, 3) := by decide +kernel
theorem dX0_add_18 : decode cX0_add 18 = .ok (.iload_n 2, 1) := by decide +kernel
theorem dX0_add_19 : decode cX0_add 19 = .ok (.iastore, 1) := by decide +kernel
theorem dX0_add_20 : decode cX0_add 20 = .ok (.aload_n 0, 1) := by decide +kernel
theorem dX0_add_21 : decode cX0_add 21 = .ok (.getfield 18, 3) := by decide +kernel
theorem dX0_add_24 : decode cX0_add 24 = .ok (.aload_n 0, 1) := by decide +kernel
theorem dX0_add_25 : decode cX0_add 25 = .ok (.getfield 21, 3) := by decide +kernel
theorem dX0_add_28 : decode cX0_add 28 = .ok (.iload_n 3, 1) := by decide +kernel
theorem dX0_add_29 : decode cX0_add 29 = .ok (.iastore, 1) := by decide +kernel
theorem dX0_add_30 : decode cX0_add 30 = .ok (.aload_n 0, 1) := by decide +kernel
theorem dX0_add_31 : decode cX0_add 31 = .ok (.dup, 1) := by decide +kernel
theorem dX0_add_32 : decode cX0_add 32 = .ok (.getfield 21, 3) := by decide +kernel
theorem dX0_add_35 : decode cX0_add 35 = .ok (.iconst 1, 1) := by decide +kernel
theorem dX0_add_36 : decode cX0_add 36 = .ok (.iadd, 1) := by decide +kernel
theorem dX0_add_37 : decode cX0_add 37 = .ok (.putfield 21, 3) := by decide +kernel
theorem dX0_add_40 : decode cX0_add 40 = .ok (.return_, 1) := by decide +kernel
theorem dX0_all_0 : decode cX0_all 0 = .ok (.iconst 1, 1) := by decide +kernel
theorem dX0_all_1 : decode cX0_all 1 = .ok (.aload_n 0, 1) := by decide +kernel
theorem dX0_all_2 : decode cX0_all 2 = .ok (.getfield 21, 3) := by decide +kernel
theorem dX0_all_5 : decode cX0_all 5 = .ok (.ishl, 1) := by decide +kernel
theorem dX0_all_6 : decode cX0_all 6 = .ok (.iconst 1, 1) := by decide +kernel
theorem dX0_all_7 : decode cX0_all 7 = .ok (.isub, 1) := by decide +kernel
theorem dX0_all_8 : decode cX0_all 8 = .ok (.ireturn, 1) := by decide +kernel
theorem qq_X0_livingBy_0 {c : Cond} (j : Nat) (h : ([.fieldLink RX0 21 "InkSwaths$Events" "size" "I", .fieldLink RX0 15 "InkSwaths$Events" "passes" "[I", .methodLink RX0 25 yJ7_fill_53178, .static yJ7_fill_53178, .initialized RJ7, .code yJ7_fill_53178 cJ7_fill_53178 4 none, .methodLink RX0 31 yX0_apply, .instanceMethod yX0_apply, .selects RX0 yX0_apply yX0_apply, .initialized RX0, .code yX0_apply cX0_apply 4 none, .fieldLink RX0 9 "InkSwaths$Events" "kinds" "[I", .fieldLink RX0 18 "InkSwaths$Events" "nozzles" "[I"] : List Cond)[j]? = some c) : c ∈ wsX0_livingBy := List.mem_cons_of_mem _ (List.mem_append_left _ (List.mem_of_getElem? h))
theorem uq_X0_livingBy_X0 : wsub wsX00 wsX0_livingBy := fun _ h => List.mem_cons_of_mem _ (List.mem_append_right _ (h))
set_option maxRecDepth 20000 in
theorem gw_J7_fill_53178 : wsJ7_fill_53178.all goodWord = true := by decide +kernel
set_option maxRecDepth 20000 in
theorem ggX0_livingBy_J7_fill_53178 : GoodIn wsX0_livingBy wsJ7_fill_53178 := goodIn_sub (sb_c (qq_X0_livingBy_0 5 rfl) (sb_n)) gw_J7_fill_53178
set_option maxRecDepth 20000 in
theorem gX0_livingBy_J7_fill_53178 : GoodIn wsX0_livingBy (va_wsS RX0 25 yJ7_fill_53178 wsJ7_fill_53178) := goodIn_app (goodIn_sub (sb_c (qq_X0_livingBy_0 2 rfl) (sb_c (qq_X0_livingBy_0 3 rfl) (sb_c (qq_X0_livingBy_0 4 rfl) sb_n))) (by decide +kernel)) ggX0_livingBy_J7_fill_53178
set_option maxRecDepth 20000 in
theorem gw_X0_apply : wsX0_apply.all goodWord = true := by decide +kernel
set_option maxRecDepth 20000 in
theorem ggX0_livingBy_X0_apply : GoodIn wsX0_livingBy wsX0_apply := goodIn_sub (sb_c (qq_X0_livingBy_0 10 rfl) (sb_a (sb_c (qq_X0_livingBy_0 1 rfl) (sb_c (qq_X0_livingBy_0 11 rfl) (sb_c (qq_X0_livingBy_0 12 rfl) sb_n))) (uq_X0_livingBy_X0))) gw_X0_apply
set_option maxRecDepth 20000 in
theorem gX0_livingBy_X0_apply : GoodIn wsX0_livingBy (wsV RX0 31 RX0 yX0_apply wsX0_apply) := goodIn_app (goodIn_sub (sb_c (qq_X0_livingBy_0 6 rfl) (sb_c (qq_X0_livingBy_0 7 rfl) (sb_c (qq_X0_livingBy_0 8 rfl) (sb_c (qq_X0_livingBy_0 9 rfl) sb_n)))) (by decide +kernel)) ggX0_livingBy_X0_apply
theorem dX0_livingBy_0 : decode cX0_livingBy 0 = .ok (.aload_n 2, 1) := by decide +kernel
theorem dX0_livingBy_1 : decode cX0_livingBy 1 = .ok (.sipush 4095, 3) := by decide +kernel
theorem dX0_livingBy_4 : decode cX0_livingBy 4 = .ok (.invokestatic 25, 3) := by decide +kernel
theorem dX0_livingBy_7 : decode cX0_livingBy 7 = .ok (.iconst 0, 1) := by decide +kernel
theorem dX0_livingBy_8 : decode cX0_livingBy 8 = .ok (.istore_n 3, 1) := by decide +kernel
theorem dX0_livingBy_9 : decode cX0_livingBy 9 = .ok (.iload_n 3, 1) := by decide +kernel
theorem dX0_livingBy_10 : decode cX0_livingBy 10 = .ok (.bipush 12, 2) := by decide +kernel
theorem dX0_livingBy_12 : decode cX0_livingBy 12 = .ok (.if_icmp .ge 55, 3) := by decide +kernel
theorem dX0_livingBy_15 : decode cX0_livingBy 15 = .ok (.iconst 0, 1) := by decide +kernel
theorem dX0_livingBy_16 : decode cX0_livingBy 16 = .ok (.istore 4, 2) := by decide +kernel
theorem dX0_livingBy_18 : decode cX0_livingBy 18 = .ok (.iload 4, 2) := by decide +kernel
theorem dX0_livingBy_20 : decode cX0_livingBy 20 = .ok (.aload_n 0, 1) := by decide +kernel
theorem dX0_livingBy_21 : decode cX0_livingBy 21 = .ok (.getfield 21, 3) := by decide +kernel
theorem dX0_livingBy_24 : decode cX0_livingBy 24 = .ok (.if_icmp .ge 37, 3) := by decide +kernel
theorem dX0_livingBy_27 : decode cX0_livingBy 27 = .ok (.aload_n 0, 1) := by decide +kernel
theorem dX0_livingBy_28 : decode cX0_livingBy 28 = .ok (.getfield 15, 3) := by decide +kernel
theorem dX0_livingBy_31 : decode cX0_livingBy 31 = .ok (.iload 4, 2) := by decide +kernel
theorem dX0_livingBy_33 : decode cX0_livingBy 33 = .ok (.iaload, 1) := by decide +kernel
theorem dX0_livingBy_34 : decode cX0_livingBy 34 = .ok (.iload_n 3, 1) := by decide +kernel
theorem dX0_livingBy_35 : decode cX0_livingBy 35 = .ok (.if_icmp .ne 20, 3) := by decide +kernel
theorem dX0_livingBy_38 : decode cX0_livingBy 38 = .ok (.iload_n 1, 1) := by decide +kernel
theorem dX0_livingBy_39 : decode cX0_livingBy 39 = .ok (.iload 4, 2) := by decide +kernel
theorem dX0_livingBy_41 : decode cX0_livingBy 41 = .ok (.ishr, 1) := by decide +kernel
theorem dX0_livingBy_42 : decode cX0_livingBy 42 = .ok (.iconst 1, 1) := by decide +kernel
theorem dX0_livingBy_43 : decode cX0_livingBy 43 = .ok (.iand, 1) := by decide +kernel
theorem dX0_livingBy_44 : decode cX0_livingBy 44 = .ok (.iconst 1, 1) := by decide +kernel
theorem dX0_livingBy_45 : decode cX0_livingBy 45 = .ok (.if_icmp .ne 10, 3) := by decide +kernel
theorem dX0_livingBy_48 : decode cX0_livingBy 48 = .ok (.aload_n 0, 1) := by decide +kernel
theorem dX0_livingBy_49 : decode cX0_livingBy 49 = .ok (.iload 4, 2) := by decide +kernel
theorem dX0_livingBy_51 : decode cX0_livingBy 51 = .ok (.aload_n 2, 1) := by decide +kernel
theorem dX0_livingBy_52 : decode cX0_livingBy 52 = .ok (.invokevirtual 31, 3) := by decide +kernel
theorem dX0_livingBy_55 : decode cX0_livingBy 55 = .ok (.iinc 4 1, 3) := by decide +kernel
theorem dX0_livingBy_58 : decode cX0_livingBy 58 = .ok (.goto (-40), 3) := by decide +kernel
theorem dX0_livingBy_61 : decode cX0_livingBy 61 = .ok (.iinc 3 1, 3) := by decide +kernel
theorem dX0_livingBy_64 : decode cX0_livingBy 64 = .ok (.goto (-55), 3) := by decide +kernel
theorem dX0_livingBy_67 : decode cX0_livingBy 67 = .ok (.return_, 1) := by decide +kernel
theorem dX0_apply_0 : decode cX0_apply 0 = .ok (.sipush 4095, 3) := by decide +kernel
theorem dX0_apply_3 : decode cX0_apply 3 = .ok (.aload_n 0, 1) := by decide +kernel
theorem dX0_apply_4 : decode cX0_apply 4 = .ok (.getfield 15, 3) := by decide +kernel
theorem dX0_apply_7 : decode cX0_apply 7 = .ok (.iload_n 1, 1) := by decide +kernel
theorem dX0_apply_8 : decode cX0_apply 8 = .ok (.iaload, 1) := by decide +kernel
theorem dX0_apply_9 : decode cX0_apply 9 = .ok (.ishl, 1) := by decide +kernel
theorem dX0_apply_10 : decode cX0_apply 10 = .ok (.sipush 4095, 3) := by decide +kernel
theorem dX0_apply_13 : decode cX0_apply 13 = .ok (.iand, 1) := by decide +kernel
theorem dX0_apply_14 : decode cX0_apply 14 = .ok (.istore_n 3, 1) := by decide +kernel
theorem dX0_apply_15 : decode cX0_apply 15 = .ok (.aload_n 0, 1) := by decide +kernel
theorem dX0_apply_16 : decode cX0_apply 16 = .ok (.getfield 9, 3) := by decide +kernel
theorem dX0_apply_19 : decode cX0_apply 19 = .ok (.iload_n 1, 1) := by decide +kernel
theorem dX0_apply_20 : decode cX0_apply 20 = .ok (.iaload, 1) := by decide +kernel
theorem dX0_apply_21 : decode cX0_apply 21 = .ok (.ifCond .ne 20, 3) := by decide +kernel
theorem dX0_apply_24 : decode cX0_apply 24 = .ok (.aload_n 2, 1) := by decide +kernel
theorem dX0_apply_25 : decode cX0_apply 25 = .ok (.aload_n 0, 1) := by decide +kernel
theorem dX0_apply_26 : decode cX0_apply 26 = .ok (.getfield 18, 3) := by decide +kernel
theorem dX0_apply_29 : decode cX0_apply 29 = .ok (.iload_n 1, 1) := by decide +kernel
theorem dX0_apply_30 : decode cX0_apply 30 = .ok (.iaload, 1) := by decide +kernel
theorem dX0_apply_31 : decode cX0_apply 31 = .ok (.dup2, 1) := by decide +kernel
theorem dX0_apply_32 : decode cX0_apply 32 = .ok (.iaload, 1) := by decide +kernel
theorem dX0_apply_33 : decode cX0_apply 33 = .ok (.iload_n 3, 1) := by decide +kernel
theorem dX0_apply_34 : decode cX0_apply 34 = .ok (.iconst (-1), 1) := by decide +kernel
theorem dX0_apply_35 : decode cX0_apply 35 = .ok (.ixor, 1) := by decide +kernel
theorem dX0_apply_36 : decode cX0_apply 36 = .ok (.iand, 1) := by decide +kernel
theorem dX0_apply_37 : decode cX0_apply 37 = .ok (.iastore, 1) := by decide +kernel
theorem dX0_apply_38 : decode cX0_apply 38 = .ok (.goto 15, 3) := by decide +kernel
theorem dX0_apply_41 : decode cX0_apply 41 = .ok (.aload_n 2, 1) := by decide +kernel
theorem dX0_apply_42 : decode cX0_apply 42 = .ok (.aload_n 0, 1) := by decide +kernel
theorem dX0_apply_43 : decode cX0_apply 43 = .ok (.getfield 18, 3) := by decide +kernel
theorem dX0_apply_46 : decode cX0_apply 46 = .ok (.iload_n 1, 1) := by decide +kernel
theorem dX0_apply_47 : decode cX0_apply 47 = .ok (.iaload, 1) := by decide +kernel
theorem dX0_apply_48 : decode cX0_apply 48 = .ok (.dup2, 1) := by decide +kernel
theorem dX0_apply_49 : decode cX0_apply 49 = .ok (.iaload, 1) := by decide +kernel
theorem dX0_apply_50 : decode cX0_apply 50 = .ok (.iload_n 3, 1) := by decide +kernel
theorem dX0_apply_51 : decode cX0_apply 51 = .ok (.ior, 1) := by decide +kernel
theorem dX0_apply_52 : decode cX0_apply 52 = .ok (.iastore, 1) := by decide +kernel
theorem dX0_apply_53 : decode cX0_apply 53 = .ok (.return_, 1) := by decide +kernel
theorem qq_X1_init_0 {c : Cond} (j : Nat) (h : wsX1_init_r1[j]? = some c) : c ∈ wsX1_init := List.mem_cons_of_mem _ (List.mem_append_left _ (List.mem_append_left _ (List.mem_of_getElem? h)))
theorem qq_X1_init_1 {c : Cond} (j : Nat) (h : wsX1_init_r2[j]? = some c) : c ∈ wsX1_init := List.mem_cons_of_mem _ (List.mem_append_left _ (List.mem_append_right _ (List.mem_of_getElem? h)))
theorem uq_X1_init_X1 : wsub wsX10 wsX1_init := fun _ h => List.mem_cons_of_mem _ (List.mem_append_right _ (h))
set_option maxRecDepth 20000 in
theorem ggX1_init_J7_fill_53178 : GoodIn wsX1_init wsJ7_fill_53178 := goodIn_sub (sb_c (qq_X1_init_1 3 rfl) (sb_n)) gw_J7_fill_53178
set_option maxRecDepth 20000 in
theorem gX1_init_J7_fill_53178 : GoodIn wsX1_init (va_wsS RX1 63 yJ7_fill_53178 wsJ7_fill_53178) := goodIn_app (goodIn_sub (sb_c (qq_X1_init_1 0 rfl) (sb_c (qq_X1_init_1 1 rfl) (sb_c (qq_X1_init_1 2 rfl) sb_n))) (by decide +kernel)) ggX1_init_J7_fill_53178
theorem dX1_init_0 : decode cX1_init 0 = .ok (.aload_n 0, 1) := by decide +kernel
theorem dX1_init_1 : decode cX1_init 1 = .ok (.invokespecial 3, 3) := by decide +kernel
theorem dX1_init_4 : decode cX1_init 4 = .ok (.aload_n 0, 1) := by decide +kernel
theorem dX1_init_5 : decode cX1_init 5 = .ok (.bipush 16, 2) := by decide +kernel
theorem dX1_init_7 : decode cX1_init 7 = .ok (.newarray .int, 2) := by decide +kernel
theorem dX1_init_9 : decode cX1_init 9 = .ok (.putfield 9, 3) := by decide +kernel
theorem dX1_init_12 : decode cX1_init 12 = .ok (.aload_n 0, 1) := by decide +kernel
theorem dX1_init_13 : decode cX1_init 13 = .ok (.getstatic 15, 3) := by decide +kernel
theorem dX1_init_16 : decode cX1_init 16 = .ok (.invokevirtual 18, 3) := by decide +kernel
theorem dX1_init_19 : decode cX1_init 19 = .ok (.checkcast 19, 3) := by decide +kernel
theorem dX1_init_22 : decode cX1_init 22 = .ok (.putfield 23, 3) := by decide +kernel
theorem dX1_init_25 : decode cX1_init 25 = .ok (.aload_n 0, 1) := by decide +kernel
theorem dX1_init_26 : decode cX1_init 26 = .ok (.bipush 8, 2) := by decide +kernel
theorem dX1_init_28 : decode cX1_init 28 = .ok (.newarray .int, 2) := by decide +kernel
theorem dX1_init_30 : decode cX1_init 30 = .ok (.putfield 26, 3) := by decide +kernel
theorem dX1_init_33 : decode cX1_init 33 = .ok (.aload_n 0, 1) := by decide +kernel
theorem dX1_init_34 : decode cX1_init 34 = .ok (.bipush 16, 2) := by decide +kernel
theorem dX1_init_36 : decode cX1_init 36 = .ok (.newarray .int, 2) := by decide +kernel
theorem dX1_init_38 : decode cX1_init 38 = .ok (.putfield 29, 3) := by decide +kernel
theorem dX1_init_41 : decode cX1_init 41 = .ok (.aload_n 0, 1) := by decide +kernel
theorem dX1_init_42 : decode cX1_init 42 = .ok (.sipush 192, 3) := by decide +kernel
theorem dX1_init_45 : decode cX1_init 45 = .ok (.newarray .int, 2) := by decide +kernel
theorem dX1_init_47 : decode cX1_init 47 = .ok (.putfield 32, 3) := by decide +kernel
theorem dX1_init_50 : decode cX1_init 50 = .ok (.aload_n 0, 1) := by decide +kernel
theorem dX1_init_51 : decode cX1_init 51 = .ok (.sipush 128, 3) := by decide +kernel
theorem dX1_init_54 : decode cX1_init 54 = .ok (.newarray .int, 2) := by decide +kernel
theorem dX1_init_56 : decode cX1_init 56 = .ok (.putfield 35, 3) := by decide +kernel
theorem dX1_init_59 : decode cX1_init 59 = .ok (.aload_n 0, 1) := by decide +kernel
theorem dX1_init_60 : decode cX1_init 60 = .ok (.bipush 16, 2) := by decide +kernel
theorem dX1_init_62 : decode cX1_init 62 = .ok (.newarray .int, 2) := by decide +kernel
theorem dX1_init_64 : decode cX1_init 64 = .ok (.putfield 38, 3) := by decide +kernel
theorem dX1_init_67 : decode cX1_init 67 = .ok (.aload_n 0, 1) := by decide +kernel
theorem dX1_init_68 : decode cX1_init 68 = .ok (.bipush 16, 2) := by decide +kernel
theorem dX1_init_70 : decode cX1_init 70 = .ok (.newarray .int, 2) := by decide +kernel
theorem dX1_init_72 : decode cX1_init 72 = .ok (.putfield 41, 3) := by decide +kernel
theorem dX1_init_75 : decode cX1_init 75 = .ok (.aload_n 0, 1) := by decide +kernel
theorem dX1_init_76 : decode cX1_init 76 = .ok (.bipush 16, 2) := by decide +kernel
theorem dX1_init_78 : decode cX1_init 78 = .ok (.newarray .int, 2) := by decide +kernel
theorem dX1_init_80 : decode cX1_init 80 = .ok (.putfield 44, 3) := by decide +kernel
theorem dX1_init_83 : decode cX1_init 83 = .ok (.aload_n 0, 1) := by decide +kernel
theorem dX1_init_84 : decode cX1_init 84 = .ok (.bipush 96, 2) := by decide +kernel
theorem dX1_init_86 : decode cX1_init 86 = .ok (.newarray .int, 2) := by decide +kernel
theorem dX1_init_88 : decode cX1_init 88 = .ok (.putfield 47, 3) := by decide +kernel
theorem dX1_init_91 : decode cX1_init 91 = .ok (.aload_n 0, 1) := by decide +kernel
theorem dX1_init_92 : decode cX1_init 92 = .ok (.bipush 8, 2) := by decide +kernel
theorem dX1_init_94 : decode cX1_init 94 = .ok (.newarray .int, 2) := by decide +kernel
theorem dX1_init_96 : decode cX1_init 96 = .ok (.putfield 50, 3) := by decide +kernel
theorem dX1_init_99 : decode cX1_init 99 = .ok (.aload_n 0, 1) := by decide +kernel
theorem dX1_init_100 : decode cX1_init 100 = .ok (.iconst 0, 1) := by decide +kernel
theorem dX1_init_101 : decode cX1_init 101 = .ok (.putfield 53, 3) := by decide +kernel
theorem dX1_init_104 : decode cX1_init 104 = .ok (.aload_n 0, 1) := by decide +kernel
theorem dX1_init_105 : decode cX1_init 105 = .ok (.bipush 12, 2) := by decide +kernel
theorem dX1_init_107 : decode cX1_init 107 = .ok (.newarray .int, 2) := by decide +kernel
theorem dX1_init_109 : decode cX1_init 109 = .ok (.putfield 57, 3) := by decide +kernel
theorem dX1_init_112 : decode cX1_init 112 = .ok (.aload_n 0, 1) := by decide +kernel
theorem dX1_init_113 : decode cX1_init 113 = .ok (.bipush 8, 2) := by decide +kernel
theorem dX1_init_115 : decode cX1_init 115 = .ok (.newarray .int, 2) := by decide +kernel
theorem dX1_init_117 : decode cX1_init 117 = .ok (.putfield 60, 3) := by decide +kernel
theorem dX1_init_120 : decode cX1_init 120 = .ok (.aload_n 0, 1) := by decide +kernel
theorem dX1_init_121 : decode cX1_init 121 = .ok (.getfield 26, 3) := by decide +kernel
theorem dX1_init_124 : decode cX1_init 124 = .ok (.sipush 4095, 3) := by decide +kernel
theorem dX1_init_127 : decode cX1_init 127 = .ok (.invokestatic 63, 3) := by decide +kernel
theorem dX1_init_130 : decode cX1_init 130 = .ok (.return_, 1) := by decide +kernel
theorem dX1_takeInputs_0 : decode cX1_takeInputs 0 = .ok (.aload_n 1, 1) := by decide +kernel
theorem dX1_takeInputs_1 : decode cX1_takeInputs 1 = .ok (.getfield 9, 3) := by decide +kernel
theorem dX1_takeInputs_4 : decode cX1_takeInputs 4 = .ok (.iconst 0, 1) := by decide +kernel
theorem dX1_takeInputs_5 : decode cX1_takeInputs 5 = .ok (.aload_n 0, 1) := by decide +kernel
theorem dX1_takeInputs_6 : decode cX1_takeInputs 6 = .ok (.getfield 9, 3) := by decide +kernel
theorem dX1_takeInputs_9 : decode cX1_takeInputs 9 = .ok (.iconst 0, 1) := by decide +kernel
theorem dX1_takeInputs_10 : decode cX1_takeInputs 10 = .ok (.bipush 16, 2) := by decide +kernel
theorem dX1_takeInputs_12 : decode cX1_takeInputs 12 = .ok (.invokestatic 69, 3) := by decide +kernel
theorem dX1_takeInputs_15 : decode cX1_takeInputs 15 = .ok (.aload_n 1, 1) := by decide +kernel
theorem dX1_takeInputs_16 : decode cX1_takeInputs 16 = .ok (.getfield 23, 3) := by decide +kernel
theorem dX1_takeInputs_19 : decode cX1_takeInputs 19 = .ok (.iconst 0, 1) := by decide +kernel
theorem dX1_takeInputs_20 : decode cX1_takeInputs 20 = .ok (.aload_n 0, 1) := by decide +kernel
theorem dX1_takeInputs_21 : decode cX1_takeInputs 21 = .ok (.getfield 23, 3) := by decide +kernel
theorem dX1_takeInputs_24 : decode cX1_takeInputs 24 = .ok (.iconst 0, 1) := by decide +kernel
theorem dX1_takeInputs_25 : decode cX1_takeInputs 25 = .ok (.bipush 9, 2) := by decide +kernel
theorem dX1_takeInputs_27 : decode cX1_takeInputs 27 = .ok (.invokestatic 69, 3) := by decide +kernel
theorem dX1_takeInputs_30 : decode cX1_takeInputs 30 = .ok (.aload_n 1, 1) := by decide +kernel
theorem dX1_takeInputs_31 : decode cX1_takeInputs 31 = .ok (.getfield 26, 3) := by decide +kernel
theorem dX1_takeInputs_34 : decode cX1_takeInputs 34 = .ok (.iconst 0, 1) := by decide +kernel
theorem dX1_takeInputs_35 : decode cX1_takeInputs 35 = .ok (.aload_n 0, 1) := by decide +kernel
theorem dX1_takeInputs_36 : decode cX1_takeInputs 36 = .ok (.getfield 26, 3) := by decide +kernel
theorem dX1_takeInputs_39 : decode cX1_takeInputs 39 = .ok (.iconst 0, 1) := by decide +kernel
theorem dX1_takeInputs_40 : decode cX1_takeInputs 40 = .ok (.bipush 8, 2) := by decide +kernel
theorem dX1_takeInputs_42 : decode cX1_takeInputs 42 = .ok (.invokestatic 69, 3) := by decide +kernel
theorem dX1_takeInputs_45 : decode cX1_takeInputs 45 = .ok (.return_, 1) := by decide +kernel
theorem qq_X1_print_0 {c : Cond} (j : Nat) (h : wsX1_print_r1[j]? = some c) : c ∈ wsX1_print := List.mem_cons_of_mem _ (List.mem_append_left _ (List.mem_append_left _ (List.mem_of_getElem? h)))
theorem qq_X1_print_1 {c : Cond} (j : Nat) (h : wsX1_print_r2[j]? = some c) : c ∈ wsX1_print := List.mem_cons_of_mem _ (List.mem_append_left _ (List.mem_append_right _ (List.mem_append_left _ (List.mem_of_getElem? h))))
theorem qq_X1_print_2 {c : Cond} (j : Nat) (h : wsX1_print_r3[j]? = some c) : c ∈ wsX1_print := List.mem_cons_of_mem _ (List.mem_append_left _ (List.mem_append_right _ (List.mem_append_right _ (List.mem_append_left _ (List.mem_of_getElem? h)))))
theorem qq_X1_print_3 {c : Cond} (j : Nat) (h : wsX1_print_r4[j]? = some c) : c ∈ wsX1_print := List.mem_cons_of_mem _ (List.mem_append_left _ (List.mem_append_right _ (List.mem_append_right _ (List.mem_append_right _ (List.mem_of_getElem? h)))))
theorem uq_X1_print_X1 : wsub wsX10 wsX1_print := fun _ h => List.mem_cons_of_mem _ (List.mem_append_right _ (h))
set_option maxRecDepth 20000 in
theorem gw_X1_layHits : wsX1_layHits.all goodWord = true := by decide +kernel
set_option maxRecDepth 20000 in
theorem ggX1_print_X1_layHits : GoodIn wsX1_print wsX1_layHits := goodIn_sub (sb_c (qq_X1_print_0 12 rfl) (sb_a (sb_c (qq_X1_print_0 13 rfl) (sb_c (qq_X1_print_0 7 rfl) (sb_c (qq_X1_print_0 14 rfl) (sb_c (qq_X1_print_0 15 rfl) (sb_c (qq_X1_print_0 16 rfl) (sb_c (qq_X1_print_0 17 rfl) (sb_c (qq_X1_print_0 18 rfl) (sb_c (qq_X1_print_0 19 rfl) (sb_c (qq_X1_print_0 20 rfl) (sb_c (qq_X1_print_0 21 rfl) (sb_c (qq_X1_print_0 22 rfl) (sb_c (qq_X1_print_0 23 rfl) (sb_c (qq_X1_print_1 0 rfl) sb_n))))))))))))) (uq_X1_print_X1))) gw_X1_layHits
set_option maxRecDepth 20000 in
theorem gX1_print_X1_layHits : GoodIn wsX1_print (wsV RX1 75 RX1 yX1_layHits wsX1_layHits) := goodIn_app (goodIn_sub (sb_c (qq_X1_print_0 8 rfl) (sb_c (qq_X1_print_0 9 rfl) (sb_c (qq_X1_print_0 10 rfl) (sb_c (qq_X1_print_0 11 rfl) sb_n)))) (by decide +kernel)) ggX1_print_X1_layHits
set_option maxRecDepth 20000 in
theorem ggX1_print_J7_fill_53178 : GoodIn wsX1_print wsJ7_fill_53178 := goodIn_sub (sb_c (qq_X1_print_0 18 rfl) (sb_n)) gw_J7_fill_53178
set_option maxRecDepth 20000 in
theorem gX1_print_J7_fill_53178 : GoodIn wsX1_print (va_wsS RX1 63 yJ7_fill_53178 wsJ7_fill_53178) := goodIn_app (goodIn_sub (sb_c (qq_X1_print_0 15 rfl) (sb_c (qq_X1_print_0 16 rfl) (sb_c (qq_X1_print_0 17 rfl) sb_n))) (by decide +kernel)) ggX1_print_J7_fill_53178
set_option maxRecDepth 20000 in
theorem gw_X1_printLine : wsX1_printLine.all goodWord = true := by decide +kernel
set_option maxRecDepth 20000 in
theorem ggX1_print_X1_printLine : GoodIn wsX1_print wsX1_printLine := goodIn_sub (sb_c (qq_X1_print_1 4 rfl) (sb_a (sb_a (sb_c (qq_X1_print_1 5 rfl) (sb_c (qq_X1_print_0 13 rfl) (sb_c (qq_X1_print_1 6 rfl) (sb_c (qq_X1_print_1 7 rfl) (sb_c (qq_X1_print_1 8 rfl) (sb_c (qq_X1_print_1 9 rfl) (sb_c (qq_X1_print_0 11 rfl) (sb_c (qq_X1_print_1 10 rfl) (sb_c (qq_X1_print_1 11 rfl) (sb_c (qq_X1_print_1 12 rfl) (sb_c (qq_X1_print_0 15 rfl) (sb_c (qq_X1_print_0 16 rfl) (sb_c (qq_X1_print_0 17 rfl) (sb_c (qq_X1_print_0 18 rfl) (sb_c (qq_X1_print_1 13 rfl) (sb_c (qq_X1_print_1 14 rfl) (sb_c (qq_X1_print_1 15 rfl) (sb_c (qq_X1_print_1 16 rfl) (sb_c (qq_X1_print_0 14 rfl) (sb_c (qq_X1_print_1 17 rfl) (sb_c (qq_X1_print_1 18 rfl) (sb_c (qq_X1_print_1 19 rfl) (sb_c (qq_X1_print_1 20 rfl) (sb_c (qq_X1_print_1 21 rfl) sb_n)))))))))))))))))))))))) (sb_a (sb_c (qq_X1_print_1 22 rfl) (sb_c (qq_X1_print_1 23 rfl) (sb_c (qq_X1_print_2 0 rfl) (sb_c (qq_X1_print_2 1 rfl) (sb_c (qq_X1_print_2 2 rfl) (sb_c (qq_X1_print_2 3 rfl) (sb_c (qq_X1_print_0 7 rfl) (sb_c (qq_X1_print_2 4 rfl) (sb_c (qq_X1_print_2 5 rfl) (sb_c (qq_X1_print_2 6 rfl) (sb_c (qq_X1_print_2 7 rfl) (sb_c (qq_X1_print_2 8 rfl) (sb_c (qq_X1_print_2 9 rfl) (sb_c (qq_X1_print_2 10 rfl) (sb_c (qq_X1_print_2 11 rfl) (sb_c (qq_X1_print_2 12 rfl) (sb_c (qq_X1_print_2 13 rfl) (sb_c (qq_X1_print_2 14 rfl) (sb_c (qq_X1_print_0 1 rfl) (sb_c (qq_X1_print_0 0 rfl) (sb_c (qq_X1_print_0 4 rfl) (sb_c (qq_X1_print_0 5 rfl) (sb_c (qq_X1_print_0 2 rfl) (sb_c (qq_X1_print_2 15 rfl) sb_n)))))))))))))))))))))))) (sb_c (qq_X1_print_2 16 rfl) (sb_c (qq_X1_print_2 17 rfl) (sb_c (qq_X1_print_2 18 rfl) (sb_c (qq_X1_print_0 3 rfl) (sb_c (qq_X1_print_2 19 rfl) (sb_c (qq_X1_print_2 20 rfl) (sb_c (qq_X1_print_2 21 rfl) (sb_c (qq_X1_print_2 22 rfl) (sb_c (qq_X1_print_2 23 rfl) (sb_c (qq_X1_print_3 0 rfl) (sb_c (qq_X1_print_3 1 rfl) (sb_c (qq_X1_print_3 2 rfl) (sb_c (qq_X1_print_3 3 rfl) (sb_c (qq_X1_print_3 4 rfl) (sb_c (qq_X1_print_3 5 rfl) (sb_c (qq_X1_print_3 6 rfl) (sb_c (qq_X1_print_3 7 rfl) (sb_c (qq_X1_print_3 8 rfl) (sb_c (qq_X1_print_3 9 rfl) sb_n))))))))))))))))))))) (uq_X1_print_X1))) gw_X1_printLine
set_option maxRecDepth 20000 in
theorem gX1_print_X1_printLine : GoodIn wsX1_print (wsV RX1 78 RX1 yX1_printLine wsX1_printLine) := goodIn_app (goodIn_sub (sb_c (qq_X1_print_1 1 rfl) (sb_c (qq_X1_print_1 2 rfl) (sb_c (qq_X1_print_1 3 rfl) (sb_c (qq_X1_print_0 11 rfl) sb_n)))) (by decide +kernel)) ggX1_print_X1_printLine
set_option maxRecDepth 20000 in
theorem gw_X1_gutterPasses : wsX1_gutterPasses.all goodWord = true := by decide +kernel
set_option maxRecDepth 20000 in
theorem ggX1_print_X1_gutterPasses : GoodIn wsX1_print wsX1_gutterPasses := goodIn_sub (sb_c (qq_X1_print_3 13 rfl) (sb_a (sb_c (qq_X1_print_0 7 rfl) (sb_c (qq_X1_print_1 12 rfl) (sb_c (qq_X1_print_0 4 rfl) (sb_c (qq_X1_print_1 21 rfl) (sb_c (qq_X1_print_1 22 rfl) (sb_c (qq_X1_print_0 11 rfl) (sb_c (qq_X1_print_1 23 rfl) sb_n))))))) (uq_X1_print_X1))) gw_X1_gutterPasses
set_option maxRecDepth 20000 in
theorem gX1_print_X1_gutterPasses : GoodIn wsX1_print (wsV RX1 82 RX1 yX1_gutterPasses wsX1_gutterPasses) := goodIn_app (goodIn_sub (sb_c (qq_X1_print_3 10 rfl) (sb_c (qq_X1_print_3 11 rfl) (sb_c (qq_X1_print_3 12 rfl) (sb_c (qq_X1_print_0 11 rfl) sb_n)))) (by decide +kernel)) ggX1_print_X1_gutterPasses
theorem dX1_print_0 : decode cX1_print 0 = .ok (.aload_n 0, 1) := by decide +kernel
theorem dX1_print_1 : decode cX1_print 1 = .ok (.invokevirtual 75, 3) := by decide +kernel
theorem dX1_print_4 : decode cX1_print 4 = .ok (.aload_n 0, 1) := by decide +kernel
theorem dX1_print_5 : decode cX1_print 5 = .ok (.getfield 35, 3) := by decide +kernel
theorem dX1_print_8 : decode cX1_print 8 = .ok (.iconst (-1), 1) := by decide +kernel
theorem dX1_print_9 : decode cX1_print 9 = .ok (.invokestatic 63, 3) := by decide +kernel
theorem dX1_print_12 : decode cX1_print 12 = .ok (.aload_n 0, 1) := by decide +kernel
theorem dX1_print_13 : decode cX1_print 13 = .ok (.getfield 38, 3) := by decide +kernel
theorem dX1_print_16 : decode cX1_print 16 = .ok (.iconst 0, 1) := by decide +kernel
theorem dX1_print_17 : decode cX1_print 17 = .ok (.invokestatic 63, 3) := by decide +kernel
theorem dX1_print_20 : decode cX1_print 20 = .ok (.aload_n 0, 1) := by decide +kernel
theorem dX1_print_21 : decode cX1_print 21 = .ok (.getfield 41, 3) := by decide +kernel
theorem dX1_print_24 : decode cX1_print 24 = .ok (.iconst (-1), 1) := by decide +kernel
theorem dX1_print_25 : decode cX1_print 25 = .ok (.invokestatic 63, 3) := by decide +kernel
theorem dX1_print_28 : decode cX1_print 28 = .ok (.aload_n 0, 1) := by decide +kernel
theorem dX1_print_29 : decode cX1_print 29 = .ok (.getfield 44, 3) := by decide +kernel
theorem dX1_print_32 : decode cX1_print 32 = .ok (.iconst (-1), 1) := by decide +kernel
theorem dX1_print_33 : decode cX1_print 33 = .ok (.invokestatic 63, 3) := by decide +kernel
theorem dX1_print_36 : decode cX1_print 36 = .ok (.aload_n 0, 1) := by decide +kernel
theorem dX1_print_37 : decode cX1_print 37 = .ok (.getfield 47, 3) := by decide +kernel
theorem dX1_print_40 : decode cX1_print 40 = .ok (.iconst 0, 1) := by decide +kernel
theorem dX1_print_41 : decode cX1_print 41 = .ok (.invokestatic 63, 3) := by decide +kernel
theorem dX1_print_44 : decode cX1_print 44 = .ok (.aload_n 0, 1) := by decide +kernel
theorem dX1_print_45 : decode cX1_print 45 = .ok (.iconst 0, 1) := by decide +kernel
theorem dX1_print_46 : decode cX1_print 46 = .ok (.putfield 53, 3) := by decide +kernel
theorem dX1_print_49 : decode cX1_print 49 = .ok (.iconst 0, 1) := by decide +kernel
theorem dX1_print_50 : decode cX1_print 50 = .ok (.istore_n 1, 1) := by decide +kernel
theorem dX1_print_51 : decode cX1_print 51 = .ok (.iload_n 1, 1) := by decide +kernel
theorem dX1_print_52 : decode cX1_print 52 = .ok (.bipush 16, 2) := by decide +kernel
theorem dX1_print_54 : decode cX1_print 54 = .ok (.if_icmp .ge 14, 3) := by decide +kernel
theorem dX1_print_57 : decode cX1_print 57 = .ok (.aload_n 0, 1) := by decide +kernel
theorem dX1_print_58 : decode cX1_print 58 = .ok (.iload_n 1, 1) := by decide +kernel
theorem dX1_print_59 : decode cX1_print 59 = .ok (.invokevirtual 78, 3) := by decide +kernel
theorem dX1_print_62 : decode cX1_print 62 = .ok (.iinc 1 1, 3) := by decide +kernel
theorem dX1_print_65 : decode cX1_print 65 = .ok (.goto (-14), 3) := by decide +kernel
theorem dX1_print_68 : decode cX1_print 68 = .ok (.iconst 0, 1) := by decide +kernel
theorem dX1_print_69 : decode cX1_print 69 = .ok (.istore_n 1, 1) := by decide +kernel
theorem dX1_print_70 : decode cX1_print 70 = .ok (.iload_n 1, 1) := by decide +kernel
theorem dX1_print_71 : decode cX1_print 71 = .ok (.bipush 8, 2) := by decide +kernel
theorem dX1_print_73 : decode cX1_print 73 = .ok (.if_icmp .ge 34, 3) := by decide +kernel
theorem dX1_print_76 : decode cX1_print 76 = .ok (.aload_n 0, 1) := by decide +kernel
theorem dX1_print_77 : decode cX1_print 77 = .ok (.getfield 50, 3) := by decide +kernel
theorem dX1_print_80 : decode cX1_print 80 = .ok (.iload_n 1, 1) := by decide +kernel
theorem dX1_print_81 : decode cX1_print 81 = .ok (.iload_n 1, 1) := by decide +kernel
theorem dX1_print_82 : decode cX1_print 82 = .ok (.aload_n 0, 1) := by decide +kernel
theorem dX1_print_83 : decode cX1_print 83 = .ok (.getfield 23, 3) := by decide +kernel
theorem dX1_print_86 : decode cX1_print 86 = .ok (.iconst 0, 1) := by decide +kernel
theorem dX1_print_87 : decode cX1_print 87 = .ok (.iaload, 1) := by decide +kernel
theorem dX1_print_88 : decode cX1_print 88 = .ok (.if_icmp .ge 11, 3) := by decide +kernel
theorem dX1_print_91 : decode cX1_print 91 = .ok (.aload_n 0, 1) := by decide +kernel
theorem dX1_print_92 : decode cX1_print 92 = .ok (.iload_n 1, 1) := by decide +kernel
theorem dX1_print_93 : decode cX1_print 93 = .ok (.invokevirtual 82, 3) := by decide +kernel
theorem dX1_print_96 : decode cX1_print 96 = .ok (.goto 4, 3) := by decide +kernel
theorem dX1_print_99 : decode cX1_print 99 = .ok (.iconst 0, 1) := by decide +kernel
theorem dX1_print_100 : decode cX1_print 100 = .ok (.iastore, 1) := by decide +kernel
theorem dX1_print_101 : decode cX1_print 101 = .ok (.iinc 1 1, 3) := by decide +kernel
theorem dX1_print_104 : decode cX1_print 104 = .ok (.goto (-34), 3) := by decide +kernel
theorem dX1_print_107 : decode cX1_print 107 = .ok (.return_, 1) := by decide +kernel
theorem qq_X1_layHits_0 {c : Cond} (j : Nat) (h : ([.fieldLink RX1 29 "InkSwaths$Plan" "hitCount" "[I", .fieldLink RX1 23 "InkSwaths$Plan" "head" "[I", .fieldLink RX1 32 "InkSwaths$Plan" "hitPlace" "[I", .methodLink RX1 63 yJ7_fill_53178, .static yJ7_fill_53178, .initialized RJ7, .code yJ7_fill_53178 cJ7_fill_53178 4 none, .static yX3_isLine, .initialized RX3, .code yX3_isLine cX3_isLine 1 (some .boolean), .methodLink RX3 68 yX3_within, .static yX3_within, .code yX3_within cX3_within 3 (some .boolean)] : List Cond)[j]? = some c) : c ∈ wsX1_layHits := List.mem_cons_of_mem _ (List.mem_append_left _ (List.mem_of_getElem? h))
theorem uq_X1_layHits_X1 : wsub wsX10 wsX1_layHits := fun _ h => List.mem_cons_of_mem _ (List.mem_append_right _ (h))
set_option maxRecDepth 20000 in
theorem ggX1_layHits_J7_fill_53178 : GoodIn wsX1_layHits wsJ7_fill_53178 := goodIn_sub (sb_c (qq_X1_layHits_0 6 rfl) (sb_n)) gw_J7_fill_53178
set_option maxRecDepth 20000 in
theorem gX1_layHits_J7_fill_53178 : GoodIn wsX1_layHits (va_wsS RX1 63 yJ7_fill_53178 wsJ7_fill_53178) := goodIn_app (goodIn_sub (sb_c (qq_X1_layHits_0 3 rfl) (sb_c (qq_X1_layHits_0 4 rfl) (sb_c (qq_X1_layHits_0 5 rfl) sb_n))) (by decide +kernel)) ggX1_layHits_J7_fill_53178
set_option maxRecDepth 20000 in
theorem gw_X3_isLine : wsX3_isLine.all goodWord = true := by decide +kernel
set_option maxRecDepth 20000 in
theorem ggX1_layHits_X3_isLine : GoodIn wsX1_layHits wsX3_isLine := goodIn_sub (sb_c (qq_X1_layHits_0 9 rfl) (sb_c (qq_X1_layHits_0 10 rfl) (sb_c (qq_X1_layHits_0 11 rfl) (sb_c (qq_X1_layHits_0 8 rfl) (sb_c (qq_X1_layHits_0 12 rfl) sb_n))))) gw_X3_isLine
set_option maxRecDepth 20000 in
theorem gX1_layHits_X3_isLine_n86 : GoodIn wsX1_layHits (wsX3_isLine) := ggX1_layHits_X3_isLine
theorem dX1_layHits_0 : decode cX1_layHits 0 = .ok (.aload_n 0, 1) := by decide +kernel
theorem dX1_layHits_1 : decode cX1_layHits 1 = .ok (.getfield 29, 3) := by decide +kernel
theorem dX1_layHits_4 : decode cX1_layHits 4 = .ok (.iconst 0, 1) := by decide +kernel
theorem dX1_layHits_5 : decode cX1_layHits 5 = .ok (.invokestatic 63, 3) := by decide +kernel
theorem dX1_layHits_8 : decode cX1_layHits 8 = .ok (.iconst 0, 1) := by decide +kernel
theorem dX1_layHits_9 : decode cX1_layHits 9 = .ok (.istore_n 1, 1) := by decide +kernel
theorem dX1_layHits_10 : decode cX1_layHits 10 = .ok (.iload_n 1, 1) := by decide +kernel
theorem dX1_layHits_11 : decode cX1_layHits 11 = .ok (.aload_n 0, 1) := by decide +kernel
theorem dX1_layHits_12 : decode cX1_layHits 12 = .ok (.getfield 23, 3) := by decide +kernel
theorem dX1_layHits_15 : decode cX1_layHits 15 = .ok (.iconst 3, 1) := by decide +kernel
theorem dX1_layHits_16 : decode cX1_layHits 16 = .ok (.iaload, 1) := by decide +kernel
theorem dX1_layHits_17 : decode cX1_layHits 17 = .ok (.if_icmp .ge 102, 3) := by decide +kernel
theorem dX1_layHits_20 : decode cX1_layHits 20 = .ok (.iconst 0, 1) := by decide +kernel
theorem dX1_layHits_21 : decode cX1_layHits 21 = .ok (.istore_n 2, 1) := by decide +kernel
theorem dX1_layHits_22 : decode cX1_layHits 22 = .ok (.iload_n 2, 1) := by decide +kernel
theorem dX1_layHits_23 : decode cX1_layHits 23 = .ok (.aload_n 0, 1) := by decide +kernel
theorem dX1_layHits_24 : decode cX1_layHits 24 = .ok (.getfield 23, 3) := by decide +kernel
theorem dX1_layHits_27 : decode cX1_layHits 27 = .ok (.iconst 0, 1) := by decide +kernel
theorem dX1_layHits_28 : decode cX1_layHits 28 = .ok (.iaload, 1) := by decide +kernel
theorem dX1_layHits_29 : decode cX1_layHits 29 = .ok (.if_icmp .ge 84, 3) := by decide +kernel
theorem dX1_layHits_32 : decode cX1_layHits 32 = .ok (.aload_n 0, 1) := by decide +kernel
theorem dX1_layHits_33 : decode cX1_layHits 33 = .ok (.getfield 23, 3) := by decide +kernel
theorem dX1_layHits_36 : decode cX1_layHits 36 = .ok (.iconst 4, 1) := by decide +kernel
theorem dX1_layHits_37 : decode cX1_layHits 37 = .ok (.iaload, 1) := by decide +kernel
theorem dX1_layHits_38 : decode cX1_layHits 38 = .ok (.iload_n 1, 1) := by decide +kernel
theorem dX1_layHits_39 : decode cX1_layHits 39 = .ok (.aload_n 0, 1) := by decide +kernel
theorem dX1_layHits_40 : decode cX1_layHits 40 = .ok (.getfield 23, 3) := by decide +kernel
theorem dX1_layHits_43 : decode cX1_layHits 43 = .ok (.iconst 2, 1) := by decide +kernel
theorem dX1_layHits_44 : decode cX1_layHits 44 = .ok (.iaload, 1) := by decide +kernel
theorem dX1_layHits_45 : decode cX1_layHits 45 = .ok (.imul, 1) := by decide +kernel
theorem dX1_layHits_46 : decode cX1_layHits 46 = .ok (.iadd, 1) := by decide +kernel
theorem dX1_layHits_47 : decode cX1_layHits 47 = .ok (.iload_n 2, 1) := by decide +kernel
theorem dX1_layHits_48 : decode cX1_layHits 48 = .ok (.aload_n 0, 1) := by decide +kernel
theorem dX1_layHits_49 : decode cX1_layHits 49 = .ok (.getfield 23, 3) := by decide +kernel
theorem dX1_layHits_52 : decode cX1_layHits 52 = .ok (.iconst 1, 1) := by decide +kernel
theorem dX1_layHits_53 : decode cX1_layHits 53 = .ok (.iaload, 1) := by decide +kernel
theorem dX1_layHits_54 : decode cX1_layHits 54 = .ok (.imul, 1) := by decide +kernel
theorem dX1_layHits_55 : decode cX1_layHits 55 = .ok (.iadd, 1) := by decide +kernel
theorem dX1_layHits_56 : decode cX1_layHits 56 = .ok (.istore_n 3, 1) := by decide +kernel
theorem dX1_layHits_57 : decode cX1_layHits 57 = .ok (.iload_n 3, 1) := by decide +kernel
theorem dX1_layHits_58 : decode cX1_layHits 58 = .ok (.invokestatic 86, 3) := by decide +kernel
theorem dX1_layHits_61 : decode cX1_layHits 61 = .ok (.ifCond .eq 46, 3) := by decide +kernel
theorem dX1_layHits_64 : decode cX1_layHits 64 = .ok (.aload_n 0, 1) := by decide +kernel
theorem dX1_layHits_65 : decode cX1_layHits 65 = .ok (.getfield 29, 3) := by decide +kernel
theorem dX1_layHits_68 : decode cX1_layHits 68 = .ok (.iload_n 3, 1) := by decide +kernel
theorem dX1_layHits_69 : decode cX1_layHits 69 = .ok (.iaload, 1) := by decide +kernel
theorem dX1_layHits_70 : decode cX1_layHits 70 = .ok (.bipush 12, 2) := by decide +kernel
theorem dX1_layHits_72 : decode cX1_layHits 72 = .ok (.if_icmp .ge 35, 3) := by decide +kernel
theorem dX1_layHits_75 : decode cX1_layHits 75 = .ok (.aload_n 0, 1) := by decide +kernel
theorem dX1_layHits_76 : decode cX1_layHits 76 = .ok (.getfield 32, 3) := by decide +kernel
theorem dX1_layHits_79 : decode cX1_layHits 79 = .ok (.iload_n 3, 1) := by decide +kernel
theorem dX1_layHits_80 : decode cX1_layHits 80 = .ok (.bipush 12, 2) := by decide +kernel
theorem dX1_layHits_82 : decode cX1_layHits 82 = .ok (.imul, 1) := by decide +kernel
theorem dX1_layHits_83 : decode cX1_layHits 83 = .ok (.aload_n 0, 1) := by decide +kernel
theorem dX1_layHits_84 : decode cX1_layHits 84 = .ok (.getfield 29, 3) := by decide +kernel
theorem dX1_layHits_87 : decode cX1_layHits 87 = .ok (.iload_n 3, 1) := by decide +kernel
theorem dX1_layHits_88 : decode cX1_layHits 88 = .ok (.iaload, 1) := by decide +kernel
theorem dX1_layHits_89 : decode cX1_layHits 89 = .ok (.iadd, 1) := by decide +kernel
theorem dX1_layHits_90 : decode cX1_layHits 90 = .ok (.iload_n 1, 1) := by decide +kernel
theorem dX1_layHits_91 : decode cX1_layHits 91 = .ok (.bipush 8, 2) := by decide +kernel
theorem dX1_layHits_93 : decode cX1_layHits 93 = .ok (.imul, 1) := by decide +kernel
theorem dX1_layHits_94 : decode cX1_layHits 94 = .ok (.iload_n 2, 1) := by decide +kernel
theorem dX1_layHits_95 : decode cX1_layHits 95 = .ok (.iadd, 1) := by decide +kernel
theorem dX1_layHits_96 : decode cX1_layHits 96 = .ok (.iastore, 1) := by decide +kernel
theorem dX1_layHits_97 : decode cX1_layHits 97 = .ok (.aload_n 0, 1) := by decide +kernel
theorem dX1_layHits_98 : decode cX1_layHits 98 = .ok (.getfield 29, 3) := by decide +kernel
theorem dX1_layHits_101 : decode cX1_layHits 101 = .ok (.iload_n 3, 1) := by decide +kernel
theorem dX1_layHits_102 : decode cX1_layHits 102 = .ok (.dup2, 1) := by decide +kernel
theorem dX1_layHits_103 : decode cX1_layHits 103 = .ok (.iaload, 1) := by decide +kernel
theorem dX1_layHits_104 : decode cX1_layHits 104 = .ok (.iconst 1, 1) := by decide +kernel
theorem dX1_layHits_105 : decode cX1_layHits 105 = .ok (.iadd, 1) := by decide +kernel
theorem dX1_layHits_106 : decode cX1_layHits 106 = .ok (.iastore, 1) := by decide +kernel
theorem dX1_layHits_107 : decode cX1_layHits 107 = .ok (.iinc 2 1, 3) := by decide +kernel
theorem dX1_layHits_110 : decode cX1_layHits 110 = .ok (.goto (-88), 3) := by decide +kernel
theorem dX1_layHits_113 : decode cX1_layHits 113 = .ok (.iinc 1 1, 3) := by decide +kernel
theorem dX1_layHits_116 : decode cX1_layHits 116 = .ok (.goto (-106), 3) := by decide +kernel
theorem dX1_layHits_119 : decode cX1_layHits 119 = .ok (.return_, 1) := by decide +kernel
theorem qq_X1_printLine_0 {c : Cond} (j : Nat) (h : wsX1_printLine_r1[j]? = some c) : c ∈ wsX1_printLine := List.mem_cons_of_mem _ (List.mem_append_left _ (List.mem_append_left _ (List.mem_of_getElem? h)))
theorem qq_X1_printLine_1 {c : Cond} (j : Nat) (h : wsX1_printLine_r2[j]? = some c) : c ∈ wsX1_printLine := List.mem_cons_of_mem _ (List.mem_append_left _ (List.mem_append_right _ (List.mem_append_left _ (List.mem_of_getElem? h))))
theorem qq_X1_printLine_2 {c : Cond} (j : Nat) (h : wsX1_printLine_r3[j]? = some c) : c ∈ wsX1_printLine := List.mem_cons_of_mem _ (List.mem_append_left _ (List.mem_append_right _ (List.mem_append_right _ (List.mem_of_getElem? h))))
theorem uq_X1_printLine_X1 : wsub wsX10 wsX1_printLine := fun _ h => List.mem_cons_of_mem _ (List.mem_append_right _ (h))
set_option maxRecDepth 20000 in
theorem gw_X1_lookAtHits : wsX1_lookAtHits.all goodWord = true := by decide +kernel
set_option maxRecDepth 20000 in
theorem ggX1_printLine_X1_lookAtHits : GoodIn wsX1_printLine wsX1_lookAtHits := goodIn_sub (sb_c (qq_X1_printLine_0 7 rfl) (sb_a (sb_a (sb_c (qq_X1_printLine_0 2 rfl) (sb_c (qq_X1_printLine_0 1 rfl) (sb_c (qq_X1_printLine_0 8 rfl) (sb_c (qq_X1_printLine_0 9 rfl) (sb_c (qq_X1_printLine_0 10 rfl) (sb_c (qq_X1_printLine_0 11 rfl) (sb_c (qq_X1_printLine_0 12 rfl) (sb_c (qq_X1_printLine_0 13 rfl) (sb_c (qq_X1_printLine_0 14 rfl) (sb_c (qq_X1_printLine_0 15 rfl) (sb_c (qq_X1_printLine_0 16 rfl) (sb_c (qq_X1_printLine_0 6 rfl) (sb_c (qq_X1_printLine_0 17 rfl) (sb_c (qq_X1_printLine_0 18 rfl) (sb_c (qq_X1_printLine_0 19 rfl) (sb_c (qq_X1_printLine_0 20 rfl) (sb_c (qq_X1_printLine_0 21 rfl) (sb_c (qq_X1_printLine_0 22 rfl) (sb_c (qq_X1_printLine_0 23 rfl) (sb_c (qq_X1_printLine_1 0 rfl) (sb_c (qq_X1_printLine_1 1 rfl) (sb_c (qq_X1_printLine_1 2 rfl) (sb_c (qq_X1_printLine_1 3 rfl) (sb_c (qq_X1_printLine_1 4 rfl) sb_n)))))))))))))))))))))))) (sb_c (qq_X1_printLine_1 5 rfl) (sb_c (qq_X1_printLine_1 6 rfl) (sb_c (qq_X1_printLine_1 7 rfl) (sb_c (qq_X1_printLine_1 8 rfl) (sb_c (qq_X1_printLine_1 9 rfl) sb_n)))))) (uq_X1_printLine_X1))) gw_X1_lookAtHits
set_option maxRecDepth 20000 in
theorem gX1_printLine_X1_lookAtHits : GoodIn wsX1_printLine (wsV RX1 90 RX1 yX1_lookAtHits wsX1_lookAtHits) := goodIn_app (goodIn_sub (sb_c (qq_X1_printLine_0 3 rfl) (sb_c (qq_X1_printLine_0 4 rfl) (sb_c (qq_X1_printLine_0 5 rfl) (sb_c (qq_X1_printLine_0 6 rfl) sb_n)))) (by decide +kernel)) ggX1_printLine_X1_lookAtHits
set_option maxRecDepth 20000 in
theorem gw_X1_isDot : wsX1_isDot.all goodWord = true := by decide +kernel
set_option maxRecDepth 20000 in
theorem ggX1_printLine_X1_isDot : GoodIn wsX1_printLine wsX1_isDot := goodIn_sub (sb_c (qq_X1_printLine_1 13 rfl) (sb_a (sb_c (qq_X1_printLine_0 0 rfl) sb_n) (uq_X1_printLine_X1))) gw_X1_isDot
set_option maxRecDepth 20000 in
theorem gX1_printLine_X1_isDot : GoodIn wsX1_printLine (wsV RX1 93 RX1 yX1_isDot wsX1_isDot) := goodIn_app (goodIn_sub (sb_c (qq_X1_printLine_1 10 rfl) (sb_c (qq_X1_printLine_1 11 rfl) (sb_c (qq_X1_printLine_1 12 rfl) (sb_c (qq_X1_printLine_0 6 rfl) sb_n)))) (by decide +kernel)) ggX1_printLine_X1_isDot
set_option maxRecDepth 20000 in
theorem gw_X1_printDot : wsX1_printDot.all goodWord = true := by decide +kernel
set_option maxRecDepth 20000 in
theorem ggX1_printLine_X1_printDot : GoodIn wsX1_printLine wsX1_printDot := goodIn_sub (sb_c (qq_X1_printLine_1 17 rfl) (sb_a (sb_a (sb_c (qq_X1_printLine_1 18 rfl) (sb_c (qq_X1_printLine_1 19 rfl) (sb_c (qq_X1_printLine_1 20 rfl) (sb_c (qq_X1_printLine_0 18 rfl) (sb_c (qq_X1_printLine_1 21 rfl) (sb_c (qq_X1_printLine_1 22 rfl) (sb_c (qq_X1_printLine_1 23 rfl) (sb_c (qq_X1_printLine_2 0 rfl) (sb_c (qq_X1_printLine_2 1 rfl) (sb_c (qq_X1_printLine_2 2 rfl) (sb_c (qq_X1_printLine_2 3 rfl) (sb_c (qq_X1_printLine_2 4 rfl) (sb_c (qq_X1_printLine_2 5 rfl) (sb_c (qq_X1_printLine_2 6 rfl) (sb_c (qq_X1_printLine_2 7 rfl) (sb_c (qq_X1_printLine_2 8 rfl) (sb_c (qq_X1_printLine_2 9 rfl) (sb_c (qq_X1_printLine_0 6 rfl) (sb_c (qq_X1_printLine_2 10 rfl) (sb_c (qq_X1_printLine_0 1 rfl) (sb_c (qq_X1_printLine_1 10 rfl) (sb_c (qq_X1_printLine_1 11 rfl) (sb_c (qq_X1_printLine_1 12 rfl) (sb_c (qq_X1_printLine_1 13 rfl) sb_n)))))))))))))))))))))))) (sb_c (qq_X1_printLine_0 0 rfl) (sb_c (qq_X1_printLine_2 11 rfl) (sb_c (qq_X1_printLine_2 12 rfl) (sb_c (qq_X1_printLine_2 13 rfl) (sb_c (qq_X1_printLine_2 14 rfl) (sb_c (qq_X1_printLine_1 6 rfl) (sb_c (qq_X1_printLine_2 15 rfl) (sb_c (qq_X1_printLine_2 16 rfl) (sb_c (qq_X1_printLine_2 17 rfl) (sb_c (qq_X1_printLine_2 18 rfl) (sb_c (qq_X1_printLine_0 8 rfl) (sb_c (qq_X1_printLine_0 14 rfl) (sb_c (qq_X1_printLine_0 15 rfl) (sb_c (qq_X1_printLine_0 16 rfl) (sb_c (qq_X1_printLine_0 17 rfl) sb_n)))))))))))))))) (uq_X1_printLine_X1))) gw_X1_printDot
set_option maxRecDepth 20000 in
theorem gX1_printLine_X1_printDot : GoodIn wsX1_printLine (wsV RX1 97 RX1 yX1_printDot wsX1_printDot) := goodIn_app (goodIn_sub (sb_c (qq_X1_printLine_1 14 rfl) (sb_c (qq_X1_printLine_1 15 rfl) (sb_c (qq_X1_printLine_1 16 rfl) (sb_c (qq_X1_printLine_0 6 rfl) sb_n)))) (by decide +kernel)) ggX1_printLine_X1_printDot
theorem dX1_printLine_0 : decode cX1_printLine 0 = .ok (.aload_n 0, 1) := by decide +kernel
theorem dX1_printLine_1 : decode cX1_printLine 1 = .ok (.getfield 9, 3) := by decide +kernel
theorem dX1_printLine_4 : decode cX1_printLine 4 = .ok (.iload_n 1, 1) := by decide +kernel
theorem dX1_printLine_5 : decode cX1_printLine 5 = .ok (.iaload, 1) := by decide +kernel
theorem dX1_printLine_6 : decode cX1_printLine 6 = .ok (.ifCond .ne 4, 3) := by decide +kernel
theorem dX1_printLine_9 : decode cX1_printLine 9 = .ok (.return_, 1) := by decide +kernel
theorem dX1_printLine_10 : decode cX1_printLine 10 = .ok (.aload_n 0, 1) := by decide +kernel
theorem dX1_printLine_11 : decode cX1_printLine 11 = .ok (.iload_n 1, 1) := by decide +kernel
theorem dX1_printLine_12 : decode cX1_printLine 12 = .ok (.invokevirtual 90, 3) := by decide +kernel
theorem dX1_printLine_15 : decode cX1_printLine 15 = .ok (.iconst 0, 1) := by decide +kernel
theorem dX1_printLine_16 : decode cX1_printLine 16 = .ok (.istore_n 2, 1) := by decide +kernel
theorem dX1_printLine_17 : decode cX1_printLine 17 = .ok (.iload_n 2, 1) := by decide +kernel
theorem dX1_printLine_18 : decode cX1_printLine 18 = .ok (.aload_n 0, 1) := by decide +kernel
theorem dX1_printLine_19 : decode cX1_printLine 19 = .ok (.getfield 29, 3) := by decide +kernel
theorem dX1_printLine_22 : decode cX1_printLine 22 = .ok (.iload_n 1, 1) := by decide +kernel
theorem dX1_printLine_23 : decode cX1_printLine 23 = .ok (.iaload, 1) := by decide +kernel
theorem dX1_printLine_24 : decode cX1_printLine 24 = .ok (.if_icmp .gt 48, 3) := by decide +kernel
theorem dX1_printLine_27 : decode cX1_printLine 27 = .ok (.iconst 0, 1) := by decide +kernel
theorem dX1_printLine_28 : decode cX1_printLine 28 = .ok (.istore_n 3, 1) := by decide +kernel
theorem dX1_printLine_29 : decode cX1_printLine 29 = .ok (.iload_n 3, 1) := by decide +kernel
theorem dX1_printLine_30 : decode cX1_printLine 30 = .ok (.bipush 8, 2) := by decide +kernel
theorem dX1_printLine_32 : decode cX1_printLine 32 = .ok (.if_icmp .ge 34, 3) := by decide +kernel
theorem dX1_printLine_35 : decode cX1_printLine 35 = .ok (.aload_n 0, 1) := by decide +kernel
theorem dX1_printLine_36 : decode cX1_printLine 36 = .ok (.getfield 60, 3) := by decide +kernel
theorem dX1_printLine_39 : decode cX1_printLine 39 = .ok (.iload_n 3, 1) := by decide +kernel
theorem dX1_printLine_40 : decode cX1_printLine 40 = .ok (.iaload, 1) := by decide +kernel
theorem dX1_printLine_41 : decode cX1_printLine 41 = .ok (.iload_n 2, 1) := by decide +kernel
theorem dX1_printLine_42 : decode cX1_printLine 42 = .ok (.if_icmp .ne 18, 3) := by decide +kernel
theorem dX1_printLine_45 : decode cX1_printLine 45 = .ok (.aload_n 0, 1) := by decide +kernel
theorem dX1_printLine_46 : decode cX1_printLine 46 = .ok (.iload_n 1, 1) := by decide +kernel
theorem dX1_printLine_47 : decode cX1_printLine 47 = .ok (.iload_n 3, 1) := by decide +kernel
theorem dX1_printLine_48 : decode cX1_printLine 48 = .ok (.invokevirtual 93, 3) := by decide +kernel
theorem dX1_printLine_51 : decode cX1_printLine 51 = .ok (.ifCond .eq 9, 3) := by decide +kernel
theorem dX1_printLine_54 : decode cX1_printLine 54 = .ok (.aload_n 0, 1) := by decide +kernel
theorem dX1_printLine_55 : decode cX1_printLine 55 = .ok (.iload_n 1, 1) := by decide +kernel
theorem dX1_printLine_56 : decode cX1_printLine 56 = .ok (.iload_n 3, 1) := by decide +kernel
theorem dX1_printLine_57 : decode cX1_printLine 57 = .ok (.invokevirtual 97, 3) := by decide +kernel
theorem dX1_printLine_60 : decode cX1_printLine 60 = .ok (.iinc 3 1, 3) := by decide +kernel
theorem dX1_printLine_63 : decode cX1_printLine 63 = .ok (.goto (-34), 3) := by decide +kernel
theorem dX1_printLine_66 : decode cX1_printLine 66 = .ok (.iinc 2 1, 3) := by decide +kernel
theorem dX1_printLine_69 : decode cX1_printLine 69 = .ok (.goto (-52), 3) := by decide +kernel
theorem dX1_printLine_72 : decode cX1_printLine 72 = .ok (.return_, 1) := by decide +kernel
theorem qq_X1_lookAtHits_0 {c : Cond} (j : Nat) (h : wsX1_lookAtHits_r1[j]? = some c) : c ∈ wsX1_lookAtHits := List.mem_cons_of_mem _ (List.mem_append_left _ (List.mem_append_left _ (List.mem_of_getElem? h)))
theorem qq_X1_lookAtHits_1 {c : Cond} (j : Nat) (h : wsX1_lookAtHits_r2[j]? = some c) : c ∈ wsX1_lookAtHits := List.mem_cons_of_mem _ (List.mem_append_left _ (List.mem_append_right _ (List.mem_of_getElem? h)))
theorem uq_X1_lookAtHits_X1 : wsub wsX10 wsX1_lookAtHits := fun _ h => List.mem_cons_of_mem _ (List.mem_append_right _ (h))
set_option maxRecDepth 20000 in
theorem ggX1_lookAtHits_J7_fill_53178 : GoodIn wsX1_lookAtHits wsJ7_fill_53178 := goodIn_sub (sb_c (qq_X1_lookAtHits_0 7 rfl) (sb_n)) gw_J7_fill_53178
set_option maxRecDepth 20000 in
theorem gX1_lookAtHits_J7_fill_53178 : GoodIn wsX1_lookAtHits (va_wsS RX1 63 yJ7_fill_53178 wsJ7_fill_53178) := goodIn_app (goodIn_sub (sb_c (qq_X1_lookAtHits_0 4 rfl) (sb_c (qq_X1_lookAtHits_0 5 rfl) (sb_c (qq_X1_lookAtHits_0 6 rfl) sb_n))) (by decide +kernel)) ggX1_lookAtHits_J7_fill_53178
set_option maxRecDepth 20000 in
theorem gw_X1_passOf : wsX1_passOf.all goodWord = true := by decide +kernel
set_option maxRecDepth 20000 in
theorem ggX1_lookAtHits_X1_passOf : GoodIn wsX1_lookAtHits wsX1_passOf := goodIn_sub (sb_c (qq_X1_lookAtHits_0 12 rfl) (sb_a (sb_c (qq_X1_lookAtHits_0 13 rfl) sb_n) (uq_X1_lookAtHits_X1))) gw_X1_passOf
set_option maxRecDepth 20000 in
theorem gX1_lookAtHits_X1_passOf : GoodIn wsX1_lookAtHits (wsV RX1 101 RX1 yX1_passOf wsX1_passOf) := goodIn_app (goodIn_sub (sb_c (qq_X1_lookAtHits_0 8 rfl) (sb_c (qq_X1_lookAtHits_0 9 rfl) (sb_c (qq_X1_lookAtHits_0 10 rfl) (sb_c (qq_X1_lookAtHits_0 11 rfl) sb_n)))) (by decide +kernel)) ggX1_lookAtHits_X1_passOf
set_option maxRecDepth 20000 in
theorem gw_X1_nozzleOf : wsX1_nozzleOf.all goodWord = true := by decide +kernel
set_option maxRecDepth 20000 in
theorem ggX1_lookAtHits_X1_nozzleOf : GoodIn wsX1_lookAtHits wsX1_nozzleOf := goodIn_sub (sb_c (qq_X1_lookAtHits_0 17 rfl) (sb_a (sb_c (qq_X1_lookAtHits_0 13 rfl) sb_n) (uq_X1_lookAtHits_X1))) gw_X1_nozzleOf
set_option maxRecDepth 20000 in
theorem gX1_lookAtHits_X1_nozzleOf : GoodIn wsX1_lookAtHits (wsV RX1 105 RX1 yX1_nozzleOf wsX1_nozzleOf) := goodIn_app (goodIn_sub (sb_c (qq_X1_lookAtHits_0 14 rfl) (sb_c (qq_X1_lookAtHits_0 15 rfl) (sb_c (qq_X1_lookAtHits_0 16 rfl) (sb_c (qq_X1_lookAtHits_0 11 rfl) sb_n)))) (by decide +kernel)) ggX1_lookAtHits_X1_nozzleOf
set_option maxRecDepth 20000 in
theorem gw_X1_isLiving : wsX1_isLiving.all goodWord = true := by decide +kernel
set_option maxRecDepth 20000 in
theorem ggX1_lookAtHits_X1_isLiving : GoodIn wsX1_lookAtHits wsX1_isLiving := goodIn_sub (sb_c (qq_X1_lookAtHits_0 20 rfl) (sb_n)) gw_X1_isLiving
set_option maxRecDepth 20000 in
theorem gX1_lookAtHits_X1_isLiving : GoodIn wsX1_lookAtHits (va_wsS RX1 108 yX1_isLiving wsX1_isLiving) := goodIn_app (goodIn_sub (sb_c (qq_X1_lookAtHits_0 18 rfl) (sb_c (qq_X1_lookAtHits_0 19 rfl) (sb_c (qq_X1_lookAtHits_0 11 rfl) sb_n))) (by decide +kernel)) ggX1_lookAtHits_X1_isLiving
set_option maxRecDepth 20000 in
theorem gw_X1_columnsReached : wsX1_columnsReached.all goodWord = true := by decide +kernel
set_option maxRecDepth 20000 in
theorem ggX1_lookAtHits_X1_columnsReached : GoodIn wsX1_lookAtHits wsX1_columnsReached := goodIn_sub (sb_c (qq_X1_lookAtHits_1 0 rfl) (sb_a (sb_c (qq_X1_lookAtHits_1 1 rfl) (sb_c (qq_X1_lookAtHits_1 2 rfl) (sb_c (qq_X1_lookAtHits_1 3 rfl) (sb_c (qq_X1_lookAtHits_0 11 rfl) (sb_c (qq_X1_lookAtHits_1 4 rfl) sb_n))))) (uq_X1_lookAtHits_X1))) gw_X1_columnsReached
set_option maxRecDepth 20000 in
theorem gX1_lookAtHits_X1_columnsReached : GoodIn wsX1_lookAtHits (wsV RX1 112 RX1 yX1_columnsReached wsX1_columnsReached) := goodIn_app (goodIn_sub (sb_c (qq_X1_lookAtHits_0 21 rfl) (sb_c (qq_X1_lookAtHits_0 22 rfl) (sb_c (qq_X1_lookAtHits_0 23 rfl) (sb_c (qq_X1_lookAtHits_0 11 rfl) sb_n)))) (by decide +kernel)) ggX1_lookAtHits_X1_columnsReached
theorem dX1_lookAtHits_0 : decode cX1_lookAtHits 0 = .ok (.aload_n 0, 1) := by decide +kernel
theorem dX1_lookAtHits_1 : decode cX1_lookAtHits 1 = .ok (.getfield 60, 3) := by decide +kernel
theorem dX1_lookAtHits_4 : decode cX1_lookAtHits 4 = .ok (.iconst 0, 1) := by decide +kernel
theorem dX1_lookAtHits_5 : decode cX1_lookAtHits 5 = .ok (.invokestatic 63, 3) := by decide +kernel
theorem dX1_lookAtHits_8 : decode cX1_lookAtHits 8 = .ok (.iconst 0, 1) := by decide +kernel
theorem dX1_lookAtHits_9 : decode cX1_lookAtHits 9 = .ok (.istore_n 2, 1) := by decide +kernel
theorem dX1_lookAtHits_10 : decode cX1_lookAtHits 10 = .ok (.iload_n 2, 1) := by decide +kernel
theorem dX1_lookAtHits_11 : decode cX1_lookAtHits 11 = .ok (.aload_n 0, 1) := by decide +kernel
theorem dX1_lookAtHits_12 : decode cX1_lookAtHits 12 = .ok (.getfield 29, 3) := by decide +kernel
theorem dX1_lookAtHits_15 : decode cX1_lookAtHits 15 = .ok (.iload_n 1, 1) := by decide +kernel
theorem dX1_lookAtHits_16 : decode cX1_lookAtHits 16 = .ok (.iaload, 1) := by decide +kernel
theorem dX1_lookAtHits_17 : decode cX1_lookAtHits 17 = .ok (.if_icmp .ge 85, 3) := by decide +kernel
theorem dX1_lookAtHits_20 : decode cX1_lookAtHits 20 = .ok (.aload_n 0, 1) := by decide +kernel
theorem dX1_lookAtHits_21 : decode cX1_lookAtHits 21 = .ok (.iload_n 1, 1) := by decide +kernel
theorem dX1_lookAtHits_22 : decode cX1_lookAtHits 22 = .ok (.iload_n 2, 1) := by decide +kernel
theorem dX1_lookAtHits_23 : decode cX1_lookAtHits 23 = .ok (.invokevirtual 101, 3) := by decide +kernel
theorem dX1_lookAtHits_26 : decode cX1_lookAtHits 26 = .ok (.istore_n 3, 1) := by decide +kernel
theorem dX1_lookAtHits_27 : decode cX1_lookAtHits 27 = .ok (.aload_n 0, 1) := by decide +kernel
theorem dX1_lookAtHits_28 : decode cX1_lookAtHits 28 = .ok (.getfield 57, 3) := by decide +kernel
theorem dX1_lookAtHits_31 : decode cX1_lookAtHits 31 = .ok (.iload_n 2, 1) := by decide +kernel
theorem dX1_lookAtHits_32 : decode cX1_lookAtHits 32 = .ok (.aload_n 0, 1) := by decide +kernel
theorem dX1_lookAtHits_33 : decode cX1_lookAtHits 33 = .ok (.getfield 26, 3) := by decide +kernel
theorem dX1_lookAtHits_36 : decode cX1_lookAtHits 36 = .ok (.aload_n 0, 1) := by decide +kernel
theorem dX1_lookAtHits_37 : decode cX1_lookAtHits 37 = .ok (.iload_n 1, 1) := by decide +kernel
theorem dX1_lookAtHits_38 : decode cX1_lookAtHits 38 = .ok (.iload_n 2, 1) := by decide +kernel
theorem dX1_lookAtHits_39 : decode cX1_lookAtHits 39 = .ok (.invokevirtual 105, 3) := by decide +kernel
theorem dX1_lookAtHits_42 : decode cX1_lookAtHits 42 = .ok (.iload_n 3, 1) := by decide +kernel
theorem dX1_lookAtHits_43 : decode cX1_lookAtHits 43 = .ok (.invokestatic 108, 3) := by decide +kernel
theorem dX1_lookAtHits_46 : decode cX1_lookAtHits 46 = .ok (.ifCond .eq 11, 3) := by decide +kernel
theorem dX1_lookAtHits_49 : decode cX1_lookAtHits 49 = .ok (.aload_n 0, 1) := by decide +kernel
theorem dX1_lookAtHits_50 : decode cX1_lookAtHits 50 = .ok (.iload_n 3, 1) := by decide +kernel
theorem dX1_lookAtHits_51 : decode cX1_lookAtHits 51 = .ok (.invokevirtual 112, 3) := by decide +kernel
theorem dX1_lookAtHits_54 : decode cX1_lookAtHits 54 = .ok (.goto 4, 3) := by decide +kernel
theorem dX1_lookAtHits_57 : decode cX1_lookAtHits 57 = .ok (.iconst 0, 1) := by decide +kernel
theorem dX1_lookAtHits_58 : decode cX1_lookAtHits 58 = .ok (.iastore, 1) := by decide +kernel
theorem dX1_lookAtHits_59 : decode cX1_lookAtHits 59 = .ok (.iconst 0, 1) := by decide +kernel
theorem dX1_lookAtHits_60 : decode cX1_lookAtHits 60 = .ok (.istore 4, 2) := by decide +kernel
theorem dX1_lookAtHits_62 : decode cX1_lookAtHits 62 = .ok (.iload 4, 2) := by decide +kernel
theorem dX1_lookAtHits_64 : decode cX1_lookAtHits 64 = .ok (.bipush 8, 2) := by decide +kernel
theorem dX1_lookAtHits_66 : decode cX1_lookAtHits 66 = .ok (.if_icmp .ge 30, 3) := by decide +kernel
theorem dX1_lookAtHits_69 : decode cX1_lookAtHits 69 = .ok (.aload_n 0, 1) := by decide +kernel
theorem dX1_lookAtHits_70 : decode cX1_lookAtHits 70 = .ok (.getfield 60, 3) := by decide +kernel
theorem dX1_lookAtHits_73 : decode cX1_lookAtHits 73 = .ok (.iload 4, 2) := by decide +kernel
theorem dX1_lookAtHits_75 : decode cX1_lookAtHits 75 = .ok (.dup2, 1) := by decide +kernel
theorem dX1_lookAtHits_76 : decode cX1_lookAtHits 76 = .ok (.iaload, 1) := by decide +kernel
theorem dX1_lookAtHits_77 : decode cX1_lookAtHits 77 = .ok (.aload_n 0, 1) := by decide +kernel
theorem dX1_lookAtHits_78 : decode cX1_lookAtHits 78 = .ok (.getfield 57, 3) := by decide +kernel
theorem dX1_lookAtHits_81 : decode cX1_lookAtHits 81 = .ok (.iload_n 2, 1) := by decide +kernel
theorem dX1_lookAtHits_82 : decode cX1_lookAtHits 82 = .ok (.iaload, 1) := by decide +kernel
theorem dX1_lookAtHits_83 : decode cX1_lookAtHits 83 = .ok (.iload 4, 2) := by decide +kernel
theorem dX1_lookAtHits_85 : decode cX1_lookAtHits 85 = .ok (.ishr, 1) := by decide +kernel
theorem dX1_lookAtHits_86 : decode cX1_lookAtHits 86 = .ok (.iconst 1, 1) := by decide +kernel
theorem dX1_lookAtHits_87 : decode cX1_lookAtHits 87 = .ok (.iand, 1) := by decide +kernel
theorem dX1_lookAtHits_88 : decode cX1_lookAtHits 88 = .ok (.iadd, 1) := by decide +kernel
theorem dX1_lookAtHits_89 : decode cX1_lookAtHits 89 = .ok (.iastore, 1) := by decide +kernel
theorem dX1_lookAtHits_90 : decode cX1_lookAtHits 90 = .ok (.iinc 4 1, 3) := by decide +kernel
theorem dX1_lookAtHits_93 : decode cX1_lookAtHits 93 = .ok (.goto (-31), 3) := by decide +kernel
theorem dX1_lookAtHits_96 : decode cX1_lookAtHits 96 = .ok (.iinc 2 1, 3) := by decide +kernel
theorem dX1_lookAtHits_99 : decode cX1_lookAtHits 99 = .ok (.goto (-89), 3) := by decide +kernel
theorem dX1_lookAtHits_102 : decode cX1_lookAtHits 102 = .ok (.return_, 1) := by decide +kernel
theorem qq_X1_printDot_0 {c : Cond} (j : Nat) (h : wsX1_printDot_r1[j]? = some c) : c ∈ wsX1_printDot := List.mem_cons_of_mem _ (List.mem_append_left _ (List.mem_append_left _ (List.mem_of_getElem? h)))
theorem qq_X1_printDot_1 {c : Cond} (j : Nat) (h : wsX1_printDot_r2[j]? = some c) : c ∈ wsX1_printDot := List.mem_cons_of_mem _ (List.mem_append_left _ (List.mem_append_right _ (List.mem_of_getElem? h)))
theorem uq_X1_printDot_X1 : wsub wsX10 wsX1_printDot := fun _ h => List.mem_cons_of_mem _ (List.mem_append_right _ (h))
set_option maxRecDepth 20000 in
theorem gw_X1_wantedHit : wsX1_wantedHit.all goodWord = true := by decide +kernel
set_option maxRecDepth 20000 in
theorem ggX1_printDot_X1_wantedHit : GoodIn wsX1_printDot wsX1_wantedHit := goodIn_sub (sb_c (qq_X1_printDot_0 18 rfl) (sb_a (sb_c (qq_X1_printDot_0 19 rfl) (sb_c (qq_X1_printDot_0 20 rfl) (sb_c (qq_X1_printDot_0 21 rfl) (sb_c (qq_X1_printDot_0 22 rfl) (sb_c (qq_X1_printDot_0 17 rfl) (sb_c (qq_X1_printDot_0 23 rfl) (sb_c (qq_X1_printDot_1 0 rfl) (sb_c (qq_X1_printDot_1 1 rfl) (sb_c (qq_X1_printDot_1 2 rfl) (sb_c (qq_X1_printDot_1 3 rfl) (sb_c (qq_X1_printDot_1 4 rfl) (sb_c (qq_X1_printDot_1 5 rfl) sb_n)))))))))))) (uq_X1_printDot_X1))) gw_X1_wantedHit
set_option maxRecDepth 20000 in
theorem gX1_printDot_X1_wantedHit : GoodIn wsX1_printDot (wsV RX1 115 RX1 yX1_wantedHit wsX1_wantedHit) := goodIn_app (goodIn_sub (sb_c (qq_X1_printDot_0 14 rfl) (sb_c (qq_X1_printDot_0 15 rfl) (sb_c (qq_X1_printDot_0 16 rfl) (sb_c (qq_X1_printDot_0 17 rfl) sb_n)))) (by decide +kernel)) ggX1_printDot_X1_wantedHit
set_option maxRecDepth 20000 in
theorem gw_X1_firstHitThatMay : wsX1_firstHitThatMay.all goodWord = true := by decide +kernel
set_option maxRecDepth 20000 in
theorem ggX1_printDot_X1_firstHitThatMay : GoodIn wsX1_printDot wsX1_firstHitThatMay := goodIn_sub (sb_c (qq_X1_printDot_1 9 rfl) (sb_a (sb_c (qq_X1_printDot_0 19 rfl) (sb_c (qq_X1_printDot_1 10 rfl) (sb_c (qq_X1_printDot_0 2 rfl) (sb_c (qq_X1_printDot_0 3 rfl) (sb_c (qq_X1_printDot_1 5 rfl) sb_n))))) (uq_X1_printDot_X1))) gw_X1_firstHitThatMay
set_option maxRecDepth 20000 in
theorem gX1_printDot_X1_firstHitThatMay : GoodIn wsX1_printDot (wsV RX1 118 RX1 yX1_firstHitThatMay wsX1_firstHitThatMay) := goodIn_app (goodIn_sub (sb_c (qq_X1_printDot_1 6 rfl) (sb_c (qq_X1_printDot_1 7 rfl) (sb_c (qq_X1_printDot_1 8 rfl) (sb_c (qq_X1_printDot_0 17 rfl) sb_n)))) (by decide +kernel)) ggX1_printDot_X1_firstHitThatMay
set_option maxRecDepth 20000 in
theorem ggX1_printDot_X1_passOf : GoodIn wsX1_printDot wsX1_passOf := goodIn_sub (sb_c (qq_X1_printDot_1 14 rfl) (sb_a (sb_c (qq_X1_printDot_0 3 rfl) sb_n) (uq_X1_printDot_X1))) gw_X1_passOf
set_option maxRecDepth 20000 in
theorem gX1_printDot_X1_passOf : GoodIn wsX1_printDot (wsV RX1 101 RX1 yX1_passOf wsX1_passOf) := goodIn_app (goodIn_sub (sb_c (qq_X1_printDot_1 11 rfl) (sb_c (qq_X1_printDot_1 12 rfl) (sb_c (qq_X1_printDot_1 13 rfl) (sb_c (qq_X1_printDot_0 17 rfl) sb_n)))) (by decide +kernel)) ggX1_printDot_X1_passOf
theorem dX1_printDot_0 : decode cX1_printDot 0 = .ok (.aload_n 0, 1) := by decide +kernel
theorem dX1_printDot_1 : decode cX1_printDot 1 = .ok (.iload_n 1, 1) := by decide +kernel
theorem dX1_printDot_2 : decode cX1_printDot 2 = .ok (.iload_n 2, 1) := by decide +kernel
theorem dX1_printDot_3 : decode cX1_printDot 3 = .ok (.invokevirtual 115, 3) := by decide +kernel
theorem dX1_printDot_6 : decode cX1_printDot 6 = .ok (.istore_n 3, 1) := by decide +kernel
theorem dX1_printDot_7 : decode cX1_printDot 7 = .ok (.aload_n 0, 1) := by decide +kernel
theorem dX1_printDot_8 : decode cX1_printDot 8 = .ok (.iload_n 1, 1) := by decide +kernel
theorem dX1_printDot_9 : decode cX1_printDot 9 = .ok (.iload_n 2, 1) := by decide +kernel
theorem dX1_printDot_10 : decode cX1_printDot 10 = .ok (.iload_n 3, 1) := by decide +kernel
theorem dX1_printDot_11 : decode cX1_printDot 11 = .ok (.invokevirtual 118, 3) := by decide +kernel
theorem dX1_printDot_14 : decode cX1_printDot 14 = .ok (.istore 4, 2) := by decide +kernel
theorem dX1_printDot_16 : decode cX1_printDot 16 = .ok (.iload 4, 2) := by decide +kernel
theorem dX1_printDot_18 : decode cX1_printDot 18 = .ok (.iconst (-1), 1) := by decide +kernel
theorem dX1_printDot_19 : decode cX1_printDot 19 = .ok (.if_icmp .ne 16, 3) := by decide +kernel
theorem dX1_printDot_22 : decode cX1_printDot 22 = .ok (.aload_n 0, 1) := by decide +kernel
theorem dX1_printDot_23 : decode cX1_printDot 23 = .ok (.getfield 38, 3) := by decide +kernel
theorem dX1_printDot_26 : decode cX1_printDot 26 = .ok (.iload_n 1, 1) := by decide +kernel
theorem dX1_printDot_27 : decode cX1_printDot 27 = .ok (.dup2, 1) := by decide +kernel
theorem dX1_printDot_28 : decode cX1_printDot 28 = .ok (.iaload, 1) := by decide +kernel
theorem dX1_printDot_29 : decode cX1_printDot 29 = .ok (.iconst 1, 1) := by decide +kernel
theorem dX1_printDot_30 : decode cX1_printDot 30 = .ok (.iload_n 2, 1) := by decide +kernel
theorem dX1_printDot_31 : decode cX1_printDot 31 = .ok (.ishl, 1) := by decide +kernel
theorem dX1_printDot_32 : decode cX1_printDot 32 = .ok (.ior, 1) := by decide +kernel
theorem dX1_printDot_33 : decode cX1_printDot 33 = .ok (.iastore, 1) := by decide +kernel
theorem dX1_printDot_34 : decode cX1_printDot 34 = .ok (.return_, 1) := by decide +kernel
theorem dX1_printDot_35 : decode cX1_printDot 35 = .ok (.aload_n 0, 1) := by decide +kernel
theorem dX1_printDot_36 : decode cX1_printDot 36 = .ok (.iload_n 1, 1) := by decide +kernel
theorem dX1_printDot_37 : decode cX1_printDot 37 = .ok (.iload 4, 2) := by decide +kernel
theorem dX1_printDot_39 : decode cX1_printDot 39 = .ok (.invokevirtual 101, 3) := by decide +kernel
theorem dX1_printDot_42 : decode cX1_printDot 42 = .ok (.istore 5, 2) := by decide +kernel
theorem dX1_printDot_44 : decode cX1_printDot 44 = .ok (.aload_n 0, 1) := by decide +kernel
theorem dX1_printDot_45 : decode cX1_printDot 45 = .ok (.getfield 35, 3) := by decide +kernel
theorem dX1_printDot_48 : decode cX1_printDot 48 = .ok (.iload_n 1, 1) := by decide +kernel
theorem dX1_printDot_49 : decode cX1_printDot 49 = .ok (.bipush 8, 2) := by decide +kernel
theorem dX1_printDot_51 : decode cX1_printDot 51 = .ok (.imul, 1) := by decide +kernel
theorem dX1_printDot_52 : decode cX1_printDot 52 = .ok (.iload_n 2, 1) := by decide +kernel
theorem dX1_printDot_53 : decode cX1_printDot 53 = .ok (.iadd, 1) := by decide +kernel
theorem dX1_printDot_54 : decode cX1_printDot 54 = .ok (.iload 4, 2) := by decide +kernel
theorem dX1_printDot_56 : decode cX1_printDot 56 = .ok (.iastore, 1) := by decide +kernel
theorem dX1_printDot_57 : decode cX1_printDot 57 = .ok (.aload_n 0, 1) := by decide +kernel
theorem dX1_printDot_58 : decode cX1_printDot 58 = .ok (.getfield 47, 3) := by decide +kernel
theorem dX1_printDot_61 : decode cX1_printDot 61 = .ok (.aload_n 0, 1) := by decide +kernel
theorem dX1_printDot_62 : decode cX1_printDot 62 = .ok (.getfield 32, 3) := by decide +kernel
theorem dX1_printDot_65 : decode cX1_printDot 65 = .ok (.iload_n 1, 1) := by decide +kernel
theorem dX1_printDot_66 : decode cX1_printDot 66 = .ok (.bipush 12, 2) := by decide +kernel
theorem dX1_printDot_68 : decode cX1_printDot 68 = .ok (.imul, 1) := by decide +kernel
theorem dX1_printDot_69 : decode cX1_printDot 69 = .ok (.iload 4, 2) := by decide +kernel
theorem dX1_printDot_71 : decode cX1_printDot 71 = .ok (.iadd, 1) := by decide +kernel
theorem dX1_printDot_72 : decode cX1_printDot 72 = .ok (.iaload, 1) := by decide +kernel
theorem dX1_printDot_73 : decode cX1_printDot 73 = .ok (.dup2, 1) := by decide +kernel
theorem dX1_printDot_74 : decode cX1_printDot 74 = .ok (.iaload, 1) := by decide +kernel
theorem dX1_printDot_75 : decode cX1_printDot 75 = .ok (.iconst 1, 1) := by decide +kernel
theorem dX1_printDot_76 : decode cX1_printDot 76 = .ok (.iadd, 1) := by decide +kernel
theorem dX1_printDot_77 : decode cX1_printDot 77 = .ok (.iastore, 1) := by decide +kernel
theorem dX1_printDot_78 : decode cX1_printDot 78 = .ok (.aload_n 0, 1) := by decide +kernel
theorem dX1_printDot_79 : decode cX1_printDot 79 = .ok (.dup, 1) := by decide +kernel
theorem dX1_printDot_80 : decode cX1_printDot 80 = .ok (.getfield 53, 3) := by decide +kernel
theorem dX1_printDot_83 : decode cX1_printDot 83 = .ok (.iload 4, 2) := by decide +kernel
theorem dX1_printDot_85 : decode cX1_printDot 85 = .ok (.iload_n 3, 1) := by decide +kernel
theorem dX1_printDot_86 : decode cX1_printDot 86 = .ok (.if_icmp .ne 7, 3) := by decide +kernel
theorem dX1_printDot_89 : decode cX1_printDot 89 = .ok (.iconst 0, 1) := by decide +kernel
theorem dX1_printDot_90 : decode cX1_printDot 90 = .ok (.goto 4, 3) := by decide +kernel
theorem dX1_printDot_93 : decode cX1_printDot 93 = .ok (.iconst 1, 1) := by decide +kernel
theorem dX1_printDot_94 : decode cX1_printDot 94 = .ok (.iadd, 1) := by decide +kernel
theorem dX1_printDot_95 : decode cX1_printDot 95 = .ok (.putfield 53, 3) := by decide +kernel
theorem dX1_printDot_98 : decode cX1_printDot 98 = .ok (.aload_n 0, 1) := by decide +kernel
theorem dX1_printDot_99 : decode cX1_printDot 99 = .ok (.getfield 41, 3) := by decide +kernel
theorem dX1_printDot_102 : decode cX1_printDot 102 = .ok (.iload_n 1, 1) := by decide +kernel
theorem dX1_printDot_103 : decode cX1_printDot 103 = .ok (.aload_n 0, 1) := by decide +kernel
theorem dX1_printDot_104 : decode cX1_printDot 104 = .ok (.getfield 41, 3) := by decide +kernel
theorem dX1_printDot_107 : decode cX1_printDot 107 = .ok (.iload_n 1, 1) := by decide +kernel
theorem dX1_printDot_108 : decode cX1_printDot 108 = .ok (.iaload, 1) := by decide +kernel
theorem dX1_printDot_109 : decode cX1_printDot 109 = .ok (.iconst (-1), 1) := by decide +kernel
theorem dX1_printDot_110 : decode cX1_printDot 110 = .ok (.if_icmp .ne 8, 3) := by decide +kernel
theorem dX1_printDot_113 : decode cX1_printDot 113 = .ok (.iload 5, 2) := by decide +kernel
theorem dX1_printDot_115 : decode cX1_printDot 115 = .ok (.goto 14, 3) := by decide +kernel
theorem dX1_printDot_118 : decode cX1_printDot 118 = .ok (.aload_n 0, 1) := by decide +kernel
theorem dX1_printDot_119 : decode cX1_printDot 119 = .ok (.getfield 41, 3) := by decide +kernel
theorem dX1_printDot_122 : decode cX1_printDot 122 = .ok (.iload_n 1, 1) := by decide +kernel
theorem dX1_printDot_123 : decode cX1_printDot 123 = .ok (.iaload, 1) := by decide +kernel
theorem dX1_printDot_124 : decode cX1_printDot 124 = .ok (.iload 5, 2) := by decide +kernel
theorem dX1_printDot_126 : decode cX1_printDot 126 = .ok (.invokestatic 122, 3) := by decide +kernel
theorem dX1_printDot_129 : decode cX1_printDot 129 = .ok (.iastore, 1) := by decide +kernel
theorem dX1_printDot_130 : decode cX1_printDot 130 = .ok (.aload_n 0, 1) := by decide +kernel
theorem dX1_printDot_131 : decode cX1_printDot 131 = .ok (.getfield 44, 3) := by decide +kernel
theorem dX1_printDot_134 : decode cX1_printDot 134 = .ok (.iload_n 1, 1) := by decide +kernel
theorem dX1_printDot_135 : decode cX1_printDot 135 = .ok (.aload_n 0, 1) := by decide +kernel
theorem dX1_printDot_136 : decode cX1_printDot 136 = .ok (.getfield 44, 3) := by decide +kernel
theorem dX1_printDot_139 : decode cX1_printDot 139 = .ok (.iload_n 1, 1) := by decide +kernel
theorem dX1_printDot_140 : decode cX1_printDot 140 = .ok (.iaload, 1) := by decide +kernel
theorem dX1_printDot_141 : decode cX1_printDot 141 = .ok (.iload 5, 2) := by decide +kernel
theorem dX1_printDot_143 : decode cX1_printDot 143 = .ok (.invokestatic 127, 3) := by decide +kernel
theorem dX1_printDot_146 : decode cX1_printDot 146 = .ok (.iastore, 1) := by decide +kernel
theorem dX1_printDot_147 : decode cX1_printDot 147 = .ok (.return_, 1) := by decide +kernel
theorem dX1_firstHitThatMay_0 : decode cX1_firstHitThatMay 0 = .ok (.aload_n 0, 1) := by decide +kernel
theorem dX1_firstHitThatMay_1 : decode cX1_firstHitThatMay 1 = .ok (.getfield 29, 3) := by decide +kernel
theorem dX1_firstHitThatMay_4 : decode cX1_firstHitThatMay 4 = .ok (.iload_n 1, 1) := by decide +kernel
theorem dX1_firstHitThatMay_5 : decode cX1_firstHitThatMay 5 = .ok (.iaload, 1) := by decide +kernel
theorem dX1_firstHitThatMay_6 : decode cX1_firstHitThatMay 6 = .ok (.istore 4, 2) := by decide +kernel
theorem dX1_firstHitThatMay_8 : decode cX1_firstHitThatMay 8 = .ok (.iconst 0, 1) := by decide +kernel
theorem dX1_firstHitThatMay_9 : decode cX1_firstHitThatMay 9 = .ok (.istore 5, 2) := by decide +kernel
theorem dX1_firstHitThatMay_11 : decode cX1_firstHitThatMay 11 = .ok (.iload 5, 2) := by decide +kernel
theorem dX1_firstHitThatMay_13 : decode cX1_firstHitThatMay 13 = .ok (.iload 4, 2) := by decide +kernel
theorem dX1_firstHitThatMay_15 : decode cX1_firstHitThatMay 15 = .ok (.if_icmp .ge 90, 3) := by decide +kernel
theorem dX1_firstHitThatMay_18 : decode cX1_firstHitThatMay 18 = .ok (.iload_n 3, 1) := by decide +kernel
theorem dX1_firstHitThatMay_19 : decode cX1_firstHitThatMay 19 = .ok (.iload 5, 2) := by decide +kernel
theorem dX1_firstHitThatMay_21 : decode cX1_firstHitThatMay 21 = .ok (.iadd, 1) := by decide +kernel
theorem dX1_firstHitThatMay_22 : decode cX1_firstHitThatMay 22 = .ok (.iload 4, 2) := by decide +kernel
theorem dX1_firstHitThatMay_24 : decode cX1_firstHitThatMay 24 = .ok (.if_icmp .ge 10, 3) := by decide +kernel
theorem dX1_firstHitThatMay_27 : decode cX1_firstHitThatMay 27 = .ok (.iload_n 3, 1) := by decide +kernel
theorem dX1_firstHitThatMay_28 : decode cX1_firstHitThatMay 28 = .ok (.iload 5, 2) := by decide +kernel
theorem dX1_firstHitThatMay_30 : decode cX1_firstHitThatMay 30 = .ok (.iadd, 1) := by decide +kernel
theorem dX1_firstHitThatMay_31 : decode cX1_firstHitThatMay 31 = .ok (.goto 10, 3) := by decide +kernel
theorem dX1_firstHitThatMay_34 : decode cX1_firstHitThatMay 34 = .ok (.iload_n 3, 1) := by decide +kernel
theorem dX1_firstHitThatMay_35 : decode cX1_firstHitThatMay 35 = .ok (.iload 5, 2) := by decide +kernel
theorem dX1_firstHitThatMay_37 : decode cX1_firstHitThatMay 37 = .ok (.iadd, 1) := by decide +kernel
theorem dX1_firstHitThatMay_38 : decode cX1_firstHitThatMay 38 = .ok (.iload 4, 2) := by decide +kernel
theorem dX1_firstHitThatMay_40 : decode cX1_firstHitThatMay 40 = .ok (.isub, 1) := by decide +kernel
theorem dX1_firstHitThatMay_41 : decode cX1_firstHitThatMay 41 = .ok (.istore 6, 2) := by decide +kernel
theorem dX1_firstHitThatMay_43 : decode cX1_firstHitThatMay 43 = .ok (.aload_n 0, 1) := by decide +kernel
theorem dX1_firstHitThatMay_44 : decode cX1_firstHitThatMay 44 = .ok (.getfield 57, 3) := by decide +kernel
theorem dX1_firstHitThatMay_47 : decode cX1_firstHitThatMay 47 = .ok (.iload 6, 2) := by decide +kernel
theorem dX1_firstHitThatMay_49 : decode cX1_firstHitThatMay 49 = .ok (.iaload, 1) := by decide +kernel
theorem dX1_firstHitThatMay_50 : decode cX1_firstHitThatMay 50 = .ok (.iload_n 2, 1) := by decide +kernel
theorem dX1_firstHitThatMay_51 : decode cX1_firstHitThatMay 51 = .ok (.ishr, 1) := by decide +kernel
theorem dX1_firstHitThatMay_52 : decode cX1_firstHitThatMay 52 = .ok (.iconst 1, 1) := by decide +kernel
theorem dX1_firstHitThatMay_53 : decode cX1_firstHitThatMay 53 = .ok (.iand, 1) := by decide +kernel
theorem dX1_firstHitThatMay_54 : decode cX1_firstHitThatMay 54 = .ok (.iconst 1, 1) := by decide +kernel
theorem dX1_firstHitThatMay_55 : decode cX1_firstHitThatMay 55 = .ok (.if_icmp .ne 7, 3) := by decide +kernel
theorem dX1_firstHitThatMay_58 : decode cX1_firstHitThatMay 58 = .ok (.iconst 1, 1) := by decide +kernel
theorem dX1_firstHitThatMay_59 : decode cX1_firstHitThatMay 59 = .ok (.goto 4, 3) := by decide +kernel
theorem dX1_firstHitThatMay_62 : decode cX1_firstHitThatMay 62 = .ok (.iconst 0, 1) := by decide +kernel
theorem dX1_firstHitThatMay_63 : decode cX1_firstHitThatMay 63 = .ok (.istore 7, 2) := by decide +kernel
theorem dX1_firstHitThatMay_65 : decode cX1_firstHitThatMay 65 = .ok (.iload 7, 2) := by decide +kernel
theorem dX1_firstHitThatMay_67 : decode cX1_firstHitThatMay 67 = .ok (.ifCond .eq 32, 3) := by decide +kernel
theorem dX1_firstHitThatMay_70 : decode cX1_firstHitThatMay 70 = .ok (.aload_n 0, 1) := by decide +kernel
theorem dX1_firstHitThatMay_71 : decode cX1_firstHitThatMay 71 = .ok (.getfield 47, 3) := by decide +kernel
theorem dX1_firstHitThatMay_74 : decode cX1_firstHitThatMay 74 = .ok (.aload_n 0, 1) := by decide +kernel
theorem dX1_firstHitThatMay_75 : decode cX1_firstHitThatMay 75 = .ok (.getfield 32, 3) := by decide +kernel
theorem dX1_firstHitThatMay_78 : decode cX1_firstHitThatMay 78 = .ok (.iload_n 1, 1) := by decide +kernel
theorem dX1_firstHitThatMay_79 : decode cX1_firstHitThatMay 79 = .ok (.bipush 12, 2) := by decide +kernel
theorem dX1_firstHitThatMay_81 : decode cX1_firstHitThatMay 81 = .ok (.imul, 1) := by decide +kernel
theorem dX1_firstHitThatMay_82 : decode cX1_firstHitThatMay 82 = .ok (.iload 6, 2) := by decide +kernel
theorem dX1_firstHitThatMay_84 : decode cX1_firstHitThatMay 84 = .ok (.iadd, 1) := by decide +kernel
theorem dX1_firstHitThatMay_85 : decode cX1_firstHitThatMay 85 = .ok (.iaload, 1) := by decide +kernel
theorem dX1_firstHitThatMay_86 : decode cX1_firstHitThatMay 86 = .ok (.iaload, 1) := by decide +kernel
theorem dX1_firstHitThatMay_87 : decode cX1_firstHitThatMay 87 = .ok (.aload_n 0, 1) := by decide +kernel
theorem dX1_firstHitThatMay_88 : decode cX1_firstHitThatMay 88 = .ok (.getfield 23, 3) := by decide +kernel
theorem dX1_firstHitThatMay_91 : decode cX1_firstHitThatMay 91 = .ok (.iconst 5, 1) := by decide +kernel
theorem dX1_firstHitThatMay_92 : decode cX1_firstHitThatMay 92 = .ok (.iaload, 1) := by decide +kernel
theorem dX1_firstHitThatMay_93 : decode cX1_firstHitThatMay 93 = .ok (.if_icmp .ge 6, 3) := by decide +kernel
theorem dX1_firstHitThatMay_96 : decode cX1_firstHitThatMay 96 = .ok (.iload 6, 2) := by decide +kernel
theorem dX1_firstHitThatMay_98 : decode cX1_firstHitThatMay 98 = .ok (.ireturn, 1) := by decide +kernel
theorem dX1_firstHitThatMay_99 : decode cX1_firstHitThatMay 99 = .ok (.iinc 5 1, 3) := by decide +kernel
theorem dX1_firstHitThatMay_102 : decode cX1_firstHitThatMay 102 = .ok (.goto (-91), 3) := by decide +kernel
theorem dX1_firstHitThatMay_105 : decode cX1_firstHitThatMay 105 = .ok (.iconst (-1), 1) := by decide +kernel
theorem dX1_firstHitThatMay_106 : decode cX1_firstHitThatMay 106 = .ok (.ireturn, 1) := by decide +kernel
theorem qq_X1_wantedHit_0 {c : Cond} (j : Nat) (h : ([.fieldLink RX1 29 "InkSwaths$Plan" "hitCount" "[I", .methodLink RX1 93 yX1_isDot, .instanceMethod yX1_isDot, .selects RX1 yX1_isDot yX1_isDot, .initialized RX1, .code yX1_isDot cX1_isDot 3 (some .boolean), .fieldLink RX1 9 "InkSwaths$Plan" "picture" "[I", .methodLink RX1 130 yX1_maskNumber, .instanceMethod yX1_maskNumber, .selects RX1 yX1_maskNumber yX1_maskNumber, .code yX1_maskNumber cX1_maskNumber 3 (some .int), .fieldLink RX1 23 "InkSwaths$Plan" "head" "[I"] : List Cond)[j]? = some c) : c ∈ wsX1_wantedHit := List.mem_cons_of_mem _ (List.mem_append_left _ (List.mem_of_getElem? h))
theorem uq_X1_wantedHit_X1 : wsub wsX10 wsX1_wantedHit := fun _ h => List.mem_cons_of_mem _ (List.mem_append_right _ (h))
set_option maxRecDepth 20000 in
theorem ggX1_wantedHit_X1_isDot : GoodIn wsX1_wantedHit wsX1_isDot := goodIn_sub (sb_c (qq_X1_wantedHit_0 5 rfl) (sb_a (sb_c (qq_X1_wantedHit_0 6 rfl) sb_n) (uq_X1_wantedHit_X1))) gw_X1_isDot
set_option maxRecDepth 20000 in
theorem gX1_wantedHit_X1_isDot : GoodIn wsX1_wantedHit (wsV RX1 93 RX1 yX1_isDot wsX1_isDot) := goodIn_app (goodIn_sub (sb_c (qq_X1_wantedHit_0 1 rfl) (sb_c (qq_X1_wantedHit_0 2 rfl) (sb_c (qq_X1_wantedHit_0 3 rfl) (sb_c (qq_X1_wantedHit_0 4 rfl) sb_n)))) (by decide +kernel)) ggX1_wantedHit_X1_isDot
set_option maxRecDepth 20000 in
theorem gw_X1_maskNumber : wsX1_maskNumber.all goodWord = true := by decide +kernel
set_option maxRecDepth 20000 in
theorem ggX1_wantedHit_X1_maskNumber : GoodIn wsX1_wantedHit wsX1_maskNumber := goodIn_sub (sb_c (qq_X1_wantedHit_0 10 rfl) (sb_a (sb_c (qq_X1_wantedHit_0 11 rfl) sb_n) (uq_X1_wantedHit_X1))) gw_X1_maskNumber
set_option maxRecDepth 20000 in
theorem gX1_wantedHit_X1_maskNumber : GoodIn wsX1_wantedHit (wsV RX1 130 RX1 yX1_maskNumber wsX1_maskNumber) := goodIn_app (goodIn_sub (sb_c (qq_X1_wantedHit_0 7 rfl) (sb_c (qq_X1_wantedHit_0 8 rfl) (sb_c (qq_X1_wantedHit_0 9 rfl) (sb_c (qq_X1_wantedHit_0 4 rfl) sb_n)))) (by decide +kernel)) ggX1_wantedHit_X1_maskNumber
theorem dX1_wantedHit_0 : decode cX1_wantedHit 0 = .ok (.aload_n 0, 1) := by decide +kernel
theorem dX1_wantedHit_1 : decode cX1_wantedHit 1 = .ok (.getfield 29, 3) := by decide +kernel
theorem dX1_wantedHit_4 : decode cX1_wantedHit 4 = .ok (.iload_n 1, 1) := by decide +kernel
theorem dX1_wantedHit_5 : decode cX1_wantedHit 5 = .ok (.iaload, 1) := by decide +kernel
theorem dX1_wantedHit_6 : decode cX1_wantedHit 6 = .ok (.istore_n 3, 1) := by decide +kernel
theorem dX1_wantedHit_7 : decode cX1_wantedHit 7 = .ok (.iload_n 3, 1) := by decide +kernel
theorem dX1_wantedHit_8 : decode cX1_wantedHit 8 = .ok (.ifCond .le 23, 3) := by decide +kernel
theorem dX1_wantedHit_11 : decode cX1_wantedHit 11 = .ok (.aload_n 0, 1) := by decide +kernel
theorem dX1_wantedHit_12 : decode cX1_wantedHit 12 = .ok (.iload_n 1, 1) := by decide +kernel
theorem dX1_wantedHit_13 : decode cX1_wantedHit 13 = .ok (.iload_n 2, 1) := by decide +kernel
theorem dX1_wantedHit_14 : decode cX1_wantedHit 14 = .ok (.invokevirtual 93, 3) := by decide +kernel
theorem dX1_wantedHit_17 : decode cX1_wantedHit 17 = .ok (.ifCond .eq 14, 3) := by decide +kernel
theorem dX1_wantedHit_20 : decode cX1_wantedHit 20 = .ok (.aload_n 0, 1) := by decide +kernel
theorem dX1_wantedHit_21 : decode cX1_wantedHit 21 = .ok (.iload_n 1, 1) := by decide +kernel
theorem dX1_wantedHit_22 : decode cX1_wantedHit 22 = .ok (.iload_n 2, 1) := by decide +kernel
theorem dX1_wantedHit_23 : decode cX1_wantedHit 23 = .ok (.invokevirtual 130, 3) := by decide +kernel
theorem dX1_wantedHit_26 : decode cX1_wantedHit 26 = .ok (.iload_n 3, 1) := by decide +kernel
theorem dX1_wantedHit_27 : decode cX1_wantedHit 27 = .ok (.irem, 1) := by decide +kernel
theorem dX1_wantedHit_28 : decode cX1_wantedHit 28 = .ok (.goto 4, 3) := by decide +kernel
theorem dX1_wantedHit_31 : decode cX1_wantedHit 31 = .ok (.iconst (-1), 1) := by decide +kernel
theorem dX1_wantedHit_32 : decode cX1_wantedHit 32 = .ok (.ireturn, 1) := by decide +kernel
theorem dX1_maskNumber_0 : decode cX1_maskNumber 0 = .ok (.aload_n 0, 1) := by decide +kernel
theorem dX1_maskNumber_1 : decode cX1_maskNumber 1 = .ok (.getfield 23, 3) := by decide +kernel
theorem dX1_maskNumber_4 : decode cX1_maskNumber 4 = .ok (.bipush 8, 2) := by decide +kernel
theorem dX1_maskNumber_6 : decode cX1_maskNumber 6 = .ok (.iaload, 1) := by decide +kernel
theorem dX1_maskNumber_7 : decode cX1_maskNumber 7 = .ok (.tableswitch 33 0 2 #[25, 29, 31], 25) := by decide +kernel
theorem dX1_maskNumber_32 : decode cX1_maskNumber 32 = .ok (.iload_n 1, 1) := by decide +kernel
theorem dX1_maskNumber_33 : decode cX1_maskNumber 33 = .ok (.iload_n 2, 1) := by decide +kernel
theorem dX1_maskNumber_34 : decode cX1_maskNumber 34 = .ok (.iadd, 1) := by decide +kernel
theorem dX1_maskNumber_35 : decode cX1_maskNumber 35 = .ok (.ireturn, 1) := by decide +kernel
theorem dX1_maskNumber_36 : decode cX1_maskNumber 36 = .ok (.iload_n 2, 1) := by decide +kernel
theorem dX1_maskNumber_37 : decode cX1_maskNumber 37 = .ok (.ireturn, 1) := by decide +kernel
theorem dX1_maskNumber_38 : decode cX1_maskNumber 38 = .ok (.iload_n 1, 1) := by decide +kernel
theorem dX1_maskNumber_39 : decode cX1_maskNumber 39 = .ok (.ireturn, 1) := by decide +kernel
theorem dX1_maskNumber_40 : decode cX1_maskNumber 40 = .ok (.iload_n 2, 1) := by decide +kernel
theorem dX1_maskNumber_41 : decode cX1_maskNumber 41 = .ok (.iconst 1, 1) := by decide +kernel
theorem dX1_maskNumber_42 : decode cX1_maskNumber 42 = .ok (.ishr, 1) := by decide +kernel
theorem dX1_maskNumber_43 : decode cX1_maskNumber 43 = .ok (.iload_n 1, 1) := by decide +kernel
theorem dX1_maskNumber_44 : decode cX1_maskNumber 44 = .ok (.iadd, 1) := by decide +kernel
theorem dX1_maskNumber_45 : decode cX1_maskNumber 45 = .ok (.ireturn, 1) := by decide +kernel
theorem dX1_isDot_0 : decode cX1_isDot 0 = .ok (.aload_n 0, 1) := by decide +kernel
theorem dX1_isDot_1 : decode cX1_isDot 1 = .ok (.getfield 9, 3) := by decide +kernel
theorem dX1_isDot_4 : decode cX1_isDot 4 = .ok (.iload_n 1, 1) := by decide +kernel
theorem dX1_isDot_5 : decode cX1_isDot 5 = .ok (.iaload, 1) := by decide +kernel
theorem dX1_isDot_6 : decode cX1_isDot 6 = .ok (.iload_n 2, 1) := by decide +kernel
theorem dX1_isDot_7 : decode cX1_isDot 7 = .ok (.ishr, 1) := by decide +kernel
theorem dX1_isDot_8 : decode cX1_isDot 8 = .ok (.iconst 1, 1) := by decide +kernel
theorem dX1_isDot_9 : decode cX1_isDot 9 = .ok (.iand, 1) := by decide +kernel
theorem dX1_isDot_10 : decode cX1_isDot 10 = .ok (.iconst 1, 1) := by decide +kernel
theorem dX1_isDot_11 : decode cX1_isDot 11 = .ok (.if_icmp .ne 7, 3) := by decide +kernel
theorem dX1_isDot_14 : decode cX1_isDot 14 = .ok (.iconst 1, 1) := by decide +kernel
theorem dX1_isDot_15 : decode cX1_isDot 15 = .ok (.goto 4, 3) := by decide +kernel
theorem dX1_isDot_18 : decode cX1_isDot 18 = .ok (.iconst 0, 1) := by decide +kernel
theorem dX1_isDot_19 : decode cX1_isDot 19 = .ok (.ireturn, 1) := by decide +kernel
theorem dX1_isLiving_0 : decode cX1_isLiving 0 = .ok (.aload_n 0, 1) := by decide +kernel
theorem dX1_isLiving_1 : decode cX1_isLiving 1 = .ok (.iload_n 1, 1) := by decide +kernel
theorem dX1_isLiving_2 : decode cX1_isLiving 2 = .ok (.iaload, 1) := by decide +kernel
theorem dX1_isLiving_3 : decode cX1_isLiving 3 = .ok (.iload_n 2, 1) := by decide +kernel
theorem dX1_isLiving_4 : decode cX1_isLiving 4 = .ok (.ishr, 1) := by decide +kernel
theorem dX1_isLiving_5 : decode cX1_isLiving 5 = .ok (.iconst 1, 1) := by decide +kernel
theorem dX1_isLiving_6 : decode cX1_isLiving 6 = .ok (.iand, 1) := by decide +kernel
theorem dX1_isLiving_7 : decode cX1_isLiving 7 = .ok (.iconst 1, 1) := by decide +kernel
theorem dX1_isLiving_8 : decode cX1_isLiving 8 = .ok (.if_icmp .ne 7, 3) := by decide +kernel
theorem dX1_isLiving_11 : decode cX1_isLiving 11 = .ok (.iconst 1, 1) := by decide +kernel
theorem dX1_isLiving_12 : decode cX1_isLiving 12 = .ok (.goto 4, 3) := by decide +kernel
theorem dX1_isLiving_15 : decode cX1_isLiving 15 = .ok (.iconst 0, 1) := by decide +kernel
theorem dX1_isLiving_16 : decode cX1_isLiving 16 = .ok (.ireturn, 1) := by decide +kernel
theorem dX1_goesRight_0 : decode cX1_goesRight 0 = .ok (.iload_n 0, 1) := by decide +kernel
theorem dX1_goesRight_1 : decode cX1_goesRight 1 = .ok (.iconst 1, 1) := by decide +kernel
theorem dX1_goesRight_2 : decode cX1_goesRight 2 = .ok (.iand, 1) := by decide +kernel
theorem dX1_goesRight_3 : decode cX1_goesRight 3 = .ok (.ifCond .ne 7, 3) := by decide +kernel
theorem dX1_goesRight_6 : decode cX1_goesRight 6 = .ok (.iconst 1, 1) := by decide +kernel
theorem dX1_goesRight_7 : decode cX1_goesRight 7 = .ok (.goto 4, 3) := by decide +kernel
theorem dX1_goesRight_10 : decode cX1_goesRight 10 = .ok (.iconst 0, 1) := by decide +kernel
theorem dX1_goesRight_11 : decode cX1_goesRight 11 = .ok (.ireturn, 1) := by decide +kernel
theorem qq_X1_columnsReached_0 {c : Cond} (j : Nat) (h : ([.fieldLink RX1 23 "InkSwaths$Plan" "head" "[I", .methodLink RX1 133 yX1_goesRight, .static yX1_goesRight, .initialized RX1, .code yX1_goesRight cX1_goesRight 1 (some .boolean)] : List Cond)[j]? = some c) : c ∈ wsX1_columnsReached := List.mem_cons_of_mem _ (List.mem_append_left _ (List.mem_of_getElem? h))
theorem uq_X1_columnsReached_X1 : wsub wsX10 wsX1_columnsReached := fun _ h => List.mem_cons_of_mem _ (List.mem_append_right _ (h))
set_option maxRecDepth 20000 in
theorem gw_X1_goesRight : wsX1_goesRight.all goodWord = true := by decide +kernel
set_option maxRecDepth 20000 in
theorem ggX1_columnsReached_X1_goesRight : GoodIn wsX1_columnsReached wsX1_goesRight := goodIn_sub (sb_c (qq_X1_columnsReached_0 4 rfl) (sb_n)) gw_X1_goesRight
set_option maxRecDepth 20000 in
theorem gX1_columnsReached_X1_goesRight : GoodIn wsX1_columnsReached (va_wsS RX1 133 yX1_goesRight wsX1_goesRight) := goodIn_app (goodIn_sub (sb_c (qq_X1_columnsReached_0 1 rfl) (sb_c (qq_X1_columnsReached_0 2 rfl) (sb_c (qq_X1_columnsReached_0 3 rfl) sb_n))) (by decide +kernel)) ggX1_columnsReached_X1_goesRight
theorem dX1_columnsReached_0 : decode cX1_columnsReached 0 = .ok (.iload_n 1, 1) := by decide +kernel
theorem dX1_columnsReached_1 : decode cX1_columnsReached 1 = .ok (.invokestatic 133, 3) := by decide +kernel
theorem dX1_columnsReached_4 : decode cX1_columnsReached 4 = .ok (.ifCond .eq 17, 3) := by decide +kernel
theorem dX1_columnsReached_7 : decode cX1_columnsReached 7 = .ok (.sipush 255, 3) := by decide +kernel
theorem dX1_columnsReached_10 : decode cX1_columnsReached 10 = .ok (.aload_n 0, 1) := by decide +kernel
theorem dX1_columnsReached_11 : decode cX1_columnsReached 11 = .ok (.getfield 23, 3) := by decide +kernel
theorem dX1_columnsReached_14 : decode cX1_columnsReached 14 = .ok (.bipush 7, 2) := by decide +kernel
theorem dX1_columnsReached_16 : decode cX1_columnsReached 16 = .ok (.iaload, 1) := by decide +kernel
theorem dX1_columnsReached_17 : decode cX1_columnsReached 17 = .ok (.ishr, 1) := by decide +kernel
theorem dX1_columnsReached_18 : decode cX1_columnsReached 18 = .ok (.goto 18, 3) := by decide +kernel
theorem dX1_columnsReached_21 : decode cX1_columnsReached 21 = .ok (.sipush 255, 3) := by decide +kernel
theorem dX1_columnsReached_24 : decode cX1_columnsReached 24 = .ok (.aload_n 0, 1) := by decide +kernel
theorem dX1_columnsReached_25 : decode cX1_columnsReached 25 = .ok (.getfield 23, 3) := by decide +kernel
theorem dX1_columnsReached_28 : decode cX1_columnsReached 28 = .ok (.bipush 7, 2) := by decide +kernel
theorem dX1_columnsReached_30 : decode cX1_columnsReached 30 = .ok (.iaload, 1) := by decide +kernel
theorem dX1_columnsReached_31 : decode cX1_columnsReached 31 = .ok (.ishl, 1) := by decide +kernel
theorem dX1_columnsReached_32 : decode cX1_columnsReached 32 = .ok (.sipush 255, 3) := by decide +kernel
theorem dX1_columnsReached_35 : decode cX1_columnsReached 35 = .ok (.iand, 1) := by decide +kernel
theorem dX1_columnsReached_36 : decode cX1_columnsReached 36 = .ok (.ireturn, 1) := by decide +kernel
theorem dX1_passOf_0 : decode cX1_passOf 0 = .ok (.aload_n 0, 1) := by decide +kernel
theorem dX1_passOf_1 : decode cX1_passOf 1 = .ok (.getfield 32, 3) := by decide +kernel
theorem dX1_passOf_4 : decode cX1_passOf 4 = .ok (.iload_n 1, 1) := by decide +kernel
theorem dX1_passOf_5 : decode cX1_passOf 5 = .ok (.bipush 12, 2) := by decide +kernel
theorem dX1_passOf_7 : decode cX1_passOf 7 = .ok (.imul, 1) := by decide +kernel
theorem dX1_passOf_8 : decode cX1_passOf 8 = .ok (.iload_n 2, 1) := by decide +kernel
theorem dX1_passOf_9 : decode cX1_passOf 9 = .ok (.iadd, 1) := by decide +kernel
theorem dX1_passOf_10 : decode cX1_passOf 10 = .ok (.iaload, 1) := by decide +kernel
theorem dX1_passOf_11 : decode cX1_passOf 11 = .ok (.bipush 8, 2) := by decide +kernel
theorem dX1_passOf_13 : decode cX1_passOf 13 = .ok (.idiv, 1) := by decide +kernel
theorem dX1_passOf_14 : decode cX1_passOf 14 = .ok (.ireturn, 1) := by decide +kernel
theorem dX1_nozzleOf_0 : decode cX1_nozzleOf 0 = .ok (.aload_n 0, 1) := by decide +kernel
theorem dX1_nozzleOf_1 : decode cX1_nozzleOf 1 = .ok (.getfield 32, 3) := by decide +kernel
theorem dX1_nozzleOf_4 : decode cX1_nozzleOf 4 = .ok (.iload_n 1, 1) := by decide +kernel
theorem dX1_nozzleOf_5 : decode cX1_nozzleOf 5 = .ok (.bipush 12, 2) := by decide +kernel
theorem dX1_nozzleOf_7 : decode cX1_nozzleOf 7 = .ok (.imul, 1) := by decide +kernel
theorem dX1_nozzleOf_8 : decode cX1_nozzleOf 8 = .ok (.iload_n 2, 1) := by decide +kernel
theorem dX1_nozzleOf_9 : decode cX1_nozzleOf 9 = .ok (.iadd, 1) := by decide +kernel
theorem dX1_nozzleOf_10 : decode cX1_nozzleOf 10 = .ok (.iaload, 1) := by decide +kernel
theorem dX1_nozzleOf_11 : decode cX1_nozzleOf 11 = .ok (.bipush 8, 2) := by decide +kernel
theorem dX1_nozzleOf_13 : decode cX1_nozzleOf 13 = .ok (.irem, 1) := by decide +kernel
theorem dX1_nozzleOf_14 : decode cX1_nozzleOf 14 = .ok (.ireturn, 1) := by decide +kernel
theorem qq_X1_gutterPasses_0 {c : Cond} (j : Nat) (h : ([.fieldLink RX1 23 "InkSwaths$Plan" "head" "[I", .fieldLink RX1 26 "InkSwaths$Plan" "living" "[I", .fieldLink RX1 47 "InkSwaths$Plan" "dotsPrinted" "[I", .methodLink RX1 108 yX1_isLiving, .static yX1_isLiving, .initialized RX1, .code yX1_isLiving cX1_isLiving 3 (some .boolean)] : List Cond)[j]? = some c) : c ∈ wsX1_gutterPasses := List.mem_cons_of_mem _ (List.mem_append_left _ (List.mem_of_getElem? h))
theorem uq_X1_gutterPasses_X1 : wsub wsX10 wsX1_gutterPasses := fun _ h => List.mem_cons_of_mem _ (List.mem_append_right _ (h))
set_option maxRecDepth 20000 in
theorem ggX1_gutterPasses_X1_isLiving : GoodIn wsX1_gutterPasses wsX1_isLiving := goodIn_sub (sb_c (qq_X1_gutterPasses_0 6 rfl) (sb_n)) gw_X1_isLiving
set_option maxRecDepth 20000 in
theorem gX1_gutterPasses_X1_isLiving : GoodIn wsX1_gutterPasses (va_wsS RX1 108 yX1_isLiving wsX1_isLiving) := goodIn_app (goodIn_sub (sb_c (qq_X1_gutterPasses_0 3 rfl) (sb_c (qq_X1_gutterPasses_0 4 rfl) (sb_c (qq_X1_gutterPasses_0 5 rfl) sb_n))) (by decide +kernel)) ggX1_gutterPasses_X1_isLiving
theorem dX1_gutterPasses_0 : decode cX1_gutterPasses 0 = .ok (.iconst 0, 1) := by decide +kernel
theorem dX1_gutterPasses_1 : decode cX1_gutterPasses 1 = .ok (.istore_n 2, 1) := by decide +kernel
theorem dX1_gutterPasses_2 : decode cX1_gutterPasses 2 = .ok (.iconst 0, 1) := by decide +kernel
theorem dX1_gutterPasses_3 : decode cX1_gutterPasses 3 = .ok (.istore_n 3, 1) := by decide +kernel
theorem dX1_gutterPasses_4 : decode cX1_gutterPasses 4 = .ok (.iconst 0, 1) := by decide +kernel
theorem dX1_gutterPasses_5 : decode cX1_gutterPasses 5 = .ok (.istore 4, 2) := by decide +kernel
theorem dX1_gutterPasses_7 : decode cX1_gutterPasses 7 = .ok (.iload 4, 2) := by decide +kernel
theorem dX1_gutterPasses_9 : decode cX1_gutterPasses 9 = .ok (.aload_n 0, 1) := by decide +kernel
theorem dX1_gutterPasses_10 : decode cX1_gutterPasses 10 = .ok (.getfield 23, 3) := by decide +kernel
theorem dX1_gutterPasses_13 : decode cX1_gutterPasses 13 = .ok (.iconst 3, 1) := by decide +kernel
theorem dX1_gutterPasses_14 : decode cX1_gutterPasses 14 = .ok (.iaload, 1) := by decide +kernel
theorem dX1_gutterPasses_15 : decode cX1_gutterPasses 15 = .ok (.if_icmp .ge 77, 3) := by decide +kernel
theorem dX1_gutterPasses_18 : decode cX1_gutterPasses 18 = .ok (.aload_n 0, 1) := by decide +kernel
theorem dX1_gutterPasses_19 : decode cX1_gutterPasses 19 = .ok (.getfield 26, 3) := by decide +kernel
theorem dX1_gutterPasses_22 : decode cX1_gutterPasses 22 = .ok (.iload_n 1, 1) := by decide +kernel
theorem dX1_gutterPasses_23 : decode cX1_gutterPasses 23 = .ok (.iload 4, 2) := by decide +kernel
theorem dX1_gutterPasses_25 : decode cX1_gutterPasses 25 = .ok (.invokestatic 108, 3) := by decide +kernel
theorem dX1_gutterPasses_28 : decode cX1_gutterPasses 28 = .ok (.ifCond .eq 22, 3) := by decide +kernel
theorem dX1_gutterPasses_31 : decode cX1_gutterPasses 31 = .ok (.aload_n 0, 1) := by decide +kernel
theorem dX1_gutterPasses_32 : decode cX1_gutterPasses 32 = .ok (.getfield 47, 3) := by decide +kernel
theorem dX1_gutterPasses_35 : decode cX1_gutterPasses 35 = .ok (.iload 4, 2) := by decide +kernel
theorem dX1_gutterPasses_37 : decode cX1_gutterPasses 37 = .ok (.bipush 8, 2) := by decide +kernel
theorem dX1_gutterPasses_39 : decode cX1_gutterPasses 39 = .ok (.imul, 1) := by decide +kernel
theorem dX1_gutterPasses_40 : decode cX1_gutterPasses 40 = .ok (.iload_n 1, 1) := by decide +kernel
theorem dX1_gutterPasses_41 : decode cX1_gutterPasses 41 = .ok (.iadd, 1) := by decide +kernel
theorem dX1_gutterPasses_42 : decode cX1_gutterPasses 42 = .ok (.iaload, 1) := by decide +kernel
theorem dX1_gutterPasses_43 : decode cX1_gutterPasses 43 = .ok (.ifCond .ne 7, 3) := by decide +kernel
theorem dX1_gutterPasses_46 : decode cX1_gutterPasses 46 = .ok (.iconst 1, 1) := by decide +kernel
theorem dX1_gutterPasses_47 : decode cX1_gutterPasses 47 = .ok (.goto 4, 3) := by decide +kernel
theorem dX1_gutterPasses_50 : decode cX1_gutterPasses 50 = .ok (.iconst 0, 1) := by decide +kernel
theorem dX1_gutterPasses_51 : decode cX1_gutterPasses 51 = .ok (.istore 5, 2) := by decide +kernel
theorem dX1_gutterPasses_53 : decode cX1_gutterPasses 53 = .ok (.iload 5, 2) := by decide +kernel
theorem dX1_gutterPasses_55 : decode cX1_gutterPasses 55 = .ok (.ifCond .eq 9, 3) := by decide +kernel
theorem dX1_gutterPasses_58 : decode cX1_gutterPasses 58 = .ok (.iload_n 3, 1) := by decide +kernel
theorem dX1_gutterPasses_59 : decode cX1_gutterPasses 59 = .ok (.iconst 1, 1) := by decide +kernel
theorem dX1_gutterPasses_60 : decode cX1_gutterPasses 60 = .ok (.iadd, 1) := by decide +kernel
theorem dX1_gutterPasses_61 : decode cX1_gutterPasses 61 = .ok (.goto 4, 3) := by decide +kernel
theorem dX1_gutterPasses_64 : decode cX1_gutterPasses 64 = .ok (.iconst 0, 1) := by decide +kernel
theorem dX1_gutterPasses_65 : decode cX1_gutterPasses 65 = .ok (.istore_n 3, 1) := by decide +kernel
theorem dX1_gutterPasses_66 : decode cX1_gutterPasses 66 = .ok (.iload_n 3, 1) := by decide +kernel
theorem dX1_gutterPasses_67 : decode cX1_gutterPasses 67 = .ok (.aload_n 0, 1) := by decide +kernel
theorem dX1_gutterPasses_68 : decode cX1_gutterPasses 68 = .ok (.getfield 23, 3) := by decide +kernel
theorem dX1_gutterPasses_71 : decode cX1_gutterPasses 71 = .ok (.bipush 6, 2) := by decide +kernel
theorem dX1_gutterPasses_73 : decode cX1_gutterPasses 73 = .ok (.iaload, 1) := by decide +kernel
theorem dX1_gutterPasses_74 : decode cX1_gutterPasses 74 = .ok (.if_icmp .ne 12, 3) := by decide +kernel
theorem dX1_gutterPasses_77 : decode cX1_gutterPasses 77 = .ok (.iload_n 2, 1) := by decide +kernel
theorem dX1_gutterPasses_78 : decode cX1_gutterPasses 78 = .ok (.iconst 1, 1) := by decide +kernel
theorem dX1_gutterPasses_79 : decode cX1_gutterPasses 79 = .ok (.iload 4, 2) := by decide +kernel
theorem dX1_gutterPasses_81 : decode cX1_gutterPasses 81 = .ok (.ishl, 1) := by decide +kernel
theorem dX1_gutterPasses_82 : decode cX1_gutterPasses 82 = .ok (.ior, 1) := by decide +kernel
theorem dX1_gutterPasses_83 : decode cX1_gutterPasses 83 = .ok (.istore_n 2, 1) := by decide +kernel
theorem dX1_gutterPasses_84 : decode cX1_gutterPasses 84 = .ok (.iconst 0, 1) := by decide +kernel
theorem dX1_gutterPasses_85 : decode cX1_gutterPasses 85 = .ok (.istore_n 3, 1) := by decide +kernel
theorem dX1_gutterPasses_86 : decode cX1_gutterPasses 86 = .ok (.iinc 4 1, 3) := by decide +kernel
theorem dX1_gutterPasses_89 : decode cX1_gutterPasses 89 = .ok (.goto (-82), 3) := by decide +kernel
theorem dX1_gutterPasses_92 : decode cX1_gutterPasses 92 = .ok (.iload_n 2, 1) := by decide +kernel
theorem dX1_gutterPasses_93 : decode cX1_gutterPasses 93 = .ok (.ireturn, 1) := by decide +kernel
theorem qq_X1_fewestMissed_0 {c : Cond} (j : Nat) (h : wsX1_fewestMissed_r1[j]? = some c) : c ∈ wsX1_fewestMissed := List.mem_cons_of_mem _ (List.mem_append_left _ (List.mem_append_left _ (List.mem_of_getElem? h)))
theorem qq_X1_fewestMissed_1 {c : Cond} (j : Nat) (h : wsX1_fewestMissed_r2[j]? = some c) : c ∈ wsX1_fewestMissed := List.mem_cons_of_mem _ (List.mem_append_left _ (List.mem_append_right _ (List.mem_of_getElem? h)))
theorem uq_X1_fewestMissed_X1 : wsub wsX10 wsX1_fewestMissed := fun _ h => List.mem_cons_of_mem _ (List.mem_append_right _ (h))
set_option maxRecDepth 20000 in
theorem ggX1_fewestMissed_X1_passOf : GoodIn wsX1_fewestMissed wsX1_passOf := goodIn_sub (sb_c (qq_X1_fewestMissed_0 11 rfl) (sb_a (sb_c (qq_X1_fewestMissed_0 12 rfl) sb_n) (uq_X1_fewestMissed_X1))) gw_X1_passOf
set_option maxRecDepth 20000 in
theorem gX1_fewestMissed_X1_passOf : GoodIn wsX1_fewestMissed (wsV RX1 101 RX1 yX1_passOf wsX1_passOf) := goodIn_app (goodIn_sub (sb_c (qq_X1_fewestMissed_0 7 rfl) (sb_c (qq_X1_fewestMissed_0 8 rfl) (sb_c (qq_X1_fewestMissed_0 9 rfl) (sb_c (qq_X1_fewestMissed_0 10 rfl) sb_n)))) (by decide +kernel)) ggX1_fewestMissed_X1_passOf
set_option maxRecDepth 20000 in
theorem ggX1_fewestMissed_X1_nozzleOf : GoodIn wsX1_fewestMissed wsX1_nozzleOf := goodIn_sub (sb_c (qq_X1_fewestMissed_0 16 rfl) (sb_a (sb_c (qq_X1_fewestMissed_0 12 rfl) sb_n) (uq_X1_fewestMissed_X1))) gw_X1_nozzleOf
set_option maxRecDepth 20000 in
theorem gX1_fewestMissed_X1_nozzleOf : GoodIn wsX1_fewestMissed (wsV RX1 105 RX1 yX1_nozzleOf wsX1_nozzleOf) := goodIn_app (goodIn_sub (sb_c (qq_X1_fewestMissed_0 13 rfl) (sb_c (qq_X1_fewestMissed_0 14 rfl) (sb_c (qq_X1_fewestMissed_0 15 rfl) (sb_c (qq_X1_fewestMissed_0 10 rfl) sb_n)))) (by decide +kernel)) ggX1_fewestMissed_X1_nozzleOf
set_option maxRecDepth 20000 in
theorem ggX1_fewestMissed_X1_isLiving : GoodIn wsX1_fewestMissed wsX1_isLiving := goodIn_sub (sb_c (qq_X1_fewestMissed_0 19 rfl) (sb_n)) gw_X1_isLiving
set_option maxRecDepth 20000 in
theorem gX1_fewestMissed_X1_isLiving : GoodIn wsX1_fewestMissed (va_wsS RX1 108 yX1_isLiving wsX1_isLiving) := goodIn_app (goodIn_sub (sb_c (qq_X1_fewestMissed_0 17 rfl) (sb_c (qq_X1_fewestMissed_0 18 rfl) (sb_c (qq_X1_fewestMissed_0 10 rfl) sb_n))) (by decide +kernel)) ggX1_fewestMissed_X1_isLiving
set_option maxRecDepth 20000 in
theorem ggX1_fewestMissed_X1_goesRight : GoodIn wsX1_fewestMissed wsX1_goesRight := goodIn_sub (sb_c (qq_X1_fewestMissed_0 22 rfl) (sb_n)) gw_X1_goesRight
set_option maxRecDepth 20000 in
theorem gX1_fewestMissed_X1_goesRight : GoodIn wsX1_fewestMissed (va_wsS RX1 133 yX1_goesRight wsX1_goesRight) := goodIn_app (goodIn_sub (sb_c (qq_X1_fewestMissed_0 20 rfl) (sb_c (qq_X1_fewestMissed_0 21 rfl) (sb_c (qq_X1_fewestMissed_0 10 rfl) sb_n))) (by decide +kernel)) ggX1_fewestMissed_X1_goesRight
set_option maxRecDepth 20000 in
theorem gw_J6_bitCount_0f7a4 : wsJ6_bitCount_0f7a4.all goodWord = true := by decide +kernel
set_option maxRecDepth 20000 in
theorem ggX1_fewestMissed_J6_bitCount_0f7a4 : GoodIn wsX1_fewestMissed wsJ6_bitCount_0f7a4 := goodIn_sub (sb_c (qq_X1_fewestMissed_1 2 rfl) (sb_c (qq_X1_fewestMissed_1 3 rfl) (sb_c (qq_X1_fewestMissed_1 4 rfl) (sb_c (qq_X1_fewestMissed_1 5 rfl) sb_n)))) gw_J6_bitCount_0f7a4
set_option maxRecDepth 20000 in
theorem gX1_fewestMissed_J6_bitCount_0f7a4 : GoodIn wsX1_fewestMissed (va_wsS RX1 136 yJ6_bitCount_0f7a4 wsJ6_bitCount_0f7a4) := goodIn_app (goodIn_sub (sb_c (qq_X1_fewestMissed_0 23 rfl) (sb_c (qq_X1_fewestMissed_1 0 rfl) (sb_c (qq_X1_fewestMissed_1 1 rfl) sb_n))) (by decide +kernel)) ggX1_fewestMissed_J6_bitCount_0f7a4
theorem dX1_fewestMissed_0 : decode cX1_fewestMissed 0 = .ok (.aload_n 0, 1) := by decide +kernel
theorem dX1_fewestMissed_1 : decode cX1_fewestMissed 1 = .ok (.getfield 9, 3) := by decide +kernel
theorem dX1_fewestMissed_4 : decode cX1_fewestMissed 4 = .ok (.iload_n 1, 1) := by decide +kernel
theorem dX1_fewestMissed_5 : decode cX1_fewestMissed 5 = .ok (.iaload, 1) := by decide +kernel
theorem dX1_fewestMissed_6 : decode cX1_fewestMissed 6 = .ok (.istore 4, 2) := by decide +kernel
theorem dX1_fewestMissed_8 : decode cX1_fewestMissed 8 = .ok (.iload 4, 2) := by decide +kernel
theorem dX1_fewestMissed_10 : decode cX1_fewestMissed 10 = .ok (.ifCond .ne 5, 3) := by decide +kernel
theorem dX1_fewestMissed_13 : decode cX1_fewestMissed 13 = .ok (.iconst 0, 1) := by decide +kernel
theorem dX1_fewestMissed_14 : decode cX1_fewestMissed 14 = .ok (.ireturn, 1) := by decide +kernel
theorem dX1_fewestMissed_15 : decode cX1_fewestMissed 15 = .ok (.iconst 0, 1) := by decide +kernel
theorem dX1_fewestMissed_16 : decode cX1_fewestMissed 16 = .ok (.istore 5, 2) := by decide +kernel
theorem dX1_fewestMissed_18 : decode cX1_fewestMissed 18 = .ok (.iconst 0, 1) := by decide +kernel
theorem dX1_fewestMissed_19 : decode cX1_fewestMissed 19 = .ok (.istore 6, 2) := by decide +kernel
theorem dX1_fewestMissed_21 : decode cX1_fewestMissed 21 = .ok (.iconst 0, 1) := by decide +kernel
theorem dX1_fewestMissed_22 : decode cX1_fewestMissed 22 = .ok (.istore 7, 2) := by decide +kernel
theorem dX1_fewestMissed_24 : decode cX1_fewestMissed 24 = .ok (.iload 7, 2) := by decide +kernel
theorem dX1_fewestMissed_26 : decode cX1_fewestMissed 26 = .ok (.aload_n 0, 1) := by decide +kernel
theorem dX1_fewestMissed_27 : decode cX1_fewestMissed 27 = .ok (.getfield 29, 3) := by decide +kernel
theorem dX1_fewestMissed_30 : decode cX1_fewestMissed 30 = .ok (.iload_n 1, 1) := by decide +kernel
theorem dX1_fewestMissed_31 : decode cX1_fewestMissed 31 = .ok (.iaload, 1) := by decide +kernel
theorem dX1_fewestMissed_32 : decode cX1_fewestMissed 32 = .ok (.if_icmp .ge 79, 3) := by decide +kernel
theorem dX1_fewestMissed_35 : decode cX1_fewestMissed 35 = .ok (.aload_n 0, 1) := by decide +kernel
theorem dX1_fewestMissed_36 : decode cX1_fewestMissed 36 = .ok (.iload_n 1, 1) := by decide +kernel
theorem dX1_fewestMissed_37 : decode cX1_fewestMissed 37 = .ok (.iload 7, 2) := by decide +kernel
theorem dX1_fewestMissed_39 : decode cX1_fewestMissed 39 = .ok (.invokevirtual 101, 3) := by decide +kernel
theorem dX1_fewestMissed_42 : decode cX1_fewestMissed 42 = .ok (.istore 8, 2) := by decide +kernel
theorem dX1_fewestMissed_44 : decode cX1_fewestMissed 44 = .ok (.aload_n 2, 1) := by decide +kernel
theorem dX1_fewestMissed_45 : decode cX1_fewestMissed 45 = .ok (.aload_n 0, 1) := by decide +kernel
theorem dX1_fewestMissed_46 : decode cX1_fewestMissed 46 = .ok (.iload_n 1, 1) := by decide +kernel
theorem dX1_fewestMissed_47 : decode cX1_fewestMissed 47 = .ok (.iload 7, 2) := by decide +kernel
theorem dX1_fewestMissed_49 : decode cX1_fewestMissed 49 = .ok (.invokevirtual 105, 3) := by decide +kernel
theorem dX1_fewestMissed_52 : decode cX1_fewestMissed 52 = .ok (.iload 8, 2) := by decide +kernel
theorem dX1_fewestMissed_54 : decode cX1_fewestMissed 54 = .ok (.invokestatic 108, 3) := by decide +kernel
theorem dX1_fewestMissed_57 : decode cX1_fewestMissed 57 = .ok (.ifCond .eq 7, 3) := by decide +kernel
theorem dX1_fewestMissed_60 : decode cX1_fewestMissed 60 = .ok (.iload_n 3, 1) := by decide +kernel
theorem dX1_fewestMissed_61 : decode cX1_fewestMissed 61 = .ok (.goto 4, 3) := by decide +kernel
theorem dX1_fewestMissed_64 : decode cX1_fewestMissed 64 = .ok (.iconst 0, 1) := by decide +kernel
theorem dX1_fewestMissed_65 : decode cX1_fewestMissed 65 = .ok (.istore 9, 2) := by decide +kernel
theorem dX1_fewestMissed_67 : decode cX1_fewestMissed 67 = .ok (.iload 5, 2) := by decide +kernel
theorem dX1_fewestMissed_69 : decode cX1_fewestMissed 69 = .ok (.iload 8, 2) := by decide +kernel
theorem dX1_fewestMissed_71 : decode cX1_fewestMissed 71 = .ok (.invokestatic 133, 3) := by decide +kernel
theorem dX1_fewestMissed_74 : decode cX1_fewestMissed 74 = .ok (.ifCond .eq 8, 3) := by decide +kernel
theorem dX1_fewestMissed_77 : decode cX1_fewestMissed 77 = .ok (.iload 9, 2) := by decide +kernel
theorem dX1_fewestMissed_79 : decode cX1_fewestMissed 79 = .ok (.goto 4, 3) := by decide +kernel
theorem dX1_fewestMissed_82 : decode cX1_fewestMissed 82 = .ok (.iconst 0, 1) := by decide +kernel
theorem dX1_fewestMissed_83 : decode cX1_fewestMissed 83 = .ok (.iadd, 1) := by decide +kernel
theorem dX1_fewestMissed_84 : decode cX1_fewestMissed 84 = .ok (.istore 5, 2) := by decide +kernel
theorem dX1_fewestMissed_86 : decode cX1_fewestMissed 86 = .ok (.iload 6, 2) := by decide +kernel
theorem dX1_fewestMissed_88 : decode cX1_fewestMissed 88 = .ok (.iload 8, 2) := by decide +kernel
theorem dX1_fewestMissed_90 : decode cX1_fewestMissed 90 = .ok (.invokestatic 133, 3) := by decide +kernel
theorem dX1_fewestMissed_93 : decode cX1_fewestMissed 93 = .ok (.ifCond .eq 7, 3) := by decide +kernel
theorem dX1_fewestMissed_96 : decode cX1_fewestMissed 96 = .ok (.iconst 0, 1) := by decide +kernel
theorem dX1_fewestMissed_97 : decode cX1_fewestMissed 97 = .ok (.goto 5, 3) := by decide +kernel
theorem dX1_fewestMissed_100 : decode cX1_fewestMissed 100 = .ok (.iload 9, 2) := by decide +kernel
theorem dX1_fewestMissed_102 : decode cX1_fewestMissed 102 = .ok (.iadd, 1) := by decide +kernel
theorem dX1_fewestMissed_103 : decode cX1_fewestMissed 103 = .ok (.istore 6, 2) := by decide +kernel
theorem dX1_fewestMissed_105 : decode cX1_fewestMissed 105 = .ok (.iinc 7 1, 3) := by decide +kernel
theorem dX1_fewestMissed_108 : decode cX1_fewestMissed 108 = .ok (.goto (-84), 3) := by decide +kernel
theorem dX1_fewestMissed_111 : decode cX1_fewestMissed 111 = .ok (.iload 4, 2) := by decide +kernel
theorem dX1_fewestMissed_113 : decode cX1_fewestMissed 113 = .ok (.iconst 1, 1) := by decide +kernel
theorem dX1_fewestMissed_114 : decode cX1_fewestMissed 114 = .ok (.aload_n 0, 1) := by decide +kernel
theorem dX1_fewestMissed_115 : decode cX1_fewestMissed 115 = .ok (.getfield 23, 3) := by decide +kernel
theorem dX1_fewestMissed_118 : decode cX1_fewestMissed 118 = .ok (.bipush 7, 2) := by decide +kernel
theorem dX1_fewestMissed_120 : decode cX1_fewestMissed 120 = .ok (.iaload, 1) := by decide +kernel
theorem dX1_fewestMissed_121 : decode cX1_fewestMissed 121 = .ok (.ishl, 1) := by decide +kernel
theorem dX1_fewestMissed_122 : decode cX1_fewestMissed 122 = .ok (.iconst 1, 1) := by decide +kernel
theorem dX1_fewestMissed_123 : decode cX1_fewestMissed 123 = .ok (.isub, 1) := by decide +kernel
theorem dX1_fewestMissed_124 : decode cX1_fewestMissed 124 = .ok (.iand, 1) := by decide +kernel
theorem dX1_fewestMissed_125 : decode cX1_fewestMissed 125 = .ok (.invokestatic 136, 3) := by decide +kernel
theorem dX1_fewestMissed_128 : decode cX1_fewestMissed 128 = .ok (.istore 7, 2) := by decide +kernel
theorem dX1_fewestMissed_130 : decode cX1_fewestMissed 130 = .ok (.iload 4, 2) := by decide +kernel
theorem dX1_fewestMissed_132 : decode cX1_fewestMissed 132 = .ok (.bipush 8, 2) := by decide +kernel
theorem dX1_fewestMissed_134 : decode cX1_fewestMissed 134 = .ok (.aload_n 0, 1) := by decide +kernel
theorem dX1_fewestMissed_135 : decode cX1_fewestMissed 135 = .ok (.getfield 23, 3) := by decide +kernel
theorem dX1_fewestMissed_138 : decode cX1_fewestMissed 138 = .ok (.bipush 7, 2) := by decide +kernel
theorem dX1_fewestMissed_140 : decode cX1_fewestMissed 140 = .ok (.iaload, 1) := by decide +kernel
theorem dX1_fewestMissed_141 : decode cX1_fewestMissed 141 = .ok (.isub, 1) := by decide +kernel
theorem dX1_fewestMissed_142 : decode cX1_fewestMissed 142 = .ok (.ishr, 1) := by decide +kernel
theorem dX1_fewestMissed_143 : decode cX1_fewestMissed 143 = .ok (.invokestatic 136, 3) := by decide +kernel
theorem dX1_fewestMissed_146 : decode cX1_fewestMissed 146 = .ok (.istore 8, 2) := by decide +kernel
theorem dX1_fewestMissed_148 : decode cX1_fewestMissed 148 = .ok (.iload 4, 2) := by decide +kernel
theorem dX1_fewestMissed_150 : decode cX1_fewestMissed 150 = .ok (.invokestatic 136, 3) := by decide +kernel
theorem dX1_fewestMissed_153 : decode cX1_fewestMissed 153 = .ok (.iload 7, 2) := by decide +kernel
theorem dX1_fewestMissed_155 : decode cX1_fewestMissed 155 = .ok (.isub, 1) := by decide +kernel
theorem dX1_fewestMissed_156 : decode cX1_fewestMissed 156 = .ok (.iload 8, 2) := by decide +kernel
theorem dX1_fewestMissed_158 : decode cX1_fewestMissed 158 = .ok (.isub, 1) := by decide +kernel
theorem dX1_fewestMissed_159 : decode cX1_fewestMissed 159 = .ok (.istore 9, 2) := by decide +kernel
theorem dX1_fewestMissed_161 : decode cX1_fewestMissed 161 = .ok (.iconst 0, 1) := by decide +kernel
theorem dX1_fewestMissed_162 : decode cX1_fewestMissed 162 = .ok (.iload 7, 2) := by decide +kernel
theorem dX1_fewestMissed_164 : decode cX1_fewestMissed 164 = .ok (.iload 5, 2) := by decide +kernel
theorem dX1_fewestMissed_166 : decode cX1_fewestMissed 166 = .ok (.isub, 1) := by decide +kernel
theorem dX1_fewestMissed_167 : decode cX1_fewestMissed 167 = .ok (.invokestatic 127, 3) := by decide +kernel
theorem dX1_fewestMissed_170 : decode cX1_fewestMissed 170 = .ok (.istore 10, 2) := by decide +kernel
theorem dX1_fewestMissed_172 : decode cX1_fewestMissed 172 = .ok (.iconst 0, 1) := by decide +kernel
theorem dX1_fewestMissed_173 : decode cX1_fewestMissed 173 = .ok (.iload 8, 2) := by decide +kernel
theorem dX1_fewestMissed_175 : decode cX1_fewestMissed 175 = .ok (.iload 6, 2) := by decide +kernel
theorem dX1_fewestMissed_177 : decode cX1_fewestMissed 177 = .ok (.isub, 1) := by decide +kernel
theorem dX1_fewestMissed_178 : decode cX1_fewestMissed 178 = .ok (.invokestatic 127, 3) := by decide +kernel
theorem dX1_fewestMissed_181 : decode cX1_fewestMissed 181 = .ok (.istore 11, 2) := by decide +kernel
theorem dX1_fewestMissed_183 : decode cX1_fewestMissed 183 = .ok (.iconst 0, 1) := by decide +kernel
theorem dX1_fewestMissed_184 : decode cX1_fewestMissed 184 = .ok (.iload 5, 2) := by decide +kernel
theorem dX1_fewestMissed_186 : decode cX1_fewestMissed 186 = .ok (.iload 7, 2) := by decide +kernel
theorem dX1_fewestMissed_188 : decode cX1_fewestMissed 188 = .ok (.isub, 1) := by decide +kernel
theorem dX1_fewestMissed_189 : decode cX1_fewestMissed 189 = .ok (.invokestatic 127, 3) := by decide +kernel
theorem dX1_fewestMissed_192 : decode cX1_fewestMissed 192 = .ok (.iconst 0, 1) := by decide +kernel
theorem dX1_fewestMissed_193 : decode cX1_fewestMissed 193 = .ok (.iload 6, 2) := by decide +kernel
theorem dX1_fewestMissed_195 : decode cX1_fewestMissed 195 = .ok (.iload 8, 2) := by decide +kernel
theorem dX1_fewestMissed_197 : decode cX1_fewestMissed 197 = .ok (.isub, 1) := by decide +kernel
theorem dX1_fewestMissed_198 : decode cX1_fewestMissed 198 = .ok (.invokestatic 127, 3) := by decide +kernel
theorem dX1_fewestMissed_201 : decode cX1_fewestMissed 201 = .ok (.iadd, 1) := by decide +kernel
theorem dX1_fewestMissed_202 : decode cX1_fewestMissed 202 = .ok (.istore 12, 2) := by decide +kernel
theorem dX1_fewestMissed_204 : decode cX1_fewestMissed 204 = .ok (.iload 10, 2) := by decide +kernel
theorem dX1_fewestMissed_206 : decode cX1_fewestMissed 206 = .ok (.iload 11, 2) := by decide +kernel
theorem dX1_fewestMissed_208 : decode cX1_fewestMissed 208 = .ok (.iadd, 1) := by decide +kernel
theorem dX1_fewestMissed_209 : decode cX1_fewestMissed 209 = .ok (.iconst 0, 1) := by decide +kernel
theorem dX1_fewestMissed_210 : decode cX1_fewestMissed 210 = .ok (.iload 9, 2) := by decide +kernel
theorem dX1_fewestMissed_212 : decode cX1_fewestMissed 212 = .ok (.iload 12, 2) := by decide +kernel
theorem dX1_fewestMissed_214 : decode cX1_fewestMissed 214 = .ok (.isub, 1) := by decide +kernel
theorem dX1_fewestMissed_215 : decode cX1_fewestMissed 215 = .ok (.invokestatic 127, 3) := by decide +kernel
theorem dX1_fewestMissed_218 : decode cX1_fewestMissed 218 = .ok (.iadd, 1) := by decide +kernel
theorem dX1_fewestMissed_219 : decode cX1_fewestMissed 219 = .ok (.ireturn, 1) := by decide +kernel
theorem dX1_openLines_0 : decode cX1_openLines 0 = .ok (.iconst 0, 1) := by decide +kernel
theorem dX1_openLines_1 : decode cX1_openLines 1 = .ok (.istore_n 2, 1) := by decide +kernel
theorem dX1_openLines_2 : decode cX1_openLines 2 = .ok (.iconst 0, 1) := by decide +kernel
theorem dX1_openLines_3 : decode cX1_openLines 3 = .ok (.istore_n 3, 1) := by decide +kernel
theorem dX1_openLines_4 : decode cX1_openLines 4 = .ok (.iload_n 3, 1) := by decide +kernel
theorem dX1_openLines_5 : decode cX1_openLines 5 = .ok (.bipush 16, 2) := by decide +kernel
theorem dX1_openLines_7 : decode cX1_openLines 7 = .ok (.if_icmp .ge 59, 3) := by decide +kernel
theorem dX1_openLines_10 : decode cX1_openLines 10 = .ok (.aload_n 0, 1) := by decide +kernel
theorem dX1_openLines_11 : decode cX1_openLines 11 = .ok (.getfield 41, 3) := by decide +kernel
theorem dX1_openLines_14 : decode cX1_openLines 14 = .ok (.iload_n 3, 1) := by decide +kernel
theorem dX1_openLines_15 : decode cX1_openLines 15 = .ok (.iaload, 1) := by decide +kernel
theorem dX1_openLines_16 : decode cX1_openLines 16 = .ok (.iconst (-1), 1) := by decide +kernel
theorem dX1_openLines_17 : decode cX1_openLines 17 = .ok (.if_icmp .eq 17, 3) := by decide +kernel
theorem dX1_openLines_20 : decode cX1_openLines 20 = .ok (.aload_n 0, 1) := by decide +kernel
theorem dX1_openLines_21 : decode cX1_openLines 21 = .ok (.getfield 41, 3) := by decide +kernel
theorem dX1_openLines_24 : decode cX1_openLines 24 = .ok (.iload_n 3, 1) := by decide +kernel
theorem dX1_openLines_25 : decode cX1_openLines 25 = .ok (.iaload, 1) := by decide +kernel
theorem dX1_openLines_26 : decode cX1_openLines 26 = .ok (.iload_n 1, 1) := by decide +kernel
theorem dX1_openLines_27 : decode cX1_openLines 27 = .ok (.if_icmp .gt 7, 3) := by decide +kernel
theorem dX1_openLines_30 : decode cX1_openLines 30 = .ok (.iconst 1, 1) := by decide +kernel
theorem dX1_openLines_31 : decode cX1_openLines 31 = .ok (.goto 4, 3) := by decide +kernel
theorem dX1_openLines_34 : decode cX1_openLines 34 = .ok (.iconst 0, 1) := by decide +kernel
theorem dX1_openLines_35 : decode cX1_openLines 35 = .ok (.istore 4, 2) := by decide +kernel
theorem dX1_openLines_37 : decode cX1_openLines 37 = .ok (.iload_n 2, 1) := by decide +kernel
theorem dX1_openLines_38 : decode cX1_openLines 38 = .ok (.iload 4, 2) := by decide +kernel
theorem dX1_openLines_40 : decode cX1_openLines 40 = .ok (.ifCond .eq 17, 3) := by decide +kernel
theorem dX1_openLines_43 : decode cX1_openLines 43 = .ok (.aload_n 0, 1) := by decide +kernel
theorem dX1_openLines_44 : decode cX1_openLines 44 = .ok (.getfield 44, 3) := by decide +kernel
theorem dX1_openLines_47 : decode cX1_openLines 47 = .ok (.iload_n 3, 1) := by decide +kernel
theorem dX1_openLines_48 : decode cX1_openLines 48 = .ok (.iaload, 1) := by decide +kernel
theorem dX1_openLines_49 : decode cX1_openLines 49 = .ok (.iload_n 1, 1) := by decide +kernel
theorem dX1_openLines_50 : decode cX1_openLines 50 = .ok (.if_icmp .lt 7, 3) := by decide +kernel
theorem dX1_openLines_53 : decode cX1_openLines 53 = .ok (.iconst 1, 1) := by decide +kernel
theorem dX1_openLines_54 : decode cX1_openLines 54 = .ok (.goto 4, 3) := by decide +kernel
theorem dX1_openLines_57 : decode cX1_openLines 57 = .ok (.iconst 0, 1) := by decide +kernel
theorem dX1_openLines_58 : decode cX1_openLines 58 = .ok (.iadd, 1) := by decide +kernel
theorem dX1_openLines_59 : decode cX1_openLines 59 = .ok (.istore_n 2, 1) := by decide +kernel
theorem dX1_openLines_60 : decode cX1_openLines 60 = .ok (.iinc 3 1, 3) := by decide +kernel
theorem dX1_openLines_63 : decode cX1_openLines 63 = .ok (.goto (-59), 3) := by decide +kernel
theorem dX1_openLines_66 : decode cX1_openLines 66 = .ok (.iload_n 2, 1) := by decide +kernel
theorem dX1_openLines_67 : decode cX1_openLines 67 = .ok (.ireturn, 1) := by decide +kernel
theorem qq_X1_dropsOf_0 {c : Cond} (j : Nat) (h : ([.fieldLink RX1 50 "InkSwaths$Plan" "gutter" "[I", .fieldLink RX1 23 "InkSwaths$Plan" "head" "[I", .fieldLink RX1 47 "InkSwaths$Plan" "dotsPrinted" "[I", .methodLink RX1 136 yJ6_bitCount_0f7a4, .static yJ6_bitCount_0f7a4, .initialized RJ6, .code yJ6_bitCount_0f7a4 cJ6_bitCount_0f7a4 1 (some .int), .constant RJ6 265 (1431655765), .constant RJ6 266 (858993459), .constant RJ6 267 (252645135)] : List Cond)[j]? = some c) : c ∈ wsX1_dropsOf := List.mem_cons_of_mem _ (List.mem_append_left _ (List.mem_of_getElem? h))
theorem uq_X1_dropsOf_X1 : wsub wsX10 wsX1_dropsOf := fun _ h => List.mem_cons_of_mem _ (List.mem_append_right _ (h))
set_option maxRecDepth 20000 in
theorem ggX1_dropsOf_J6_bitCount_0f7a4 : GoodIn wsX1_dropsOf wsJ6_bitCount_0f7a4 := goodIn_sub (sb_c (qq_X1_dropsOf_0 6 rfl) (sb_c (qq_X1_dropsOf_0 7 rfl) (sb_c (qq_X1_dropsOf_0 8 rfl) (sb_c (qq_X1_dropsOf_0 9 rfl) sb_n)))) gw_J6_bitCount_0f7a4
set_option maxRecDepth 20000 in
theorem gX1_dropsOf_J6_bitCount_0f7a4 : GoodIn wsX1_dropsOf (va_wsS RX1 136 yJ6_bitCount_0f7a4 wsJ6_bitCount_0f7a4) := goodIn_app (goodIn_sub (sb_c (qq_X1_dropsOf_0 3 rfl) (sb_c (qq_X1_dropsOf_0 4 rfl) (sb_c (qq_X1_dropsOf_0 5 rfl) sb_n))) (by decide +kernel)) ggX1_dropsOf_J6_bitCount_0f7a4
theorem dX1_dropsOf_0 : decode cX1_dropsOf 0 = .ok (.aload_n 0, 1) := by decide +kernel
theorem dX1_dropsOf_1 : decode cX1_dropsOf 1 = .ok (.getfield 50, 3) := by decide +kernel
theorem dX1_dropsOf_4 : decode cX1_dropsOf 4 = .ok (.iload_n 1, 1) := by decide +kernel
theorem dX1_dropsOf_5 : decode cX1_dropsOf 5 = .ok (.iaload, 1) := by decide +kernel
theorem dX1_dropsOf_6 : decode cX1_dropsOf 6 = .ok (.invokestatic 136, 3) := by decide +kernel
theorem dX1_dropsOf_9 : decode cX1_dropsOf 9 = .ok (.istore_n 2, 1) := by decide +kernel
theorem dX1_dropsOf_10 : decode cX1_dropsOf 10 = .ok (.iconst 0, 1) := by decide +kernel
theorem dX1_dropsOf_11 : decode cX1_dropsOf 11 = .ok (.istore_n 3, 1) := by decide +kernel
theorem dX1_dropsOf_12 : decode cX1_dropsOf 12 = .ok (.iload_n 3, 1) := by decide +kernel
theorem dX1_dropsOf_13 : decode cX1_dropsOf 13 = .ok (.aload_n 0, 1) := by decide +kernel
theorem dX1_dropsOf_14 : decode cX1_dropsOf 14 = .ok (.getfield 23, 3) := by decide +kernel
theorem dX1_dropsOf_17 : decode cX1_dropsOf 17 = .ok (.iconst 3, 1) := by decide +kernel
theorem dX1_dropsOf_18 : decode cX1_dropsOf 18 = .ok (.iaload, 1) := by decide +kernel
theorem dX1_dropsOf_19 : decode cX1_dropsOf 19 = .ok (.if_icmp .ge 23, 3) := by decide +kernel
theorem dX1_dropsOf_22 : decode cX1_dropsOf 22 = .ok (.iload_n 2, 1) := by decide +kernel
theorem dX1_dropsOf_23 : decode cX1_dropsOf 23 = .ok (.aload_n 0, 1) := by decide +kernel
theorem dX1_dropsOf_24 : decode cX1_dropsOf 24 = .ok (.getfield 47, 3) := by decide +kernel
theorem dX1_dropsOf_27 : decode cX1_dropsOf 27 = .ok (.iload_n 3, 1) := by decide +kernel
theorem dX1_dropsOf_28 : decode cX1_dropsOf 28 = .ok (.bipush 8, 2) := by decide +kernel
theorem dX1_dropsOf_30 : decode cX1_dropsOf 30 = .ok (.imul, 1) := by decide +kernel
theorem dX1_dropsOf_31 : decode cX1_dropsOf 31 = .ok (.iload_n 1, 1) := by decide +kernel
theorem dX1_dropsOf_32 : decode cX1_dropsOf 32 = .ok (.iadd, 1) := by decide +kernel
theorem dX1_dropsOf_33 : decode cX1_dropsOf 33 = .ok (.iaload, 1) := by decide +kernel
theorem dX1_dropsOf_34 : decode cX1_dropsOf 34 = .ok (.iadd, 1) := by decide +kernel
theorem dX1_dropsOf_35 : decode cX1_dropsOf 35 = .ok (.istore_n 2, 1) := by decide +kernel
theorem dX1_dropsOf_36 : decode cX1_dropsOf 36 = .ok (.iinc 3 1, 3) := by decide +kernel
theorem dX1_dropsOf_39 : decode cX1_dropsOf 39 = .ok (.goto (-27), 3) := by decide +kernel
theorem dX1_dropsOf_42 : decode cX1_dropsOf 42 = .ok (.iload_n 2, 1) := by decide +kernel
theorem dX1_dropsOf_43 : decode cX1_dropsOf 43 = .ok (.ireturn, 1) := by decide +kernel
theorem dX1_allHits_0 : decode cX1_allHits 0 = .ok (.iconst 0, 1) := by decide +kernel
theorem dX1_allHits_1 : decode cX1_allHits 1 = .ok (.istore_n 1, 1) := by decide +kernel
theorem dX1_allHits_2 : decode cX1_allHits 2 = .ok (.aload_n 0, 1) := by decide +kernel
theorem dX1_allHits_3 : decode cX1_allHits 3 = .ok (.getfield 29, 3) := by decide +kernel
theorem dX1_allHits_6 : decode cX1_allHits 6 = .ok (.astore_n 2, 1) := by decide +kernel
theorem dX1_allHits_7 : decode cX1_allHits 7 = .ok (.aload_n 2, 1) := by decide +kernel
theorem dX1_allHits_8 : decode cX1_allHits 8 = .ok (.arraylength, 1) := by decide +kernel
theorem dX1_allHits_9 : decode cX1_allHits 9 = .ok (.istore_n 3, 1) := by decide +kernel
theorem dX1_allHits_10 : decode cX1_allHits 10 = .ok (.iconst 0, 1) := by decide +kernel
theorem dX1_allHits_11 : decode cX1_allHits 11 = .ok (.istore 4, 2) := by decide +kernel
theorem dX1_allHits_13 : decode cX1_allHits 13 = .ok (.iload 4, 2) := by decide +kernel
theorem dX1_allHits_15 : decode cX1_allHits 15 = .ok (.iload_n 3, 1) := by decide +kernel
theorem dX1_allHits_16 : decode cX1_allHits 16 = .ok (.if_icmp .ge 20, 3) := by decide +kernel
theorem dX1_allHits_19 : decode cX1_allHits 19 = .ok (.aload_n 2, 1) := by decide +kernel
theorem dX1_allHits_20 : decode cX1_allHits 20 = .ok (.iload 4, 2) := by decide +kernel
theorem dX1_allHits_22 : decode cX1_allHits 22 = .ok (.iaload, 1) := by decide +kernel
theorem dX1_allHits_23 : decode cX1_allHits 23 = .ok (.istore 5, 2) := by decide +kernel
theorem dX1_allHits_25 : decode cX1_allHits 25 = .ok (.iload_n 1, 1) := by decide +kernel
theorem dX1_allHits_26 : decode cX1_allHits 26 = .ok (.iload 5, 2) := by decide +kernel
theorem dX1_allHits_28 : decode cX1_allHits 28 = .ok (.iadd, 1) := by decide +kernel
theorem dX1_allHits_29 : decode cX1_allHits 29 = .ok (.istore_n 1, 1) := by decide +kernel
theorem dX1_allHits_30 : decode cX1_allHits 30 = .ok (.iinc 4 1, 3) := by decide +kernel
theorem dX1_allHits_33 : decode cX1_allHits 33 = .ok (.goto (-20), 3) := by decide +kernel
theorem dX1_allHits_36 : decode cX1_allHits 36 = .ok (.iload_n 1, 1) := by decide +kernel
theorem dX1_allHits_37 : decode cX1_allHits 37 = .ok (.ireturn, 1) := by decide +kernel
theorem qq_X1_allDots_0 {c : Cond} (j : Nat) (h : ([.fieldLink RX1 9 "InkSwaths$Plan" "picture" "[I", .methodLink RX1 141 yX1_bitsOf, .static yX1_bitsOf, .initialized RX1, .code yX1_bitsOf cX1_bitsOf 6 (some .int), .methodLink RX1 136 yJ6_bitCount_0f7a4, .static yJ6_bitCount_0f7a4, .initialized RJ6, .code yJ6_bitCount_0f7a4 cJ6_bitCount_0f7a4 1 (some .int), .constant RJ6 265 (1431655765), .constant RJ6 266 (858993459), .constant RJ6 267 (252645135)] : List Cond)[j]? = some c) : c ∈ wsX1_allDots := List.mem_cons_of_mem _ (List.mem_append_left _ (List.mem_of_getElem? h))
theorem uq_X1_allDots_X1 : wsub wsX10 wsX1_allDots := fun _ h => List.mem_cons_of_mem _ (List.mem_append_right _ (h))
set_option maxRecDepth 20000 in
theorem gw_X1_bitsOf : wsX1_bitsOf.all goodWord = true := by decide +kernel
set_option maxRecDepth 20000 in
theorem ggX1_allDots_X1_bitsOf : GoodIn wsX1_allDots wsX1_bitsOf := goodIn_sub (sb_c (qq_X1_allDots_0 4 rfl) (sb_c (qq_X1_allDots_0 5 rfl) (sb_c (qq_X1_allDots_0 6 rfl) (sb_c (qq_X1_allDots_0 7 rfl) (sb_c (qq_X1_allDots_0 8 rfl) (sb_c (qq_X1_allDots_0 9 rfl) (sb_c (qq_X1_allDots_0 10 rfl) (sb_c (qq_X1_allDots_0 11 rfl) sb_n)))))))) gw_X1_bitsOf
set_option maxRecDepth 20000 in
theorem gX1_allDots_X1_bitsOf : GoodIn wsX1_allDots (va_wsS RX1 141 yX1_bitsOf wsX1_bitsOf) := goodIn_app (goodIn_sub (sb_c (qq_X1_allDots_0 1 rfl) (sb_c (qq_X1_allDots_0 2 rfl) (sb_c (qq_X1_allDots_0 3 rfl) sb_n))) (by decide +kernel)) ggX1_allDots_X1_bitsOf
theorem dX1_allDots_0 : decode cX1_allDots 0 = .ok (.aload_n 0, 1) := by decide +kernel
theorem dX1_allDots_1 : decode cX1_allDots 1 = .ok (.getfield 9, 3) := by decide +kernel
theorem dX1_allDots_4 : decode cX1_allDots 4 = .ok (.invokestatic 141, 3) := by decide +kernel
theorem dX1_allDots_7 : decode cX1_allDots 7 = .ok (.ireturn, 1) := by decide +kernel
theorem qq_X1_allMissed_0 {c : Cond} (j : Nat) (h : ([.fieldLink RX1 38 "InkSwaths$Plan" "missedDots" "[I", .methodLink RX1 141 yX1_bitsOf, .static yX1_bitsOf, .initialized RX1, .code yX1_bitsOf cX1_bitsOf 6 (some .int), .methodLink RX1 136 yJ6_bitCount_0f7a4, .static yJ6_bitCount_0f7a4, .initialized RJ6, .code yJ6_bitCount_0f7a4 cJ6_bitCount_0f7a4 1 (some .int), .constant RJ6 265 (1431655765), .constant RJ6 266 (858993459), .constant RJ6 267 (252645135)] : List Cond)[j]? = some c) : c ∈ wsX1_allMissed := List.mem_cons_of_mem _ (List.mem_append_left _ (List.mem_of_getElem? h))
theorem uq_X1_allMissed_X1 : wsub wsX10 wsX1_allMissed := fun _ h => List.mem_cons_of_mem _ (List.mem_append_right _ (h))
set_option maxRecDepth 20000 in
theorem ggX1_allMissed_X1_bitsOf : GoodIn wsX1_allMissed wsX1_bitsOf := goodIn_sub (sb_c (qq_X1_allMissed_0 4 rfl) (sb_c (qq_X1_allMissed_0 5 rfl) (sb_c (qq_X1_allMissed_0 6 rfl) (sb_c (qq_X1_allMissed_0 7 rfl) (sb_c (qq_X1_allMissed_0 8 rfl) (sb_c (qq_X1_allMissed_0 9 rfl) (sb_c (qq_X1_allMissed_0 10 rfl) (sb_c (qq_X1_allMissed_0 11 rfl) sb_n)))))))) gw_X1_bitsOf
set_option maxRecDepth 20000 in
theorem gX1_allMissed_X1_bitsOf : GoodIn wsX1_allMissed (va_wsS RX1 141 yX1_bitsOf wsX1_bitsOf) := goodIn_app (goodIn_sub (sb_c (qq_X1_allMissed_0 1 rfl) (sb_c (qq_X1_allMissed_0 2 rfl) (sb_c (qq_X1_allMissed_0 3 rfl) sb_n))) (by decide +kernel)) ggX1_allMissed_X1_bitsOf
theorem dX1_allMissed_0 : decode cX1_allMissed 0 = .ok (.aload_n 0, 1) := by decide +kernel
theorem dX1_allMissed_1 : decode cX1_allMissed 1 = .ok (.getfield 38, 3) := by decide +kernel
theorem dX1_allMissed_4 : decode cX1_allMissed 4 = .ok (.invokestatic 141, 3) := by decide +kernel
theorem dX1_allMissed_7 : decode cX1_allMissed 7 = .ok (.ireturn, 1) := by decide +kernel
theorem qq_X1_gutterDrops_0 {c : Cond} (j : Nat) (h : ([.fieldLink RX1 50 "InkSwaths$Plan" "gutter" "[I", .methodLink RX1 141 yX1_bitsOf, .static yX1_bitsOf, .initialized RX1, .code yX1_bitsOf cX1_bitsOf 6 (some .int), .methodLink RX1 136 yJ6_bitCount_0f7a4, .static yJ6_bitCount_0f7a4, .initialized RJ6, .code yJ6_bitCount_0f7a4 cJ6_bitCount_0f7a4 1 (some .int), .constant RJ6 265 (1431655765), .constant RJ6 266 (858993459), .constant RJ6 267 (252645135)] : List Cond)[j]? = some c) : c ∈ wsX1_gutterDrops := List.mem_cons_of_mem _ (List.mem_append_left _ (List.mem_of_getElem? h))
theorem uq_X1_gutterDrops_X1 : wsub wsX10 wsX1_gutterDrops := fun _ h => List.mem_cons_of_mem _ (List.mem_append_right _ (h))
set_option maxRecDepth 20000 in
theorem ggX1_gutterDrops_X1_bitsOf : GoodIn wsX1_gutterDrops wsX1_bitsOf := goodIn_sub (sb_c (qq_X1_gutterDrops_0 4 rfl) (sb_c (qq_X1_gutterDrops_0 5 rfl) (sb_c (qq_X1_gutterDrops_0 6 rfl) (sb_c (qq_X1_gutterDrops_0 7 rfl) (sb_c (qq_X1_gutterDrops_0 8 rfl) (sb_c (qq_X1_gutterDrops_0 9 rfl) (sb_c (qq_X1_gutterDrops_0 10 rfl) (sb_c (qq_X1_gutterDrops_0 11 rfl) sb_n)))))))) gw_X1_bitsOf
set_option maxRecDepth 20000 in
theorem gX1_gutterDrops_X1_bitsOf : GoodIn wsX1_gutterDrops (va_wsS RX1 141 yX1_bitsOf wsX1_bitsOf) := goodIn_app (goodIn_sub (sb_c (qq_X1_gutterDrops_0 1 rfl) (sb_c (qq_X1_gutterDrops_0 2 rfl) (sb_c (qq_X1_gutterDrops_0 3 rfl) sb_n))) (by decide +kernel)) ggX1_gutterDrops_X1_bitsOf
theorem dX1_gutterDrops_0 : decode cX1_gutterDrops 0 = .ok (.aload_n 0, 1) := by decide +kernel
theorem dX1_gutterDrops_1 : decode cX1_gutterDrops 1 = .ok (.getfield 50, 3) := by decide +kernel
theorem dX1_gutterDrops_4 : decode cX1_gutterDrops 4 = .ok (.invokestatic 141, 3) := by decide +kernel
theorem dX1_gutterDrops_7 : decode cX1_gutterDrops 7 = .ok (.ireturn, 1) := by decide +kernel
theorem qq_X1_bitsOf_0 {c : Cond} (j : Nat) (h : ([.methodLink RX1 136 yJ6_bitCount_0f7a4, .static yJ6_bitCount_0f7a4, .initialized RJ6, .code yJ6_bitCount_0f7a4 cJ6_bitCount_0f7a4 1 (some .int), .constant RJ6 265 (1431655765), .constant RJ6 266 (858993459), .constant RJ6 267 (252645135)] : List Cond)[j]? = some c) : c ∈ wsX1_bitsOf := List.mem_cons_of_mem _ (List.mem_of_getElem? h)
set_option maxRecDepth 20000 in
theorem ggX1_bitsOf_J6_bitCount_0f7a4 : GoodIn wsX1_bitsOf wsJ6_bitCount_0f7a4 := goodIn_sub (sb_c (qq_X1_bitsOf_0 3 rfl) (sb_c (qq_X1_bitsOf_0 4 rfl) (sb_c (qq_X1_bitsOf_0 5 rfl) (sb_c (qq_X1_bitsOf_0 6 rfl) sb_n)))) gw_J6_bitCount_0f7a4
set_option maxRecDepth 20000 in
theorem gX1_bitsOf_J6_bitCount_0f7a4 : GoodIn wsX1_bitsOf (va_wsS RX1 136 yJ6_bitCount_0f7a4 wsJ6_bitCount_0f7a4) := goodIn_app (goodIn_sub (sb_c (qq_X1_bitsOf_0 0 rfl) (sb_c (qq_X1_bitsOf_0 1 rfl) (sb_c (qq_X1_bitsOf_0 2 rfl) sb_n))) (by decide +kernel)) ggX1_bitsOf_J6_bitCount_0f7a4
theorem dX1_bitsOf_0 : decode cX1_bitsOf 0 = .ok (.iconst 0, 1) := by decide +kernel
theorem dX1_bitsOf_1 : decode cX1_bitsOf 1 = .ok (.istore_n 1, 1) := by decide +kernel
theorem dX1_bitsOf_2 : decode cX1_bitsOf 2 = .ok (.aload_n 0, 1) := by decide +kernel
theorem dX1_bitsOf_3 : decode cX1_bitsOf 3 = .ok (.astore_n 2, 1) := by decide +kernel
theorem dX1_bitsOf_4 : decode cX1_bitsOf 4 = .ok (.aload_n 2, 1) := by decide +kernel
theorem dX1_bitsOf_5 : decode cX1_bitsOf 5 = .ok (.arraylength, 1) := by decide +kernel
theorem dX1_bitsOf_6 : decode cX1_bitsOf 6 = .ok (.istore_n 3, 1) := by decide +kernel
theorem dX1_bitsOf_7 : decode cX1_bitsOf 7 = .ok (.iconst 0, 1) := by decide +kernel
theorem dX1_bitsOf_8 : decode cX1_bitsOf 8 = .ok (.istore 4, 2) := by decide +kernel
theorem dX1_bitsOf_10 : decode cX1_bitsOf 10 = .ok (.iload 4, 2) := by decide +kernel
theorem dX1_bitsOf_12 : decode cX1_bitsOf 12 = .ok (.iload_n 3, 1) := by decide +kernel
theorem dX1_bitsOf_13 : decode cX1_bitsOf 13 = .ok (.if_icmp .ge 23, 3) := by decide +kernel
theorem dX1_bitsOf_16 : decode cX1_bitsOf 16 = .ok (.aload_n 2, 1) := by decide +kernel
theorem dX1_bitsOf_17 : decode cX1_bitsOf 17 = .ok (.iload 4, 2) := by decide +kernel
theorem dX1_bitsOf_19 : decode cX1_bitsOf 19 = .ok (.iaload, 1) := by decide +kernel
theorem dX1_bitsOf_20 : decode cX1_bitsOf 20 = .ok (.istore 5, 2) := by decide +kernel
theorem dX1_bitsOf_22 : decode cX1_bitsOf 22 = .ok (.iload_n 1, 1) := by decide +kernel
theorem dX1_bitsOf_23 : decode cX1_bitsOf 23 = .ok (.iload 5, 2) := by decide +kernel
theorem dX1_bitsOf_25 : decode cX1_bitsOf 25 = .ok (.invokestatic 136, 3) := by decide +kernel
theorem dX1_bitsOf_28 : decode cX1_bitsOf 28 = .ok (.iadd, 1) := by decide +kernel
theorem dX1_bitsOf_29 : decode cX1_bitsOf 29 = .ok (.istore_n 1, 1) := by decide +kernel
theorem dX1_bitsOf_30 : decode cX1_bitsOf 30 = .ok (.iinc 4 1, 3) := by decide +kernel
theorem dX1_bitsOf_33 : decode cX1_bitsOf 33 = .ok (.goto (-23), 3) := by decide +kernel
theorem dX1_bitsOf_36 : decode cX1_bitsOf 36 = .ok (.iload_n 1, 1) := by decide +kernel
theorem dX1_bitsOf_37 : decode cX1_bitsOf 37 = .ok (.ireturn, 1) := by decide +kernel
theorem dX2_init_0 : decode cX2_init 0 = .ok (.aload_n 0, 1) := by decide +kernel
theorem dX2_init_1 : decode cX2_init 1 = .ok (.invokespecial 3, 3) := by decide +kernel
theorem dX2_init_4 : decode cX2_init 4 = .ok (.aload_n 0, 1) := by decide +kernel
theorem dX2_init_5 : decode cX2_init 5 = .ok (.bipush 60, 2) := by decide +kernel
theorem dX2_init_7 : decode cX2_init 7 = .ok (.newarray .int, 2) := by decide +kernel
theorem dX2_init_9 : decode cX2_init 9 = .ok (.putfield 9, 3) := by decide +kernel
theorem dX2_init_12 : decode cX2_init 12 = .ok (.aload_n 0, 1) := by decide +kernel
theorem dX2_init_13 : decode cX2_init 13 = .ok (.iconst 0, 1) := by decide +kernel
theorem dX2_init_14 : decode cX2_init 14 = .ok (.putfield 15, 3) := by decide +kernel
theorem dX2_init_17 : decode cX2_init 17 = .ok (.aload_n 0, 1) := by decide +kernel
theorem dX2_init_18 : decode cX2_init 18 = .ok (.iconst 0, 1) := by decide +kernel
theorem dX2_init_19 : decode cX2_init 19 = .ok (.putfield 19, 3) := by decide +kernel
theorem dX2_init_22 : decode cX2_init 22 = .ok (.aload_n 0, 1) := by decide +kernel
theorem dX2_init_23 : decode cX2_init 23 = .ok (.iconst 1, 1) := by decide +kernel
theorem dX2_init_24 : decode cX2_init 24 = .ok (.putfield 22, 3) := by decide +kernel
theorem dX2_init_27 : decode cX2_init 27 = .ok (.return_, 1) := by decide +kernel
theorem qq_X2_begin_0 {c : Cond} (j : Nat) (h : ([.fieldLink RX2 9 "InkSwaths$Sheet" "items" "[I", .fieldLink RX2 15 "InkSwaths$Sheet" "form" "I", .fieldLink RX2 19 "InkSwaths$Sheet" "size" "I", .fieldLink RX2 22 "InkSwaths$Sheet" "lost" "Z", .methodLink RX2 26 yJ7_fill_53178, .static yJ7_fill_53178, .initialized RJ7, .code yJ7_fill_53178 cJ7_fill_53178 4 none] : List Cond)[j]? = some c) : c ∈ wsX2_begin := List.mem_cons_of_mem _ (List.mem_append_left _ (List.mem_of_getElem? h))
theorem uq_X2_begin_X2 : wsub wsX20 wsX2_begin := fun _ h => List.mem_cons_of_mem _ (List.mem_append_right _ (h))
set_option maxRecDepth 20000 in
theorem ggX2_begin_J7_fill_53178 : GoodIn wsX2_begin wsJ7_fill_53178 := goodIn_sub (sb_c (qq_X2_begin_0 7 rfl) (sb_n)) gw_J7_fill_53178
set_option maxRecDepth 20000 in
theorem gX2_begin_J7_fill_53178 : GoodIn wsX2_begin (va_wsS RX2 26 yJ7_fill_53178 wsJ7_fill_53178) := goodIn_app (goodIn_sub (sb_c (qq_X2_begin_0 4 rfl) (sb_c (qq_X2_begin_0 5 rfl) (sb_c (qq_X2_begin_0 6 rfl) sb_n))) (by decide +kernel)) ggX2_begin_J7_fill_53178
theorem dX2_begin_0 : decode cX2_begin 0 = .ok (.aload_n 0, 1) := by decide +kernel
theorem dX2_begin_1 : decode cX2_begin 1 = .ok (.getfield 9, 3) := by decide +kernel
theorem dX2_begin_4 : decode cX2_begin 4 = .ok (.iconst 0, 1) := by decide +kernel
theorem dX2_begin_5 : decode cX2_begin 5 = .ok (.invokestatic 26, 3) := by decide +kernel
theorem dX2_begin_8 : decode cX2_begin 8 = .ok (.aload_n 0, 1) := by decide +kernel
theorem dX2_begin_9 : decode cX2_begin 9 = .ok (.iload_n 1, 1) := by decide +kernel
theorem dX2_begin_10 : decode cX2_begin 10 = .ok (.putfield 15, 3) := by decide +kernel
theorem dX2_begin_13 : decode cX2_begin 13 = .ok (.aload_n 0, 1) := by decide +kernel
theorem dX2_begin_14 : decode cX2_begin 14 = .ok (.iload_n 2, 1) := by decide +kernel
theorem dX2_begin_15 : decode cX2_begin 15 = .ok (.putfield 19, 3) := by decide +kernel
theorem dX2_begin_18 : decode cX2_begin 18 = .ok (.aload_n 0, 1) := by decide +kernel
theorem dX2_begin_19 : decode cX2_begin 19 = .ok (.iconst 0, 1) := by decide +kernel
theorem dX2_begin_20 : decode cX2_begin 20 = .ok (.putfield 22, 3) := by decide +kernel
theorem dX2_begin_23 : decode cX2_begin 23 = .ok (.return_, 1) := by decide +kernel
theorem dX2_faultOf_0 : decode cX2_faultOf 0 = .ok (.aload_n 0, 1) := by decide +kernel
theorem dX2_faultOf_1 : decode cX2_faultOf 1 = .ok (.getfield 22, 3) := by decide +kernel
theorem dX2_faultOf_4 : decode cX2_faultOf 4 = .ok (.ifCond .eq 5, 3) := by decide +kernel
theorem dX2_faultOf_7 : decode cX2_faultOf 7 = .ok (.iconst 1, 1) := by decide +kernel
theorem dX2_faultOf_8 : decode cX2_faultOf 8 = .ok (.ireturn, 1) := by decide +kernel
theorem dX2_faultOf_9 : decode cX2_faultOf 9 = .ok (.aload_n 0, 1) := by decide +kernel
theorem dX2_faultOf_10 : decode cX2_faultOf 10 = .ok (.getfield 15, 3) := by decide +kernel
theorem dX2_faultOf_13 : decode cX2_faultOf 13 = .ok (.iload_n 1, 1) := by decide +kernel
theorem dX2_faultOf_14 : decode cX2_faultOf 14 = .ok (.if_icmp .eq 5, 3) := by decide +kernel
theorem dX2_faultOf_17 : decode cX2_faultOf 17 = .ok (.iconst 3, 1) := by decide +kernel
theorem dX2_faultOf_18 : decode cX2_faultOf 18 = .ok (.ireturn, 1) := by decide +kernel
theorem dX2_faultOf_19 : decode cX2_faultOf 19 = .ok (.iload_n 2, 1) := by decide +kernel
theorem dX2_faultOf_20 : decode cX2_faultOf 20 = .ok (.ifCond .lt 11, 3) := by decide +kernel
theorem dX2_faultOf_23 : decode cX2_faultOf 23 = .ok (.iload_n 2, 1) := by decide +kernel
theorem dX2_faultOf_24 : decode cX2_faultOf 24 = .ok (.aload_n 0, 1) := by decide +kernel
theorem dX2_faultOf_25 : decode cX2_faultOf 25 = .ok (.getfield 19, 3) := by decide +kernel
theorem dX2_faultOf_28 : decode cX2_faultOf 28 = .ok (.if_icmp .lt 7, 3) := by decide +kernel
theorem dX2_faultOf_31 : decode cX2_faultOf 31 = .ok (.iconst 2, 1) := by decide +kernel
theorem dX2_faultOf_32 : decode cX2_faultOf 32 = .ok (.goto 4, 3) := by decide +kernel
theorem dX2_faultOf_35 : decode cX2_faultOf 35 = .ok (.iconst 0, 1) := by decide +kernel
theorem dX2_faultOf_36 : decode cX2_faultOf 36 = .ok (.ireturn, 1) := by decide +kernel
theorem dX2_hasPart_0 : decode cX2_hasPart 0 = .ok (.iload_n 1, 1) := by decide +kernel
theorem dX2_hasPart_1 : decode cX2_hasPart 1 = .ok (.ifCond .lt 29, 3) := by decide +kernel
theorem dX2_hasPart_4 : decode cX2_hasPart 4 = .ok (.iload_n 2, 1) := by decide +kernel
theorem dX2_hasPart_5 : decode cX2_hasPart 5 = .ok (.ifCond .lt 25, 3) := by decide +kernel
theorem dX2_hasPart_8 : decode cX2_hasPart 8 = .ok (.iload_n 2, 1) := by decide +kernel
theorem dX2_hasPart_9 : decode cX2_hasPart 9 = .ok (.aload_n 0, 1) := by decide +kernel
theorem dX2_hasPart_10 : decode cX2_hasPart 10 = .ok (.getfield 19, 3) := by decide +kernel
theorem dX2_hasPart_13 : decode cX2_hasPart 13 = .ok (.if_icmp .gt 17, 3) := by decide +kernel
theorem dX2_hasPart_16 : decode cX2_hasPart 16 = .ok (.iload_n 1, 1) := by decide +kernel
theorem dX2_hasPart_17 : decode cX2_hasPart 17 = .ok (.aload_n 0, 1) := by decide +kernel
theorem dX2_hasPart_18 : decode cX2_hasPart 18 = .ok (.getfield 19, 3) := by decide +kernel
theorem dX2_hasPart_21 : decode cX2_hasPart 21 = .ok (.iload_n 2, 1) := by decide +kernel
theorem dX2_hasPart_22 : decode cX2_hasPart 22 = .ok (.isub, 1) := by decide +kernel
theorem dX2_hasPart_23 : decode cX2_hasPart 23 = .ok (.if_icmp .gt 7, 3) := by decide +kernel
theorem dX2_hasPart_26 : decode cX2_hasPart 26 = .ok (.iconst 1, 1) := by decide +kernel
theorem dX2_hasPart_27 : decode cX2_hasPart 27 = .ok (.goto 4, 3) := by decide +kernel
theorem dX2_hasPart_30 : decode cX2_hasPart 30 = .ok (.iconst 0, 1) := by decide +kernel
theorem dX2_hasPart_31 : decode cX2_hasPart 31 = .ok (.ireturn, 1) := by decide +kernel
theorem dX2_fill_0 : decode cX2_fill 0 = .ok (.aload_n 0, 1) := by decide +kernel
theorem dX2_fill_1 : decode cX2_fill 1 = .ok (.getfield 9, 3) := by decide +kernel
theorem dX2_fill_4 : decode cX2_fill 4 = .ok (.iload_n 1, 1) := by decide +kernel
theorem dX2_fill_5 : decode cX2_fill 5 = .ok (.aload_n 0, 1) := by decide +kernel
theorem dX2_fill_6 : decode cX2_fill 6 = .ok (.getfield 15, 3) := by decide +kernel
theorem dX2_fill_9 : decode cX2_fill 9 = .ok (.ifCond .ne 8, 3) := by decide +kernel
theorem dX2_fill_12 : decode cX2_fill 12 = .ok (.iload_n 2, 1) := by decide +kernel
theorem dX2_fill_13 : decode cX2_fill 13 = .ok (.i2b, 1) := by decide +kernel

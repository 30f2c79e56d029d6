theorem inlX0 : ∀ w ∈ wsX00, w ∈ wsL_law := fun _ h => List.mem_append_left _ (List.mem_append_left _ (List.mem_append_right _ h))
theorem inX0 : ∀ w ∈ wsX00, w ∈ lw_tbl := fun w h => wsL_law_in w (inlX0 w h)
theorem inlX1 : ∀ w ∈ wsX10, w ∈ wsL_law := fun _ h => List.mem_append_left _ (List.mem_append_left _ (List.mem_append_left _ (List.mem_append_left _ (List.mem_append_right _ h))))
theorem inX1 : ∀ w ∈ wsX10, w ∈ lw_tbl := fun w h => wsL_law_in w (inlX1 w h)
theorem inlX2 : ∀ w ∈ wsX20, w ∈ wsL_law := fun _ h => List.mem_append_left _ (List.mem_append_right _ h)
theorem inX2 : ∀ w ∈ wsX20, w ∈ lw_tbl := fun w h => wsL_law_in w (inlX2 w h)
theorem inlX3 : ∀ w ∈ wsX30, w ∈ wsL_law := fun _ h => List.mem_append_left _ (List.mem_append_left _ (List.mem_append_left _ (List.mem_append_right _ h)))
theorem inX3 : ∀ w ∈ wsX30, w ∈ lw_tbl := fun w h => wsL_law_in w (inlX3 w h)
theorem inJ10 : ∀ w ∈ wsJ100, w ∈ lw_tbl := by decide +kernel
theorem dX0_init_0 : decode cX0_init 0 = .ok (.aload_n 0, 1) := by decide +kernel
theorem dX0_init_1 : decode cX0_init 1 = .ok (.invokespecial 3, 3) := by decide +kernel
theorem dX0_init_4 : decode cX0_init 4 = .ok (.aload_n 0, 1) := by decide +kernel
theorem dX0_init_5 : decode cX0_init 5 = .ok (.iload_n 1, 1) := by decide +kernel
theorem dX0_init_6 : decode cX0_init 6 = .ok (.putfield 9, 3) := by decide +kernel
theorem dX0_init_9 : decode cX0_init 9 = .ok (.aload_n 0, 1) := by decide +kernel
theorem dX0_init_10 : decode cX0_init 10 = .ok (.iload_n 2, 1) := by decide +kernel
theorem dX0_init_11 : decode cX0_init 11 = .ok (.putfield 15, 3) := by decide +kernel
theorem dX0_init_14 : decode cX0_init 14 = .ok (.aload_n 0, 1) := by decide +kernel
theorem dX0_init_15 : decode cX0_init 15 = .ok (.iconst 1, 1) := by decide +kernel
theorem dX0_init_16 : decode cX0_init 16 = .ok (.iload_n 1, 1) := by decide +kernel
theorem dX0_init_17 : decode cX0_init 17 = .ok (.iadd, 1) := by decide +kernel
theorem dX0_init_18 : decode cX0_init 18 = .ok (.iload_n 2, 1) := by decide +kernel
theorem dX0_init_19 : decode cX0_init 19 = .ok (.iadd, 1) := by decide +kernel
theorem dX0_init_20 : decode cX0_init 20 = .ok (.newarray .int, 2) := by decide +kernel
theorem dX0_init_22 : decode cX0_init 22 = .ok (.putfield 18, 3) := by decide +kernel
theorem dX0_init_25 : decode cX0_init 25 = .ok (.aload_n 0, 1) := by decide +kernel
theorem dX0_init_26 : decode cX0_init 26 = .ok (.iconst 1, 1) := by decide +kernel
theorem dX0_init_27 : decode cX0_init 27 = .ok (.iload_n 1, 1) := by decide +kernel
theorem dX0_init_28 : decode cX0_init 28 = .ok (.iadd, 1) := by decide +kernel
theorem dX0_init_29 : decode cX0_init 29 = .ok (.iload_n 2, 1) := by decide +kernel
theorem dX0_init_30 : decode cX0_init 30 = .ok (.iadd, 1) := by decide +kernel
theorem dX0_init_31 : decode cX0_init 31 = .ok (.newarray .int, 2) := by decide +kernel
theorem dX0_init_33 : decode cX0_init 33 = .ok (.putfield 22, 3) := by decide +kernel
theorem dX0_init_36 : decode cX0_init 36 = .ok (.aload_n 0, 1) := by decide +kernel
theorem dX0_init_37 : decode cX0_init 37 = .ok (.iload_n 1, 1) := by decide +kernel
theorem dX0_init_38 : decode cX0_init 38 = .ok (.newarray .int, 2) := by decide +kernel
theorem dX0_init_40 : decode cX0_init 40 = .ok (.putfield 25, 3) := by decide +kernel
theorem dX0_init_43 : decode cX0_init 43 = .ok (.aload_n 0, 1) := by decide +kernel
theorem dX0_init_44 : decode cX0_init 44 = .ok (.iconst 1, 1) := by decide +kernel
theorem dX0_init_45 : decode cX0_init 45 = .ok (.iload_n 1, 1) := by decide +kernel
theorem dX0_init_46 : decode cX0_init 46 = .ok (.iadd, 1) := by decide +kernel
theorem dX0_init_47 : decode cX0_init 47 = .ok (.iload_n 2, 1) := by decide +kernel
theorem dX0_init_48 : decode cX0_init 48 = .ok (.iadd, 1) := by decide +kernel
theorem dX0_init_49 : decode cX0_init 49 = .ok (.newarray .long, 2) := by decide +kernel
theorem dX0_init_51 : decode cX0_init 51 = .ok (.putfield 28, 3) := by decide +kernel
theorem dX0_init_54 : decode cX0_init 54 = .ok (.aload_n 0, 1) := by decide +kernel
theorem dX0_init_55 : decode cX0_init 55 = .ok (.getfield 18, 3) := by decide +kernel
theorem dX0_init_58 : decode cX0_init 58 = .ok (.iconst 0, 1) := by decide +kernel
theorem dX0_init_59 : decode cX0_init 59 = .ok (.iconst (-1), 1) := by decide +kernel
theorem dX0_init_60 : decode cX0_init 60 = .ok (.iastore, 1) := by decide +kernel
theorem dX0_init_61 : decode cX0_init 61 = .ok (.aload_n 0, 1) := by decide +kernel
theorem dX0_init_62 : decode cX0_init 62 = .ok (.getfield 22, 3) := by decide +kernel
theorem dX0_init_65 : decode cX0_init 65 = .ok (.iconst 0, 1) := by decide +kernel
theorem dX0_init_66 : decode cX0_init 66 = .ok (.iconst (-1), 1) := by decide +kernel
theorem dX0_init_67 : decode cX0_init 67 = .ok (.iastore, 1) := by decide +kernel
theorem dX0_init_68 : decode cX0_init 68 = .ok (.aload_n 0, 1) := by decide +kernel
theorem dX0_init_69 : decode cX0_init 69 = .ok (.iconst 1, 1) := by decide +kernel
theorem dX0_init_70 : decode cX0_init 70 = .ok (.putfield 32, 3) := by decide +kernel
theorem dX0_init_73 : decode cX0_init 73 = .ok (.return_, 1) := by decide +kernel
theorem dX0_clear_0 : decode cX0_clear 0 = .ok (.aload_n 0, 1) := by decide +kernel
theorem dX0_clear_1 : decode cX0_clear 1 = .ok (.iconst 1, 1) := by decide +kernel
theorem dX0_clear_2 : decode cX0_clear 2 = .ok (.putfield 32, 3) := by decide +kernel
theorem dX0_clear_5 : decode cX0_clear 5 = .ok (.aload_n 0, 1) := by decide +kernel
theorem dX0_clear_6 : decode cX0_clear 6 = .ok (.iconst 0, 1) := by decide +kernel
theorem dX0_clear_7 : decode cX0_clear 7 = .ok (.putfield 35, 3) := by decide +kernel
theorem dX0_clear_10 : decode cX0_clear 10 = .ok (.return_, 1) := by decide +kernel
theorem dX0_holds_0 : decode cX0_holds 0 = .ok (.iload_n 1, 1) := by decide +kernel
theorem dX0_holds_1 : decode cX0_holds 1 = .ok (.ifCond .lt 17, 3) := by decide +kernel
theorem dX0_holds_4 : decode cX0_holds 4 = .ok (.iload_n 1, 1) := by decide +kernel
theorem dX0_holds_5 : decode cX0_holds 5 = .ok (.iconst 2, 1) := by decide +kernel
theorem dX0_holds_6 : decode cX0_holds 6 = .ok (.aload_n 0, 1) := by decide +kernel
theorem dX0_holds_7 : decode cX0_holds 7 = .ok (.getfield 32, 3) := by decide +kernel
theorem dX0_holds_10 : decode cX0_holds 10 = .ok (.imul, 1) := by decide +kernel
theorem dX0_holds_11 : decode cX0_holds 11 = .ok (.if_icmp .ge 7, 3) := by decide +kernel
theorem dX0_holds_14 : decode cX0_holds 14 = .ok (.iconst 1, 1) := by decide +kernel
theorem dX0_holds_15 : decode cX0_holds 15 = .ok (.goto 4, 3) := by decide +kernel
theorem dX0_holds_18 : decode cX0_holds 18 = .ok (.iconst 0, 1) := by decide +kernel
theorem dX0_holds_19 : decode cX0_holds 19 = .ok (.ireturn, 1) := by decide +kernel
theorem dX0_isGate_0 : decode cX0_isGate 0 = .ok (.aload_n 0, 1) := by decide +kernel
theorem dX0_isGate_1 : decode cX0_isGate 1 = .ok (.getfield 18, 3) := by decide +kernel
theorem dX0_isGate_4 : decode cX0_isGate 4 = .ok (.iload_n 1, 1) := by decide +kernel
theorem dX0_isGate_5 : decode cX0_isGate 5 = .ok (.iaload, 1) := by decide +kernel
theorem dX0_isGate_6 : decode cX0_isGate 6 = .ok (.iconst (-1), 1) := by decide +kernel
theorem dX0_isGate_7 : decode cX0_isGate 7 = .ok (.if_icmp .eq 7, 3) := by decide +kernel
theorem dX0_isGate_10 : decode cX0_isGate 10 = .ok (.iconst 1, 1) := by decide +kernel
theorem dX0_isGate_11 : decode cX0_isGate 11 = .ok (.goto 4, 3) := by decide +kernel
theorem dX0_isGate_14 : decode cX0_isGate 14 = .ok (.iconst 0, 1) := by decide +kernel
theorem dX0_isGate_15 : decode cX0_isGate 15 = .ok (.ireturn, 1) := by decide +kernel
set_option maxRecDepth 20000 in
theorem ggX0_addInput_X0_addNode : GoodIn wsX0_addInput wsX0_addNode := goodIn_r _ [9, 4, 10, 11, 12, 13, 14, 15, 16, 17, 18, 19] (by decide +kernel) (by decide +kernel)
set_option maxRecDepth 20000 in
theorem gX0_addInput_X0_addNode : GoodIn wsX0_addInput (wsV RX0 38 RX0 yX0_addNode wsX0_addNode) := goodIn_app (goodIn_of _ (by decide +kernel)) ggX0_addInput_X0_addNode
theorem dX0_addInput_0 : decode cX0_addInput 0 = .ok (.aload_n 0, 1) := by decide +kernel
theorem dX0_addInput_1 : decode cX0_addInput 1 = .ok (.getfield 35, 3) := by decide +kernel
theorem dX0_addInput_4 : decode cX0_addInput 4 = .ok (.aload_n 0, 1) := by decide +kernel
theorem dX0_addInput_5 : decode cX0_addInput 5 = .ok (.getfield 9, 3) := by decide +kernel
theorem dX0_addInput_8 : decode cX0_addInput 8 = .ok (.if_icmp .lt 5, 3) := by decide +kernel
theorem dX0_addInput_11 : decode cX0_addInput 11 = .ok (.iconst (-1), 1) := by decide +kernel
theorem dX0_addInput_12 : decode cX0_addInput 12 = .ok (.ireturn, 1) := by decide +kernel
theorem dX0_addInput_13 : decode cX0_addInput 13 = .ok (.aload_n 0, 1) := by decide +kernel
theorem dX0_addInput_14 : decode cX0_addInput 14 = .ok (.getfield 25, 3) := by decide +kernel
theorem dX0_addInput_17 : decode cX0_addInput 17 = .ok (.aload_n 0, 1) := by decide +kernel
theorem dX0_addInput_18 : decode cX0_addInput 18 = .ok (.getfield 35, 3) := by decide +kernel
theorem dX0_addInput_21 : decode cX0_addInput 21 = .ok (.aload_n 0, 1) := by decide +kernel
theorem dX0_addInput_22 : decode cX0_addInput 22 = .ok (.getfield 32, 3) := by decide +kernel
theorem dX0_addInput_25 : decode cX0_addInput 25 = .ok (.iastore, 1) := by decide +kernel
theorem dX0_addInput_26 : decode cX0_addInput 26 = .ok (.aload_n 0, 1) := by decide +kernel
theorem dX0_addInput_27 : decode cX0_addInput 27 = .ok (.dup, 1) := by decide +kernel
theorem dX0_addInput_28 : decode cX0_addInput 28 = .ok (.getfield 35, 3) := by decide +kernel
theorem dX0_addInput_31 : decode cX0_addInput 31 = .ok (.iconst 1, 1) := by decide +kernel
theorem dX0_addInput_32 : decode cX0_addInput 32 = .ok (.iadd, 1) := by decide +kernel
theorem dX0_addInput_33 : decode cX0_addInput 33 = .ok (.putfield 35, 3) := by decide +kernel
theorem dX0_addInput_36 : decode cX0_addInput 36 = .ok (.aload_n 0, 1) := by decide +kernel
theorem dX0_addInput_37 : decode cX0_addInput 37 = .ok (.iconst (-1), 1) := by decide +kernel
theorem dX0_addInput_38 : decode cX0_addInput 38 = .ok (.iconst (-1), 1) := by decide +kernel
theorem dX0_addInput_39 : decode cX0_addInput 39 = .ok (.invokevirtual 38, 3) := by decide +kernel
theorem dX0_addInput_42 : decode cX0_addInput 42 = .ok (.ireturn, 1) := by decide +kernel
set_option maxRecDepth 20000 in
theorem ggX0_both_X0_holds : GoodIn wsX0_both wsX0_holds := goodIn_r _ [5, 6, 22, 23, 24, 25, 26, 27, 28, 29] (by decide +kernel) (by decide +kernel)
set_option maxRecDepth 20000 in
theorem gX0_both_X0_holds : GoodIn wsX0_both (wsV RX0 42 RX0 yX0_holds wsX0_holds) := goodIn_app (goodIn_of _ (by decide +kernel)) ggX0_both_X0_holds
set_option maxRecDepth 20000 in
theorem ggX0_both_X1_not : GoodIn wsX0_both wsX1_not := goodIn_r _ [9] (by decide +kernel) (by decide +kernel)
set_option maxRecDepth 20000 in
theorem gX0_both_X1_not_n46 : GoodIn wsX0_both (wsX1_not) := ggX0_both_X1_not
set_option maxRecDepth 20000 in
theorem ggX0_both_X0_gateOf : GoodIn wsX0_both wsX0_gateOf := goodIn_r _ [13, 6, 14, 15, 16, 17, 18, 19, 20, 4, 21, 22, 23, 24, 25, 26, 27, 28, 29] (by decide +kernel) (by decide +kernel)
set_option maxRecDepth 20000 in
theorem gX0_both_X0_gateOf : GoodIn wsX0_both (wsV RX0 50 RX0 yX0_gateOf wsX0_gateOf) := goodIn_app (goodIn_of _ (by decide +kernel)) ggX0_both_X0_gateOf
theorem dX0_both_0 : decode cX0_both 0 = .ok (.aload_n 0, 1) := by decide +kernel
theorem dX0_both_1 : decode cX0_both 1 = .ok (.iload_n 1, 1) := by decide +kernel
theorem dX0_both_2 : decode cX0_both 2 = .ok (.invokevirtual 42, 3) := by decide +kernel
theorem dX0_both_5 : decode cX0_both 5 = .ok (.ifCond .eq 11, 3) := by decide +kernel
theorem dX0_both_8 : decode cX0_both 8 = .ok (.aload_n 0, 1) := by decide +kernel
theorem dX0_both_9 : decode cX0_both 9 = .ok (.iload_n 2, 1) := by decide +kernel
theorem dX0_both_10 : decode cX0_both 10 = .ok (.invokevirtual 42, 3) := by decide +kernel
theorem dX0_both_13 : decode cX0_both 13 = .ok (.ifCond .ne 5, 3) := by decide +kernel
theorem dX0_both_16 : decode cX0_both 16 = .ok (.iconst (-1), 1) := by decide +kernel
theorem dX0_both_17 : decode cX0_both 17 = .ok (.ireturn, 1) := by decide +kernel
theorem dX0_both_18 : decode cX0_both 18 = .ok (.iload_n 1, 1) := by decide +kernel
theorem dX0_both_19 : decode cX0_both 19 = .ok (.ifCond .eq 15, 3) := by decide +kernel
theorem dX0_both_22 : decode cX0_both 22 = .ok (.iload_n 2, 1) := by decide +kernel
theorem dX0_both_23 : decode cX0_both 23 = .ok (.ifCond .eq 11, 3) := by decide +kernel
theorem dX0_both_26 : decode cX0_both 26 = .ok (.iload_n 1, 1) := by decide +kernel
theorem dX0_both_27 : decode cX0_both 27 = .ok (.iload_n 2, 1) := by decide +kernel
theorem dX0_both_28 : decode cX0_both 28 = .ok (.invokestatic 46, 3) := by decide +kernel
theorem dX0_both_31 : decode cX0_both 31 = .ok (.if_icmp .ne 5, 3) := by decide +kernel
theorem dX0_both_34 : decode cX0_both 34 = .ok (.iconst 0, 1) := by decide +kernel
theorem dX0_both_35 : decode cX0_both 35 = .ok (.ireturn, 1) := by decide +kernel
theorem dX0_both_36 : decode cX0_both 36 = .ok (.iload_n 2, 1) := by decide +kernel
theorem dX0_both_37 : decode cX0_both 37 = .ok (.iconst 0, 1) := by decide +kernel
theorem dX0_both_38 : decode cX0_both 38 = .ok (.invokestatic 46, 3) := by decide +kernel
theorem dX0_both_41 : decode cX0_both 41 = .ok (.if_icmp .eq 8, 3) := by decide +kernel
theorem dX0_both_44 : decode cX0_both 44 = .ok (.iload_n 1, 1) := by decide +kernel
theorem dX0_both_45 : decode cX0_both 45 = .ok (.iload_n 2, 1) := by decide +kernel
theorem dX0_both_46 : decode cX0_both 46 = .ok (.if_icmp .ne 5, 3) := by decide +kernel
theorem dX0_both_49 : decode cX0_both 49 = .ok (.iload_n 1, 1) := by decide +kernel
theorem dX0_both_50 : decode cX0_both 50 = .ok (.ireturn, 1) := by decide +kernel
theorem dX0_both_51 : decode cX0_both 51 = .ok (.iload_n 1, 1) := by decide +kernel
theorem dX0_both_52 : decode cX0_both 52 = .ok (.iconst 0, 1) := by decide +kernel
theorem dX0_both_53 : decode cX0_both 53 = .ok (.invokestatic 46, 3) := by decide +kernel
theorem dX0_both_56 : decode cX0_both 56 = .ok (.if_icmp .ne 5, 3) := by decide +kernel
theorem dX0_both_59 : decode cX0_both 59 = .ok (.iload_n 2, 1) := by decide +kernel
theorem dX0_both_60 : decode cX0_both 60 = .ok (.ireturn, 1) := by decide +kernel
theorem dX0_both_61 : decode cX0_both 61 = .ok (.iload_n 1, 1) := by decide +kernel
theorem dX0_both_62 : decode cX0_both 62 = .ok (.iload_n 2, 1) := by decide +kernel
theorem dX0_both_63 : decode cX0_both 63 = .ok (.if_icmp .ge 12, 3) := by decide +kernel
theorem dX0_both_66 : decode cX0_both 66 = .ok (.aload_n 0, 1) := by decide +kernel
theorem dX0_both_67 : decode cX0_both 67 = .ok (.iload_n 1, 1) := by decide +kernel
theorem dX0_both_68 : decode cX0_both 68 = .ok (.iload_n 2, 1) := by decide +kernel
theorem dX0_both_69 : decode cX0_both 69 = .ok (.invokevirtual 50, 3) := by decide +kernel
theorem dX0_both_72 : decode cX0_both 72 = .ok (.goto 9, 3) := by decide +kernel
theorem dX0_both_75 : decode cX0_both 75 = .ok (.aload_n 0, 1) := by decide +kernel
theorem dX0_both_76 : decode cX0_both 76 = .ok (.iload_n 2, 1) := by decide +kernel
theorem dX0_both_77 : decode cX0_both 77 = .ok (.iload_n 1, 1) := by decide +kernel
theorem dX0_both_78 : decode cX0_both 78 = .ok (.invokevirtual 50, 3) := by decide +kernel
theorem dX0_both_81 : decode cX0_both 81 = .ok (.ireturn, 1) := by decide +kernel
set_option maxRecDepth 20000 in
theorem ggX0_either_X1_not : GoodIn wsX0_either wsX1_not := goodIn_r _ [3] (by decide +kernel) (by decide +kernel)
set_option maxRecDepth 20000 in
theorem gX0_either_X1_not_n46 : GoodIn wsX0_either (wsX1_not) := ggX0_either_X1_not
set_option maxRecDepth 20000 in
theorem ggX0_either_X0_both : GoodIn wsX0_either wsX0_both := goodIn_r _ [8, 9, 10, 11, 7, 12, 13, 1, 2, 3, 14, 15, 16, 17, 18, 19, 20, 21, 22, 23, 24, 25, 26, 27, 28, 29, 30, 31, 32, 33] (by decide +kernel) (by decide +kernel)
set_option maxRecDepth 20000 in
theorem gX0_either_X0_both : GoodIn wsX0_either (wsV RX0 53 RX0 yX0_both wsX0_both) := goodIn_app (goodIn_of _ (by decide +kernel)) ggX0_either_X0_both
theorem dX0_either_0 : decode cX0_either 0 = .ok (.aload_n 0, 1) := by decide +kernel
theorem dX0_either_1 : decode cX0_either 1 = .ok (.iload_n 1, 1) := by decide +kernel
theorem dX0_either_2 : decode cX0_either 2 = .ok (.invokestatic 46, 3) := by decide +kernel
theorem dX0_either_5 : decode cX0_either 5 = .ok (.iload_n 2, 1) := by decide +kernel
theorem dX0_either_6 : decode cX0_either 6 = .ok (.invokestatic 46, 3) := by decide +kernel
theorem dX0_either_9 : decode cX0_either 9 = .ok (.invokevirtual 53, 3) := by decide +kernel
theorem dX0_either_12 : decode cX0_either 12 = .ok (.invokestatic 46, 3) := by decide +kernel
theorem dX0_either_15 : decode cX0_either 15 = .ok (.ireturn, 1) := by decide +kernel
set_option maxRecDepth 20000 in
theorem ggX0_gateOf_X0_addNode : GoodIn wsX0_gateOf wsX0_addNode := goodIn_r _ [10, 1, 2, 3, 11, 12, 13, 14, 15, 16, 17, 18] (by decide +kernel) (by decide +kernel)
set_option maxRecDepth 20000 in
theorem gX0_gateOf_X0_addNode : GoodIn wsX0_gateOf (wsV RX0 38 RX0 yX0_addNode wsX0_addNode) := goodIn_app (goodIn_of _ (by decide +kernel)) ggX0_gateOf_X0_addNode
theorem dX0_gateOf_0 : decode cX0_gateOf 0 = .ok (.iload_n 2, 1) := by decide +kernel
theorem dX0_gateOf_1 : decode cX0_gateOf 1 = .ok (.iconst 1, 1) := by decide +kernel
theorem dX0_gateOf_2 : decode cX0_gateOf 2 = .ok (.ishr, 1) := by decide +kernel
theorem dX0_gateOf_3 : decode cX0_gateOf 3 = .ok (.iconst 1, 1) := by decide +kernel
theorem dX0_gateOf_4 : decode cX0_gateOf 4 = .ok (.iadd, 1) := by decide +kernel
theorem dX0_gateOf_5 : decode cX0_gateOf 5 = .ok (.istore_n 3, 1) := by decide +kernel
theorem dX0_gateOf_6 : decode cX0_gateOf 6 = .ok (.iload_n 3, 1) := by decide +kernel
theorem dX0_gateOf_7 : decode cX0_gateOf 7 = .ok (.aload_n 0, 1) := by decide +kernel
theorem dX0_gateOf_8 : decode cX0_gateOf 8 = .ok (.getfield 32, 3) := by decide +kernel
theorem dX0_gateOf_11 : decode cX0_gateOf 11 = .ok (.if_icmp .ge 33, 3) := by decide +kernel
theorem dX0_gateOf_14 : decode cX0_gateOf 14 = .ok (.aload_n 0, 1) := by decide +kernel
theorem dX0_gateOf_15 : decode cX0_gateOf 15 = .ok (.getfield 18, 3) := by decide +kernel
theorem dX0_gateOf_18 : decode cX0_gateOf 18 = .ok (.iload_n 3, 1) := by decide +kernel
theorem dX0_gateOf_19 : decode cX0_gateOf 19 = .ok (.iaload, 1) := by decide +kernel
theorem dX0_gateOf_20 : decode cX0_gateOf 20 = .ok (.iload_n 1, 1) := by decide +kernel
theorem dX0_gateOf_21 : decode cX0_gateOf 21 = .ok (.if_icmp .ne 17, 3) := by decide +kernel
theorem dX0_gateOf_24 : decode cX0_gateOf 24 = .ok (.aload_n 0, 1) := by decide +kernel
theorem dX0_gateOf_25 : decode cX0_gateOf 25 = .ok (.getfield 22, 3) := by decide +kernel
theorem dX0_gateOf_28 : decode cX0_gateOf 28 = .ok (.iload_n 3, 1) := by decide +kernel
theorem dX0_gateOf_29 : decode cX0_gateOf 29 = .ok (.iaload, 1) := by decide +kernel
theorem dX0_gateOf_30 : decode cX0_gateOf 30 = .ok (.iload_n 2, 1) := by decide +kernel
theorem dX0_gateOf_31 : decode cX0_gateOf 31 = .ok (.if_icmp .ne 7, 3) := by decide +kernel
theorem dX0_gateOf_34 : decode cX0_gateOf 34 = .ok (.iconst 2, 1) := by decide +kernel
theorem dX0_gateOf_35 : decode cX0_gateOf 35 = .ok (.iload_n 3, 1) := by decide +kernel
theorem dX0_gateOf_36 : decode cX0_gateOf 36 = .ok (.imul, 1) := by decide +kernel
theorem dX0_gateOf_37 : decode cX0_gateOf 37 = .ok (.ireturn, 1) := by decide +kernel
theorem dX0_gateOf_38 : decode cX0_gateOf 38 = .ok (.iinc 3 1, 3) := by decide +kernel
theorem dX0_gateOf_41 : decode cX0_gateOf 41 = .ok (.goto (-35), 3) := by decide +kernel
theorem dX0_gateOf_44 : decode cX0_gateOf 44 = .ok (.aload_n 0, 1) := by decide +kernel
theorem dX0_gateOf_45 : decode cX0_gateOf 45 = .ok (.getfield 32, 3) := by decide +kernel
theorem dX0_gateOf_48 : decode cX0_gateOf 48 = .ok (.iconst 1, 1) := by decide +kernel
theorem dX0_gateOf_49 : decode cX0_gateOf 49 = .ok (.isub, 1) := by decide +kernel
theorem dX0_gateOf_50 : decode cX0_gateOf 50 = .ok (.aload_n 0, 1) := by decide +kernel
theorem dX0_gateOf_51 : decode cX0_gateOf 51 = .ok (.getfield 35, 3) := by decide +kernel
theorem dX0_gateOf_54 : decode cX0_gateOf 54 = .ok (.isub, 1) := by decide +kernel
theorem dX0_gateOf_55 : decode cX0_gateOf 55 = .ok (.istore_n 3, 1) := by decide +kernel
theorem dX0_gateOf_56 : decode cX0_gateOf 56 = .ok (.iload_n 3, 1) := by decide +kernel
theorem dX0_gateOf_57 : decode cX0_gateOf 57 = .ok (.aload_n 0, 1) := by decide +kernel
theorem dX0_gateOf_58 : decode cX0_gateOf 58 = .ok (.getfield 15, 3) := by decide +kernel
theorem dX0_gateOf_61 : decode cX0_gateOf 61 = .ok (.if_icmp .lt 7, 3) := by decide +kernel
theorem dX0_gateOf_64 : decode cX0_gateOf 64 = .ok (.iconst (-1), 1) := by decide +kernel
theorem dX0_gateOf_65 : decode cX0_gateOf 65 = .ok (.goto 9, 3) := by decide +kernel
theorem dX0_gateOf_68 : decode cX0_gateOf 68 = .ok (.aload_n 0, 1) := by decide +kernel
theorem dX0_gateOf_69 : decode cX0_gateOf 69 = .ok (.iload_n 1, 1) := by decide +kernel
theorem dX0_gateOf_70 : decode cX0_gateOf 70 = .ok (.iload_n 2, 1) := by decide +kernel
theorem dX0_gateOf_71 : decode cX0_gateOf 71 = .ok (.invokevirtual 38, 3) := by decide +kernel
theorem dX0_gateOf_74 : decode cX0_gateOf 74 = .ok (.ireturn, 1) := by decide +kernel
theorem dX0_addNode_0 : decode cX0_addNode 0 = .ok (.aload_n 0, 1) := by decide +kernel
theorem dX0_addNode_1 : decode cX0_addNode 1 = .ok (.getfield 32, 3) := by decide +kernel
theorem dX0_addNode_4 : decode cX0_addNode 4 = .ok (.istore_n 3, 1) := by decide +kernel
theorem dX0_addNode_5 : decode cX0_addNode 5 = .ok (.aload_n 0, 1) := by decide +kernel
theorem dX0_addNode_6 : decode cX0_addNode 6 = .ok (.getfield 18, 3) := by decide +kernel
theorem dX0_addNode_9 : decode cX0_addNode 9 = .ok (.iload_n 3, 1) := by decide +kernel
theorem dX0_addNode_10 : decode cX0_addNode 10 = .ok (.iload_n 1, 1) := by decide +kernel
theorem dX0_addNode_11 : decode cX0_addNode 11 = .ok (.iastore, 1) := by decide +kernel
theorem dX0_addNode_12 : decode cX0_addNode 12 = .ok (.aload_n 0, 1) := by decide +kernel
theorem dX0_addNode_13 : decode cX0_addNode 13 = .ok (.getfield 22, 3) := by decide +kernel
theorem dX0_addNode_16 : decode cX0_addNode 16 = .ok (.iload_n 3, 1) := by decide +kernel
theorem dX0_addNode_17 : decode cX0_addNode 17 = .ok (.iload_n 2, 1) := by decide +kernel
theorem dX0_addNode_18 : decode cX0_addNode 18 = .ok (.iastore, 1) := by decide +kernel
theorem dX0_addNode_19 : decode cX0_addNode 19 = .ok (.aload_n 0, 1) := by decide +kernel
theorem dX0_addNode_20 : decode cX0_addNode 20 = .ok (.dup, 1) := by decide +kernel
theorem dX0_addNode_21 : decode cX0_addNode 21 = .ok (.getfield 32, 3) := by decide +kernel
theorem dX0_addNode_24 : decode cX0_addNode 24 = .ok (.iconst 1, 1) := by decide +kernel
theorem dX0_addNode_25 : decode cX0_addNode 25 = .ok (.iadd, 1) := by decide +kernel
theorem dX0_addNode_26 : decode cX0_addNode 26 = .ok (.putfield 32, 3) := by decide +kernel
theorem dX0_addNode_29 : decode cX0_addNode 29 = .ok (.iconst 2, 1) := by decide +kernel
theorem dX0_addNode_30 : decode cX0_addNode 30 = .ok (.iload_n 3, 1) := by decide +kernel
theorem dX0_addNode_31 : decode cX0_addNode 31 = .ok (.imul, 1) := by decide +kernel
theorem dX0_addNode_32 : decode cX0_addNode 32 = .ok (.ireturn, 1) := by decide +kernel
theorem dX0_wordOf_0 : decode cX0_wordOf 0 = .ok (.aload_n 0, 1) := by decide +kernel
theorem dX0_wordOf_1 : decode cX0_wordOf 1 = .ok (.getfield 28, 3) := by decide +kernel
theorem dX0_wordOf_4 : decode cX0_wordOf 4 = .ok (.iload_n 1, 1) := by decide +kernel
theorem dX0_wordOf_5 : decode cX0_wordOf 5 = .ok (.iconst 1, 1) := by decide +kernel
theorem dX0_wordOf_6 : decode cX0_wordOf 6 = .ok (.ishr, 1) := by decide +kernel
theorem dX0_wordOf_7 : decode cX0_wordOf 7 = .ok (.laload, 1) := by decide +kernel
theorem dX0_wordOf_8 : decode cX0_wordOf 8 = .ok (.lstore_n 2, 1) := by decide +kernel
theorem dX0_wordOf_9 : decode cX0_wordOf 9 = .ok (.iload_n 1, 1) := by decide +kernel
theorem dX0_wordOf_10 : decode cX0_wordOf 10 = .ok (.iconst 1, 1) := by decide +kernel
theorem dX0_wordOf_11 : decode cX0_wordOf 11 = .ok (.iand, 1) := by decide +kernel
theorem dX0_wordOf_12 : decode cX0_wordOf 12 = .ok (.ifCond .ne 7, 3) := by decide +kernel
theorem dX0_wordOf_15 : decode cX0_wordOf 15 = .ok (.lload_n 2, 1) := by decide +kernel
theorem dX0_wordOf_16 : decode cX0_wordOf 16 = .ok (.goto 8, 3) := by decide +kernel
theorem dX0_wordOf_19 : decode cX0_wordOf 19 = .ok (.lload_n 2, 1) := by decide +kernel
theorem dX0_wordOf_20 : decode cX0_wordOf 20 = .ok (.ldc2_w 56, 3) := by decide +kernel
theorem dX0_wordOf_23 : decode cX0_wordOf 23 = .ok (.lxor, 1) := by decide +kernel
theorem dX0_wordOf_24 : decode cX0_wordOf 24 = .ok (.lreturn, 1) := by decide +kernel
set_option maxRecDepth 20000 in
theorem ggX0_spread_X0_isGate : GoodIn wsX0_spread wsX0_isGate := goodIn_r _ [9, 3, 15, 16, 17, 18, 19, 20, 21, 22] (by decide +kernel) (by decide +kernel)
set_option maxRecDepth 20000 in
theorem gX0_spread_X0_isGate : GoodIn wsX0_spread (wsV RX0 58 RX0 yX0_isGate wsX0_isGate) := goodIn_app (goodIn_of _ (by decide +kernel)) ggX0_spread_X0_isGate
set_option maxRecDepth 20000 in
theorem ggX0_spread_X0_wordOf : GoodIn wsX0_spread wsX0_wordOf := goodIn_r _ [13, 2, 14, 15, 16, 17, 18, 19, 20, 21, 22] (by decide +kernel) (by decide +kernel)
set_option maxRecDepth 20000 in
theorem gX0_spread_X0_wordOf : GoodIn wsX0_spread (wsV RX0 61 RX0 yX0_wordOf wsX0_wordOf) := goodIn_app (goodIn_of _ (by decide +kernel)) ggX0_spread_X0_wordOf
theorem dX0_spread_0 : decode cX0_spread 0 = .ok (.iconst 0, 1) := by decide +kernel
theorem dX0_spread_1 : decode cX0_spread 1 = .ok (.istore_n 1, 1) := by decide +kernel
theorem dX0_spread_2 : decode cX0_spread 2 = .ok (.iload_n 1, 1) := by decide +kernel
theorem dX0_spread_3 : decode cX0_spread 3 = .ok (.aload_n 0, 1) := by decide +kernel
theorem dX0_spread_4 : decode cX0_spread 4 = .ok (.getfield 32, 3) := by decide +kernel
theorem dX0_spread_7 : decode cX0_spread 7 = .ok (.if_icmp .ge 44, 3) := by decide +kernel
theorem dX0_spread_10 : decode cX0_spread 10 = .ok (.aload_n 0, 1) := by decide +kernel
theorem dX0_spread_11 : decode cX0_spread 11 = .ok (.iload_n 1, 1) := by decide +kernel
theorem dX0_spread_12 : decode cX0_spread 12 = .ok (.invokevirtual 58, 3) := by decide +kernel
theorem dX0_spread_15 : decode cX0_spread 15 = .ok (.ifCond .eq 30, 3) := by decide +kernel
theorem dX0_spread_18 : decode cX0_spread 18 = .ok (.aload_n 0, 1) := by decide +kernel
theorem dX0_spread_19 : decode cX0_spread 19 = .ok (.getfield 28, 3) := by decide +kernel
theorem dX0_spread_22 : decode cX0_spread 22 = .ok (.iload_n 1, 1) := by decide +kernel
theorem dX0_spread_23 : decode cX0_spread 23 = .ok (.aload_n 0, 1) := by decide +kernel
theorem dX0_spread_24 : decode cX0_spread 24 = .ok (.aload_n 0, 1) := by decide +kernel
theorem dX0_spread_25 : decode cX0_spread 25 = .ok (.getfield 18, 3) := by decide +kernel
theorem dX0_spread_28 : decode cX0_spread 28 = .ok (.iload_n 1, 1) := by decide +kernel
theorem dX0_spread_29 : decode cX0_spread 29 = .ok (.iaload, 1) := by decide +kernel
theorem dX0_spread_30 : decode cX0_spread 30 = .ok (.invokevirtual 61, 3) := by decide +kernel
theorem dX0_spread_33 : decode cX0_spread 33 = .ok (.aload_n 0, 1) := by decide +kernel
theorem dX0_spread_34 : decode cX0_spread 34 = .ok (.aload_n 0, 1) := by decide +kernel
theorem dX0_spread_35 : decode cX0_spread 35 = .ok (.getfield 22, 3) := by decide +kernel
theorem dX0_spread_38 : decode cX0_spread 38 = .ok (.iload_n 1, 1) := by decide +kernel
theorem dX0_spread_39 : decode cX0_spread 39 = .ok (.iaload, 1) := by decide +kernel
theorem dX0_spread_40 : decode cX0_spread 40 = .ok (.invokevirtual 61, 3) := by decide +kernel
theorem dX0_spread_43 : decode cX0_spread 43 = .ok (.land, 1) := by decide +kernel
theorem dX0_spread_44 : decode cX0_spread 44 = .ok (.lastore, 1) := by decide +kernel
theorem dX0_spread_45 : decode cX0_spread 45 = .ok (.iinc 1 1, 3) := by decide +kernel
theorem dX0_spread_48 : decode cX0_spread 48 = .ok (.goto (-46), 3) := by decide +kernel
theorem dX0_spread_51 : decode cX0_spread 51 = .ok (.return_, 1) := by decide +kernel
set_option maxRecDepth 20000 in
theorem ggX1_init_X0_init : GoodIn wsX1_init wsX0_init := goodIn_r _ [18, 19, 2, 3, 20, 21, 10, 22, 23, 24, 15, 25, 26, 27, 28, 29, 30, 31, 32, 33, 34] (by decide +kernel) (by decide +kernel)
set_option maxRecDepth 20000 in
theorem gX1_init_X0_init_n11 : GoodIn wsX1_init (wsX0_init) := ggX1_init_X0_init
theorem dX1_init_0 : decode cX1_init 0 = .ok (.aload_n 0, 1) := by decide +kernel
theorem dX1_init_1 : decode cX1_init 1 = .ok (.invokespecial 1, 3) := by decide +kernel
theorem dX1_init_4 : decode cX1_init 4 = .ok (.aload_n 0, 1) := by decide +kernel
theorem dX1_init_5 : decode cX1_init 5 = .ok (.new 7, 3) := by decide +kernel
theorem dX1_init_8 : decode cX1_init 8 = .ok (.dup, 1) := by decide +kernel
theorem dX1_init_9 : decode cX1_init 9 = .ok (.bipush 64, 2) := by decide +kernel
theorem dX1_init_11 : decode cX1_init 11 = .ok (.sipush 400, 3) := by decide +kernel
theorem dX1_init_14 : decode cX1_init 14 = .ok (.invokespecial 11, 3) := by decide +kernel
theorem dX1_init_17 : decode cX1_init 17 = .ok (.putfield 14, 3) := by decide +kernel
theorem dX1_init_20 : decode cX1_init 20 = .ok (.aload_n 0, 1) := by decide +kernel
theorem dX1_init_21 : decode cX1_init 21 = .ok (.new 7, 3) := by decide +kernel
theorem dX1_init_24 : decode cX1_init 24 = .ok (.dup, 1) := by decide +kernel
theorem dX1_init_25 : decode cX1_init 25 = .ok (.sipush 128, 3) := by decide +kernel
theorem dX1_init_28 : decode cX1_init 28 = .ok (.sipush 1500, 3) := by decide +kernel
theorem dX1_init_31 : decode cX1_init 31 = .ok (.invokespecial 11, 3) := by decide +kernel
theorem dX1_init_34 : decode cX1_init 34 = .ok (.putfield 18, 3) := by decide +kernel
theorem dX1_init_37 : decode cX1_init 37 = .ok (.aload_n 0, 1) := by decide +kernel
theorem dX1_init_38 : decode cX1_init 38 = .ok (.iconst (-1), 1) := by decide +kernel
theorem dX1_init_39 : decode cX1_init 39 = .ok (.putfield 21, 3) := by decide +kernel
theorem dX1_init_42 : decode cX1_init 42 = .ok (.aload_n 0, 1) := by decide +kernel
theorem dX1_init_43 : decode cX1_init 43 = .ok (.sipush 465, 3) := by decide +kernel
theorem dX1_init_46 : decode cX1_init 46 = .ok (.newarray .int, 2) := by decide +kernel
theorem dX1_init_48 : decode cX1_init 48 = .ok (.putfield 25, 3) := by decide +kernel
theorem dX1_init_51 : decode cX1_init 51 = .ok (.aload_n 0, 1) := by decide +kernel
theorem dX1_init_52 : decode cX1_init 52 = .ok (.sipush 465, 3) := by decide +kernel
theorem dX1_init_55 : decode cX1_init 55 = .ok (.newarray .int, 2) := by decide +kernel
theorem dX1_init_57 : decode cX1_init 57 = .ok (.putfield 29, 3) := by decide +kernel
theorem dX1_init_60 : decode cX1_init 60 = .ok (.aload_n 0, 1) := by decide +kernel
theorem dX1_init_61 : decode cX1_init 61 = .ok (.bipush 64, 2) := by decide +kernel
theorem dX1_init_63 : decode cX1_init 63 = .ok (.newarray .int, 2) := by decide +kernel
theorem dX1_init_65 : decode cX1_init 65 = .ok (.putfield 32, 3) := by decide +kernel
theorem dX1_init_68 : decode cX1_init 68 = .ok (.aload_n 0, 1) := by decide +kernel
theorem dX1_init_69 : decode cX1_init 69 = .ok (.bipush 64, 2) := by decide +kernel
theorem dX1_init_71 : decode cX1_init 71 = .ok (.newarray .int, 2) := by decide +kernel
theorem dX1_init_73 : decode cX1_init 73 = .ok (.putfield 35, 3) := by decide +kernel
theorem dX1_init_76 : decode cX1_init 76 = .ok (.aload_n 0, 1) := by decide +kernel
theorem dX1_init_77 : decode cX1_init 77 = .ok (.sipush 465, 3) := by decide +kernel
theorem dX1_init_80 : decode cX1_init 80 = .ok (.newarray .long, 2) := by decide +kernel
theorem dX1_init_82 : decode cX1_init 82 = .ok (.putfield 38, 3) := by decide +kernel
theorem dX1_init_85 : decode cX1_init 85 = .ok (.return_, 1) := by decide +kernel
set_option maxRecDepth 20000 in
theorem ggX1_input_X0_addInput : GoodIn wsX1_input wsX0_addInput := goodIn_r _ [5, 6, 7, 8, 9, 10, 11, 12, 3, 13, 14, 15, 24, 25, 26, 27, 28, 29, 30, 31] (by decide +kernel) (by decide +kernel)
set_option maxRecDepth 20000 in
theorem gX1_input_X0_addInput_n42 : GoodIn wsX1_input (wsX0_addInput) := ggX1_input_X0_addInput
theorem dX1_input_0 : decode cX1_input 0 = .ok (.aload_n 0, 1) := by decide +kernel
theorem dX1_input_1 : decode cX1_input 1 = .ok (.getfield 14, 3) := by decide +kernel
theorem dX1_input_4 : decode cX1_input 4 = .ok (.invokevirtual 42, 3) := by decide +kernel
theorem dX1_input_7 : decode cX1_input 7 = .ok (.ireturn, 1) := by decide +kernel
set_option maxRecDepth 20000 in
theorem ggX1_and_X0_both : GoodIn wsX1_and wsX0_both := goodIn_r _ [5, 6, 7, 8, 3, 9, 10, 11, 12, 13, 14, 15, 16, 17, 18, 19, 20, 21, 22, 23, 24, 25, 34, 35, 36, 37, 38, 39, 40, 41] (by decide +kernel) (by decide +kernel)
set_option maxRecDepth 20000 in
theorem gX1_and_X0_both_n46 : GoodIn wsX1_and (wsX0_both) := ggX1_and_X0_both
theorem dX1_and_0 : decode cX1_and 0 = .ok (.aload_n 0, 1) := by decide +kernel
theorem dX1_and_1 : decode cX1_and 1 = .ok (.getfield 14, 3) := by decide +kernel
theorem dX1_and_4 : decode cX1_and 4 = .ok (.iload_n 1, 1) := by decide +kernel
theorem dX1_and_5 : decode cX1_and 5 = .ok (.iload_n 2, 1) := by decide +kernel
theorem dX1_and_6 : decode cX1_and 6 = .ok (.invokevirtual 46, 3) := by decide +kernel
theorem dX1_and_9 : decode cX1_and 9 = .ok (.ireturn, 1) := by decide +kernel
set_option maxRecDepth 20000 in
theorem ggX1_or_X0_either : GoodIn wsX1_or wsX0_either := goodIn_r _ [5, 6, 7, 8, 9, 10, 11, 3, 12, 13, 14, 15, 16, 17, 18, 19, 20, 21, 22, 23, 24, 25, 26, 27, 28, 29, 38, 39, 40, 41, 42, 43, 44, 45] (by decide +kernel) (by decide +kernel)
set_option maxRecDepth 20000 in
theorem gX1_or_X0_either_n50 : GoodIn wsX1_or (wsX0_either) := ggX1_or_X0_either
theorem dX1_or_0 : decode cX1_or 0 = .ok (.aload_n 0, 1) := by decide +kernel
theorem dX1_or_1 : decode cX1_or 1 = .ok (.getfield 14, 3) := by decide +kernel
theorem dX1_or_4 : decode cX1_or 4 = .ok (.iload_n 1, 1) := by decide +kernel
theorem dX1_or_5 : decode cX1_or 5 = .ok (.iload_n 2, 1) := by decide +kernel
theorem dX1_or_6 : decode cX1_or 6 = .ok (.invokevirtual 50, 3) := by decide +kernel
theorem dX1_or_9 : decode cX1_or 9 = .ok (.ireturn, 1) := by decide +kernel
set_option maxRecDepth 20000 in
theorem ggX1_xor_X1_not : GoodIn wsX1_xor wsX1_not := goodIn_r _ [5] (by decide +kernel) (by decide +kernel)
set_option maxRecDepth 20000 in
theorem gX1_xor_X1_not : GoodIn wsX1_xor (va_wsS RX1 53 yX1_not wsX1_not) := goodIn_app (goodIn_of _ (by decide +kernel)) ggX1_xor_X1_not
set_option maxRecDepth 20000 in
theorem ggX1_xor_X0_both : GoodIn wsX1_xor wsX0_both := goodIn_r _ [9, 10, 11, 12, 7, 13, 14, 3, 4, 5, 15, 16, 17, 18, 19, 20, 21, 22, 23, 24, 25, 26, 39, 40, 41, 42, 43, 44, 45, 46] (by decide +kernel) (by decide +kernel)
set_option maxRecDepth 20000 in
theorem gX1_xor_X0_both_n46 : GoodIn wsX1_xor (wsX0_both) := ggX1_xor_X0_both
set_option maxRecDepth 20000 in
theorem ggX1_xor_X0_either : GoodIn wsX1_xor wsX0_either := goodIn_r _ [29, 3, 4, 5, 30, 6, 8, 7, 9, 10, 11, 12, 13, 14, 15, 16, 17, 18, 19, 20, 21, 22, 23, 24, 25, 26, 39, 40, 41, 42, 43, 44, 45, 46] (by decide +kernel) (by decide +kernel)
set_option maxRecDepth 20000 in
theorem gX1_xor_X0_either_n50 : GoodIn wsX1_xor (wsX0_either) := ggX1_xor_X0_either
theorem dX1_xor_0 : decode cX1_xor 0 = .ok (.aload_n 0, 1) := by decide +kernel
theorem dX1_xor_1 : decode cX1_xor 1 = .ok (.getfield 14, 3) := by decide +kernel
theorem dX1_xor_4 : decode cX1_xor 4 = .ok (.iload_n 1, 1) := by decide +kernel
theorem dX1_xor_5 : decode cX1_xor 5 = .ok (.iload_n 2, 1) := by decide +kernel
theorem dX1_xor_6 : decode cX1_xor 6 = .ok (.invokestatic 53, 3) := by decide +kernel
theorem dX1_xor_9 : decode cX1_xor 9 = .ok (.invokevirtual 46, 3) := by decide +kernel
theorem dX1_xor_12 : decode cX1_xor 12 = .ok (.istore_n 3, 1) := by decide +kernel
theorem dX1_xor_13 : decode cX1_xor 13 = .ok (.aload_n 0, 1) := by decide +kernel
theorem dX1_xor_14 : decode cX1_xor 14 = .ok (.getfield 14, 3) := by decide +kernel
theorem dX1_xor_17 : decode cX1_xor 17 = .ok (.iload_n 1, 1) := by decide +kernel
theorem dX1_xor_18 : decode cX1_xor 18 = .ok (.invokestatic 53, 3) := by decide +kernel
theorem dX1_xor_21 : decode cX1_xor 21 = .ok (.iload_n 2, 1) := by decide +kernel
theorem dX1_xor_22 : decode cX1_xor 22 = .ok (.invokevirtual 46, 3) := by decide +kernel
theorem dX1_xor_25 : decode cX1_xor 25 = .ok (.istore 4, 2) := by decide +kernel
theorem dX1_xor_27 : decode cX1_xor 27 = .ok (.aload_n 0, 1) := by decide +kernel
theorem dX1_xor_28 : decode cX1_xor 28 = .ok (.getfield 14, 3) := by decide +kernel
theorem dX1_xor_31 : decode cX1_xor 31 = .ok (.iload_n 3, 1) := by decide +kernel
theorem dX1_xor_32 : decode cX1_xor 32 = .ok (.iload 4, 2) := by decide +kernel
theorem dX1_xor_34 : decode cX1_xor 34 = .ok (.invokevirtual 50, 3) := by decide +kernel
theorem dX1_xor_37 : decode cX1_xor 37 = .ok (.ireturn, 1) := by decide +kernel
set_option maxRecDepth 20000 in
theorem ggX1_choose_X0_holds : GoodIn wsX1_choose wsX0_holds := goodIn_r _ [5, 6, 39, 40, 41, 42, 43, 44, 45, 46] (by decide +kernel) (by decide +kernel)
set_option maxRecDepth 20000 in
theorem gX1_choose_X0_holds_n57 : GoodIn wsX1_choose (wsX0_holds) := ggX1_choose_X0_holds
set_option maxRecDepth 20000 in
theorem ggX1_choose_X0_both : GoodIn wsX1_choose wsX0_both := goodIn_r _ [9, 10, 2, 4, 3, 5, 6, 11, 12, 13, 14, 15, 16, 17, 18, 19, 20, 21, 22, 23, 24, 25, 39, 40, 41, 42, 43, 44, 45, 46] (by decide +kernel) (by decide +kernel)
set_option maxRecDepth 20000 in
theorem gX1_choose_X0_both_n46 : GoodIn wsX1_choose (wsX0_both) := ggX1_choose_X0_both
set_option maxRecDepth 20000 in
theorem ggX1_choose_X1_not : GoodIn wsX1_choose wsX1_not := goodIn_r _ [13] (by decide +kernel) (by decide +kernel)
set_option maxRecDepth 20000 in
theorem gX1_choose_X1_not : GoodIn wsX1_choose (va_wsS RX1 53 yX1_not wsX1_not) := goodIn_app (goodIn_of _ (by decide +kernel)) ggX1_choose_X1_not
set_option maxRecDepth 20000 in
theorem ggX1_choose_X0_either : GoodIn wsX1_choose wsX0_either := goodIn_r _ [29, 11, 12, 13, 30, 7, 8, 3, 9, 10, 2, 4, 5, 6, 14, 15, 16, 17, 18, 19, 20, 21, 22, 23, 24, 25, 39, 40, 41, 42, 43, 44, 45, 46] (by decide +kernel) (by decide +kernel)
set_option maxRecDepth 20000 in
theorem gX1_choose_X0_either_n50 : GoodIn wsX1_choose (wsX0_either) := ggX1_choose_X0_either
theorem dX1_choose_0 : decode cX1_choose 0 = .ok (.aload_n 0, 1) := by decide +kernel
theorem dX1_choose_1 : decode cX1_choose 1 = .ok (.getfield 14, 3) := by decide +kernel
theorem dX1_choose_4 : decode cX1_choose 4 = .ok (.iload_n 1, 1) := by decide +kernel
theorem dX1_choose_5 : decode cX1_choose 5 = .ok (.invokevirtual 57, 3) := by decide +kernel
theorem dX1_choose_8 : decode cX1_choose 8 = .ok (.ifCond .eq 25, 3) := by decide +kernel
theorem dX1_choose_11 : decode cX1_choose 11 = .ok (.aload_n 0, 1) := by decide +kernel
theorem dX1_choose_12 : decode cX1_choose 12 = .ok (.getfield 14, 3) := by decide +kernel
theorem dX1_choose_15 : decode cX1_choose 15 = .ok (.iload_n 2, 1) := by decide +kernel
theorem dX1_choose_16 : decode cX1_choose 16 = .ok (.invokevirtual 57, 3) := by decide +kernel
theorem dX1_choose_19 : decode cX1_choose 19 = .ok (.ifCond .eq 14, 3) := by decide +kernel
theorem dX1_choose_22 : decode cX1_choose 22 = .ok (.aload_n 0, 1) := by decide +kernel
theorem dX1_choose_23 : decode cX1_choose 23 = .ok (.getfield 14, 3) := by decide +kernel
theorem dX1_choose_26 : decode cX1_choose 26 = .ok (.iload_n 3, 1) := by decide +kernel
theorem dX1_choose_27 : decode cX1_choose 27 = .ok (.invokevirtual 57, 3) := by decide +kernel
theorem dX1_choose_30 : decode cX1_choose 30 = .ok (.ifCond .ne 5, 3) := by decide +kernel
theorem dX1_choose_33 : decode cX1_choose 33 = .ok (.iconst (-1), 1) := by decide +kernel
theorem dX1_choose_34 : decode cX1_choose 34 = .ok (.ireturn, 1) := by decide +kernel
theorem dX1_choose_35 : decode cX1_choose 35 = .ok (.aload_n 0, 1) := by decide +kernel
theorem dX1_choose_36 : decode cX1_choose 36 = .ok (.getfield 14, 3) := by decide +kernel
theorem dX1_choose_39 : decode cX1_choose 39 = .ok (.iload_n 1, 1) := by decide +kernel
theorem dX1_choose_40 : decode cX1_choose 40 = .ok (.iload_n 2, 1) := by decide +kernel
theorem dX1_choose_41 : decode cX1_choose 41 = .ok (.invokevirtual 46, 3) := by decide +kernel
theorem dX1_choose_44 : decode cX1_choose 44 = .ok (.istore 4, 2) := by decide +kernel
theorem dX1_choose_46 : decode cX1_choose 46 = .ok (.aload_n 0, 1) := by decide +kernel
theorem dX1_choose_47 : decode cX1_choose 47 = .ok (.getfield 14, 3) := by decide +kernel
theorem dX1_choose_50 : decode cX1_choose 50 = .ok (.iload_n 1, 1) := by decide +kernel
theorem dX1_choose_51 : decode cX1_choose 51 = .ok (.invokestatic 53, 3) := by decide +kernel
theorem dX1_choose_54 : decode cX1_choose 54 = .ok (.iload_n 3, 1) := by decide +kernel
theorem dX1_choose_55 : decode cX1_choose 55 = .ok (.invokevirtual 46, 3) := by decide +kernel
theorem dX1_choose_58 : decode cX1_choose 58 = .ok (.istore 5, 2) := by decide +kernel
theorem dX1_choose_60 : decode cX1_choose 60 = .ok (.aload_n 0, 1) := by decide +kernel
theorem dX1_choose_61 : decode cX1_choose 61 = .ok (.getfield 14, 3) := by decide +kernel
theorem dX1_choose_64 : decode cX1_choose 64 = .ok (.iload 4, 2) := by decide +kernel
theorem dX1_choose_66 : decode cX1_choose 66 = .ok (.iload 5, 2) := by decide +kernel
theorem dX1_choose_68 : decode cX1_choose 68 = .ok (.invokevirtual 50, 3) := by decide +kernel
theorem dX1_choose_71 : decode cX1_choose 71 = .ok (.ireturn, 1) := by decide +kernel
set_option maxRecDepth 20000 in
theorem ggX1_nodes_X1_twinStands : GoodIn wsX1_nodes wsX1_twinStands := goodIn_r _ [7, 8, 1, 9, 10, 11, 12, 13, 14, 15, 16, 17, 18, 19, 20, 21, 22, 23, 24] (by decide +kernel) (by decide +kernel)
set_option maxRecDepth 20000 in
theorem gX1_nodes_X1_twinStands : GoodIn wsX1_nodes (wsV RX1 64 RX1 yX1_twinStands wsX1_twinStands) := goodIn_app (goodIn_of _ (by decide +kernel)) ggX1_nodes_X1_twinStands
theorem dX1_nodes_0 : decode cX1_nodes 0 = .ok (.iload_n 1, 1) := by decide +kernel
theorem dX1_nodes_1 : decode cX1_nodes 1 = .ok (.ifCond .ne 11, 3) := by decide +kernel
theorem dX1_nodes_4 : decode cX1_nodes 4 = .ok (.aload_n 0, 1) := by decide +kernel
theorem dX1_nodes_5 : decode cX1_nodes 5 = .ok (.getfield 14, 3) := by decide +kernel
theorem dX1_nodes_8 : decode cX1_nodes 8 = .ok (.getfield 61, 3) := by decide +kernel
theorem dX1_nodes_11 : decode cX1_nodes 11 = .ok (.ireturn, 1) := by decide +kernel
theorem dX1_nodes_12 : decode cX1_nodes 12 = .ok (.aload_n 0, 1) := by decide +kernel
theorem dX1_nodes_13 : decode cX1_nodes 13 = .ok (.invokevirtual 64, 3) := by decide +kernel
theorem dX1_nodes_16 : decode cX1_nodes 16 = .ok (.ifCond .eq 13, 3) := by decide +kernel
theorem dX1_nodes_19 : decode cX1_nodes 19 = .ok (.aload_n 0, 1) := by decide +kernel
theorem dX1_nodes_20 : decode cX1_nodes 20 = .ok (.getfield 18, 3) := by decide +kernel
theorem dX1_nodes_23 : decode cX1_nodes 23 = .ok (.getfield 61, 3) := by decide +kernel
theorem dX1_nodes_26 : decode cX1_nodes 26 = .ok (.goto 4, 3) := by decide +kernel
theorem dX1_nodes_29 : decode cX1_nodes 29 = .ok (.iconst 0, 1) := by decide +kernel
theorem dX1_nodes_30 : decode cX1_nodes 30 = .ok (.ireturn, 1) := by decide +kernel
set_option maxRecDepth 20000 in
theorem ggX1_gate_X1_nodes : GoodIn wsX1_gate wsX1_nodes := goodIn_r _ [7, 2, 1, 8, 9, 10, 6, 11, 12, 13, 14, 15, 16, 17, 18, 19, 20, 21, 22, 23, 24, 25, 26, 27, 28] (by decide +kernel) (by decide +kernel)
set_option maxRecDepth 20000 in
theorem gX1_gate_X1_nodes : GoodIn wsX1_gate (wsV RX1 68 RX1 yX1_nodes wsX1_nodes) := goodIn_app (goodIn_of _ (by decide +kernel)) ggX1_gate_X1_nodes
theorem dX1_gate_0 : decode cX1_gate 0 = .ok (.iload_n 2, 1) := by decide +kernel
theorem dX1_gate_1 : decode cX1_gate 1 = .ok (.ifCond .lt 12, 3) := by decide +kernel
theorem dX1_gate_4 : decode cX1_gate 4 = .ok (.iload_n 2, 1) := by decide +kernel
theorem dX1_gate_5 : decode cX1_gate 5 = .ok (.aload_n 0, 1) := by decide +kernel
theorem dX1_gate_6 : decode cX1_gate 6 = .ok (.iload_n 1, 1) := by decide +kernel
theorem dX1_gate_7 : decode cX1_gate 7 = .ok (.invokevirtual 68, 3) := by decide +kernel
theorem dX1_gate_10 : decode cX1_gate 10 = .ok (.if_icmp .lt 5, 3) := by decide +kernel
theorem dX1_gate_13 : decode cX1_gate 13 = .ok (.iconst (-1), 1) := by decide +kernel
theorem dX1_gate_14 : decode cX1_gate 14 = .ok (.ireturn, 1) := by decide +kernel
theorem dX1_gate_15 : decode cX1_gate 15 = .ok (.iload_n 1, 1) := by decide +kernel
theorem dX1_gate_16 : decode cX1_gate 16 = .ok (.ifCond .eq 10, 3) := by decide +kernel
theorem dX1_gate_19 : decode cX1_gate 19 = .ok (.aload_n 0, 1) := by decide +kernel
theorem dX1_gate_20 : decode cX1_gate 20 = .ok (.getfield 18, 3) := by decide +kernel
theorem dX1_gate_23 : decode cX1_gate 23 = .ok (.goto 7, 3) := by decide +kernel
theorem dX1_gate_26 : decode cX1_gate 26 = .ok (.aload_n 0, 1) := by decide +kernel
theorem dX1_gate_27 : decode cX1_gate 27 = .ok (.getfield 14, 3) := by decide +kernel
theorem dX1_gate_30 : decode cX1_gate 30 = .ok (.astore 4, 2) := by decide +kernel
theorem dX1_gate_32 : decode cX1_gate 32 = .ok (.iload_n 3, 1) := by decide +kernel
theorem dX1_gate_33 : decode cX1_gate 33 = .ok (.ifCond .ne 11, 3) := by decide +kernel
theorem dX1_gate_36 : decode cX1_gate 36 = .ok (.aload 4, 2) := by decide +kernel
theorem dX1_gate_38 : decode cX1_gate 38 = .ok (.getfield 72, 3) := by decide +kernel
theorem dX1_gate_41 : decode cX1_gate 41 = .ok (.iload_n 2, 1) := by decide +kernel
theorem dX1_gate_42 : decode cX1_gate 42 = .ok (.iaload, 1) := by decide +kernel
theorem dX1_gate_43 : decode cX1_gate 43 = .ok (.ireturn, 1) := by decide +kernel
theorem dX1_gate_44 : decode cX1_gate 44 = .ok (.iload_n 3, 1) := by decide +kernel
theorem dX1_gate_45 : decode cX1_gate 45 = .ok (.iconst 1, 1) := by decide +kernel
theorem dX1_gate_46 : decode cX1_gate 46 = .ok (.if_icmp .ne 13, 3) := by decide +kernel
theorem dX1_gate_49 : decode cX1_gate 49 = .ok (.aload 4, 2) := by decide +kernel
theorem dX1_gate_51 : decode cX1_gate 51 = .ok (.getfield 75, 3) := by decide +kernel
theorem dX1_gate_54 : decode cX1_gate 54 = .ok (.iload_n 2, 1) := by decide +kernel
theorem dX1_gate_55 : decode cX1_gate 55 = .ok (.iaload, 1) := by decide +kernel
theorem dX1_gate_56 : decode cX1_gate 56 = .ok (.goto 4, 3) := by decide +kernel
theorem dX1_gate_59 : decode cX1_gate 59 = .ok (.iconst (-1), 1) := by decide +kernel
theorem dX1_gate_60 : decode cX1_gate 60 = .ok (.ireturn, 1) := by decide +kernel
set_option maxRecDepth 20000 in
theorem ggX1_twin_X1_twinStands : GoodIn wsX1_twin wsX1_twinStands := goodIn_r _ [8, 2, 1, 66, 67, 68, 69, 70, 71, 72, 73, 74, 75, 76, 77, 78, 79, 80, 81] (by decide +kernel) (by decide +kernel)
set_option maxRecDepth 20000 in
theorem gX1_twin_X1_twinStands : GoodIn wsX1_twin (wsV RX1 64 RX1 yX1_twinStands wsX1_twinStands) := goodIn_app (goodIn_of _ (by decide +kernel)) ggX1_twin_X1_twinStands
set_option maxRecDepth 20000 in
theorem ggX1_twin_X1_buildTwin : GoodIn wsX1_twin wsX1_buildTwin := goodIn_r _ [12, 3, 1, 13, 14, 15, 16, 17, 18, 19, 20, 21, 7, 22, 23, 24, 25, 26, 27, 28, 29, 30, 31, 32, 33, 34, 35, 36, 37, 38, 39, 40, 41, 42, 43, 44, 45, 46, 47, 48, 49, 50, 51, 52, 53, 54, 55, 56, 57, 58, 59, 60, 61, 62, 63, 64, 65, 66, 67, 68, 69, 70, 71, 72, 73, 74, 75, 76, 77, 78, 79, 80, 81] (by decide +kernel) (by decide +kernel)
set_option maxRecDepth 20000 in
theorem gX1_twin_X1_buildTwin : GoodIn wsX1_twin (wsV RX1 78 RX1 yX1_buildTwin wsX1_buildTwin) := goodIn_app (goodIn_of _ (by decide +kernel)) ggX1_twin_X1_buildTwin
theorem dX1_twin_0 : decode cX1_twin 0 = .ok (.aload_n 0, 1) := by decide +kernel
theorem dX1_twin_1 : decode cX1_twin 1 = .ok (.invokevirtual 64, 3) := by decide +kernel
theorem dX1_twin_4 : decode cX1_twin 4 = .ok (.ifCond .ne 25, 3) := by decide +kernel
theorem dX1_twin_7 : decode cX1_twin 7 = .ok (.aload_n 0, 1) := by decide +kernel
theorem dX1_twin_8 : decode cX1_twin 8 = .ok (.aload_n 0, 1) := by decide +kernel
theorem dX1_twin_9 : decode cX1_twin 9 = .ok (.invokevirtual 78, 3) := by decide +kernel
theorem dX1_twin_12 : decode cX1_twin 12 = .ok (.ifCond .eq 13, 3) := by decide +kernel
theorem dX1_twin_15 : decode cX1_twin 15 = .ok (.aload_n 0, 1) := by decide +kernel
theorem dX1_twin_16 : decode cX1_twin 16 = .ok (.getfield 14, 3) := by decide +kernel
theorem dX1_twin_19 : decode cX1_twin 19 = .ok (.getfield 61, 3) := by decide +kernel
theorem dX1_twin_22 : decode cX1_twin 22 = .ok (.goto 4, 3) := by decide +kernel
theorem dX1_twin_25 : decode cX1_twin 25 = .ok (.iconst (-1), 1) := by decide +kernel
theorem dX1_twin_26 : decode cX1_twin 26 = .ok (.putfield 21, 3) := by decide +kernel
theorem dX1_twin_29 : decode cX1_twin 29 = .ok (.aload_n 0, 1) := by decide +kernel
theorem dX1_twin_30 : decode cX1_twin 30 = .ok (.invokevirtual 64, 3) := by decide +kernel
theorem dX1_twin_33 : decode cX1_twin 33 = .ok (.ifCond .eq 13, 3) := by decide +kernel
theorem dX1_twin_36 : decode cX1_twin 36 = .ok (.aload_n 0, 1) := by decide +kernel
theorem dX1_twin_37 : decode cX1_twin 37 = .ok (.getfield 18, 3) := by decide +kernel
theorem dX1_twin_40 : decode cX1_twin 40 = .ok (.getfield 61, 3) := by decide +kernel
theorem dX1_twin_43 : decode cX1_twin 43 = .ok (.goto 4, 3) := by decide +kernel
theorem dX1_twin_46 : decode cX1_twin 46 = .ok (.iconst (-1), 1) := by decide +kernel
theorem dX1_twin_47 : decode cX1_twin 47 = .ok (.ireturn, 1) := by decide +kernel
set_option maxRecDepth 20000 in
theorem ggX1_twinOf_X1_twinStands : GoodIn wsX1_twinOf wsX1_twinStands := goodIn_r _ [7, 8, 1, 22, 23, 24, 25, 26, 27, 28, 29, 30, 31, 32, 33, 34, 35, 36, 37] (by decide +kernel) (by decide +kernel)
set_option maxRecDepth 20000 in
theorem gX1_twinOf_X1_twinStands : GoodIn wsX1_twinOf (wsV RX1 64 RX1 yX1_twinStands wsX1_twinStands) := goodIn_app (goodIn_of _ (by decide +kernel)) ggX1_twinOf_X1_twinStands
set_option maxRecDepth 20000 in
theorem ggX1_twinOf_X0_holds : GoodIn wsX1_twinOf wsX0_holds := goodIn_r _ [12, 13, 30, 31, 32, 33, 34, 35, 36, 37] (by decide +kernel) (by decide +kernel)
set_option maxRecDepth 20000 in
theorem gX1_twinOf_X0_holds_n57 : GoodIn wsX1_twinOf (wsX0_holds) := ggX1_twinOf_X0_holds
set_option maxRecDepth 20000 in
theorem ggX1_twinOf_X1_valueInTwin : GoodIn wsX1_twinOf wsX1_valueInTwin := goodIn_r _ [17, 18, 19, 20, 6, 21, 22, 23, 24, 25, 26, 27, 28, 29] (by decide +kernel) (by decide +kernel)
set_option maxRecDepth 20000 in
theorem gX1_twinOf_X1_valueInTwin : GoodIn wsX1_twinOf (wsV RX1 81 RX1 yX1_valueInTwin wsX1_valueInTwin) := goodIn_app (goodIn_of _ (by decide +kernel)) ggX1_twinOf_X1_valueInTwin
theorem dX1_twinOf_0 : decode cX1_twinOf 0 = .ok (.aload_n 0, 1) := by decide +kernel
theorem dX1_twinOf_1 : decode cX1_twinOf 1 = .ok (.invokevirtual 64, 3) := by decide +kernel
theorem dX1_twinOf_4 : decode cX1_twinOf 4 = .ok (.ifCond .eq 14, 3) := by decide +kernel
theorem dX1_twinOf_7 : decode cX1_twinOf 7 = .ok (.aload_n 0, 1) := by decide +kernel
theorem dX1_twinOf_8 : decode cX1_twinOf 8 = .ok (.getfield 14, 3) := by decide +kernel
theorem dX1_twinOf_11 : decode cX1_twinOf 11 = .ok (.iload_n 1, 1) := by decide +kernel
theorem dX1_twinOf_12 : decode cX1_twinOf 12 = .ok (.invokevirtual 57, 3) := by decide +kernel
theorem dX1_twinOf_15 : decode cX1_twinOf 15 = .ok (.ifCond .ne 5, 3) := by decide +kernel
theorem dX1_twinOf_18 : decode cX1_twinOf 18 = .ok (.iconst (-1), 1) := by decide +kernel
theorem dX1_twinOf_19 : decode cX1_twinOf 19 = .ok (.ireturn, 1) := by decide +kernel
theorem dX1_twinOf_20 : decode cX1_twinOf 20 = .ok (.iload_n 2, 1) := by decide +kernel
theorem dX1_twinOf_21 : decode cX1_twinOf 21 = .ok (.ifCond .eq 14, 3) := by decide +kernel
theorem dX1_twinOf_24 : decode cX1_twinOf 24 = .ok (.aload_n 0, 1) := by decide +kernel
theorem dX1_twinOf_25 : decode cX1_twinOf 25 = .ok (.getfield 29, 3) := by decide +kernel
theorem dX1_twinOf_28 : decode cX1_twinOf 28 = .ok (.iload_n 1, 1) := by decide +kernel
theorem dX1_twinOf_29 : decode cX1_twinOf 29 = .ok (.iconst 1, 1) := by decide +kernel
theorem dX1_twinOf_30 : decode cX1_twinOf 30 = .ok (.ishr, 1) := by decide +kernel
theorem dX1_twinOf_31 : decode cX1_twinOf 31 = .ok (.iaload, 1) := by decide +kernel
theorem dX1_twinOf_32 : decode cX1_twinOf 32 = .ok (.goto 8, 3) := by decide +kernel
theorem dX1_twinOf_35 : decode cX1_twinOf 35 = .ok (.aload_n 0, 1) := by decide +kernel
theorem dX1_twinOf_36 : decode cX1_twinOf 36 = .ok (.iload_n 1, 1) := by decide +kernel
theorem dX1_twinOf_37 : decode cX1_twinOf 37 = .ok (.invokevirtual 81, 3) := by decide +kernel
theorem dX1_twinOf_40 : decode cX1_twinOf 40 = .ok (.ireturn, 1) := by decide +kernel
theorem dX1_set_0 : decode cX1_set 0 = .ok (.iload_n 1, 1) := by decide +kernel
theorem dX1_set_1 : decode cX1_set 1 = .ok (.ifCond .lt 14, 3) := by decide +kernel
theorem dX1_set_4 : decode cX1_set 4 = .ok (.iload_n 1, 1) := by decide +kernel
theorem dX1_set_5 : decode cX1_set 5 = .ok (.aload_n 0, 1) := by decide +kernel
theorem dX1_set_6 : decode cX1_set 6 = .ok (.getfield 14, 3) := by decide +kernel
theorem dX1_set_9 : decode cX1_set 9 = .ok (.getfield 84, 3) := by decide +kernel
theorem dX1_set_12 : decode cX1_set 12 = .ok (.if_icmp .lt 5, 3) := by decide +kernel
theorem dX1_set_15 : decode cX1_set 15 = .ok (.iconst (-1), 1) := by decide +kernel
theorem dX1_set_16 : decode cX1_set 16 = .ok (.ireturn, 1) := by decide +kernel
theorem dX1_set_17 : decode cX1_set 17 = .ok (.iload_n 2, 1) := by decide +kernel
theorem dX1_set_18 : decode cX1_set 18 = .ok (.ifCond .eq 10, 3) := by decide +kernel
theorem dX1_set_21 : decode cX1_set 21 = .ok (.aload_n 0, 1) := by decide +kernel
theorem dX1_set_22 : decode cX1_set 22 = .ok (.getfield 35, 3) := by decide +kernel
theorem dX1_set_25 : decode cX1_set 25 = .ok (.goto 7, 3) := by decide +kernel
theorem dX1_set_28 : decode cX1_set 28 = .ok (.aload_n 0, 1) := by decide +kernel
theorem dX1_set_29 : decode cX1_set 29 = .ok (.getfield 32, 3) := by decide +kernel
theorem dX1_set_32 : decode cX1_set 32 = .ok (.astore 4, 2) := by decide +kernel
theorem dX1_set_34 : decode cX1_set 34 = .ok (.aload 4, 2) := by decide +kernel
theorem dX1_set_36 : decode cX1_set 36 = .ok (.iload_n 1, 1) := by decide +kernel
theorem dX1_set_37 : decode cX1_set 37 = .ok (.iaload, 1) := by decide +kernel
theorem dX1_set_38 : decode cX1_set 38 = .ok (.istore 5, 2) := by decide +kernel
theorem dX1_set_40 : decode cX1_set 40 = .ok (.aload 4, 2) := by decide +kernel
theorem dX1_set_42 : decode cX1_set 42 = .ok (.iload_n 1, 1) := by decide +kernel
theorem dX1_set_43 : decode cX1_set 43 = .ok (.iload_n 3, 1) := by decide +kernel
theorem dX1_set_44 : decode cX1_set 44 = .ok (.ifCond .ne 7, 3) := by decide +kernel
theorem dX1_set_47 : decode cX1_set 47 = .ok (.iconst 0, 1) := by decide +kernel
theorem dX1_set_48 : decode cX1_set 48 = .ok (.goto 4, 3) := by decide +kernel
theorem dX1_set_51 : decode cX1_set 51 = .ok (.iconst 1, 1) := by decide +kernel
theorem dX1_set_52 : decode cX1_set 52 = .ok (.iastore, 1) := by decide +kernel
theorem dX1_set_53 : decode cX1_set 53 = .ok (.iload 5, 2) := by decide +kernel
theorem dX1_set_55 : decode cX1_set 55 = .ok (.ireturn, 1) := by decide +kernel
set_option maxRecDepth 20000 in
theorem ggX1_bit_X1_twinStands : GoodIn wsX1_bit wsX1_twinStands := goodIn_r _ [7, 8, 2, 46, 47, 48, 49, 50, 51, 52, 53, 54, 55, 56, 57, 58, 59, 60, 61] (by decide +kernel) (by decide +kernel)
set_option maxRecDepth 20000 in
theorem gX1_bit_X1_twinStands : GoodIn wsX1_bit (wsV RX1 64 RX1 yX1_twinStands wsX1_twinStands) := goodIn_app (goodIn_of _ (by decide +kernel)) ggX1_bit_X1_twinStands
set_option maxRecDepth 20000 in
theorem ggX1_bit_X0_holds : GoodIn wsX1_bit wsX0_holds := goodIn_r _ [12, 13, 54, 55, 56, 57, 58, 59, 60, 61] (by decide +kernel) (by decide +kernel)
set_option maxRecDepth 20000 in
theorem gX1_bit_X0_holds_n57 : GoodIn wsX1_bit (wsX0_holds) := ggX1_bit_X0_holds
set_option maxRecDepth 20000 in
theorem ggX1_bit_X1_spreadTwin : GoodIn wsX1_bit wsX1_spreadTwin := goodIn_r _ [17, 2, 1, 18, 19, 20, 21, 6, 22, 23, 24, 10, 25, 26, 13, 27, 28, 29, 30, 31, 32, 33, 34, 35, 36, 37, 38, 46, 47, 48, 49, 50, 51, 52, 53, 54, 55, 56, 57, 58, 59, 60, 61] (by decide +kernel) (by decide +kernel)
set_option maxRecDepth 20000 in
theorem gX1_bit_X1_spreadTwin : GoodIn wsX1_bit (wsV RX1 87 RX1 yX1_spreadTwin wsX1_spreadTwin) := goodIn_app (goodIn_of _ (by decide +kernel)) ggX1_bit_X1_spreadTwin
set_option maxRecDepth 20000 in
theorem ggX1_bit_X0_wordOf : GoodIn wsX1_bit wsX0_wordOf := goodIn_r _ [37, 27, 38, 54, 55, 56, 57, 58, 59, 60, 61] (by decide +kernel) (by decide +kernel)
set_option maxRecDepth 20000 in
theorem gX1_bit_X0_wordOf_n90 : GoodIn wsX1_bit (wsX0_wordOf) := ggX1_bit_X0_wordOf
set_option maxRecDepth 20000 in
theorem ggX1_bit_X1_bitOf : GoodIn wsX1_bit wsX1_bitOf := goodIn_r _ [41] (by decide +kernel) (by decide +kernel)
set_option maxRecDepth 20000 in
theorem gX1_bit_X1_bitOf : GoodIn wsX1_bit (va_wsS RX1 94 yX1_bitOf wsX1_bitOf) := goodIn_app (goodIn_of _ (by decide +kernel)) ggX1_bit_X1_bitOf
set_option maxRecDepth 20000 in
theorem ggX1_bit_X1_spreadNet : GoodIn wsX1_bit wsX1_spreadNet := goodIn_r _ [45, 2, 18, 20, 21, 6, 22, 23, 24, 10, 25, 26, 13, 27, 28, 29, 30, 31, 32, 33, 34, 35, 36, 37, 38, 46, 47, 48, 49, 50, 51, 52, 53, 54, 55, 56, 57, 58, 59, 60, 61] (by decide +kernel) (by decide +kernel)
set_option maxRecDepth 20000 in
theorem gX1_bit_X1_spreadNet : GoodIn wsX1_bit (wsV RX1 98 RX1 yX1_spreadNet wsX1_spreadNet) := goodIn_app (goodIn_of _ (by decide +kernel)) ggX1_bit_X1_spreadNet
theorem dX1_bit_0 : decode cX1_bit 0 = .ok (.iload_n 1, 1) := by decide +kernel
theorem dX1_bit_1 : decode cX1_bit 1 = .ok (.ifCond .eq 39, 3) := by decide +kernel

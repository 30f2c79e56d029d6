theorem dX2_init_0 : decode cX2_init 0 = .ok (.aload_n 0, 1) := by decide +kernel
theorem dX2_init_1 : decode cX2_init 1 = .ok (.invokespecial 3, 3) := by decide +kernel
theorem dX2_init_4 : decode cX2_init 4 = .ok (.aload_n 0, 1) := by decide +kernel
theorem dX2_init_5 : decode cX2_init 5 = .ok (.bipush 16, 2) := by decide +kernel
theorem dX2_init_7 : decode cX2_init 7 = .ok (.newarray .int, 2) := by decide +kernel
theorem dX2_init_9 : decode cX2_init 9 = .ok (.putfield 9, 3) := by decide +kernel
theorem dX2_init_12 : decode cX2_init 12 = .ok (.aload_n 0, 1) := by decide +kernel
theorem dX2_init_13 : decode cX2_init 13 = .ok (.bipush 16, 2) := by decide +kernel
theorem dX2_init_15 : decode cX2_init 15 = .ok (.newarray .int, 2) := by decide +kernel
theorem dX2_init_17 : decode cX2_init 17 = .ok (.putfield 15, 3) := by decide +kernel
theorem dX2_init_20 : decode cX2_init 20 = .ok (.aload_n 0, 1) := by decide +kernel
theorem dX2_init_21 : decode cX2_init 21 = .ok (.iload_n 1, 1) := by decide +kernel
theorem dX2_init_22 : decode cX2_init 22 = .ok (.putfield 18, 3) := by decide +kernel
theorem dX2_init_25 : decode cX2_init 25 = .ok (.aload_n 0, 1) := by decide +kernel
theorem dX2_init_26 : decode cX2_init 26 = .ok (.invokevirtual 22, 3) := by decide +kernel
theorem dX2_init_29 : decode cX2_init 29 = .ok (.return_, 1) := by decide +kernel
set_option maxRecDepth 20000 in
theorem ggX2_begin_X2_add : GoodIn wsX2_begin wsX2_add := goodIn_r _ [7, 1, 8, 9, 10, 11, 6, 12, 13, 14, 15, 16, 17, 18, 19, 20, 21, 22] (by decide +kernel) (by decide +kernel)
set_option maxRecDepth 20000 in
theorem gX2_begin_X2_add : GoodIn wsX2_begin (wsV RX2 31 RX2 yX2_add wsX2_add) := goodIn_app (goodIn_of _ (by decide +kernel)) ggX2_begin_X2_add
theorem dX2_begin_0 : decode cX2_begin 0 = .ok (.aload_n 0, 1) := by decide +kernel
theorem dX2_begin_1 : decode cX2_begin 1 = .ok (.iconst 0, 1) := by decide +kernel
theorem dX2_begin_2 : decode cX2_begin 2 = .ok (.putfield 25, 3) := by decide +kernel
theorem dX2_begin_5 : decode cX2_begin 5 = .ok (.aload_n 0, 1) := by decide +kernel
theorem dX2_begin_6 : decode cX2_begin 6 = .ok (.iconst 0, 1) := by decide +kernel
theorem dX2_begin_7 : decode cX2_begin 7 = .ok (.putfield 28, 3) := by decide +kernel
theorem dX2_begin_10 : decode cX2_begin 10 = .ok (.aload_n 0, 1) := by decide +kernel
theorem dX2_begin_11 : decode cX2_begin 11 = .ok (.iconst (-1), 1) := by decide +kernel
theorem dX2_begin_12 : decode cX2_begin 12 = .ok (.iconst (-1), 1) := by decide +kernel
theorem dX2_begin_13 : decode cX2_begin 13 = .ok (.invokevirtual 31, 3) := by decide +kernel
theorem dX2_begin_16 : decode cX2_begin 16 = .ok (.pop, 1) := by decide +kernel
theorem dX2_begin_17 : decode cX2_begin 17 = .ok (.return_, 1) := by decide +kernel
theorem dX2_more_0 : decode cX2_more 0 = .ok (.iconst 2, 1) := by decide +kernel
theorem dX2_more_1 : decode cX2_more 1 = .ok (.aload_n 0, 1) := by decide +kernel
theorem dX2_more_2 : decode cX2_more 2 = .ok (.arraylength, 1) := by decide +kernel
theorem dX2_more_3 : decode cX2_more 3 = .ok (.imul, 1) := by decide +kernel
theorem dX2_more_4 : decode cX2_more 4 = .ok (.newarray .int, 2) := by decide +kernel
theorem dX2_more_6 : decode cX2_more 6 = .ok (.astore_n 1, 1) := by decide +kernel
theorem dX2_more_7 : decode cX2_more 7 = .ok (.aload_n 0, 1) := by decide +kernel
theorem dX2_more_8 : decode cX2_more 8 = .ok (.iconst 0, 1) := by decide +kernel
theorem dX2_more_9 : decode cX2_more 9 = .ok (.aload_n 1, 1) := by decide +kernel
theorem dX2_more_10 : decode cX2_more 10 = .ok (.iconst 0, 1) := by decide +kernel
theorem dX2_more_11 : decode cX2_more 11 = .ok (.aload_n 0, 1) := by decide +kernel
theorem dX2_more_12 : decode cX2_more 12 = .ok (.arraylength, 1) := by decide +kernel
theorem dX2_more_13 : decode cX2_more 13 = .ok (.invokestatic 35, 3) := by decide +kernel
theorem dX2_more_16 : decode cX2_more 16 = .ok (.aload_n 1, 1) := by decide +kernel
theorem dX2_more_17 : decode cX2_more 17 = .ok (.areturn, 1) := by decide +kernel
set_option maxRecDepth 20000 in
theorem ggX2_add_X2_more : GoodIn wsX2_add wsX2_more := goodIn_r _ [7, 8, 9, 10, 11, 12] (by decide +kernel) (by decide +kernel)
set_option maxRecDepth 20000 in
theorem gX2_add_X2_more : GoodIn wsX2_add (va_wsS RX2 41 yX2_more wsX2_more) := goodIn_app (goodIn_of _ (by decide +kernel)) ggX2_add_X2_more
theorem dX2_add_0 : decode cX2_add 0 = .ok (.aload_n 0, 1) := by decide +kernel
theorem dX2_add_1 : decode cX2_add 1 = .ok (.getfield 25, 3) := by decide +kernel
theorem dX2_add_4 : decode cX2_add 4 = .ok (.aload_n 0, 1) := by decide +kernel
theorem dX2_add_5 : decode cX2_add 5 = .ok (.getfield 9, 3) := by decide +kernel
theorem dX2_add_8 : decode cX2_add 8 = .ok (.arraylength, 1) := by decide +kernel
theorem dX2_add_9 : decode cX2_add 9 = .ok (.if_icmp .ne 25, 3) := by decide +kernel
theorem dX2_add_12 : decode cX2_add 12 = .ok (.aload_n 0, 1) := by decide +kernel
theorem dX2_add_13 : decode cX2_add 13 = .ok (.aload_n 0, 1) := by decide +kernel
theorem dX2_add_14 : decode cX2_add 14 = .ok (.getfield 9, 3) := by decide +kernel
theorem dX2_add_17 : decode cX2_add 17 = .ok (.invokestatic 41, 3) := by decide +kernel
theorem dX2_add_20 : decode cX2_add 20 = .ok (.putfield 9, 3) := by decide +kernel
theorem dX2_add_23 : decode cX2_add 23 = .ok (.aload_n 0, 1) := by decide +kernel
theorem dX2_add_24 : decode cX2_add 24 = .ok (.aload_n 0, 1) := by decide +kernel
theorem dX2_add_25 : decode cX2_add 25 = .ok (.getfield 15, 3) := by decide +kernel
theorem dX2_add_28 : decode cX2_add 28 = .ok (.invokestatic 41, 3) := by decide +kernel
theorem dX2_add_31 : decode cX2_add 31 = .ok (.putfield 15, 3) := by decide +kernel
theorem dX2_add_34 : decode cX2_add 34 = .ok (.aload_n 0, 1) := by decide +kernel
theorem dX2_add_35 : decode cX2_add 35 = .ok (.getfield 9, 3) := by decide +kernel
theorem dX2_add_38 : decode cX2_add 38 = .ok (.aload_n 0, 1) := by decide +kernel
theorem dX2_add_39 : decode cX2_add 39 = .ok (.getfield 25, 3) := by decide +kernel
theorem dX2_add_42 : decode cX2_add 42 = .ok (.iload_n 1, 1) := by decide +kernel
theorem dX2_add_43 : decode cX2_add 43 = .ok (.iastore, 1) := by decide +kernel
theorem dX2_add_44 : decode cX2_add 44 = .ok (.aload_n 0, 1) := by decide +kernel
theorem dX2_add_45 : decode cX2_add 45 = .ok (.getfield 15, 3) := by decide +kernel
theorem dX2_add_48 : decode cX2_add 48 = .ok (.aload_n 0, 1) := by decide +kernel
theorem dX2_add_49 : decode cX2_add 49 = .ok (.getfield 25, 3) := by decide +kernel
theorem dX2_add_52 : decode cX2_add 52 = .ok (.iload_n 2, 1) := by decide +kernel
theorem dX2_add_53 : decode cX2_add 53 = .ok (.iastore, 1) := by decide +kernel
theorem dX2_add_54 : decode cX2_add 54 = .ok (.aload_n 0, 1) := by decide +kernel
theorem dX2_add_55 : decode cX2_add 55 = .ok (.dup, 1) := by decide +kernel
theorem dX2_add_56 : decode cX2_add 56 = .ok (.getfield 25, 3) := by decide +kernel
theorem dX2_add_59 : decode cX2_add 59 = .ok (.iconst 1, 1) := by decide +kernel
theorem dX2_add_60 : decode cX2_add 60 = .ok (.iadd, 1) := by decide +kernel
theorem dX2_add_61 : decode cX2_add 61 = .ok (.putfield 25, 3) := by decide +kernel
theorem dX2_add_64 : decode cX2_add 64 = .ok (.aload_n 0, 1) := by decide +kernel
theorem dX2_add_65 : decode cX2_add 65 = .ok (.getfield 25, 3) := by decide +kernel
theorem dX2_add_68 : decode cX2_add 68 = .ok (.iconst 1, 1) := by decide +kernel
theorem dX2_add_69 : decode cX2_add 69 = .ok (.isub, 1) := by decide +kernel
theorem dX2_add_70 : decode cX2_add 70 = .ok (.ireturn, 1) := by decide +kernel
theorem dX2_has_0 : decode cX2_has 0 = .ok (.iload_n 1, 1) := by decide +kernel
theorem dX2_has_1 : decode cX2_has 1 = .ok (.ifCond .lt 17, 3) := by decide +kernel
theorem dX2_has_4 : decode cX2_has 4 = .ok (.iload_n 1, 1) := by decide +kernel
theorem dX2_has_5 : decode cX2_has 5 = .ok (.iconst 2, 1) := by decide +kernel
theorem dX2_has_6 : decode cX2_has 6 = .ok (.aload_n 0, 1) := by decide +kernel
theorem dX2_has_7 : decode cX2_has 7 = .ok (.getfield 25, 3) := by decide +kernel
theorem dX2_has_10 : decode cX2_has 10 = .ok (.imul, 1) := by decide +kernel
theorem dX2_has_11 : decode cX2_has 11 = .ok (.if_icmp .ge 7, 3) := by decide +kernel
theorem dX2_has_14 : decode cX2_has 14 = .ok (.iconst 1, 1) := by decide +kernel
theorem dX2_has_15 : decode cX2_has 15 = .ok (.goto 4, 3) := by decide +kernel
theorem dX2_has_18 : decode cX2_has 18 = .ok (.iconst 0, 1) := by decide +kernel
theorem dX2_has_19 : decode cX2_has 19 = .ok (.ireturn, 1) := by decide +kernel
set_option maxRecDepth 20000 in
theorem ggX2_and_X2_add : GoodIn wsX2_and wsX2_add := goodIn_r _ [10, 1, 2, 3, 11, 12, 9, 13, 14, 15, 16, 17, 18, 19, 20, 21, 22, 23] (by decide +kernel) (by decide +kernel)
set_option maxRecDepth 20000 in
theorem gX2_and_X2_add : GoodIn wsX2_and (wsV RX2 31 RX2 yX2_add wsX2_add) := goodIn_app (goodIn_of _ (by decide +kernel)) ggX2_and_X2_add
theorem dX2_and_0 : decode cX2_and 0 = .ok (.iload_n 1, 1) := by decide +kernel
theorem dX2_and_1 : decode cX2_and 1 = .ok (.ifCond .lt 7, 3) := by decide +kernel
theorem dX2_and_4 : decode cX2_and 4 = .ok (.iload_n 2, 1) := by decide +kernel
theorem dX2_and_5 : decode cX2_and 5 = .ok (.ifCond .ge 5, 3) := by decide +kernel
theorem dX2_and_8 : decode cX2_and 8 = .ok (.iconst (-1), 1) := by decide +kernel
theorem dX2_and_9 : decode cX2_and 9 = .ok (.ireturn, 1) := by decide +kernel
theorem dX2_and_10 : decode cX2_and 10 = .ok (.iload_n 1, 1) := by decide +kernel
theorem dX2_and_11 : decode cX2_and 11 = .ok (.ifCond .eq 21, 3) := by decide +kernel
theorem dX2_and_14 : decode cX2_and 14 = .ok (.iload_n 2, 1) := by decide +kernel
theorem dX2_and_15 : decode cX2_and 15 = .ok (.ifCond .eq 17, 3) := by decide +kernel
theorem dX2_and_18 : decode cX2_and 18 = .ok (.iload_n 1, 1) := by decide +kernel
theorem dX2_and_19 : decode cX2_and 19 = .ok (.iconst 2, 1) := by decide +kernel
theorem dX2_and_20 : decode cX2_and 20 = .ok (.idiv, 1) := by decide +kernel
theorem dX2_and_21 : decode cX2_and 21 = .ok (.iload_n 2, 1) := by decide +kernel
theorem dX2_and_22 : decode cX2_and 22 = .ok (.iconst 2, 1) := by decide +kernel
theorem dX2_and_23 : decode cX2_and 23 = .ok (.idiv, 1) := by decide +kernel
theorem dX2_and_24 : decode cX2_and 24 = .ok (.if_icmp .ne 10, 3) := by decide +kernel
theorem dX2_and_27 : decode cX2_and 27 = .ok (.iload_n 1, 1) := by decide +kernel
theorem dX2_and_28 : decode cX2_and 28 = .ok (.iload_n 2, 1) := by decide +kernel
theorem dX2_and_29 : decode cX2_and 29 = .ok (.if_icmp .eq 5, 3) := by decide +kernel
theorem dX2_and_32 : decode cX2_and 32 = .ok (.iconst 0, 1) := by decide +kernel
theorem dX2_and_33 : decode cX2_and 33 = .ok (.ireturn, 1) := by decide +kernel
theorem dX2_and_34 : decode cX2_and 34 = .ok (.iload_n 2, 1) := by decide +kernel
theorem dX2_and_35 : decode cX2_and 35 = .ok (.iconst 1, 1) := by decide +kernel
theorem dX2_and_36 : decode cX2_and 36 = .ok (.if_icmp .eq 8, 3) := by decide +kernel
theorem dX2_and_39 : decode cX2_and 39 = .ok (.iload_n 1, 1) := by decide +kernel
theorem dX2_and_40 : decode cX2_and 40 = .ok (.iload_n 2, 1) := by decide +kernel
theorem dX2_and_41 : decode cX2_and 41 = .ok (.if_icmp .ne 5, 3) := by decide +kernel
theorem dX2_and_44 : decode cX2_and 44 = .ok (.iload_n 1, 1) := by decide +kernel
theorem dX2_and_45 : decode cX2_and 45 = .ok (.ireturn, 1) := by decide +kernel
theorem dX2_and_46 : decode cX2_and 46 = .ok (.iload_n 1, 1) := by decide +kernel
theorem dX2_and_47 : decode cX2_and 47 = .ok (.iconst 1, 1) := by decide +kernel
theorem dX2_and_48 : decode cX2_and 48 = .ok (.if_icmp .ne 5, 3) := by decide +kernel
theorem dX2_and_51 : decode cX2_and 51 = .ok (.iload_n 2, 1) := by decide +kernel
theorem dX2_and_52 : decode cX2_and 52 = .ok (.ireturn, 1) := by decide +kernel
theorem dX2_and_53 : decode cX2_and 53 = .ok (.iload_n 1, 1) := by decide +kernel
theorem dX2_and_54 : decode cX2_and 54 = .ok (.iload_n 2, 1) := by decide +kernel
theorem dX2_and_55 : decode cX2_and 55 = .ok (.if_icmp .ge 7, 3) := by decide +kernel
theorem dX2_and_58 : decode cX2_and 58 = .ok (.iload_n 1, 1) := by decide +kernel
theorem dX2_and_59 : decode cX2_and 59 = .ok (.goto 4, 3) := by decide +kernel
theorem dX2_and_62 : decode cX2_and 62 = .ok (.iload_n 2, 1) := by decide +kernel
theorem dX2_and_63 : decode cX2_and 63 = .ok (.istore_n 3, 1) := by decide +kernel
theorem dX2_and_64 : decode cX2_and 64 = .ok (.iload_n 1, 1) := by decide +kernel
theorem dX2_and_65 : decode cX2_and 65 = .ok (.iload_n 2, 1) := by decide +kernel
theorem dX2_and_66 : decode cX2_and 66 = .ok (.if_icmp .ge 7, 3) := by decide +kernel
theorem dX2_and_69 : decode cX2_and 69 = .ok (.iload_n 2, 1) := by decide +kernel
theorem dX2_and_70 : decode cX2_and 70 = .ok (.goto 4, 3) := by decide +kernel
theorem dX2_and_73 : decode cX2_and 73 = .ok (.iload_n 1, 1) := by decide +kernel
theorem dX2_and_74 : decode cX2_and 74 = .ok (.istore 4, 2) := by decide +kernel
theorem dX2_and_76 : decode cX2_and 76 = .ok (.iconst 1, 1) := by decide +kernel
theorem dX2_and_77 : decode cX2_and 77 = .ok (.istore 5, 2) := by decide +kernel
theorem dX2_and_79 : decode cX2_and 79 = .ok (.iload 5, 2) := by decide +kernel
theorem dX2_and_81 : decode cX2_and 81 = .ok (.aload_n 0, 1) := by decide +kernel
theorem dX2_and_82 : decode cX2_and 82 = .ok (.getfield 25, 3) := by decide +kernel
theorem dX2_and_85 : decode cX2_and 85 = .ok (.if_icmp .ge 37, 3) := by decide +kernel
theorem dX2_and_88 : decode cX2_and 88 = .ok (.aload_n 0, 1) := by decide +kernel
theorem dX2_and_89 : decode cX2_and 89 = .ok (.getfield 9, 3) := by decide +kernel
theorem dX2_and_92 : decode cX2_and 92 = .ok (.iload 5, 2) := by decide +kernel
theorem dX2_and_94 : decode cX2_and 94 = .ok (.iaload, 1) := by decide +kernel
theorem dX2_and_95 : decode cX2_and 95 = .ok (.iload_n 3, 1) := by decide +kernel
theorem dX2_and_96 : decode cX2_and 96 = .ok (.if_icmp .ne 20, 3) := by decide +kernel
theorem dX2_and_99 : decode cX2_and 99 = .ok (.aload_n 0, 1) := by decide +kernel
theorem dX2_and_100 : decode cX2_and 100 = .ok (.getfield 15, 3) := by decide +kernel
theorem dX2_and_103 : decode cX2_and 103 = .ok (.iload 5, 2) := by decide +kernel
theorem dX2_and_105 : decode cX2_and 105 = .ok (.iaload, 1) := by decide +kernel
theorem dX2_and_106 : decode cX2_and 106 = .ok (.iload 4, 2) := by decide +kernel
theorem dX2_and_108 : decode cX2_and 108 = .ok (.if_icmp .ne 8, 3) := by decide +kernel
theorem dX2_and_111 : decode cX2_and 111 = .ok (.iconst 2, 1) := by decide +kernel
theorem dX2_and_112 : decode cX2_and 112 = .ok (.iload 5, 2) := by decide +kernel
theorem dX2_and_114 : decode cX2_and 114 = .ok (.imul, 1) := by decide +kernel
theorem dX2_and_115 : decode cX2_and 115 = .ok (.ireturn, 1) := by decide +kernel
theorem dX2_and_116 : decode cX2_and 116 = .ok (.iinc 5 1, 3) := by decide +kernel
theorem dX2_and_119 : decode cX2_and 119 = .ok (.goto (-40), 3) := by decide +kernel
theorem dX2_and_122 : decode cX2_and 122 = .ok (.aload_n 0, 1) := by decide +kernel
theorem dX2_and_123 : decode cX2_and 123 = .ok (.getfield 28, 3) := by decide +kernel
theorem dX2_and_126 : decode cX2_and 126 = .ok (.aload_n 0, 1) := by decide +kernel
theorem dX2_and_127 : decode cX2_and 127 = .ok (.getfield 18, 3) := by decide +kernel
theorem dX2_and_130 : decode cX2_and 130 = .ok (.if_icmp .ne 5, 3) := by decide +kernel
theorem dX2_and_133 : decode cX2_and 133 = .ok (.iconst (-1), 1) := by decide +kernel
theorem dX2_and_134 : decode cX2_and 134 = .ok (.ireturn, 1) := by decide +kernel
theorem dX2_and_135 : decode cX2_and 135 = .ok (.aload_n 0, 1) := by decide +kernel
theorem dX2_and_136 : decode cX2_and 136 = .ok (.dup, 1) := by decide +kernel
theorem dX2_and_137 : decode cX2_and 137 = .ok (.getfield 28, 3) := by decide +kernel
theorem dX2_and_140 : decode cX2_and 140 = .ok (.iconst 1, 1) := by decide +kernel
theorem dX2_and_141 : decode cX2_and 141 = .ok (.iadd, 1) := by decide +kernel
theorem dX2_and_142 : decode cX2_and 142 = .ok (.putfield 28, 3) := by decide +kernel
theorem dX2_and_145 : decode cX2_and 145 = .ok (.iconst 2, 1) := by decide +kernel
theorem dX2_and_146 : decode cX2_and 146 = .ok (.aload_n 0, 1) := by decide +kernel
theorem dX2_and_147 : decode cX2_and 147 = .ok (.iload_n 3, 1) := by decide +kernel
theorem dX2_and_148 : decode cX2_and 148 = .ok (.iload 4, 2) := by decide +kernel
theorem dX2_and_150 : decode cX2_and 150 = .ok (.invokevirtual 31, 3) := by decide +kernel
theorem dX2_and_153 : decode cX2_and 153 = .ok (.imul, 1) := by decide +kernel
theorem dX2_and_154 : decode cX2_and 154 = .ok (.ireturn, 1) := by decide +kernel
theorem dX2_not_0 : decode cX2_not 0 = .ok (.iload_n 0, 1) := by decide +kernel
theorem dX2_not_1 : decode cX2_not 1 = .ok (.ifCond .ge 7, 3) := by decide +kernel
theorem dX2_not_4 : decode cX2_not 4 = .ok (.iconst (-1), 1) := by decide +kernel
theorem dX2_not_5 : decode cX2_not 5 = .ok (.goto 18, 3) := by decide +kernel
theorem dX2_not_8 : decode cX2_not 8 = .ok (.iload_n 0, 1) := by decide +kernel
theorem dX2_not_9 : decode cX2_not 9 = .ok (.iconst 2, 1) := by decide +kernel
theorem dX2_not_10 : decode cX2_not 10 = .ok (.irem, 1) := by decide +kernel
theorem dX2_not_11 : decode cX2_not 11 = .ok (.ifCond .ne 9, 3) := by decide +kernel
theorem dX2_not_14 : decode cX2_not 14 = .ok (.iload_n 0, 1) := by decide +kernel
theorem dX2_not_15 : decode cX2_not 15 = .ok (.iconst 1, 1) := by decide +kernel
theorem dX2_not_16 : decode cX2_not 16 = .ok (.iadd, 1) := by decide +kernel
theorem dX2_not_17 : decode cX2_not 17 = .ok (.goto 6, 3) := by decide +kernel
theorem dX2_not_20 : decode cX2_not 20 = .ok (.iload_n 0, 1) := by decide +kernel
theorem dX2_not_21 : decode cX2_not 21 = .ok (.iconst 1, 1) := by decide +kernel
theorem dX2_not_22 : decode cX2_not 22 = .ok (.isub, 1) := by decide +kernel
theorem dX2_not_23 : decode cX2_not 23 = .ok (.ireturn, 1) := by decide +kernel
set_option maxRecDepth 20000 in
theorem ggX2_or_X2_not : GoodIn wsX2_or wsX2_not := goodIn_r _ [4] (by decide +kernel) (by decide +kernel)
set_option maxRecDepth 20000 in
theorem gX2_or_X2_not : GoodIn wsX2_or (va_wsS RX2 45 yX2_not wsX2_not) := goodIn_app (goodIn_of _ (by decide +kernel)) ggX2_or_X2_not
set_option maxRecDepth 20000 in
theorem ggX2_or_X2_and : GoodIn wsX2_or wsX2_and := goodIn_r _ [8, 9, 10, 11, 12, 13, 14, 15, 16, 3, 17, 18, 19, 20, 21, 22, 23, 24, 25, 26, 27, 28, 29, 30] (by decide +kernel) (by decide +kernel)
set_option maxRecDepth 20000 in
theorem gX2_or_X2_and : GoodIn wsX2_or (wsV RX2 49 RX2 yX2_and wsX2_and) := goodIn_app (goodIn_of _ (by decide +kernel)) ggX2_or_X2_and
theorem dX2_or_0 : decode cX2_or 0 = .ok (.aload_n 0, 1) := by decide +kernel
theorem dX2_or_1 : decode cX2_or 1 = .ok (.iload_n 1, 1) := by decide +kernel
theorem dX2_or_2 : decode cX2_or 2 = .ok (.invokestatic 45, 3) := by decide +kernel
theorem dX2_or_5 : decode cX2_or 5 = .ok (.iload_n 2, 1) := by decide +kernel
theorem dX2_or_6 : decode cX2_or 6 = .ok (.invokestatic 45, 3) := by decide +kernel
theorem dX2_or_9 : decode cX2_or 9 = .ok (.invokevirtual 49, 3) := by decide +kernel
theorem dX2_or_12 : decode cX2_or 12 = .ok (.invokestatic 45, 3) := by decide +kernel
theorem dX2_or_15 : decode cX2_or 15 = .ok (.ireturn, 1) := by decide +kernel
set_option maxRecDepth 20000 in
theorem ggX2_xor_X2_not : GoodIn wsX2_xor wsX2_not := goodIn_r _ [4] (by decide +kernel) (by decide +kernel)
set_option maxRecDepth 20000 in
theorem gX2_xor_X2_not : GoodIn wsX2_xor (va_wsS RX2 45 yX2_not wsX2_not) := goodIn_app (goodIn_of _ (by decide +kernel)) ggX2_xor_X2_not
set_option maxRecDepth 20000 in
theorem ggX2_xor_X2_and : GoodIn wsX2_xor wsX2_and := goodIn_r _ [8, 9, 10, 11, 12, 13, 14, 15, 16, 3, 17, 18, 19, 20, 21, 22, 23, 24, 25, 30, 31, 32, 33, 34] (by decide +kernel) (by decide +kernel)
set_option maxRecDepth 20000 in
theorem gX2_xor_X2_and : GoodIn wsX2_xor (wsV RX2 49 RX2 yX2_and wsX2_and) := goodIn_app (goodIn_of _ (by decide +kernel)) ggX2_xor_X2_and
set_option maxRecDepth 20000 in
theorem ggX2_xor_X2_or : GoodIn wsX2_xor wsX2_or := goodIn_r _ [29, 1, 2, 3, 4, 5, 6, 7, 8, 9, 10, 11, 12, 13, 14, 15, 16, 17, 18, 19, 20, 21, 22, 23, 24, 25, 30, 31, 32, 33, 34] (by decide +kernel) (by decide +kernel)
set_option maxRecDepth 20000 in
theorem gX2_xor_X2_or : GoodIn wsX2_xor (wsV RX2 52 RX2 yX2_or wsX2_or) := goodIn_app (goodIn_of _ (by decide +kernel)) ggX2_xor_X2_or
theorem dX2_xor_0 : decode cX2_xor 0 = .ok (.aload_n 0, 1) := by decide +kernel
theorem dX2_xor_1 : decode cX2_xor 1 = .ok (.iload_n 1, 1) := by decide +kernel
theorem dX2_xor_2 : decode cX2_xor 2 = .ok (.iload_n 2, 1) := by decide +kernel
theorem dX2_xor_3 : decode cX2_xor 3 = .ok (.invokestatic 45, 3) := by decide +kernel
theorem dX2_xor_6 : decode cX2_xor 6 = .ok (.invokevirtual 49, 3) := by decide +kernel
theorem dX2_xor_9 : decode cX2_xor 9 = .ok (.istore_n 3, 1) := by decide +kernel
theorem dX2_xor_10 : decode cX2_xor 10 = .ok (.iload_n 3, 1) := by decide +kernel
theorem dX2_xor_11 : decode cX2_xor 11 = .ok (.ifCond .ge 5, 3) := by decide +kernel
theorem dX2_xor_14 : decode cX2_xor 14 = .ok (.iconst (-1), 1) := by decide +kernel
theorem dX2_xor_15 : decode cX2_xor 15 = .ok (.ireturn, 1) := by decide +kernel
theorem dX2_xor_16 : decode cX2_xor 16 = .ok (.aload_n 0, 1) := by decide +kernel
theorem dX2_xor_17 : decode cX2_xor 17 = .ok (.iload_n 1, 1) := by decide +kernel
theorem dX2_xor_18 : decode cX2_xor 18 = .ok (.invokestatic 45, 3) := by decide +kernel
theorem dX2_xor_21 : decode cX2_xor 21 = .ok (.iload_n 2, 1) := by decide +kernel
theorem dX2_xor_22 : decode cX2_xor 22 = .ok (.invokevirtual 49, 3) := by decide +kernel
theorem dX2_xor_25 : decode cX2_xor 25 = .ok (.istore 4, 2) := by decide +kernel
theorem dX2_xor_27 : decode cX2_xor 27 = .ok (.aload_n 0, 1) := by decide +kernel
theorem dX2_xor_28 : decode cX2_xor 28 = .ok (.iload_n 3, 1) := by decide +kernel
theorem dX2_xor_29 : decode cX2_xor 29 = .ok (.iload 4, 2) := by decide +kernel
theorem dX2_xor_31 : decode cX2_xor 31 = .ok (.invokevirtual 52, 3) := by decide +kernel
theorem dX2_xor_34 : decode cX2_xor 34 = .ok (.ireturn, 1) := by decide +kernel
set_option maxRecDepth 20000 in
theorem ggX2_choose_X2_and : GoodIn wsX2_choose wsX2_and := goodIn_r _ [5, 6, 7, 8, 9, 10, 11, 12, 13, 4, 14, 15, 16, 17, 18, 19, 20, 21, 22, 30, 31, 32, 33, 34] (by decide +kernel) (by decide +kernel)
set_option maxRecDepth 20000 in
theorem gX2_choose_X2_and : GoodIn wsX2_choose (wsV RX2 49 RX2 yX2_and wsX2_and) := goodIn_app (goodIn_of _ (by decide +kernel)) ggX2_choose_X2_and
set_option maxRecDepth 20000 in
theorem ggX2_choose_X2_not : GoodIn wsX2_choose wsX2_not := goodIn_r _ [25] (by decide +kernel) (by decide +kernel)
set_option maxRecDepth 20000 in
theorem gX2_choose_X2_not : GoodIn wsX2_choose (va_wsS RX2 45 yX2_not wsX2_not) := goodIn_app (goodIn_of _ (by decide +kernel)) ggX2_choose_X2_not
set_option maxRecDepth 20000 in
theorem ggX2_choose_X2_or : GoodIn wsX2_choose wsX2_or := goodIn_r _ [29, 23, 24, 4, 25, 1, 2, 3, 5, 6, 7, 8, 9, 10, 11, 12, 13, 14, 15, 16, 17, 18, 19, 20, 21, 22, 30, 31, 32, 33, 34] (by decide +kernel) (by decide +kernel)
set_option maxRecDepth 20000 in
theorem gX2_choose_X2_or : GoodIn wsX2_choose (wsV RX2 52 RX2 yX2_or wsX2_or) := goodIn_app (goodIn_of _ (by decide +kernel)) ggX2_choose_X2_or
theorem dX2_choose_0 : decode cX2_choose 0 = .ok (.aload_n 0, 1) := by decide +kernel
theorem dX2_choose_1 : decode cX2_choose 1 = .ok (.iload_n 1, 1) := by decide +kernel
theorem dX2_choose_2 : decode cX2_choose 2 = .ok (.iload_n 2, 1) := by decide +kernel
theorem dX2_choose_3 : decode cX2_choose 3 = .ok (.invokevirtual 49, 3) := by decide +kernel
theorem dX2_choose_6 : decode cX2_choose 6 = .ok (.istore 4, 2) := by decide +kernel
theorem dX2_choose_8 : decode cX2_choose 8 = .ok (.iload 4, 2) := by decide +kernel
theorem dX2_choose_10 : decode cX2_choose 10 = .ok (.ifCond .ge 5, 3) := by decide +kernel
theorem dX2_choose_13 : decode cX2_choose 13 = .ok (.iconst (-1), 1) := by decide +kernel
theorem dX2_choose_14 : decode cX2_choose 14 = .ok (.ireturn, 1) := by decide +kernel
theorem dX2_choose_15 : decode cX2_choose 15 = .ok (.aload_n 0, 1) := by decide +kernel
theorem dX2_choose_16 : decode cX2_choose 16 = .ok (.iload_n 1, 1) := by decide +kernel
theorem dX2_choose_17 : decode cX2_choose 17 = .ok (.invokestatic 45, 3) := by decide +kernel
theorem dX2_choose_20 : decode cX2_choose 20 = .ok (.iload_n 3, 1) := by decide +kernel
theorem dX2_choose_21 : decode cX2_choose 21 = .ok (.invokevirtual 49, 3) := by decide +kernel
theorem dX2_choose_24 : decode cX2_choose 24 = .ok (.istore 5, 2) := by decide +kernel
theorem dX2_choose_26 : decode cX2_choose 26 = .ok (.aload_n 0, 1) := by decide +kernel
theorem dX2_choose_27 : decode cX2_choose 27 = .ok (.iload 4, 2) := by decide +kernel
theorem dX2_choose_29 : decode cX2_choose 29 = .ok (.iload 5, 2) := by decide +kernel
theorem dX2_choose_31 : decode cX2_choose 31 = .ok (.invokevirtual 52, 3) := by decide +kernel
theorem dX2_choose_34 : decode cX2_choose 34 = .ok (.ireturn, 1) := by decide +kernel
set_option maxRecDepth 20000 in
theorem ggX3_init_X2_init : GoodIn wsX3_init wsX2_init := goodIn_r _ [19, 20, 2, 3, 9, 21, 22, 23, 24, 25, 26, 6, 27, 28, 29, 30, 31, 32, 33, 34, 35, 36, 37, 38, 39, 40, 41, 42, 43, 44, 45] (by decide +kernel) (by decide +kernel)
set_option maxRecDepth 20000 in
theorem gX3_init_X2_init : GoodIn wsX3_init (wsX2_init) := ggX3_init_X2_init
theorem dX3_init_0 : decode cX3_init 0 = .ok (.aload_n 0, 1) := by decide +kernel
theorem dX3_init_1 : decode cX3_init 1 = .ok (.invokespecial 1, 3) := by decide +kernel
theorem dX3_init_4 : decode cX3_init 4 = .ok (.aload_n 0, 1) := by decide +kernel
theorem dX3_init_5 : decode cX3_init 5 = .ok (.new 7, 3) := by decide +kernel
theorem dX3_init_8 : decode cX3_init 8 = .ok (.dup, 1) := by decide +kernel
theorem dX3_init_9 : decode cX3_init 9 = .ok (.sipush 400, 3) := by decide +kernel
theorem dX3_init_12 : decode cX3_init 12 = .ok (.invokespecial 11, 3) := by decide +kernel
theorem dX3_init_15 : decode cX3_init 15 = .ok (.putfield 14, 3) := by decide +kernel
theorem dX3_init_18 : decode cX3_init 18 = .ok (.aload_n 0, 1) := by decide +kernel
theorem dX3_init_19 : decode cX3_init 19 = .ok (.new 7, 3) := by decide +kernel
theorem dX3_init_22 : decode cX3_init 22 = .ok (.dup, 1) := by decide +kernel
theorem dX3_init_23 : decode cX3_init 23 = .ok (.sipush 1500, 3) := by decide +kernel
theorem dX3_init_26 : decode cX3_init 26 = .ok (.invokespecial 11, 3) := by decide +kernel
theorem dX3_init_29 : decode cX3_init 29 = .ok (.putfield 18, 3) := by decide +kernel
theorem dX3_init_32 : decode cX3_init 32 = .ok (.aload_n 0, 1) := by decide +kernel
theorem dX3_init_33 : decode cX3_init 33 = .ok (.bipush 64, 2) := by decide +kernel
theorem dX3_init_35 : decode cX3_init 35 = .ok (.newarray .int, 2) := by decide +kernel
theorem dX3_init_37 : decode cX3_init 37 = .ok (.putfield 21, 3) := by decide +kernel
theorem dX3_init_40 : decode cX3_init 40 = .ok (.aload_n 0, 1) := by decide +kernel
theorem dX3_init_41 : decode cX3_init 41 = .ok (.bipush 64, 2) := by decide +kernel
theorem dX3_init_43 : decode cX3_init 43 = .ok (.newarray .int, 2) := by decide +kernel
theorem dX3_init_45 : decode cX3_init 45 = .ok (.putfield 25, 3) := by decide +kernel
theorem dX3_init_48 : decode cX3_init 48 = .ok (.aload_n 0, 1) := by decide +kernel
theorem dX3_init_49 : decode cX3_init 49 = .ok (.bipush 64, 2) := by decide +kernel
theorem dX3_init_51 : decode cX3_init 51 = .ok (.newarray .int, 2) := by decide +kernel
theorem dX3_init_53 : decode cX3_init 53 = .ok (.putfield 28, 3) := by decide +kernel
theorem dX3_init_56 : decode cX3_init 56 = .ok (.aload_n 0, 1) := by decide +kernel
theorem dX3_init_57 : decode cX3_init 57 = .ok (.bipush 16, 2) := by decide +kernel
theorem dX3_init_59 : decode cX3_init 59 = .ok (.newarray .int, 2) := by decide +kernel
theorem dX3_init_61 : decode cX3_init 61 = .ok (.putfield 31, 3) := by decide +kernel
theorem dX3_init_64 : decode cX3_init 64 = .ok (.aload_n 0, 1) := by decide +kernel
theorem dX3_init_65 : decode cX3_init 65 = .ok (.bipush 16, 2) := by decide +kernel
theorem dX3_init_67 : decode cX3_init 67 = .ok (.newarray .int, 2) := by decide +kernel
theorem dX3_init_69 : decode cX3_init 69 = .ok (.putfield 34, 3) := by decide +kernel
theorem dX3_init_72 : decode cX3_init 72 = .ok (.aload_n 0, 1) := by decide +kernel
theorem dX3_init_73 : decode cX3_init 73 = .ok (.bipush 16, 2) := by decide +kernel
theorem dX3_init_75 : decode cX3_init 75 = .ok (.newarray .int, 2) := by decide +kernel
theorem dX3_init_77 : decode cX3_init 77 = .ok (.putfield 37, 3) := by decide +kernel
theorem dX3_init_80 : decode cX3_init 80 = .ok (.aload_n 0, 1) := by decide +kernel
theorem dX3_init_81 : decode cX3_init 81 = .ok (.bipush 16, 2) := by decide +kernel
theorem dX3_init_83 : decode cX3_init 83 = .ok (.newarray .int, 2) := by decide +kernel
theorem dX3_init_85 : decode cX3_init 85 = .ok (.putfield 40, 3) := by decide +kernel
theorem dX3_init_88 : decode cX3_init 88 = .ok (.return_, 1) := by decide +kernel
set_option maxRecDepth 20000 in
theorem ggX3_input_X2_add : GoodIn wsX3_input wsX2_add := goodIn_r _ [9, 10, 11, 12, 13, 14, 8, 15, 16, 17, 18, 19, 20, 32, 33, 34, 35, 36] (by decide +kernel) (by decide +kernel)
set_option maxRecDepth 20000 in
theorem gX3_input_X2_add : GoodIn wsX3_input (wsV RX3 47 RX2 yX2_add wsX2_add) := goodIn_app (goodIn_of _ (by decide +kernel)) ggX3_input_X2_add
theorem dX3_input_0 : decode cX3_input 0 = .ok (.aload_n 0, 1) := by decide +kernel
theorem dX3_input_1 : decode cX3_input 1 = .ok (.getfield 43, 3) := by decide +kernel
theorem dX3_input_4 : decode cX3_input 4 = .ok (.bipush 64, 2) := by decide +kernel
theorem dX3_input_6 : decode cX3_input 6 = .ok (.if_icmp .ne 5, 3) := by decide +kernel
theorem dX3_input_9 : decode cX3_input 9 = .ok (.iconst (-1), 1) := by decide +kernel
theorem dX3_input_10 : decode cX3_input 10 = .ok (.ireturn, 1) := by decide +kernel
theorem dX3_input_11 : decode cX3_input 11 = .ok (.aload_n 0, 1) := by decide +kernel
theorem dX3_input_12 : decode cX3_input 12 = .ok (.getfield 21, 3) := by decide +kernel
theorem dX3_input_15 : decode cX3_input 15 = .ok (.aload_n 0, 1) := by decide +kernel
theorem dX3_input_16 : decode cX3_input 16 = .ok (.getfield 43, 3) := by decide +kernel
theorem dX3_input_19 : decode cX3_input 19 = .ok (.aload_n 0, 1) := by decide +kernel
theorem dX3_input_20 : decode cX3_input 20 = .ok (.getfield 14, 3) := by decide +kernel
theorem dX3_input_23 : decode cX3_input 23 = .ok (.iconst (-1), 1) := by decide +kernel
theorem dX3_input_24 : decode cX3_input 24 = .ok (.iconst (-1), 1) := by decide +kernel
theorem dX3_input_25 : decode cX3_input 25 = .ok (.invokevirtual 47, 3) := by decide +kernel
theorem dX3_input_28 : decode cX3_input 28 = .ok (.iastore, 1) := by decide +kernel
theorem dX3_input_29 : decode cX3_input 29 = .ok (.aload_n 0, 1) := by decide +kernel
theorem dX3_input_30 : decode cX3_input 30 = .ok (.dup, 1) := by decide +kernel
theorem dX3_input_31 : decode cX3_input 31 = .ok (.getfield 43, 3) := by decide +kernel
theorem dX3_input_34 : decode cX3_input 34 = .ok (.iconst 1, 1) := by decide +kernel
theorem dX3_input_35 : decode cX3_input 35 = .ok (.iadd, 1) := by decide +kernel
theorem dX3_input_36 : decode cX3_input 36 = .ok (.putfield 43, 3) := by decide +kernel
theorem dX3_input_39 : decode cX3_input 39 = .ok (.aload_n 0, 1) := by decide +kernel
theorem dX3_input_40 : decode cX3_input 40 = .ok (.iconst 0, 1) := by decide +kernel
theorem dX3_input_41 : decode cX3_input 41 = .ok (.putfield 51, 3) := by decide +kernel
theorem dX3_input_44 : decode cX3_input 44 = .ok (.iconst 2, 1) := by decide +kernel
theorem dX3_input_45 : decode cX3_input 45 = .ok (.aload_n 0, 1) := by decide +kernel
theorem dX3_input_46 : decode cX3_input 46 = .ok (.getfield 21, 3) := by decide +kernel
theorem dX3_input_49 : decode cX3_input 49 = .ok (.aload_n 0, 1) := by decide +kernel
theorem dX3_input_50 : decode cX3_input 50 = .ok (.getfield 43, 3) := by decide +kernel
theorem dX3_input_53 : decode cX3_input 53 = .ok (.iconst 1, 1) := by decide +kernel
theorem dX3_input_54 : decode cX3_input 54 = .ok (.isub, 1) := by decide +kernel
theorem dX3_input_55 : decode cX3_input 55 = .ok (.iaload, 1) := by decide +kernel
theorem dX3_input_56 : decode cX3_input 56 = .ok (.imul, 1) := by decide +kernel
theorem dX3_input_57 : decode cX3_input 57 = .ok (.ireturn, 1) := by decide +kernel
theorem dX3_made_0 : decode cX3_made 0 = .ok (.aload_n 0, 1) := by decide +kernel
theorem dX3_made_1 : decode cX3_made 1 = .ok (.aload_n 0, 1) := by decide +kernel
theorem dX3_made_2 : decode cX3_made 2 = .ok (.getfield 51, 3) := by decide +kernel
theorem dX3_made_5 : decode cX3_made 5 = .ok (.ifCond .eq 18, 3) := by decide +kernel
theorem dX3_made_8 : decode cX3_made 8 = .ok (.aload_n 0, 1) := by decide +kernel
theorem dX3_made_9 : decode cX3_made 9 = .ok (.getfield 14, 3) := by decide +kernel
theorem dX3_made_12 : decode cX3_made 12 = .ok (.getfield 55, 3) := by decide +kernel
theorem dX3_made_15 : decode cX3_made 15 = .ok (.iload_n 1, 1) := by decide +kernel
theorem dX3_made_16 : decode cX3_made 16 = .ok (.if_icmp .ne 7, 3) := by decide +kernel
theorem dX3_made_19 : decode cX3_made 19 = .ok (.iconst 1, 1) := by decide +kernel
theorem dX3_made_20 : decode cX3_made 20 = .ok (.goto 4, 3) := by decide +kernel
theorem dX3_made_23 : decode cX3_made 23 = .ok (.iconst 0, 1) := by decide +kernel
theorem dX3_made_24 : decode cX3_made 24 = .ok (.putfield 51, 3) := by decide +kernel
theorem dX3_made_27 : decode cX3_made 27 = .ok (.iload_n 2, 1) := by decide +kernel
theorem dX3_made_28 : decode cX3_made 28 = .ok (.ireturn, 1) := by decide +kernel
set_option maxRecDepth 20000 in
theorem ggX3_and_X2_has : GoodIn wsX3_and wsX2_has := goodIn_r _ [7, 8, 46, 47, 48, 49, 50] (by decide +kernel) (by decide +kernel)
set_option maxRecDepth 20000 in
theorem gX3_and_X2_has : GoodIn wsX3_and (wsV RX3 58 RX2 yX2_has wsX2_has) := goodIn_app (goodIn_of _ (by decide +kernel)) ggX3_and_X2_has
set_option maxRecDepth 20000 in
theorem ggX3_and_X2_and : GoodIn wsX3_and wsX2_and := goodIn_r _ [12, 8, 13, 14, 15, 16, 17, 18, 19, 6, 20, 21, 22, 23, 24, 25, 26, 27, 28, 46, 47, 48, 49, 50] (by decide +kernel) (by decide +kernel)
set_option maxRecDepth 20000 in
theorem gX3_and_X2_and : GoodIn wsX3_and (wsV RX3 62 RX2 yX2_and wsX2_and) := goodIn_app (goodIn_of _ (by decide +kernel)) ggX3_and_X2_and
set_option maxRecDepth 20000 in
theorem ggX3_and_X3_made : GoodIn wsX3_and wsX3_made := goodIn_r _ [33, 34, 1, 2, 35, 36, 37, 38, 39, 40, 41, 42, 43, 44, 45, 46, 47, 48, 49, 50] (by decide +kernel) (by decide +kernel)
set_option maxRecDepth 20000 in
theorem gX3_and_X3_made : GoodIn wsX3_and (wsV RX3 65 RX3 yX3_made wsX3_made) := goodIn_app (goodIn_of _ (by decide +kernel)) ggX3_and_X3_made
theorem dX3_and_0 : decode cX3_and 0 = .ok (.aload_n 0, 1) := by decide +kernel
theorem dX3_and_1 : decode cX3_and 1 = .ok (.getfield 14, 3) := by decide +kernel
theorem dX3_and_4 : decode cX3_and 4 = .ok (.iload_n 1, 1) := by decide +kernel
theorem dX3_and_5 : decode cX3_and 5 = .ok (.invokevirtual 58, 3) := by decide +kernel
theorem dX3_and_8 : decode cX3_and 8 = .ok (.ifCond .eq 14, 3) := by decide +kernel
theorem dX3_and_11 : decode cX3_and 11 = .ok (.aload_n 0, 1) := by decide +kernel
theorem dX3_and_12 : decode cX3_and 12 = .ok (.getfield 14, 3) := by decide +kernel
theorem dX3_and_15 : decode cX3_and 15 = .ok (.iload_n 2, 1) := by decide +kernel
theorem dX3_and_16 : decode cX3_and 16 = .ok (.invokevirtual 58, 3) := by decide +kernel
theorem dX3_and_19 : decode cX3_and 19 = .ok (.ifCond .ne 7, 3) := by decide +kernel
theorem dX3_and_22 : decode cX3_and 22 = .ok (.iconst (-1), 1) := by decide +kernel
theorem dX3_and_23 : decode cX3_and 23 = .ok (.goto 23, 3) := by decide +kernel
theorem dX3_and_26 : decode cX3_and 26 = .ok (.aload_n 0, 1) := by decide +kernel
theorem dX3_and_27 : decode cX3_and 27 = .ok (.aload_n 0, 1) := by decide +kernel
theorem dX3_and_28 : decode cX3_and 28 = .ok (.getfield 14, 3) := by decide +kernel
theorem dX3_and_31 : decode cX3_and 31 = .ok (.getfield 55, 3) := by decide +kernel
theorem dX3_and_34 : decode cX3_and 34 = .ok (.aload_n 0, 1) := by decide +kernel
theorem dX3_and_35 : decode cX3_and 35 = .ok (.getfield 14, 3) := by decide +kernel
theorem dX3_and_38 : decode cX3_and 38 = .ok (.iload_n 1, 1) := by decide +kernel
theorem dX3_and_39 : decode cX3_and 39 = .ok (.iload_n 2, 1) := by decide +kernel
theorem dX3_and_40 : decode cX3_and 40 = .ok (.invokevirtual 62, 3) := by decide +kernel
theorem dX3_and_43 : decode cX3_and 43 = .ok (.invokevirtual 65, 3) := by decide +kernel
theorem dX3_and_46 : decode cX3_and 46 = .ok (.ireturn, 1) := by decide +kernel
set_option maxRecDepth 20000 in
theorem ggX3_or_X2_has : GoodIn wsX3_or wsX2_has := goodIn_r _ [7, 8, 53, 54, 55, 56, 57] (by decide +kernel) (by decide +kernel)
set_option maxRecDepth 20000 in
theorem gX3_or_X2_has : GoodIn wsX3_or (wsV RX3 58 RX2 yX2_has wsX2_has) := goodIn_app (goodIn_of _ (by decide +kernel)) ggX3_or_X2_has
set_option maxRecDepth 20000 in
theorem ggX3_or_X2_or : GoodIn wsX3_or wsX2_or := goodIn_r _ [12, 13, 14, 6, 15, 16, 17, 18, 19, 8, 20, 21, 22, 23, 24, 25, 26, 27, 28, 29, 30, 31, 32, 33, 34, 35, 53, 54, 55, 56, 57] (by decide +kernel) (by decide +kernel)
set_option maxRecDepth 20000 in
theorem gX3_or_X2_or : GoodIn wsX3_or (wsV RX3 68 RX2 yX2_or wsX2_or) := goodIn_app (goodIn_of _ (by decide +kernel)) ggX3_or_X2_or
set_option maxRecDepth 20000 in
theorem ggX3_or_X3_made : GoodIn wsX3_or wsX3_made := goodIn_r _ [40, 41, 1, 2, 42, 43, 44, 45, 46, 47, 48, 49, 50, 51, 52, 53, 54, 55, 56, 57] (by decide +kernel) (by decide +kernel)
set_option maxRecDepth 20000 in
theorem gX3_or_X3_made : GoodIn wsX3_or (wsV RX3 65 RX3 yX3_made wsX3_made) := goodIn_app (goodIn_of _ (by decide +kernel)) ggX3_or_X3_made
theorem dX3_or_0 : decode cX3_or 0 = .ok (.aload_n 0, 1) := by decide +kernel
theorem dX3_or_1 : decode cX3_or 1 = .ok (.getfield 14, 3) := by decide +kernel
theorem dX3_or_4 : decode cX3_or 4 = .ok (.iload_n 1, 1) := by decide +kernel
theorem dX3_or_5 : decode cX3_or 5 = .ok (.invokevirtual 58, 3) := by decide +kernel
theorem dX3_or_8 : decode cX3_or 8 = .ok (.ifCond .eq 14, 3) := by decide +kernel
theorem dX3_or_11 : decode cX3_or 11 = .ok (.aload_n 0, 1) := by decide +kernel
theorem dX3_or_12 : decode cX3_or 12 = .ok (.getfield 14, 3) := by decide +kernel
theorem dX3_or_15 : decode cX3_or 15 = .ok (.iload_n 2, 1) := by decide +kernel
theorem dX3_or_16 : decode cX3_or 16 = .ok (.invokevirtual 58, 3) := by decide +kernel
theorem dX3_or_19 : decode cX3_or 19 = .ok (.ifCond .ne 7, 3) := by decide +kernel
theorem dX3_or_22 : decode cX3_or 22 = .ok (.iconst (-1), 1) := by decide +kernel
theorem dX3_or_23 : decode cX3_or 23 = .ok (.goto 23, 3) := by decide +kernel
theorem dX3_or_26 : decode cX3_or 26 = .ok (.aload_n 0, 1) := by decide +kernel
theorem dX3_or_27 : decode cX3_or 27 = .ok (.aload_n 0, 1) := by decide +kernel
theorem dX3_or_28 : decode cX3_or 28 = .ok (.getfield 14, 3) := by decide +kernel
theorem dX3_or_31 : decode cX3_or 31 = .ok (.getfield 55, 3) := by decide +kernel
theorem dX3_or_34 : decode cX3_or 34 = .ok (.aload_n 0, 1) := by decide +kernel
theorem dX3_or_35 : decode cX3_or 35 = .ok (.getfield 14, 3) := by decide +kernel
theorem dX3_or_38 : decode cX3_or 38 = .ok (.iload_n 1, 1) := by decide +kernel
theorem dX3_or_39 : decode cX3_or 39 = .ok (.iload_n 2, 1) := by decide +kernel
theorem dX3_or_40 : decode cX3_or 40 = .ok (.invokevirtual 68, 3) := by decide +kernel
theorem dX3_or_43 : decode cX3_or 43 = .ok (.invokevirtual 65, 3) := by decide +kernel
theorem dX3_or_46 : decode cX3_or 46 = .ok (.ireturn, 1) := by decide +kernel
set_option maxRecDepth 20000 in
theorem ggX3_xor_X2_has : GoodIn wsX3_xor wsX2_has := goodIn_r _ [7, 8, 57, 58, 59, 60, 61] (by decide +kernel) (by decide +kernel)
set_option maxRecDepth 20000 in
theorem gX3_xor_X2_has : GoodIn wsX3_xor (wsV RX3 58 RX2 yX2_has wsX2_has) := goodIn_app (goodIn_of _ (by decide +kernel)) ggX3_xor_X2_has
set_option maxRecDepth 20000 in
theorem ggX3_xor_X2_xor : GoodIn wsX3_xor wsX2_xor := goodIn_r _ [12, 13, 14, 6, 15, 16, 17, 18, 19, 8, 20, 21, 22, 23, 24, 25, 26, 27, 28, 29, 30, 31, 32, 33, 34, 35, 36, 37, 38, 39, 57, 58, 59, 60, 61] (by decide +kernel) (by decide +kernel)
set_option maxRecDepth 20000 in
theorem gX3_xor_X2_xor : GoodIn wsX3_xor (wsV RX3 71 RX2 yX2_xor wsX2_xor) := goodIn_app (goodIn_of _ (by decide +kernel)) ggX3_xor_X2_xor
set_option maxRecDepth 20000 in
theorem ggX3_xor_X3_made : GoodIn wsX3_xor wsX3_made := goodIn_r _ [44, 45, 1, 2, 46, 47, 48, 49, 50, 51, 52, 53, 54, 55, 56, 57, 58, 59, 60, 61] (by decide +kernel) (by decide +kernel)
set_option maxRecDepth 20000 in
theorem gX3_xor_X3_made : GoodIn wsX3_xor (wsV RX3 65 RX3 yX3_made wsX3_made) := goodIn_app (goodIn_of _ (by decide +kernel)) ggX3_xor_X3_made
theorem dX3_xor_0 : decode cX3_xor 0 = .ok (.aload_n 0, 1) := by decide +kernel
theorem dX3_xor_1 : decode cX3_xor 1 = .ok (.getfield 14, 3) := by decide +kernel
theorem dX3_xor_4 : decode cX3_xor 4 = .ok (.iload_n 1, 1) := by decide +kernel
theorem dX3_xor_5 : decode cX3_xor 5 = .ok (.invokevirtual 58, 3) := by decide +kernel
theorem dX3_xor_8 : decode cX3_xor 8 = .ok (.ifCond .eq 14, 3) := by decide +kernel
theorem dX3_xor_11 : decode cX3_xor 11 = .ok (.aload_n 0, 1) := by decide +kernel
theorem dX3_xor_12 : decode cX3_xor 12 = .ok (.getfield 14, 3) := by decide +kernel
theorem dX3_xor_15 : decode cX3_xor 15 = .ok (.iload_n 2, 1) := by decide +kernel
theorem dX3_xor_16 : decode cX3_xor 16 = .ok (.invokevirtual 58, 3) := by decide +kernel
theorem dX3_xor_19 : decode cX3_xor 19 = .ok (.ifCond .ne 7, 3) := by decide +kernel
theorem dX3_xor_22 : decode cX3_xor 22 = .ok (.iconst (-1), 1) := by decide +kernel
theorem dX3_xor_23 : decode cX3_xor 23 = .ok (.goto 23, 3) := by decide +kernel
theorem dX3_xor_26 : decode cX3_xor 26 = .ok (.aload_n 0, 1) := by decide +kernel
theorem dX3_xor_27 : decode cX3_xor 27 = .ok (.aload_n 0, 1) := by decide +kernel
theorem dX3_xor_28 : decode cX3_xor 28 = .ok (.getfield 14, 3) := by decide +kernel
theorem dX3_xor_31 : decode cX3_xor 31 = .ok (.getfield 55, 3) := by decide +kernel
theorem dX3_xor_34 : decode cX3_xor 34 = .ok (.aload_n 0, 1) := by decide +kernel
theorem dX3_xor_35 : decode cX3_xor 35 = .ok (.getfield 14, 3) := by decide +kernel
theorem dX3_xor_38 : decode cX3_xor 38 = .ok (.iload_n 1, 1) := by decide +kernel
theorem dX3_xor_39 : decode cX3_xor 39 = .ok (.iload_n 2, 1) := by decide +kernel
theorem dX3_xor_40 : decode cX3_xor 40 = .ok (.invokevirtual 71, 3) := by decide +kernel
theorem dX3_xor_43 : decode cX3_xor 43 = .ok (.invokevirtual 65, 3) := by decide +kernel
theorem dX3_xor_46 : decode cX3_xor 46 = .ok (.ireturn, 1) := by decide +kernel
set_option maxRecDepth 20000 in
theorem ggX3_choose_X2_has : GoodIn wsX3_choose wsX2_has := goodIn_r _ [7, 8, 57, 58, 59, 60, 61] (by decide +kernel) (by decide +kernel)
set_option maxRecDepth 20000 in
theorem gX3_choose_X2_has : GoodIn wsX3_choose (wsV RX3 58 RX2 yX2_has wsX2_has) := goodIn_app (goodIn_of _ (by decide +kernel)) ggX3_choose_X2_has
set_option maxRecDepth 20000 in
theorem ggX3_choose_X2_choose : GoodIn wsX3_choose wsX2_choose := goodIn_r _ [12, 13, 14, 15, 6, 16, 8, 17, 18, 19, 20, 21, 22, 23, 24, 25, 26, 27, 28, 29, 30, 31, 32, 33, 34, 35, 36, 37, 38, 39, 57, 58, 59, 60, 61] (by decide +kernel) (by decide +kernel)
set_option maxRecDepth 20000 in
theorem gX3_choose_X2_choose : GoodIn wsX3_choose (wsV RX3 74 RX2 yX2_choose wsX2_choose) := goodIn_app (goodIn_of _ (by decide +kernel)) ggX3_choose_X2_choose
set_option maxRecDepth 20000 in
theorem ggX3_choose_X3_made : GoodIn wsX3_choose wsX3_made := goodIn_r _ [44, 45, 1, 2, 46, 47, 48, 49, 50, 51, 52, 53, 54, 55, 56, 57, 58, 59, 60, 61] (by decide +kernel) (by decide +kernel)
set_option maxRecDepth 20000 in
theorem gX3_choose_X3_made : GoodIn wsX3_choose (wsV RX3 65 RX3 yX3_made wsX3_made) := goodIn_app (goodIn_of _ (by decide +kernel)) ggX3_choose_X3_made
theorem dX3_choose_0 : decode cX3_choose 0 = .ok (.aload_n 0, 1) := by decide +kernel
theorem dX3_choose_1 : decode cX3_choose 1 = .ok (.getfield 14, 3) := by decide +kernel
theorem dX3_choose_4 : decode cX3_choose 4 = .ok (.iload_n 1, 1) := by decide +kernel
theorem dX3_choose_5 : decode cX3_choose 5 = .ok (.invokevirtual 58, 3) := by decide +kernel
theorem dX3_choose_8 : decode cX3_choose 8 = .ok (.ifCond .eq 25, 3) := by decide +kernel
theorem dX3_choose_11 : decode cX3_choose 11 = .ok (.aload_n 0, 1) := by decide +kernel
theorem dX3_choose_12 : decode cX3_choose 12 = .ok (.getfield 14, 3) := by decide +kernel
theorem dX3_choose_15 : decode cX3_choose 15 = .ok (.iload_n 2, 1) := by decide +kernel
theorem dX3_choose_16 : decode cX3_choose 16 = .ok (.invokevirtual 58, 3) := by decide +kernel
theorem dX3_choose_19 : decode cX3_choose 19 = .ok (.ifCond .eq 14, 3) := by decide +kernel
theorem dX3_choose_22 : decode cX3_choose 22 = .ok (.aload_n 0, 1) := by decide +kernel
theorem dX3_choose_23 : decode cX3_choose 23 = .ok (.getfield 14, 3) := by decide +kernel
theorem dX3_choose_26 : decode cX3_choose 26 = .ok (.iload_n 3, 1) := by decide +kernel
theorem dX3_choose_27 : decode cX3_choose 27 = .ok (.invokevirtual 58, 3) := by decide +kernel
theorem dX3_choose_30 : decode cX3_choose 30 = .ok (.ifCond .ne 7, 3) := by decide +kernel
theorem dX3_choose_33 : decode cX3_choose 33 = .ok (.iconst (-1), 1) := by decide +kernel
theorem dX3_choose_34 : decode cX3_choose 34 = .ok (.goto 24, 3) := by decide +kernel
theorem dX3_choose_37 : decode cX3_choose 37 = .ok (.aload_n 0, 1) := by decide +kernel
theorem dX3_choose_38 : decode cX3_choose 38 = .ok (.aload_n 0, 1) := by decide +kernel
theorem dX3_choose_39 : decode cX3_choose 39 = .ok (.getfield 14, 3) := by decide +kernel
theorem dX3_choose_42 : decode cX3_choose 42 = .ok (.getfield 55, 3) := by decide +kernel
theorem dX3_choose_45 : decode cX3_choose 45 = .ok (.aload_n 0, 1) := by decide +kernel
theorem dX3_choose_46 : decode cX3_choose 46 = .ok (.getfield 14, 3) := by decide +kernel
theorem dX3_choose_49 : decode cX3_choose 49 = .ok (.iload_n 1, 1) := by decide +kernel
theorem dX3_choose_50 : decode cX3_choose 50 = .ok (.iload_n 2, 1) := by decide +kernel
theorem dX3_choose_51 : decode cX3_choose 51 = .ok (.iload_n 3, 1) := by decide +kernel
theorem dX3_choose_52 : decode cX3_choose 52 = .ok (.invokevirtual 74, 3) := by decide +kernel
theorem dX3_choose_55 : decode cX3_choose 55 = .ok (.invokevirtual 65, 3) := by decide +kernel
theorem dX3_choose_58 : decode cX3_choose 58 = .ok (.ireturn, 1) := by decide +kernel
theorem dX3_nodes_0 : decode cX3_nodes 0 = .ok (.iload_n 1, 1) := by decide +kernel
theorem dX3_nodes_1 : decode cX3_nodes 1 = .ok (.ifCond .ne 13, 3) := by decide +kernel
theorem dX3_nodes_4 : decode cX3_nodes 4 = .ok (.aload_n 0, 1) := by decide +kernel
theorem dX3_nodes_5 : decode cX3_nodes 5 = .ok (.getfield 14, 3) := by decide +kernel
theorem dX3_nodes_8 : decode cX3_nodes 8 = .ok (.getfield 78, 3) := by decide +kernel
theorem dX3_nodes_11 : decode cX3_nodes 11 = .ok (.goto 21, 3) := by decide +kernel
theorem dX3_nodes_14 : decode cX3_nodes 14 = .ok (.aload_n 0, 1) := by decide +kernel
theorem dX3_nodes_15 : decode cX3_nodes 15 = .ok (.getfield 51, 3) := by decide +kernel
theorem dX3_nodes_18 : decode cX3_nodes 18 = .ok (.ifCond .eq 13, 3) := by decide +kernel
theorem dX3_nodes_21 : decode cX3_nodes 21 = .ok (.aload_n 0, 1) := by decide +kernel
theorem dX3_nodes_22 : decode cX3_nodes 22 = .ok (.getfield 18, 3) := by decide +kernel
theorem dX3_nodes_25 : decode cX3_nodes 25 = .ok (.getfield 78, 3) := by decide +kernel
theorem dX3_nodes_28 : decode cX3_nodes 28 = .ok (.goto 4, 3) := by decide +kernel
theorem dX3_nodes_31 : decode cX3_nodes 31 = .ok (.iconst 0, 1) := by decide +kernel
theorem dX3_nodes_32 : decode cX3_nodes 32 = .ok (.ireturn, 1) := by decide +kernel
theorem dX3_gate_0 : decode cX3_gate 0 = .ok (.iload_n 1, 1) := by decide +kernel
theorem dX3_gate_1 : decode cX3_gate 1 = .ok (.ifCond .eq 10, 3) := by decide +kernel
theorem dX3_gate_4 : decode cX3_gate 4 = .ok (.aload_n 0, 1) := by decide +kernel
theorem dX3_gate_5 : decode cX3_gate 5 = .ok (.getfield 18, 3) := by decide +kernel
theorem dX3_gate_8 : decode cX3_gate 8 = .ok (.goto 7, 3) := by decide +kernel
theorem dX3_gate_11 : decode cX3_gate 11 = .ok (.aload_n 0, 1) := by decide +kernel
theorem dX3_gate_12 : decode cX3_gate 12 = .ok (.getfield 14, 3) := by decide +kernel
theorem dX3_gate_15 : decode cX3_gate 15 = .ok (.astore 4, 2) := by decide +kernel
theorem dX3_gate_17 : decode cX3_gate 17 = .ok (.iload_n 1, 1) := by decide +kernel
theorem dX3_gate_18 : decode cX3_gate 18 = .ok (.ifCond .eq 10, 3) := by decide +kernel
theorem dX3_gate_21 : decode cX3_gate 21 = .ok (.aload_n 0, 1) := by decide +kernel
theorem dX3_gate_22 : decode cX3_gate 22 = .ok (.getfield 51, 3) := by decide +kernel
theorem dX3_gate_25 : decode cX3_gate 25 = .ok (.ifCond .eq 20, 3) := by decide +kernel
theorem dX3_gate_28 : decode cX3_gate 28 = .ok (.iload_n 2, 1) := by decide +kernel
theorem dX3_gate_29 : decode cX3_gate 29 = .ok (.ifCond .lt 16, 3) := by decide +kernel
theorem dX3_gate_32 : decode cX3_gate 32 = .ok (.iload_n 2, 1) := by decide +kernel
theorem dX3_gate_33 : decode cX3_gate 33 = .ok (.aload 4, 2) := by decide +kernel
theorem dX3_gate_35 : decode cX3_gate 35 = .ok (.getfield 78, 3) := by decide +kernel
theorem dX3_gate_38 : decode cX3_gate 38 = .ok (.if_icmp .ge 7, 3) := by decide +kernel
theorem dX3_gate_41 : decode cX3_gate 41 = .ok (.iconst 1, 1) := by decide +kernel
theorem dX3_gate_42 : decode cX3_gate 42 = .ok (.goto 4, 3) := by decide +kernel
theorem dX3_gate_45 : decode cX3_gate 45 = .ok (.iconst 0, 1) := by decide +kernel
theorem dX3_gate_46 : decode cX3_gate 46 = .ok (.istore 5, 2) := by decide +kernel
theorem dX3_gate_48 : decode cX3_gate 48 = .ok (.iload 5, 2) := by decide +kernel
theorem dX3_gate_50 : decode cX3_gate 50 = .ok (.ifCond .eq 12, 3) := by decide +kernel
theorem dX3_gate_53 : decode cX3_gate 53 = .ok (.iload_n 3, 1) := by decide +kernel
theorem dX3_gate_54 : decode cX3_gate 54 = .ok (.ifCond .lt 8, 3) := by decide +kernel
theorem dX3_gate_57 : decode cX3_gate 57 = .ok (.iload_n 3, 1) := by decide +kernel
theorem dX3_gate_58 : decode cX3_gate 58 = .ok (.iconst 1, 1) := by decide +kernel
theorem dX3_gate_59 : decode cX3_gate 59 = .ok (.if_icmp .le 7, 3) := by decide +kernel
theorem dX3_gate_62 : decode cX3_gate 62 = .ok (.iconst (-1), 1) := by decide +kernel
theorem dX3_gate_63 : decode cX3_gate 63 = .ok (.goto 24, 3) := by decide +kernel
theorem dX3_gate_66 : decode cX3_gate 66 = .ok (.iload_n 3, 1) := by decide +kernel
theorem dX3_gate_67 : decode cX3_gate 67 = .ok (.ifCond .ne 13, 3) := by decide +kernel
theorem dX3_gate_70 : decode cX3_gate 70 = .ok (.aload 4, 2) := by decide +kernel
theorem dX3_gate_72 : decode cX3_gate 72 = .ok (.getfield 81, 3) := by decide +kernel
theorem dX3_gate_75 : decode cX3_gate 75 = .ok (.iload_n 2, 1) := by decide +kernel
theorem dX3_gate_76 : decode cX3_gate 76 = .ok (.iaload, 1) := by decide +kernel
theorem dX3_gate_77 : decode cX3_gate 77 = .ok (.goto 10, 3) := by decide +kernel
theorem dX3_gate_80 : decode cX3_gate 80 = .ok (.aload 4, 2) := by decide +kernel
theorem dX3_gate_82 : decode cX3_gate 82 = .ok (.getfield 84, 3) := by decide +kernel
theorem dX3_gate_85 : decode cX3_gate 85 = .ok (.iload_n 2, 1) := by decide +kernel
theorem dX3_gate_86 : decode cX3_gate 86 = .ok (.iaload, 1) := by decide +kernel
theorem dX3_gate_87 : decode cX3_gate 87 = .ok (.ireturn, 1) := by decide +kernel
set_option maxRecDepth 20000 in
theorem ggX3_with_X2_not : GoodIn wsX3_with wsX2_not := goodIn_r _ [4] (by decide +kernel) (by decide +kernel)
set_option maxRecDepth 20000 in
theorem gX3_with_X2_not : GoodIn wsX3_with (va_wsS RX3 87 yX2_not wsX2_not) := goodIn_app (goodIn_of _ (by decide +kernel)) ggX3_with_X2_not
theorem dX3_with_0 : decode cX3_with 0 = .ok (.aload_n 0, 1) := by decide +kernel
theorem dX3_with_1 : decode cX3_with 1 = .ok (.iload_n 1, 1) := by decide +kernel
theorem dX3_with_2 : decode cX3_with 2 = .ok (.iconst 2, 1) := by decide +kernel
theorem dX3_with_3 : decode cX3_with 3 = .ok (.idiv, 1) := by decide +kernel
theorem dX3_with_4 : decode cX3_with 4 = .ok (.iaload, 1) := by decide +kernel
theorem dX3_with_5 : decode cX3_with 5 = .ok (.ifCond .ge 7, 3) := by decide +kernel
theorem dX3_with_8 : decode cX3_with 8 = .ok (.iconst (-1), 1) := by decide +kernel
theorem dX3_with_9 : decode cX3_with 9 = .ok (.goto 25, 3) := by decide +kernel
theorem dX3_with_12 : decode cX3_with 12 = .ok (.iload_n 1, 1) := by decide +kernel
theorem dX3_with_13 : decode cX3_with 13 = .ok (.iconst 2, 1) := by decide +kernel
theorem dX3_with_14 : decode cX3_with 14 = .ok (.irem, 1) := by decide +kernel
theorem dX3_with_15 : decode cX3_with 15 = .ok (.ifCond .ne 11, 3) := by decide +kernel
theorem dX3_with_18 : decode cX3_with 18 = .ok (.aload_n 0, 1) := by decide +kernel
theorem dX3_with_19 : decode cX3_with 19 = .ok (.iload_n 1, 1) := by decide +kernel
theorem dX3_with_20 : decode cX3_with 20 = .ok (.iconst 2, 1) := by decide +kernel
theorem dX3_with_21 : decode cX3_with 21 = .ok (.idiv, 1) := by decide +kernel
theorem dX3_with_22 : decode cX3_with 22 = .ok (.iaload, 1) := by decide +kernel
theorem dX3_with_23 : decode cX3_with 23 = .ok (.goto 11, 3) := by decide +kernel
theorem dX3_with_26 : decode cX3_with 26 = .ok (.aload_n 0, 1) := by decide +kernel
theorem dX3_with_27 : decode cX3_with 27 = .ok (.iload_n 1, 1) := by decide +kernel
theorem dX3_with_28 : decode cX3_with 28 = .ok (.iconst 2, 1) := by decide +kernel
theorem dX3_with_29 : decode cX3_with 29 = .ok (.idiv, 1) := by decide +kernel
theorem dX3_with_30 : decode cX3_with 30 = .ok (.iaload, 1) := by decide +kernel
theorem dX3_with_31 : decode cX3_with 31 = .ok (.invokestatic 87, 3) := by decide +kernel
theorem dX3_with_34 : decode cX3_with 34 = .ok (.ireturn, 1) := by decide +kernel
set_option maxRecDepth 20000 in
theorem ggX3_twin_X2_begin : GoodIn wsX3_twin wsX2_begin := goodIn_r _ [15, 16, 17, 18, 19, 20, 14, 21, 22, 23, 24, 25, 26, 27, 28, 29, 30, 31, 62, 63, 64, 65, 66] (by decide +kernel) (by decide +kernel)
set_option maxRecDepth 20000 in
theorem gX3_twin_X2_begin : GoodIn wsX3_twin (wsV RX3 91 RX2 yX2_begin wsX2_begin) := goodIn_app (goodIn_of _ (by decide +kernel)) ggX3_twin_X2_begin
set_option maxRecDepth 20000 in
theorem ggX3_twin_X2_more : GoodIn wsX3_twin wsX2_more := goodIn_r _ [26, 27, 28, 29, 30, 31] (by decide +kernel) (by decide +kernel)
set_option maxRecDepth 20000 in
theorem gX3_twin_X2_more_n94 : GoodIn wsX3_twin (wsX2_more) := ggX3_twin_X2_more
set_option maxRecDepth 20000 in
theorem ggX3_twin_X2_add : GoodIn wsX3_twin wsX2_add := goodIn_r _ [21, 16, 22, 23, 24, 25, 14, 26, 27, 28, 29, 30, 31, 62, 63, 64, 65, 66] (by decide +kernel) (by decide +kernel)
set_option maxRecDepth 20000 in
theorem gX3_twin_X2_add : GoodIn wsX3_twin (wsV RX3 47 RX2 yX2_add wsX2_add) := goodIn_app (goodIn_of _ (by decide +kernel)) ggX3_twin_X2_add
set_option maxRecDepth 20000 in
theorem ggX3_twin_X3_with : GoodIn wsX3_twin wsX3_with := goodIn_r _ [36, 37, 38, 14, 39] (by decide +kernel) (by decide +kernel)
set_option maxRecDepth 20000 in
theorem gX3_twin_X3_with : GoodIn wsX3_twin (va_wsS RX3 98 yX3_with wsX3_with) := goodIn_app (goodIn_of _ (by decide +kernel)) ggX3_twin_X3_with
set_option maxRecDepth 20000 in
theorem ggX3_twin_X2_and : GoodIn wsX3_twin wsX2_and := goodIn_r _ [43, 16, 22, 23, 17, 44, 18, 19, 20, 14, 21, 24, 25, 26, 27, 28, 29, 30, 31, 62, 63, 64, 65, 66] (by decide +kernel) (by decide +kernel)
set_option maxRecDepth 20000 in
theorem gX3_twin_X2_and : GoodIn wsX3_twin (wsV RX3 62 RX2 yX2_and wsX2_and) := goodIn_app (goodIn_of _ (by decide +kernel)) ggX3_twin_X2_and
set_option maxRecDepth 20000 in
theorem ggX3_twin_X2_or : GoodIn wsX3_twin wsX2_or := goodIn_r _ [48, 49, 38, 14, 39, 50, 41, 42, 43, 16, 22, 23, 17, 44, 18, 19, 20, 21, 24, 25, 26, 27, 28, 29, 30, 31, 62, 63, 64, 65, 66] (by decide +kernel) (by decide +kernel)
set_option maxRecDepth 20000 in
theorem gX3_twin_X2_or : GoodIn wsX3_twin (wsV RX3 68 RX2 yX2_or wsX2_or) := goodIn_app (goodIn_of _ (by decide +kernel)) ggX3_twin_X2_or
theorem dX3_twin_0 : decode cX3_twin 0 = .ok (.aload_n 0, 1) := by decide +kernel
theorem dX3_twin_1 : decode cX3_twin 1 = .ok (.getfield 18, 3) := by decide +kernel
theorem dX3_twin_4 : decode cX3_twin 4 = .ok (.invokevirtual 91, 3) := by decide +kernel
theorem dX3_twin_7 : decode cX3_twin 7 = .ok (.aload_n 0, 1) := by decide +kernel
theorem dX3_twin_8 : decode cX3_twin 8 = .ok (.getfield 31, 3) := by decide +kernel
theorem dX3_twin_11 : decode cX3_twin 11 = .ok (.arraylength, 1) := by decide +kernel
theorem dX3_twin_12 : decode cX3_twin 12 = .ok (.aload_n 0, 1) := by decide +kernel
theorem dX3_twin_13 : decode cX3_twin 13 = .ok (.getfield 14, 3) := by decide +kernel
theorem dX3_twin_16 : decode cX3_twin 16 = .ok (.getfield 78, 3) := by decide +kernel
theorem dX3_twin_19 : decode cX3_twin 19 = .ok (.if_icmp .ge 28, 3) := by decide +kernel
theorem dX3_twin_22 : decode cX3_twin 22 = .ok (.aload_n 0, 1) := by decide +kernel
theorem dX3_twin_23 : decode cX3_twin 23 = .ok (.aload_n 0, 1) := by decide +kernel
theorem dX3_twin_24 : decode cX3_twin 24 = .ok (.getfield 31, 3) := by decide +kernel
theorem dX3_twin_27 : decode cX3_twin 27 = .ok (.invokestatic 94, 3) := by decide +kernel
theorem dX3_twin_30 : decode cX3_twin 30 = .ok (.putfield 31, 3) := by decide +kernel
theorem dX3_twin_33 : decode cX3_twin 33 = .ok (.aload_n 0, 1) := by decide +kernel
theorem dX3_twin_34 : decode cX3_twin 34 = .ok (.aload_n 0, 1) := by decide +kernel
theorem dX3_twin_35 : decode cX3_twin 35 = .ok (.getfield 34, 3) := by decide +kernel
theorem dX3_twin_38 : decode cX3_twin 38 = .ok (.invokestatic 94, 3) := by decide +kernel
theorem dX3_twin_41 : decode cX3_twin 41 = .ok (.putfield 34, 3) := by decide +kernel
theorem dX3_twin_44 : decode cX3_twin 44 = .ok (.goto (-37), 3) := by decide +kernel
theorem dX3_twin_47 : decode cX3_twin 47 = .ok (.aload_n 0, 1) := by decide +kernel
theorem dX3_twin_48 : decode cX3_twin 48 = .ok (.getfield 31, 3) := by decide +kernel
theorem dX3_twin_51 : decode cX3_twin 51 = .ok (.iconst 0, 1) := by decide +kernel
theorem dX3_twin_52 : decode cX3_twin 52 = .ok (.iconst 0, 1) := by decide +kernel
theorem dX3_twin_53 : decode cX3_twin 53 = .ok (.iastore, 1) := by decide +kernel
theorem dX3_twin_54 : decode cX3_twin 54 = .ok (.aload_n 0, 1) := by decide +kernel
theorem dX3_twin_55 : decode cX3_twin 55 = .ok (.getfield 34, 3) := by decide +kernel
theorem dX3_twin_58 : decode cX3_twin 58 = .ok (.iconst 0, 1) := by decide +kernel
theorem dX3_twin_59 : decode cX3_twin 59 = .ok (.iconst 0, 1) := by decide +kernel
theorem dX3_twin_60 : decode cX3_twin 60 = .ok (.iastore, 1) := by decide +kernel
theorem dX3_twin_61 : decode cX3_twin 61 = .ok (.iconst 0, 1) := by decide +kernel
theorem dX3_twin_62 : decode cX3_twin 62 = .ok (.istore_n 1, 1) := by decide +kernel
theorem dX3_twin_63 : decode cX3_twin 63 = .ok (.iload_n 1, 1) := by decide +kernel
theorem dX3_twin_64 : decode cX3_twin 64 = .ok (.aload_n 0, 1) := by decide +kernel
theorem dX3_twin_65 : decode cX3_twin 65 = .ok (.getfield 43, 3) := by decide +kernel
theorem dX3_twin_68 : decode cX3_twin 68 = .ok (.if_icmp .ge 31, 3) := by decide +kernel
theorem dX3_twin_71 : decode cX3_twin 71 = .ok (.aload_n 0, 1) := by decide +kernel
theorem dX3_twin_72 : decode cX3_twin 72 = .ok (.getfield 31, 3) := by decide +kernel
theorem dX3_twin_75 : decode cX3_twin 75 = .ok (.aload_n 0, 1) := by decide +kernel
theorem dX3_twin_76 : decode cX3_twin 76 = .ok (.getfield 21, 3) := by decide +kernel
theorem dX3_twin_79 : decode cX3_twin 79 = .ok (.iload_n 1, 1) := by decide +kernel
theorem dX3_twin_80 : decode cX3_twin 80 = .ok (.iaload, 1) := by decide +kernel
theorem dX3_twin_81 : decode cX3_twin 81 = .ok (.iconst 2, 1) := by decide +kernel
theorem dX3_twin_82 : decode cX3_twin 82 = .ok (.aload_n 0, 1) := by decide +kernel
theorem dX3_twin_83 : decode cX3_twin 83 = .ok (.getfield 18, 3) := by decide +kernel
theorem dX3_twin_86 : decode cX3_twin 86 = .ok (.iconst (-1), 1) := by decide +kernel
theorem dX3_twin_87 : decode cX3_twin 87 = .ok (.iconst (-1), 1) := by decide +kernel
theorem dX3_twin_88 : decode cX3_twin 88 = .ok (.invokevirtual 47, 3) := by decide +kernel
theorem dX3_twin_91 : decode cX3_twin 91 = .ok (.imul, 1) := by decide +kernel
theorem dX3_twin_92 : decode cX3_twin 92 = .ok (.iastore, 1) := by decide +kernel
theorem dX3_twin_93 : decode cX3_twin 93 = .ok (.iinc 1 1, 3) := by decide +kernel
theorem dX3_twin_96 : decode cX3_twin 96 = .ok (.goto (-33), 3) := by decide +kernel
theorem dX3_twin_99 : decode cX3_twin 99 = .ok (.iconst 0, 1) := by decide +kernel
theorem dX3_twin_100 : decode cX3_twin 100 = .ok (.istore_n 1, 1) := by decide +kernel
theorem dX3_twin_101 : decode cX3_twin 101 = .ok (.iload_n 1, 1) := by decide +kernel
theorem dX3_twin_102 : decode cX3_twin 102 = .ok (.aload_n 0, 1) := by decide +kernel
theorem dX3_twin_103 : decode cX3_twin 103 = .ok (.getfield 43, 3) := by decide +kernel
theorem dX3_twin_106 : decode cX3_twin 106 = .ok (.if_icmp .ge 31, 3) := by decide +kernel
theorem dX3_twin_109 : decode cX3_twin 109 = .ok (.aload_n 0, 1) := by decide +kernel
theorem dX3_twin_110 : decode cX3_twin 110 = .ok (.getfield 34, 3) := by decide +kernel
theorem dX3_twin_113 : decode cX3_twin 113 = .ok (.aload_n 0, 1) := by decide +kernel
theorem dX3_twin_114 : decode cX3_twin 114 = .ok (.getfield 21, 3) := by decide +kernel
theorem dX3_twin_117 : decode cX3_twin 117 = .ok (.iload_n 1, 1) := by decide +kernel
theorem dX3_twin_118 : decode cX3_twin 118 = .ok (.iaload, 1) := by decide +kernel
theorem dX3_twin_119 : decode cX3_twin 119 = .ok (.iconst 2, 1) := by decide +kernel
theorem dX3_twin_120 : decode cX3_twin 120 = .ok (.aload_n 0, 1) := by decide +kernel
theorem dX3_twin_121 : decode cX3_twin 121 = .ok (.getfield 18, 3) := by decide +kernel
theorem dX3_twin_124 : decode cX3_twin 124 = .ok (.iconst (-1), 1) := by decide +kernel
theorem dX3_twin_125 : decode cX3_twin 125 = .ok (.iconst (-1), 1) := by decide +kernel
theorem dX3_twin_126 : decode cX3_twin 126 = .ok (.invokevirtual 47, 3) := by decide +kernel
theorem dX3_twin_129 : decode cX3_twin 129 = .ok (.imul, 1) := by decide +kernel
theorem dX3_twin_130 : decode cX3_twin 130 = .ok (.iastore, 1) := by decide +kernel
theorem dX3_twin_131 : decode cX3_twin 131 = .ok (.iinc 1 1, 3) := by decide +kernel
theorem dX3_twin_134 : decode cX3_twin 134 = .ok (.goto (-33), 3) := by decide +kernel
theorem dX3_twin_137 : decode cX3_twin 137 = .ok (.aload_n 0, 1) := by decide +kernel
theorem dX3_twin_138 : decode cX3_twin 138 = .ok (.iconst 1, 1) := by decide +kernel
theorem dX3_twin_139 : decode cX3_twin 139 = .ok (.putfield 51, 3) := by decide +kernel
theorem dX3_twin_142 : decode cX3_twin 142 = .ok (.iconst 1, 1) := by decide +kernel
theorem dX3_twin_143 : decode cX3_twin 143 = .ok (.istore_n 1, 1) := by decide +kernel
theorem dX3_twin_144 : decode cX3_twin 144 = .ok (.iload_n 1, 1) := by decide +kernel
theorem dX3_twin_145 : decode cX3_twin 145 = .ok (.aload_n 0, 1) := by decide +kernel
theorem dX3_twin_146 : decode cX3_twin 146 = .ok (.getfield 14, 3) := by decide +kernel
theorem dX3_twin_149 : decode cX3_twin 149 = .ok (.getfield 78, 3) := by decide +kernel
theorem dX3_twin_152 : decode cX3_twin 152 = .ok (.if_icmp .ge 229, 3) := by decide +kernel
theorem dX3_twin_155 : decode cX3_twin 155 = .ok (.aload_n 0, 1) := by decide +kernel
theorem dX3_twin_156 : decode cX3_twin 156 = .ok (.getfield 51, 3) := by decide +kernel
theorem dX3_twin_159 : decode cX3_twin 159 = .ok (.ifCond .eq 222, 3) := by decide +kernel
theorem dX3_twin_162 : decode cX3_twin 162 = .ok (.aload_n 0, 1) := by decide +kernel
theorem dX3_twin_163 : decode cX3_twin 163 = .ok (.getfield 14, 3) := by decide +kernel
theorem dX3_twin_166 : decode cX3_twin 166 = .ok (.getfield 81, 3) := by decide +kernel
theorem dX3_twin_169 : decode cX3_twin 169 = .ok (.iload_n 1, 1) := by decide +kernel
theorem dX3_twin_170 : decode cX3_twin 170 = .ok (.iaload, 1) := by decide +kernel
theorem dX3_twin_171 : decode cX3_twin 171 = .ok (.ifCond .lt 204, 3) := by decide +kernel
theorem dX3_twin_174 : decode cX3_twin 174 = .ok (.aload_n 0, 1) := by decide +kernel
theorem dX3_twin_175 : decode cX3_twin 175 = .ok (.getfield 31, 3) := by decide +kernel

theorem dX1_bit_4 : decode cX1_bit 4 = .ok (.aload_n 0, 1) := by decide +kernel
theorem dX1_bit_5 : decode cX1_bit 5 = .ok (.invokevirtual 64, 3) := by decide +kernel
theorem dX1_bit_8 : decode cX1_bit 8 = .ok (.ifCond .eq 14, 3) := by decide +kernel
theorem dX1_bit_11 : decode cX1_bit 11 = .ok (.aload_n 0, 1) := by decide +kernel
theorem dX1_bit_12 : decode cX1_bit 12 = .ok (.getfield 18, 3) := by decide +kernel
theorem dX1_bit_15 : decode cX1_bit 15 = .ok (.iload_n 2, 1) := by decide +kernel
theorem dX1_bit_16 : decode cX1_bit 16 = .ok (.invokevirtual 57, 3) := by decide +kernel
theorem dX1_bit_19 : decode cX1_bit 19 = .ok (.ifCond .ne 5, 3) := by decide +kernel
theorem dX1_bit_22 : decode cX1_bit 22 = .ok (.iconst (-1), 1) := by decide +kernel
theorem dX1_bit_23 : decode cX1_bit 23 = .ok (.ireturn, 1) := by decide +kernel
theorem dX1_bit_24 : decode cX1_bit 24 = .ok (.aload_n 0, 1) := by decide +kernel
theorem dX1_bit_25 : decode cX1_bit 25 = .ok (.invokevirtual 87, 3) := by decide +kernel
theorem dX1_bit_28 : decode cX1_bit 28 = .ok (.aload_n 0, 1) := by decide +kernel
theorem dX1_bit_29 : decode cX1_bit 29 = .ok (.getfield 18, 3) := by decide +kernel
theorem dX1_bit_32 : decode cX1_bit 32 = .ok (.iload_n 2, 1) := by decide +kernel
theorem dX1_bit_33 : decode cX1_bit 33 = .ok (.invokevirtual 90, 3) := by decide +kernel
theorem dX1_bit_36 : decode cX1_bit 36 = .ok (.invokestatic 94, 3) := by decide +kernel
theorem dX1_bit_39 : decode cX1_bit 39 = .ok (.ireturn, 1) := by decide +kernel
theorem dX1_bit_40 : decode cX1_bit 40 = .ok (.aload_n 0, 1) := by decide +kernel
theorem dX1_bit_41 : decode cX1_bit 41 = .ok (.getfield 14, 3) := by decide +kernel
theorem dX1_bit_44 : decode cX1_bit 44 = .ok (.iload_n 2, 1) := by decide +kernel
theorem dX1_bit_45 : decode cX1_bit 45 = .ok (.invokevirtual 57, 3) := by decide +kernel
theorem dX1_bit_48 : decode cX1_bit 48 = .ok (.ifCond .ne 5, 3) := by decide +kernel
theorem dX1_bit_51 : decode cX1_bit 51 = .ok (.iconst (-1), 1) := by decide +kernel
theorem dX1_bit_52 : decode cX1_bit 52 = .ok (.ireturn, 1) := by decide +kernel
theorem dX1_bit_53 : decode cX1_bit 53 = .ok (.aload_n 0, 1) := by decide +kernel
theorem dX1_bit_54 : decode cX1_bit 54 = .ok (.invokevirtual 98, 3) := by decide +kernel
theorem dX1_bit_57 : decode cX1_bit 57 = .ok (.aload_n 0, 1) := by decide +kernel
theorem dX1_bit_58 : decode cX1_bit 58 = .ok (.getfield 14, 3) := by decide +kernel
theorem dX1_bit_61 : decode cX1_bit 61 = .ok (.iload_n 2, 1) := by decide +kernel
theorem dX1_bit_62 : decode cX1_bit 62 = .ok (.invokevirtual 90, 3) := by decide +kernel
theorem dX1_bit_65 : decode cX1_bit 65 = .ok (.invokestatic 94, 3) := by decide +kernel
theorem dX1_bit_68 : decode cX1_bit 68 = .ok (.ireturn, 1) := by decide +kernel
set_option maxRecDepth 20000 in
theorem ggX1_taint_X0_holds : GoodIn wsX1_taint wsX0_holds := goodIn_r _ [6, 7, 49, 50, 51, 52, 53, 54, 55, 56] (by decide +kernel) (by decide +kernel)
set_option maxRecDepth 20000 in
theorem gX1_taint_X0_holds_n57 : GoodIn wsX1_taint (wsX0_holds) := ggX1_taint_X0_holds
set_option maxRecDepth 20000 in
theorem ggX1_taint_X1_spreadNet : GoodIn wsX1_taint wsX1_spreadNet := goodIn_r _ [12, 1, 13, 14, 15, 11, 16, 17, 18, 4, 19, 20, 7, 21, 22, 23, 24, 25, 26, 27, 28, 29, 30, 31, 32, 41, 42, 43, 44, 45, 46, 47, 48, 49, 50, 51, 52, 53, 54, 55, 56] (by decide +kernel) (by decide +kernel)
set_option maxRecDepth 20000 in
theorem gX1_taint_X1_spreadNet : GoodIn wsX1_taint (wsV RX1 98 RX1 yX1_spreadNet wsX1_spreadNet) := goodIn_app (goodIn_of _ (by decide +kernel)) ggX1_taint_X1_spreadNet
set_option maxRecDepth 20000 in
theorem ggX1_taint_X1_spreadTaints : GoodIn wsX1_taint wsX1_spreadTaints := goodIn_r _ [36, 1, 2, 37, 14, 15, 11, 16, 17, 25, 4, 26, 27, 22, 29, 30, 31, 21, 32, 41, 42, 43, 44, 45, 46, 47, 48, 49, 50, 51, 52, 53, 54, 55, 56] (by decide +kernel) (by decide +kernel)
set_option maxRecDepth 20000 in
theorem gX1_taint_X1_spreadTaints : GoodIn wsX1_taint (wsV RX1 101 RX1 yX1_spreadTaints wsX1_spreadTaints) := goodIn_app (goodIn_of _ (by decide +kernel)) ggX1_taint_X1_spreadTaints
set_option maxRecDepth 20000 in
theorem ggX1_taint_X1_bitOf : GoodIn wsX1_taint wsX1_bitOf := goodIn_r _ [40] (by decide +kernel) (by decide +kernel)
set_option maxRecDepth 20000 in
theorem gX1_taint_X1_bitOf : GoodIn wsX1_taint (va_wsS RX1 94 yX1_bitOf wsX1_bitOf) := goodIn_app (goodIn_of _ (by decide +kernel)) ggX1_taint_X1_bitOf
theorem dX1_taint_0 : decode cX1_taint 0 = .ok (.aload_n 0, 1) := by decide +kernel
theorem dX1_taint_1 : decode cX1_taint 1 = .ok (.getfield 14, 3) := by decide +kernel
theorem dX1_taint_4 : decode cX1_taint 4 = .ok (.iload_n 1, 1) := by decide +kernel
theorem dX1_taint_5 : decode cX1_taint 5 = .ok (.invokevirtual 57, 3) := by decide +kernel
theorem dX1_taint_8 : decode cX1_taint 8 = .ok (.ifCond .ne 5, 3) := by decide +kernel
theorem dX1_taint_11 : decode cX1_taint 11 = .ok (.iconst (-1), 1) := by decide +kernel
theorem dX1_taint_12 : decode cX1_taint 12 = .ok (.ireturn, 1) := by decide +kernel
theorem dX1_taint_13 : decode cX1_taint 13 = .ok (.aload_n 0, 1) := by decide +kernel
theorem dX1_taint_14 : decode cX1_taint 14 = .ok (.invokevirtual 98, 3) := by decide +kernel
theorem dX1_taint_17 : decode cX1_taint 17 = .ok (.aload_n 0, 1) := by decide +kernel
theorem dX1_taint_18 : decode cX1_taint 18 = .ok (.invokevirtual 101, 3) := by decide +kernel
theorem dX1_taint_21 : decode cX1_taint 21 = .ok (.aload_n 0, 1) := by decide +kernel
theorem dX1_taint_22 : decode cX1_taint 22 = .ok (.getfield 38, 3) := by decide +kernel
theorem dX1_taint_25 : decode cX1_taint 25 = .ok (.iload_n 1, 1) := by decide +kernel
theorem dX1_taint_26 : decode cX1_taint 26 = .ok (.iconst 1, 1) := by decide +kernel
theorem dX1_taint_27 : decode cX1_taint 27 = .ok (.ishr, 1) := by decide +kernel
theorem dX1_taint_28 : decode cX1_taint 28 = .ok (.laload, 1) := by decide +kernel
theorem dX1_taint_29 : decode cX1_taint 29 = .ok (.invokestatic 94, 3) := by decide +kernel
theorem dX1_taint_32 : decode cX1_taint 32 = .ok (.ireturn, 1) := by decide +kernel
set_option maxRecDepth 20000 in
theorem ggX1_hangs_X0_holds : GoodIn wsX1_hangs wsX0_holds := goodIn_r _ [5, 6, 53, 54, 55, 56, 57, 58, 59, 60] (by decide +kernel) (by decide +kernel)
set_option maxRecDepth 20000 in
theorem gX1_hangs_X0_holds_n57 : GoodIn wsX1_hangs (wsX0_holds) := ggX1_hangs_X0_holds
set_option maxRecDepth 20000 in
theorem ggX1_hangs_X1_countTainted : GoodIn wsX1_hangs wsX1_countTainted := goodIn_r _ [11, 1, 12, 45, 46, 47, 48, 49, 50, 51, 52, 53, 54, 55, 56, 57, 58, 59, 60] (by decide +kernel) (by decide +kernel)
set_option maxRecDepth 20000 in
theorem gX1_hangs_X1_countTainted : GoodIn wsX1_hangs (wsV RX1 104 RX1 yX1_countTainted wsX1_countTainted) := goodIn_app (goodIn_of _ (by decide +kernel)) ggX1_hangs_X1_countTainted
set_option maxRecDepth 20000 in
theorem ggX1_hangs_X1_spreadNet : GoodIn wsX1_hangs wsX1_spreadNet := goodIn_r _ [16, 1, 17, 18, 19, 10, 20, 21, 22, 3, 23, 24, 6, 25, 26, 27, 28, 29, 30, 31, 32, 33, 34, 35, 36, 45, 46, 47, 48, 49, 50, 51, 52, 53, 54, 55, 56, 57, 58, 59, 60] (by decide +kernel) (by decide +kernel)
set_option maxRecDepth 20000 in
theorem gX1_hangs_X1_spreadNet : GoodIn wsX1_hangs (wsV RX1 98 RX1 yX1_spreadNet wsX1_spreadNet) := goodIn_app (goodIn_of _ (by decide +kernel)) ggX1_hangs_X1_spreadNet
set_option maxRecDepth 20000 in
theorem ggX1_hangs_X0_wordOf : GoodIn wsX1_hangs wsX0_wordOf := goodIn_r _ [35, 25, 36, 53, 54, 55, 56, 57, 58, 59, 60] (by decide +kernel) (by decide +kernel)
set_option maxRecDepth 20000 in
theorem gX1_hangs_X0_wordOf_n90 : GoodIn wsX1_hangs (wsX0_wordOf) := ggX1_hangs_X0_wordOf
set_option maxRecDepth 20000 in
theorem ggX1_hangs_X1_setTaintedInputs : GoodIn wsX1_hangs wsX1_setTaintedInputs := goodIn_r _ [40, 1, 12, 41, 42, 10, 43, 44, 18, 19, 20, 21, 45, 46, 47, 48, 49, 50, 51, 52, 53, 54, 55, 56, 57, 58, 59, 60] (by decide +kernel) (by decide +kernel)
set_option maxRecDepth 20000 in
theorem gX1_hangs_X1_setTaintedInputs : GoodIn wsX1_hangs (wsV RX1 107 RX1 yX1_setTaintedInputs wsX1_setTaintedInputs) := goodIn_app (goodIn_of _ (by decide +kernel)) ggX1_hangs_X1_setTaintedInputs
set_option maxRecDepth 20000 in
theorem ggX1_hangs_X0_spread : GoodIn wsX1_hangs wsX0_spread := goodIn_r _ [24, 6, 25, 26, 27, 28, 29, 30, 3, 31, 32, 33, 34, 35, 36, 53, 54, 55, 56, 57, 58, 59, 60] (by decide +kernel) (by decide +kernel)
set_option maxRecDepth 20000 in
theorem gX1_hangs_X0_spread_n111 : GoodIn wsX1_hangs (wsX0_spread) := ggX1_hangs_X0_spread
theorem dX1_hangs_0 : decode cX1_hangs 0 = .ok (.aload_n 0, 1) := by decide +kernel
theorem dX1_hangs_1 : decode cX1_hangs 1 = .ok (.getfield 14, 3) := by decide +kernel
theorem dX1_hangs_4 : decode cX1_hangs 4 = .ok (.iload_n 1, 1) := by decide +kernel
theorem dX1_hangs_5 : decode cX1_hangs 5 = .ok (.invokevirtual 57, 3) := by decide +kernel
theorem dX1_hangs_8 : decode cX1_hangs 8 = .ok (.ifCond .eq 12, 3) := by decide +kernel
theorem dX1_hangs_11 : decode cX1_hangs 11 = .ok (.aload_n 0, 1) := by decide +kernel
theorem dX1_hangs_12 : decode cX1_hangs 12 = .ok (.invokevirtual 104, 3) := by decide +kernel
theorem dX1_hangs_15 : decode cX1_hangs 15 = .ok (.bipush 8, 2) := by decide +kernel
theorem dX1_hangs_17 : decode cX1_hangs 17 = .ok (.if_icmp .le 5, 3) := by decide +kernel
theorem dX1_hangs_20 : decode cX1_hangs 20 = .ok (.iconst (-1), 1) := by decide +kernel
theorem dX1_hangs_21 : decode cX1_hangs 21 = .ok (.ireturn, 1) := by decide +kernel
theorem dX1_hangs_22 : decode cX1_hangs 22 = .ok (.aload_n 0, 1) := by decide +kernel
theorem dX1_hangs_23 : decode cX1_hangs 23 = .ok (.invokevirtual 98, 3) := by decide +kernel
theorem dX1_hangs_26 : decode cX1_hangs 26 = .ok (.aload_n 0, 1) := by decide +kernel
theorem dX1_hangs_27 : decode cX1_hangs 27 = .ok (.getfield 14, 3) := by decide +kernel
theorem dX1_hangs_30 : decode cX1_hangs 30 = .ok (.iload_n 1, 1) := by decide +kernel
theorem dX1_hangs_31 : decode cX1_hangs 31 = .ok (.invokevirtual 90, 3) := by decide +kernel
theorem dX1_hangs_34 : decode cX1_hangs 34 = .ok (.lstore_n 2, 1) := by decide +kernel
theorem dX1_hangs_35 : decode cX1_hangs 35 = .ok (.iconst 0, 1) := by decide +kernel
theorem dX1_hangs_36 : decode cX1_hangs 36 = .ok (.istore 4, 2) := by decide +kernel
theorem dX1_hangs_38 : decode cX1_hangs 38 = .ok (.iload 4, 2) := by decide +kernel
theorem dX1_hangs_40 : decode cX1_hangs 40 = .ok (.iconst 4, 1) := by decide +kernel
theorem dX1_hangs_41 : decode cX1_hangs 41 = .ok (.if_icmp .ge 37, 3) := by decide +kernel
theorem dX1_hangs_44 : decode cX1_hangs 44 = .ok (.aload_n 0, 1) := by decide +kernel
theorem dX1_hangs_45 : decode cX1_hangs 45 = .ok (.iload 4, 2) := by decide +kernel
theorem dX1_hangs_47 : decode cX1_hangs 47 = .ok (.invokevirtual 107, 3) := by decide +kernel
theorem dX1_hangs_50 : decode cX1_hangs 50 = .ok (.aload_n 0, 1) := by decide +kernel
theorem dX1_hangs_51 : decode cX1_hangs 51 = .ok (.getfield 14, 3) := by decide +kernel
theorem dX1_hangs_54 : decode cX1_hangs 54 = .ok (.invokevirtual 111, 3) := by decide +kernel
theorem dX1_hangs_57 : decode cX1_hangs 57 = .ok (.aload_n 0, 1) := by decide +kernel
theorem dX1_hangs_58 : decode cX1_hangs 58 = .ok (.getfield 14, 3) := by decide +kernel
theorem dX1_hangs_61 : decode cX1_hangs 61 = .ok (.iload_n 1, 1) := by decide +kernel
theorem dX1_hangs_62 : decode cX1_hangs 62 = .ok (.invokevirtual 90, 3) := by decide +kernel
theorem dX1_hangs_65 : decode cX1_hangs 65 = .ok (.lload_n 2, 1) := by decide +kernel
theorem dX1_hangs_66 : decode cX1_hangs 66 = .ok (.lcmp, 1) := by decide +kernel
theorem dX1_hangs_67 : decode cX1_hangs 67 = .ok (.ifCond .eq 5, 3) := by decide +kernel
theorem dX1_hangs_70 : decode cX1_hangs 70 = .ok (.iconst 1, 1) := by decide +kernel
theorem dX1_hangs_71 : decode cX1_hangs 71 = .ok (.ireturn, 1) := by decide +kernel
theorem dX1_hangs_72 : decode cX1_hangs 72 = .ok (.iinc 4 1, 3) := by decide +kernel
theorem dX1_hangs_75 : decode cX1_hangs 75 = .ok (.goto (-37), 3) := by decide +kernel
theorem dX1_hangs_78 : decode cX1_hangs 78 = .ok (.iconst 0, 1) := by decide +kernel
theorem dX1_hangs_79 : decode cX1_hangs 79 = .ok (.ireturn, 1) := by decide +kernel
theorem dX1_twinStands_0 : decode cX1_twinStands 0 = .ok (.aload_n 0, 1) := by decide +kernel
theorem dX1_twinStands_1 : decode cX1_twinStands 1 = .ok (.getfield 21, 3) := by decide +kernel
theorem dX1_twinStands_4 : decode cX1_twinStands 4 = .ok (.aload_n 0, 1) := by decide +kernel
theorem dX1_twinStands_5 : decode cX1_twinStands 5 = .ok (.getfield 14, 3) := by decide +kernel
theorem dX1_twinStands_8 : decode cX1_twinStands 8 = .ok (.getfield 61, 3) := by decide +kernel
theorem dX1_twinStands_11 : decode cX1_twinStands 11 = .ok (.if_icmp .ne 7, 3) := by decide +kernel
theorem dX1_twinStands_14 : decode cX1_twinStands 14 = .ok (.iconst 1, 1) := by decide +kernel
theorem dX1_twinStands_15 : decode cX1_twinStands 15 = .ok (.goto 4, 3) := by decide +kernel
theorem dX1_twinStands_18 : decode cX1_twinStands 18 = .ok (.iconst 0, 1) := by decide +kernel
theorem dX1_twinStands_19 : decode cX1_twinStands 19 = .ok (.ireturn, 1) := by decide +kernel
set_option maxRecDepth 20000 in
theorem ggX1_buildTwin_X0_clear : GoodIn wsX1_buildTwin wsX0_clear := goodIn_r _ [6, 7, 8, 65, 66, 67, 68, 69, 70, 71, 72] (by decide +kernel) (by decide +kernel)
set_option maxRecDepth 20000 in
theorem gX1_buildTwin_X0_clear_n114 : GoodIn wsX1_buildTwin (wsX0_clear) := ggX1_buildTwin_X0_clear
set_option maxRecDepth 20000 in
theorem ggX1_buildTwin_X1_twinInputs : GoodIn wsX1_buildTwin wsX1_twinInputs := goodIn_r _ [13, 14, 15, 2, 1, 16, 4, 17, 18, 8, 19, 20, 7, 21, 22, 23, 24, 25, 26, 57, 58, 59, 60, 61, 62, 63, 64, 65, 66, 67, 68, 69, 70, 71, 72] (by decide +kernel) (by decide +kernel)
set_option maxRecDepth 20000 in
theorem gX1_buildTwin_X1_twinInputs : GoodIn wsX1_buildTwin (wsV RX1 117 RX1 yX1_twinInputs wsX1_twinInputs) := goodIn_app (goodIn_of _ (by decide +kernel)) ggX1_buildTwin_X1_twinInputs
set_option maxRecDepth 20000 in
theorem ggX1_buildTwin_X0_isGate : GoodIn wsX1_buildTwin wsX0_isGate := goodIn_r _ [29, 25, 65, 66, 67, 68, 69, 70, 71, 72] (by decide +kernel) (by decide +kernel)
set_option maxRecDepth 20000 in
theorem gX1_buildTwin_X0_isGate_n120 : GoodIn wsX1_buildTwin (wsX0_isGate) := ggX1_buildTwin_X0_isGate
set_option maxRecDepth 20000 in
theorem ggX1_buildTwin_X1_twinGate : GoodIn wsX1_buildTwin wsX1_twinGate := goodIn_r _ [33, 2, 15, 1, 14, 34, 35, 36, 12, 37, 38, 39, 40, 41, 4, 42, 43, 44, 45, 46, 47, 7, 48, 49, 50, 51, 25, 26, 8, 52, 21, 22, 23, 24, 53, 54, 55, 56, 57, 58, 59, 60, 61, 62, 63, 64, 65, 66, 67, 68, 69, 70, 71, 72] (by decide +kernel) (by decide +kernel)
set_option maxRecDepth 20000 in
theorem gX1_buildTwin_X1_twinGate : GoodIn wsX1_buildTwin (wsV RX1 123 RX1 yX1_twinGate wsX1_twinGate) := goodIn_app (goodIn_of _ (by decide +kernel)) ggX1_buildTwin_X1_twinGate
theorem dX1_buildTwin_0 : decode cX1_buildTwin 0 = .ok (.aload_n 0, 1) := by decide +kernel
theorem dX1_buildTwin_1 : decode cX1_buildTwin 1 = .ok (.getfield 18, 3) := by decide +kernel
theorem dX1_buildTwin_4 : decode cX1_buildTwin 4 = .ok (.invokevirtual 114, 3) := by decide +kernel
theorem dX1_buildTwin_7 : decode cX1_buildTwin 7 = .ok (.aload_n 0, 1) := by decide +kernel
theorem dX1_buildTwin_8 : decode cX1_buildTwin 8 = .ok (.invokevirtual 117, 3) := by decide +kernel
theorem dX1_buildTwin_11 : decode cX1_buildTwin 11 = .ok (.iconst 0, 1) := by decide +kernel
theorem dX1_buildTwin_12 : decode cX1_buildTwin 12 = .ok (.istore_n 1, 1) := by decide +kernel
theorem dX1_buildTwin_13 : decode cX1_buildTwin 13 = .ok (.iload_n 1, 1) := by decide +kernel
theorem dX1_buildTwin_14 : decode cX1_buildTwin 14 = .ok (.aload_n 0, 1) := by decide +kernel
theorem dX1_buildTwin_15 : decode cX1_buildTwin 15 = .ok (.getfield 14, 3) := by decide +kernel
theorem dX1_buildTwin_18 : decode cX1_buildTwin 18 = .ok (.getfield 61, 3) := by decide +kernel
theorem dX1_buildTwin_21 : decode cX1_buildTwin 21 = .ok (.if_icmp .ge 30, 3) := by decide +kernel
theorem dX1_buildTwin_24 : decode cX1_buildTwin 24 = .ok (.aload_n 0, 1) := by decide +kernel
theorem dX1_buildTwin_25 : decode cX1_buildTwin 25 = .ok (.getfield 14, 3) := by decide +kernel
theorem dX1_buildTwin_28 : decode cX1_buildTwin 28 = .ok (.iload_n 1, 1) := by decide +kernel
theorem dX1_buildTwin_29 : decode cX1_buildTwin 29 = .ok (.invokevirtual 120, 3) := by decide +kernel
theorem dX1_buildTwin_32 : decode cX1_buildTwin 32 = .ok (.ifCond .eq 13, 3) := by decide +kernel
theorem dX1_buildTwin_35 : decode cX1_buildTwin 35 = .ok (.aload_n 0, 1) := by decide +kernel
theorem dX1_buildTwin_36 : decode cX1_buildTwin 36 = .ok (.iload_n 1, 1) := by decide +kernel
theorem dX1_buildTwin_37 : decode cX1_buildTwin 37 = .ok (.invokevirtual 123, 3) := by decide +kernel
theorem dX1_buildTwin_40 : decode cX1_buildTwin 40 = .ok (.ifCond .ne 5, 3) := by decide +kernel
theorem dX1_buildTwin_43 : decode cX1_buildTwin 43 = .ok (.iconst 0, 1) := by decide +kernel
theorem dX1_buildTwin_44 : decode cX1_buildTwin 44 = .ok (.ireturn, 1) := by decide +kernel
theorem dX1_buildTwin_45 : decode cX1_buildTwin 45 = .ok (.iinc 1 1, 3) := by decide +kernel
theorem dX1_buildTwin_48 : decode cX1_buildTwin 48 = .ok (.goto (-35), 3) := by decide +kernel
theorem dX1_buildTwin_51 : decode cX1_buildTwin 51 = .ok (.iconst 1, 1) := by decide +kernel
theorem dX1_buildTwin_52 : decode cX1_buildTwin 52 = .ok (.ireturn, 1) := by decide +kernel
set_option maxRecDepth 20000 in
theorem ggX1_twinInputs_X0_addInput : GoodIn wsX1_twinInputs wsX0_addInput := goodIn_r _ [8, 9, 10, 11, 12, 13, 14, 15, 6, 16, 17, 18, 27, 28, 29, 30, 31, 32, 33, 34] (by decide +kernel) (by decide +kernel)
set_option maxRecDepth 20000 in
theorem gX1_twinInputs_X0_addInput_n42 : GoodIn wsX1_twinInputs (wsX0_addInput) := ggX1_twinInputs_X0_addInput
theorem dX1_twinInputs_0 : decode cX1_twinInputs 0 = .ok (.aload_n 0, 1) := by decide +kernel
theorem dX1_twinInputs_1 : decode cX1_twinInputs 1 = .ok (.getfield 25, 3) := by decide +kernel
theorem dX1_twinInputs_4 : decode cX1_twinInputs 4 = .ok (.iconst 0, 1) := by decide +kernel
theorem dX1_twinInputs_5 : decode cX1_twinInputs 5 = .ok (.iconst 0, 1) := by decide +kernel
theorem dX1_twinInputs_6 : decode cX1_twinInputs 6 = .ok (.iastore, 1) := by decide +kernel
theorem dX1_twinInputs_7 : decode cX1_twinInputs 7 = .ok (.aload_n 0, 1) := by decide +kernel
theorem dX1_twinInputs_8 : decode cX1_twinInputs 8 = .ok (.getfield 29, 3) := by decide +kernel
theorem dX1_twinInputs_11 : decode cX1_twinInputs 11 = .ok (.iconst 0, 1) := by decide +kernel
theorem dX1_twinInputs_12 : decode cX1_twinInputs 12 = .ok (.iconst 0, 1) := by decide +kernel
theorem dX1_twinInputs_13 : decode cX1_twinInputs 13 = .ok (.iastore, 1) := by decide +kernel
theorem dX1_twinInputs_14 : decode cX1_twinInputs 14 = .ok (.iconst 0, 1) := by decide +kernel
theorem dX1_twinInputs_15 : decode cX1_twinInputs 15 = .ok (.istore_n 1, 1) := by decide +kernel
theorem dX1_twinInputs_16 : decode cX1_twinInputs 16 = .ok (.iload_n 1, 1) := by decide +kernel
theorem dX1_twinInputs_17 : decode cX1_twinInputs 17 = .ok (.aload_n 0, 1) := by decide +kernel
theorem dX1_twinInputs_18 : decode cX1_twinInputs 18 = .ok (.getfield 14, 3) := by decide +kernel
theorem dX1_twinInputs_21 : decode cX1_twinInputs 21 = .ok (.getfield 84, 3) := by decide +kernel
theorem dX1_twinInputs_24 : decode cX1_twinInputs 24 = .ok (.if_icmp .ge 30, 3) := by decide +kernel
theorem dX1_twinInputs_27 : decode cX1_twinInputs 27 = .ok (.aload_n 0, 1) := by decide +kernel
theorem dX1_twinInputs_28 : decode cX1_twinInputs 28 = .ok (.getfield 25, 3) := by decide +kernel
theorem dX1_twinInputs_31 : decode cX1_twinInputs 31 = .ok (.aload_n 0, 1) := by decide +kernel
theorem dX1_twinInputs_32 : decode cX1_twinInputs 32 = .ok (.getfield 14, 3) := by decide +kernel
theorem dX1_twinInputs_35 : decode cX1_twinInputs 35 = .ok (.getfield 126, 3) := by decide +kernel
theorem dX1_twinInputs_38 : decode cX1_twinInputs 38 = .ok (.iload_n 1, 1) := by decide +kernel
theorem dX1_twinInputs_39 : decode cX1_twinInputs 39 = .ok (.iaload, 1) := by decide +kernel
theorem dX1_twinInputs_40 : decode cX1_twinInputs 40 = .ok (.aload_n 0, 1) := by decide +kernel
theorem dX1_twinInputs_41 : decode cX1_twinInputs 41 = .ok (.getfield 18, 3) := by decide +kernel
theorem dX1_twinInputs_44 : decode cX1_twinInputs 44 = .ok (.invokevirtual 42, 3) := by decide +kernel
theorem dX1_twinInputs_47 : decode cX1_twinInputs 47 = .ok (.iastore, 1) := by decide +kernel
theorem dX1_twinInputs_48 : decode cX1_twinInputs 48 = .ok (.iinc 1 1, 3) := by decide +kernel
theorem dX1_twinInputs_51 : decode cX1_twinInputs 51 = .ok (.goto (-35), 3) := by decide +kernel
theorem dX1_twinInputs_54 : decode cX1_twinInputs 54 = .ok (.iconst 0, 1) := by decide +kernel
theorem dX1_twinInputs_55 : decode cX1_twinInputs 55 = .ok (.istore_n 1, 1) := by decide +kernel
theorem dX1_twinInputs_56 : decode cX1_twinInputs 56 = .ok (.iload_n 1, 1) := by decide +kernel
theorem dX1_twinInputs_57 : decode cX1_twinInputs 57 = .ok (.aload_n 0, 1) := by decide +kernel
theorem dX1_twinInputs_58 : decode cX1_twinInputs 58 = .ok (.getfield 14, 3) := by decide +kernel
theorem dX1_twinInputs_61 : decode cX1_twinInputs 61 = .ok (.getfield 84, 3) := by decide +kernel
theorem dX1_twinInputs_64 : decode cX1_twinInputs 64 = .ok (.if_icmp .ge 30, 3) := by decide +kernel
theorem dX1_twinInputs_67 : decode cX1_twinInputs 67 = .ok (.aload_n 0, 1) := by decide +kernel
theorem dX1_twinInputs_68 : decode cX1_twinInputs 68 = .ok (.getfield 29, 3) := by decide +kernel
theorem dX1_twinInputs_71 : decode cX1_twinInputs 71 = .ok (.aload_n 0, 1) := by decide +kernel
theorem dX1_twinInputs_72 : decode cX1_twinInputs 72 = .ok (.getfield 14, 3) := by decide +kernel
theorem dX1_twinInputs_75 : decode cX1_twinInputs 75 = .ok (.getfield 126, 3) := by decide +kernel
theorem dX1_twinInputs_78 : decode cX1_twinInputs 78 = .ok (.iload_n 1, 1) := by decide +kernel
theorem dX1_twinInputs_79 : decode cX1_twinInputs 79 = .ok (.iaload, 1) := by decide +kernel
theorem dX1_twinInputs_80 : decode cX1_twinInputs 80 = .ok (.aload_n 0, 1) := by decide +kernel
theorem dX1_twinInputs_81 : decode cX1_twinInputs 81 = .ok (.getfield 18, 3) := by decide +kernel
theorem dX1_twinInputs_84 : decode cX1_twinInputs 84 = .ok (.invokevirtual 42, 3) := by decide +kernel
theorem dX1_twinInputs_87 : decode cX1_twinInputs 87 = .ok (.iastore, 1) := by decide +kernel
theorem dX1_twinInputs_88 : decode cX1_twinInputs 88 = .ok (.iinc 1 1, 3) := by decide +kernel
theorem dX1_twinInputs_91 : decode cX1_twinInputs 91 = .ok (.goto (-35), 3) := by decide +kernel
theorem dX1_twinInputs_94 : decode cX1_twinInputs 94 = .ok (.return_, 1) := by decide +kernel
set_option maxRecDepth 20000 in
theorem ggX1_twinGate_X1_valueInTwin : GoodIn wsX1_twinGate wsX1_valueInTwin := goodIn_r _ [9, 4, 10, 11, 8, 12, 38, 39, 40, 41, 42, 43, 44, 45] (by decide +kernel) (by decide +kernel)
set_option maxRecDepth 20000 in
theorem gX1_twinGate_X1_valueInTwin : GoodIn wsX1_twinGate (wsV RX1 81 RX1 yX1_valueInTwin wsX1_valueInTwin) := goodIn_app (goodIn_of _ (by decide +kernel)) ggX1_twinGate_X1_valueInTwin
set_option maxRecDepth 20000 in
theorem ggX1_twinGate_X0_both : GoodIn wsX1_twinGate wsX0_both := goodIn_r _ [16, 17, 18, 19, 14, 20, 21, 11, 8, 12, 22, 23, 24, 25, 26, 27, 28, 29, 30, 31, 32, 33, 46, 47, 48, 49, 50, 51, 52, 53] (by decide +kernel) (by decide +kernel)
set_option maxRecDepth 20000 in
theorem gX1_twinGate_X0_both_n46 : GoodIn wsX1_twinGate (wsX0_both) := ggX1_twinGate_X0_both
set_option maxRecDepth 20000 in
theorem ggX1_twinGate_X0_either : GoodIn wsX1_twinGate wsX0_either := goodIn_r _ [36, 11, 8, 12, 37, 13, 15, 14, 16, 17, 18, 19, 20, 21, 22, 23, 24, 25, 26, 27, 28, 29, 30, 31, 32, 33, 46, 47, 48, 49, 50, 51, 52, 53] (by decide +kernel) (by decide +kernel)
set_option maxRecDepth 20000 in
theorem gX1_twinGate_X0_either_n50 : GoodIn wsX1_twinGate (wsX0_either) := ggX1_twinGate_X0_either
theorem dX1_twinGate_0 : decode cX1_twinGate 0 = .ok (.aload_n 0, 1) := by decide +kernel
theorem dX1_twinGate_1 : decode cX1_twinGate 1 = .ok (.aload_n 0, 1) := by decide +kernel
theorem dX1_twinGate_2 : decode cX1_twinGate 2 = .ok (.getfield 14, 3) := by decide +kernel
theorem dX1_twinGate_5 : decode cX1_twinGate 5 = .ok (.getfield 72, 3) := by decide +kernel
theorem dX1_twinGate_8 : decode cX1_twinGate 8 = .ok (.iload_n 1, 1) := by decide +kernel
theorem dX1_twinGate_9 : decode cX1_twinGate 9 = .ok (.iaload, 1) := by decide +kernel
theorem dX1_twinGate_10 : decode cX1_twinGate 10 = .ok (.invokevirtual 81, 3) := by decide +kernel
theorem dX1_twinGate_13 : decode cX1_twinGate 13 = .ok (.istore_n 2, 1) := by decide +kernel
theorem dX1_twinGate_14 : decode cX1_twinGate 14 = .ok (.aload_n 0, 1) := by decide +kernel
theorem dX1_twinGate_15 : decode cX1_twinGate 15 = .ok (.aload_n 0, 1) := by decide +kernel
theorem dX1_twinGate_16 : decode cX1_twinGate 16 = .ok (.getfield 14, 3) := by decide +kernel
theorem dX1_twinGate_19 : decode cX1_twinGate 19 = .ok (.getfield 75, 3) := by decide +kernel
theorem dX1_twinGate_22 : decode cX1_twinGate 22 = .ok (.iload_n 1, 1) := by decide +kernel
theorem dX1_twinGate_23 : decode cX1_twinGate 23 = .ok (.iaload, 1) := by decide +kernel
theorem dX1_twinGate_24 : decode cX1_twinGate 24 = .ok (.invokevirtual 81, 3) := by decide +kernel
theorem dX1_twinGate_27 : decode cX1_twinGate 27 = .ok (.istore_n 3, 1) := by decide +kernel
theorem dX1_twinGate_28 : decode cX1_twinGate 28 = .ok (.aload_n 0, 1) := by decide +kernel
theorem dX1_twinGate_29 : decode cX1_twinGate 29 = .ok (.getfield 29, 3) := by decide +kernel
theorem dX1_twinGate_32 : decode cX1_twinGate 32 = .ok (.aload_n 0, 1) := by decide +kernel
theorem dX1_twinGate_33 : decode cX1_twinGate 33 = .ok (.getfield 14, 3) := by decide +kernel
theorem dX1_twinGate_36 : decode cX1_twinGate 36 = .ok (.getfield 72, 3) := by decide +kernel
theorem dX1_twinGate_39 : decode cX1_twinGate 39 = .ok (.iload_n 1, 1) := by decide +kernel
theorem dX1_twinGate_40 : decode cX1_twinGate 40 = .ok (.iaload, 1) := by decide +kernel
theorem dX1_twinGate_41 : decode cX1_twinGate 41 = .ok (.iconst 1, 1) := by decide +kernel
theorem dX1_twinGate_42 : decode cX1_twinGate 42 = .ok (.ishr, 1) := by decide +kernel
theorem dX1_twinGate_43 : decode cX1_twinGate 43 = .ok (.iaload, 1) := by decide +kernel
theorem dX1_twinGate_44 : decode cX1_twinGate 44 = .ok (.istore 4, 2) := by decide +kernel
theorem dX1_twinGate_46 : decode cX1_twinGate 46 = .ok (.aload_n 0, 1) := by decide +kernel
theorem dX1_twinGate_47 : decode cX1_twinGate 47 = .ok (.getfield 29, 3) := by decide +kernel
theorem dX1_twinGate_50 : decode cX1_twinGate 50 = .ok (.aload_n 0, 1) := by decide +kernel
theorem dX1_twinGate_51 : decode cX1_twinGate 51 = .ok (.getfield 14, 3) := by decide +kernel
theorem dX1_twinGate_54 : decode cX1_twinGate 54 = .ok (.getfield 75, 3) := by decide +kernel
theorem dX1_twinGate_57 : decode cX1_twinGate 57 = .ok (.iload_n 1, 1) := by decide +kernel
theorem dX1_twinGate_58 : decode cX1_twinGate 58 = .ok (.iaload, 1) := by decide +kernel
theorem dX1_twinGate_59 : decode cX1_twinGate 59 = .ok (.iconst 1, 1) := by decide +kernel
theorem dX1_twinGate_60 : decode cX1_twinGate 60 = .ok (.ishr, 1) := by decide +kernel
theorem dX1_twinGate_61 : decode cX1_twinGate 61 = .ok (.iaload, 1) := by decide +kernel
theorem dX1_twinGate_62 : decode cX1_twinGate 62 = .ok (.istore 5, 2) := by decide +kernel
theorem dX1_twinGate_64 : decode cX1_twinGate 64 = .ok (.aload_n 0, 1) := by decide +kernel
theorem dX1_twinGate_65 : decode cX1_twinGate 65 = .ok (.getfield 18, 3) := by decide +kernel
theorem dX1_twinGate_68 : decode cX1_twinGate 68 = .ok (.iload_n 2, 1) := by decide +kernel
theorem dX1_twinGate_69 : decode cX1_twinGate 69 = .ok (.iload_n 3, 1) := by decide +kernel
theorem dX1_twinGate_70 : decode cX1_twinGate 70 = .ok (.invokevirtual 46, 3) := by decide +kernel
theorem dX1_twinGate_73 : decode cX1_twinGate 73 = .ok (.istore 6, 2) := by decide +kernel
theorem dX1_twinGate_75 : decode cX1_twinGate 75 = .ok (.aload_n 0, 1) := by decide +kernel
theorem dX1_twinGate_76 : decode cX1_twinGate 76 = .ok (.getfield 18, 3) := by decide +kernel
theorem dX1_twinGate_79 : decode cX1_twinGate 79 = .ok (.iload 4, 2) := by decide +kernel
theorem dX1_twinGate_81 : decode cX1_twinGate 81 = .ok (.iload_n 3, 1) := by decide +kernel
theorem dX1_twinGate_82 : decode cX1_twinGate 82 = .ok (.invokevirtual 46, 3) := by decide +kernel
theorem dX1_twinGate_85 : decode cX1_twinGate 85 = .ok (.istore 7, 2) := by decide +kernel
theorem dX1_twinGate_87 : decode cX1_twinGate 87 = .ok (.aload_n 0, 1) := by decide +kernel
theorem dX1_twinGate_88 : decode cX1_twinGate 88 = .ok (.getfield 18, 3) := by decide +kernel
theorem dX1_twinGate_91 : decode cX1_twinGate 91 = .ok (.iload 5, 2) := by decide +kernel
theorem dX1_twinGate_93 : decode cX1_twinGate 93 = .ok (.iload_n 2, 1) := by decide +kernel
theorem dX1_twinGate_94 : decode cX1_twinGate 94 = .ok (.invokevirtual 46, 3) := by decide +kernel
theorem dX1_twinGate_97 : decode cX1_twinGate 97 = .ok (.istore 8, 2) := by decide +kernel
theorem dX1_twinGate_99 : decode cX1_twinGate 99 = .ok (.aload_n 0, 1) := by decide +kernel
theorem dX1_twinGate_100 : decode cX1_twinGate 100 = .ok (.getfield 18, 3) := by decide +kernel
theorem dX1_twinGate_103 : decode cX1_twinGate 103 = .ok (.iload 7, 2) := by decide +kernel
theorem dX1_twinGate_105 : decode cX1_twinGate 105 = .ok (.iload 8, 2) := by decide +kernel
theorem dX1_twinGate_107 : decode cX1_twinGate 107 = .ok (.invokevirtual 50, 3) := by decide +kernel
theorem dX1_twinGate_110 : decode cX1_twinGate 110 = .ok (.istore 9, 2) := by decide +kernel
theorem dX1_twinGate_112 : decode cX1_twinGate 112 = .ok (.aload_n 0, 1) := by decide +kernel
theorem dX1_twinGate_113 : decode cX1_twinGate 113 = .ok (.getfield 18, 3) := by decide +kernel
theorem dX1_twinGate_116 : decode cX1_twinGate 116 = .ok (.iload 4, 2) := by decide +kernel
theorem dX1_twinGate_118 : decode cX1_twinGate 118 = .ok (.iload 5, 2) := by decide +kernel
theorem dX1_twinGate_120 : decode cX1_twinGate 120 = .ok (.invokevirtual 46, 3) := by decide +kernel
theorem dX1_twinGate_123 : decode cX1_twinGate 123 = .ok (.istore 10, 2) := by decide +kernel
theorem dX1_twinGate_125 : decode cX1_twinGate 125 = .ok (.aload_n 0, 1) := by decide +kernel
theorem dX1_twinGate_126 : decode cX1_twinGate 126 = .ok (.getfield 18, 3) := by decide +kernel
theorem dX1_twinGate_129 : decode cX1_twinGate 129 = .ok (.iload 9, 2) := by decide +kernel
theorem dX1_twinGate_131 : decode cX1_twinGate 131 = .ok (.iload 10, 2) := by decide +kernel
theorem dX1_twinGate_133 : decode cX1_twinGate 133 = .ok (.invokevirtual 50, 3) := by decide +kernel
theorem dX1_twinGate_136 : decode cX1_twinGate 136 = .ok (.istore 11, 2) := by decide +kernel
theorem dX1_twinGate_138 : decode cX1_twinGate 138 = .ok (.aload_n 0, 1) := by decide +kernel
theorem dX1_twinGate_139 : decode cX1_twinGate 139 = .ok (.getfield 25, 3) := by decide +kernel
theorem dX1_twinGate_142 : decode cX1_twinGate 142 = .ok (.iload_n 1, 1) := by decide +kernel
theorem dX1_twinGate_143 : decode cX1_twinGate 143 = .ok (.iload 6, 2) := by decide +kernel
theorem dX1_twinGate_145 : decode cX1_twinGate 145 = .ok (.iastore, 1) := by decide +kernel
theorem dX1_twinGate_146 : decode cX1_twinGate 146 = .ok (.aload_n 0, 1) := by decide +kernel
theorem dX1_twinGate_147 : decode cX1_twinGate 147 = .ok (.getfield 29, 3) := by decide +kernel
theorem dX1_twinGate_150 : decode cX1_twinGate 150 = .ok (.iload_n 1, 1) := by decide +kernel
theorem dX1_twinGate_151 : decode cX1_twinGate 151 = .ok (.iload 11, 2) := by decide +kernel
theorem dX1_twinGate_153 : decode cX1_twinGate 153 = .ok (.iastore, 1) := by decide +kernel
theorem dX1_twinGate_154 : decode cX1_twinGate 154 = .ok (.iload 6, 2) := by decide +kernel
theorem dX1_twinGate_156 : decode cX1_twinGate 156 = .ok (.iconst (-1), 1) := by decide +kernel
theorem dX1_twinGate_157 : decode cX1_twinGate 157 = .ok (.if_icmp .eq 13, 3) := by decide +kernel
theorem dX1_twinGate_160 : decode cX1_twinGate 160 = .ok (.iload 11, 2) := by decide +kernel
theorem dX1_twinGate_162 : decode cX1_twinGate 162 = .ok (.iconst (-1), 1) := by decide +kernel
theorem dX1_twinGate_163 : decode cX1_twinGate 163 = .ok (.if_icmp .eq 7, 3) := by decide +kernel
theorem dX1_twinGate_166 : decode cX1_twinGate 166 = .ok (.iconst 1, 1) := by decide +kernel
theorem dX1_twinGate_167 : decode cX1_twinGate 167 = .ok (.goto 4, 3) := by decide +kernel
theorem dX1_twinGate_170 : decode cX1_twinGate 170 = .ok (.iconst 0, 1) := by decide +kernel
theorem dX1_twinGate_171 : decode cX1_twinGate 171 = .ok (.ireturn, 1) := by decide +kernel
set_option maxRecDepth 20000 in
theorem ggX1_valueInTwin_X1_not : GoodIn wsX1_valueInTwin wsX1_not := goodIn_r _ [5] (by decide +kernel) (by decide +kernel)
set_option maxRecDepth 20000 in
theorem gX1_valueInTwin_X1_not : GoodIn wsX1_valueInTwin (va_wsS RX1 53 yX1_not wsX1_not) := goodIn_app (goodIn_of _ (by decide +kernel)) ggX1_valueInTwin_X1_not
theorem dX1_valueInTwin_0 : decode cX1_valueInTwin 0 = .ok (.aload_n 0, 1) := by decide +kernel
theorem dX1_valueInTwin_1 : decode cX1_valueInTwin 1 = .ok (.getfield 25, 3) := by decide +kernel
theorem dX1_valueInTwin_4 : decode cX1_valueInTwin 4 = .ok (.iload_n 1, 1) := by decide +kernel
theorem dX1_valueInTwin_5 : decode cX1_valueInTwin 5 = .ok (.iconst 1, 1) := by decide +kernel
theorem dX1_valueInTwin_6 : decode cX1_valueInTwin 6 = .ok (.ishr, 1) := by decide +kernel
theorem dX1_valueInTwin_7 : decode cX1_valueInTwin 7 = .ok (.iaload, 1) := by decide +kernel
theorem dX1_valueInTwin_8 : decode cX1_valueInTwin 8 = .ok (.istore_n 2, 1) := by decide +kernel
theorem dX1_valueInTwin_9 : decode cX1_valueInTwin 9 = .ok (.iload_n 1, 1) := by decide +kernel
theorem dX1_valueInTwin_10 : decode cX1_valueInTwin 10 = .ok (.iconst 1, 1) := by decide +kernel
theorem dX1_valueInTwin_11 : decode cX1_valueInTwin 11 = .ok (.iand, 1) := by decide +kernel
theorem dX1_valueInTwin_12 : decode cX1_valueInTwin 12 = .ok (.ifCond .ne 7, 3) := by decide +kernel
theorem dX1_valueInTwin_15 : decode cX1_valueInTwin 15 = .ok (.iload_n 2, 1) := by decide +kernel
theorem dX1_valueInTwin_16 : decode cX1_valueInTwin 16 = .ok (.goto 7, 3) := by decide +kernel
theorem dX1_valueInTwin_19 : decode cX1_valueInTwin 19 = .ok (.iload_n 2, 1) := by decide +kernel
theorem dX1_valueInTwin_20 : decode cX1_valueInTwin 20 = .ok (.invokestatic 53, 3) := by decide +kernel
theorem dX1_valueInTwin_23 : decode cX1_valueInTwin 23 = .ok (.ireturn, 1) := by decide +kernel
set_option maxRecDepth 20000 in
theorem ggX1_spreadNet_X1_wordOfBit : GoodIn wsX1_spreadNet wsX1_wordOfBit := goodIn_r _ [6, 7] (by decide +kernel) (by decide +kernel)
set_option maxRecDepth 20000 in
theorem gX1_spreadNet_X1_wordOfBit : GoodIn wsX1_spreadNet (va_wsS RX1 132 yX1_wordOfBit wsX1_wordOfBit) := goodIn_app (goodIn_of _ (by decide +kernel)) ggX1_spreadNet_X1_wordOfBit
set_option maxRecDepth 20000 in
theorem ggX1_spreadNet_X0_spread : GoodIn wsX1_spreadNet wsX0_spread := goodIn_r _ [11, 12, 13, 14, 15, 16, 17, 18, 9, 19, 20, 21, 22, 23, 24, 33, 34, 35, 36, 37, 38, 39, 40] (by decide +kernel) (by decide +kernel)
set_option maxRecDepth 20000 in
theorem gX1_spreadNet_X0_spread_n111 : GoodIn wsX1_spreadNet (wsX0_spread) := ggX1_spreadNet_X0_spread
theorem dX1_spreadNet_0 : decode cX1_spreadNet 0 = .ok (.iconst 0, 1) := by decide +kernel
theorem dX1_spreadNet_1 : decode cX1_spreadNet 1 = .ok (.istore_n 1, 1) := by decide +kernel
theorem dX1_spreadNet_2 : decode cX1_spreadNet 2 = .ok (.iload_n 1, 1) := by decide +kernel
theorem dX1_spreadNet_3 : decode cX1_spreadNet 3 = .ok (.aload_n 0, 1) := by decide +kernel
theorem dX1_spreadNet_4 : decode cX1_spreadNet 4 = .ok (.getfield 14, 3) := by decide +kernel
theorem dX1_spreadNet_7 : decode cX1_spreadNet 7 = .ok (.getfield 84, 3) := by decide +kernel
theorem dX1_spreadNet_10 : decode cX1_spreadNet 10 = .ok (.if_icmp .ge 35, 3) := by decide +kernel
theorem dX1_spreadNet_13 : decode cX1_spreadNet 13 = .ok (.aload_n 0, 1) := by decide +kernel
theorem dX1_spreadNet_14 : decode cX1_spreadNet 14 = .ok (.getfield 14, 3) := by decide +kernel
theorem dX1_spreadNet_17 : decode cX1_spreadNet 17 = .ok (.getfield 129, 3) := by decide +kernel
theorem dX1_spreadNet_20 : decode cX1_spreadNet 20 = .ok (.aload_n 0, 1) := by decide +kernel
theorem dX1_spreadNet_21 : decode cX1_spreadNet 21 = .ok (.getfield 14, 3) := by decide +kernel
theorem dX1_spreadNet_24 : decode cX1_spreadNet 24 = .ok (.getfield 126, 3) := by decide +kernel
theorem dX1_spreadNet_27 : decode cX1_spreadNet 27 = .ok (.iload_n 1, 1) := by decide +kernel
theorem dX1_spreadNet_28 : decode cX1_spreadNet 28 = .ok (.iaload, 1) := by decide +kernel
theorem dX1_spreadNet_29 : decode cX1_spreadNet 29 = .ok (.aload_n 0, 1) := by decide +kernel
theorem dX1_spreadNet_30 : decode cX1_spreadNet 30 = .ok (.getfield 32, 3) := by decide +kernel
theorem dX1_spreadNet_33 : decode cX1_spreadNet 33 = .ok (.iload_n 1, 1) := by decide +kernel
theorem dX1_spreadNet_34 : decode cX1_spreadNet 34 = .ok (.iaload, 1) := by decide +kernel
theorem dX1_spreadNet_35 : decode cX1_spreadNet 35 = .ok (.invokestatic 132, 3) := by decide +kernel
theorem dX1_spreadNet_38 : decode cX1_spreadNet 38 = .ok (.lastore, 1) := by decide +kernel
theorem dX1_spreadNet_39 : decode cX1_spreadNet 39 = .ok (.iinc 1 1, 3) := by decide +kernel
theorem dX1_spreadNet_42 : decode cX1_spreadNet 42 = .ok (.goto (-40), 3) := by decide +kernel
theorem dX1_spreadNet_45 : decode cX1_spreadNet 45 = .ok (.aload_n 0, 1) := by decide +kernel
theorem dX1_spreadNet_46 : decode cX1_spreadNet 46 = .ok (.getfield 14, 3) := by decide +kernel
theorem dX1_spreadNet_49 : decode cX1_spreadNet 49 = .ok (.invokevirtual 111, 3) := by decide +kernel
theorem dX1_spreadNet_52 : decode cX1_spreadNet 52 = .ok (.return_, 1) := by decide +kernel
set_option maxRecDepth 20000 in
theorem ggX1_spreadTwin_X1_wordOfBit : GoodIn wsX1_spreadTwin wsX1_wordOfBit := goodIn_r _ [8, 9] (by decide +kernel) (by decide +kernel)
set_option maxRecDepth 20000 in
theorem gX1_spreadTwin_X1_wordOfBit : GoodIn wsX1_spreadTwin (va_wsS RX1 132 yX1_wordOfBit wsX1_wordOfBit) := goodIn_app (goodIn_of _ (by decide +kernel)) ggX1_spreadTwin_X1_wordOfBit
set_option maxRecDepth 20000 in
theorem ggX1_spreadTwin_X0_spread : GoodIn wsX1_spreadTwin wsX0_spread := goodIn_r _ [13, 14, 15, 16, 17, 18, 19, 20, 11, 21, 22, 23, 24, 25, 26, 35, 36, 37, 38, 39, 40, 41, 42] (by decide +kernel) (by decide +kernel)
set_option maxRecDepth 20000 in
theorem gX1_spreadTwin_X0_spread_n111 : GoodIn wsX1_spreadTwin (wsX0_spread) := ggX1_spreadTwin_X0_spread
theorem dX1_spreadTwin_0 : decode cX1_spreadTwin 0 = .ok (.aload_n 0, 1) := by decide +kernel
theorem dX1_spreadTwin_1 : decode cX1_spreadTwin 1 = .ok (.getfield 14, 3) := by decide +kernel
theorem dX1_spreadTwin_4 : decode cX1_spreadTwin 4 = .ok (.getfield 84, 3) := by decide +kernel
theorem dX1_spreadTwin_7 : decode cX1_spreadTwin 7 = .ok (.istore_n 1, 1) := by decide +kernel
theorem dX1_spreadTwin_8 : decode cX1_spreadTwin 8 = .ok (.iconst 0, 1) := by decide +kernel
theorem dX1_spreadTwin_9 : decode cX1_spreadTwin 9 = .ok (.istore_n 2, 1) := by decide +kernel
theorem dX1_spreadTwin_10 : decode cX1_spreadTwin 10 = .ok (.iload_n 2, 1) := by decide +kernel
theorem dX1_spreadTwin_11 : decode cX1_spreadTwin 11 = .ok (.iload_n 1, 1) := by decide +kernel
theorem dX1_spreadTwin_12 : decode cX1_spreadTwin 12 = .ok (.if_icmp .ge 63, 3) := by decide +kernel
theorem dX1_spreadTwin_15 : decode cX1_spreadTwin 15 = .ok (.aload_n 0, 1) := by decide +kernel
theorem dX1_spreadTwin_16 : decode cX1_spreadTwin 16 = .ok (.getfield 18, 3) := by decide +kernel
theorem dX1_spreadTwin_19 : decode cX1_spreadTwin 19 = .ok (.getfield 129, 3) := by decide +kernel
theorem dX1_spreadTwin_22 : decode cX1_spreadTwin 22 = .ok (.aload_n 0, 1) := by decide +kernel
theorem dX1_spreadTwin_23 : decode cX1_spreadTwin 23 = .ok (.getfield 18, 3) := by decide +kernel
theorem dX1_spreadTwin_26 : decode cX1_spreadTwin 26 = .ok (.getfield 126, 3) := by decide +kernel
theorem dX1_spreadTwin_29 : decode cX1_spreadTwin 29 = .ok (.iload_n 2, 1) := by decide +kernel
theorem dX1_spreadTwin_30 : decode cX1_spreadTwin 30 = .ok (.iaload, 1) := by decide +kernel
theorem dX1_spreadTwin_31 : decode cX1_spreadTwin 31 = .ok (.aload_n 0, 1) := by decide +kernel
theorem dX1_spreadTwin_32 : decode cX1_spreadTwin 32 = .ok (.getfield 32, 3) := by decide +kernel
theorem dX1_spreadTwin_35 : decode cX1_spreadTwin 35 = .ok (.iload_n 2, 1) := by decide +kernel
theorem dX1_spreadTwin_36 : decode cX1_spreadTwin 36 = .ok (.iaload, 1) := by decide +kernel
theorem dX1_spreadTwin_37 : decode cX1_spreadTwin 37 = .ok (.invokestatic 132, 3) := by decide +kernel
theorem dX1_spreadTwin_40 : decode cX1_spreadTwin 40 = .ok (.lastore, 1) := by decide +kernel
theorem dX1_spreadTwin_41 : decode cX1_spreadTwin 41 = .ok (.aload_n 0, 1) := by decide +kernel
theorem dX1_spreadTwin_42 : decode cX1_spreadTwin 42 = .ok (.getfield 18, 3) := by decide +kernel
theorem dX1_spreadTwin_45 : decode cX1_spreadTwin 45 = .ok (.getfield 129, 3) := by decide +kernel
theorem dX1_spreadTwin_48 : decode cX1_spreadTwin 48 = .ok (.aload_n 0, 1) := by decide +kernel
theorem dX1_spreadTwin_49 : decode cX1_spreadTwin 49 = .ok (.getfield 18, 3) := by decide +kernel
theorem dX1_spreadTwin_52 : decode cX1_spreadTwin 52 = .ok (.getfield 126, 3) := by decide +kernel
theorem dX1_spreadTwin_55 : decode cX1_spreadTwin 55 = .ok (.iload_n 1, 1) := by decide +kernel
theorem dX1_spreadTwin_56 : decode cX1_spreadTwin 56 = .ok (.iload_n 2, 1) := by decide +kernel
theorem dX1_spreadTwin_57 : decode cX1_spreadTwin 57 = .ok (.iadd, 1) := by decide +kernel
theorem dX1_spreadTwin_58 : decode cX1_spreadTwin 58 = .ok (.iaload, 1) := by decide +kernel
theorem dX1_spreadTwin_59 : decode cX1_spreadTwin 59 = .ok (.aload_n 0, 1) := by decide +kernel
theorem dX1_spreadTwin_60 : decode cX1_spreadTwin 60 = .ok (.getfield 35, 3) := by decide +kernel
theorem dX1_spreadTwin_63 : decode cX1_spreadTwin 63 = .ok (.iload_n 2, 1) := by decide +kernel
theorem dX1_spreadTwin_64 : decode cX1_spreadTwin 64 = .ok (.iaload, 1) := by decide +kernel
theorem dX1_spreadTwin_65 : decode cX1_spreadTwin 65 = .ok (.invokestatic 132, 3) := by decide +kernel
theorem dX1_spreadTwin_68 : decode cX1_spreadTwin 68 = .ok (.lastore, 1) := by decide +kernel
theorem dX1_spreadTwin_69 : decode cX1_spreadTwin 69 = .ok (.iinc 2 1, 3) := by decide +kernel
theorem dX1_spreadTwin_72 : decode cX1_spreadTwin 72 = .ok (.goto (-62), 3) := by decide +kernel
theorem dX1_spreadTwin_75 : decode cX1_spreadTwin 75 = .ok (.aload_n 0, 1) := by decide +kernel
theorem dX1_spreadTwin_76 : decode cX1_spreadTwin 76 = .ok (.getfield 18, 3) := by decide +kernel
theorem dX1_spreadTwin_79 : decode cX1_spreadTwin 79 = .ok (.invokevirtual 111, 3) := by decide +kernel
theorem dX1_spreadTwin_82 : decode cX1_spreadTwin 82 = .ok (.return_, 1) := by decide +kernel
set_option maxRecDepth 20000 in
theorem ggX1_spreadTaints_X1_wordOfBit : GoodIn wsX1_spreadTaints wsX1_wordOfBit := goodIn_r _ [7, 8] (by decide +kernel) (by decide +kernel)
set_option maxRecDepth 20000 in
theorem gX1_spreadTaints_X1_wordOfBit : GoodIn wsX1_spreadTaints (va_wsS RX1 132 yX1_wordOfBit wsX1_wordOfBit) := goodIn_app (goodIn_of _ (by decide +kernel)) ggX1_spreadTaints_X1_wordOfBit
set_option maxRecDepth 20000 in
theorem ggX1_spreadTaints_X0_isGate : GoodIn wsX1_spreadTaints wsX0_isGate := goodIn_r _ [12, 13, 27, 28, 29, 30, 31, 32, 33, 34] (by decide +kernel) (by decide +kernel)
set_option maxRecDepth 20000 in
theorem gX1_spreadTaints_X0_isGate_n120 : GoodIn wsX1_spreadTaints (wsX0_isGate) := ggX1_spreadTaints_X0_isGate
set_option maxRecDepth 20000 in
theorem ggX1_spreadTaints_X0_wordOf : GoodIn wsX1_spreadTaints wsX0_wordOf := goodIn_r _ [16, 17, 18, 27, 28, 29, 30, 31, 32, 33, 34] (by decide +kernel) (by decide +kernel)
set_option maxRecDepth 20000 in
theorem gX1_spreadTaints_X0_wordOf_n90 : GoodIn wsX1_spreadTaints (wsX0_wordOf) := ggX1_spreadTaints_X0_wordOf
theorem dX1_spreadTaints_0 : decode cX1_spreadTaints 0 = .ok (.iconst 0, 1) := by decide +kernel
theorem dX1_spreadTaints_1 : decode cX1_spreadTaints 1 = .ok (.istore_n 1, 1) := by decide +kernel
theorem dX1_spreadTaints_2 : decode cX1_spreadTaints 2 = .ok (.iload_n 1, 1) := by decide +kernel
theorem dX1_spreadTaints_3 : decode cX1_spreadTaints 3 = .ok (.aload_n 0, 1) := by decide +kernel
theorem dX1_spreadTaints_4 : decode cX1_spreadTaints 4 = .ok (.getfield 14, 3) := by decide +kernel
theorem dX1_spreadTaints_7 : decode cX1_spreadTaints 7 = .ok (.getfield 84, 3) := by decide +kernel
theorem dX1_spreadTaints_10 : decode cX1_spreadTaints 10 = .ok (.if_icmp .ge 32, 3) := by decide +kernel
theorem dX1_spreadTaints_13 : decode cX1_spreadTaints 13 = .ok (.aload_n 0, 1) := by decide +kernel
theorem dX1_spreadTaints_14 : decode cX1_spreadTaints 14 = .ok (.getfield 38, 3) := by decide +kernel
theorem dX1_spreadTaints_17 : decode cX1_spreadTaints 17 = .ok (.aload_n 0, 1) := by decide +kernel
theorem dX1_spreadTaints_18 : decode cX1_spreadTaints 18 = .ok (.getfield 14, 3) := by decide +kernel
theorem dX1_spreadTaints_21 : decode cX1_spreadTaints 21 = .ok (.getfield 126, 3) := by decide +kernel
theorem dX1_spreadTaints_24 : decode cX1_spreadTaints 24 = .ok (.iload_n 1, 1) := by decide +kernel
theorem dX1_spreadTaints_25 : decode cX1_spreadTaints 25 = .ok (.iaload, 1) := by decide +kernel
theorem dX1_spreadTaints_26 : decode cX1_spreadTaints 26 = .ok (.aload_n 0, 1) := by decide +kernel
theorem dX1_spreadTaints_27 : decode cX1_spreadTaints 27 = .ok (.getfield 35, 3) := by decide +kernel
theorem dX1_spreadTaints_30 : decode cX1_spreadTaints 30 = .ok (.iload_n 1, 1) := by decide +kernel
theorem dX1_spreadTaints_31 : decode cX1_spreadTaints 31 = .ok (.iaload, 1) := by decide +kernel
theorem dX1_spreadTaints_32 : decode cX1_spreadTaints 32 = .ok (.invokestatic 132, 3) := by decide +kernel
theorem dX1_spreadTaints_35 : decode cX1_spreadTaints 35 = .ok (.lastore, 1) := by decide +kernel
theorem dX1_spreadTaints_36 : decode cX1_spreadTaints 36 = .ok (.iinc 1 1, 3) := by decide +kernel
theorem dX1_spreadTaints_39 : decode cX1_spreadTaints 39 = .ok (.goto (-37), 3) := by decide +kernel
theorem dX1_spreadTaints_42 : decode cX1_spreadTaints 42 = .ok (.iconst 0, 1) := by decide +kernel
theorem dX1_spreadTaints_43 : decode cX1_spreadTaints 43 = .ok (.istore_n 1, 1) := by decide +kernel
theorem dX1_spreadTaints_44 : decode cX1_spreadTaints 44 = .ok (.iload_n 1, 1) := by decide +kernel
theorem dX1_spreadTaints_45 : decode cX1_spreadTaints 45 = .ok (.aload_n 0, 1) := by decide +kernel
theorem dX1_spreadTaints_46 : decode cX1_spreadTaints 46 = .ok (.getfield 14, 3) := by decide +kernel
theorem dX1_spreadTaints_49 : decode cX1_spreadTaints 49 = .ok (.getfield 61, 3) := by decide +kernel
theorem dX1_spreadTaints_52 : decode cX1_spreadTaints 52 = .ok (.if_icmp .ge 95, 3) := by decide +kernel
theorem dX1_spreadTaints_55 : decode cX1_spreadTaints 55 = .ok (.aload_n 0, 1) := by decide +kernel
theorem dX1_spreadTaints_56 : decode cX1_spreadTaints 56 = .ok (.getfield 14, 3) := by decide +kernel
theorem dX1_spreadTaints_59 : decode cX1_spreadTaints 59 = .ok (.iload_n 1, 1) := by decide +kernel
theorem dX1_spreadTaints_60 : decode cX1_spreadTaints 60 = .ok (.invokevirtual 120, 3) := by decide +kernel
theorem dX1_spreadTaints_63 : decode cX1_spreadTaints 63 = .ok (.ifCond .eq 78, 3) := by decide +kernel
theorem dX1_spreadTaints_66 : decode cX1_spreadTaints 66 = .ok (.aload_n 0, 1) := by decide +kernel
theorem dX1_spreadTaints_67 : decode cX1_spreadTaints 67 = .ok (.getfield 14, 3) := by decide +kernel
theorem dX1_spreadTaints_70 : decode cX1_spreadTaints 70 = .ok (.getfield 72, 3) := by decide +kernel
theorem dX1_spreadTaints_73 : decode cX1_spreadTaints 73 = .ok (.iload_n 1, 1) := by decide +kernel
theorem dX1_spreadTaints_74 : decode cX1_spreadTaints 74 = .ok (.iaload, 1) := by decide +kernel
theorem dX1_spreadTaints_75 : decode cX1_spreadTaints 75 = .ok (.istore_n 2, 1) := by decide +kernel
theorem dX1_spreadTaints_76 : decode cX1_spreadTaints 76 = .ok (.aload_n 0, 1) := by decide +kernel
theorem dX1_spreadTaints_77 : decode cX1_spreadTaints 77 = .ok (.getfield 14, 3) := by decide +kernel
theorem dX1_spreadTaints_80 : decode cX1_spreadTaints 80 = .ok (.getfield 75, 3) := by decide +kernel
theorem dX1_spreadTaints_83 : decode cX1_spreadTaints 83 = .ok (.iload_n 1, 1) := by decide +kernel
theorem dX1_spreadTaints_84 : decode cX1_spreadTaints 84 = .ok (.iaload, 1) := by decide +kernel
theorem dX1_spreadTaints_85 : decode cX1_spreadTaints 85 = .ok (.istore_n 3, 1) := by decide +kernel
theorem dX1_spreadTaints_86 : decode cX1_spreadTaints 86 = .ok (.aload_n 0, 1) := by decide +kernel
theorem dX1_spreadTaints_87 : decode cX1_spreadTaints 87 = .ok (.getfield 38, 3) := by decide +kernel
theorem dX1_spreadTaints_90 : decode cX1_spreadTaints 90 = .ok (.iload_n 2, 1) := by decide +kernel
theorem dX1_spreadTaints_91 : decode cX1_spreadTaints 91 = .ok (.iconst 1, 1) := by decide +kernel
theorem dX1_spreadTaints_92 : decode cX1_spreadTaints 92 = .ok (.ishr, 1) := by decide +kernel
theorem dX1_spreadTaints_93 : decode cX1_spreadTaints 93 = .ok (.laload, 1) := by decide +kernel
theorem dX1_spreadTaints_94 : decode cX1_spreadTaints 94 = .ok (.lstore 4, 2) := by decide +kernel
theorem dX1_spreadTaints_96 : decode cX1_spreadTaints 96 = .ok (.aload_n 0, 1) := by decide +kernel
theorem dX1_spreadTaints_97 : decode cX1_spreadTaints 97 = .ok (.getfield 38, 3) := by decide +kernel
theorem dX1_spreadTaints_100 : decode cX1_spreadTaints 100 = .ok (.iload_n 3, 1) := by decide +kernel
theorem dX1_spreadTaints_101 : decode cX1_spreadTaints 101 = .ok (.iconst 1, 1) := by decide +kernel
theorem dX1_spreadTaints_102 : decode cX1_spreadTaints 102 = .ok (.ishr, 1) := by decide +kernel
theorem dX1_spreadTaints_103 : decode cX1_spreadTaints 103 = .ok (.laload, 1) := by decide +kernel
theorem dX1_spreadTaints_104 : decode cX1_spreadTaints 104 = .ok (.lstore 6, 2) := by decide +kernel
theorem dX1_spreadTaints_106 : decode cX1_spreadTaints 106 = .ok (.aload_n 0, 1) := by decide +kernel
theorem dX1_spreadTaints_107 : decode cX1_spreadTaints 107 = .ok (.getfield 38, 3) := by decide +kernel
theorem dX1_spreadTaints_110 : decode cX1_spreadTaints 110 = .ok (.iload_n 1, 1) := by decide +kernel
theorem dX1_spreadTaints_111 : decode cX1_spreadTaints 111 = .ok (.lload 4, 2) := by decide +kernel
theorem dX1_spreadTaints_113 : decode cX1_spreadTaints 113 = .ok (.aload_n 0, 1) := by decide +kernel
theorem dX1_spreadTaints_114 : decode cX1_spreadTaints 114 = .ok (.getfield 14, 3) := by decide +kernel
theorem dX1_spreadTaints_117 : decode cX1_spreadTaints 117 = .ok (.iload_n 3, 1) := by decide +kernel
theorem dX1_spreadTaints_118 : decode cX1_spreadTaints 118 = .ok (.invokevirtual 90, 3) := by decide +kernel
theorem dX1_spreadTaints_121 : decode cX1_spreadTaints 121 = .ok (.land, 1) := by decide +kernel
theorem dX1_spreadTaints_122 : decode cX1_spreadTaints 122 = .ok (.lload 6, 2) := by decide +kernel
theorem dX1_spreadTaints_124 : decode cX1_spreadTaints 124 = .ok (.aload_n 0, 1) := by decide +kernel
theorem dX1_spreadTaints_125 : decode cX1_spreadTaints 125 = .ok (.getfield 14, 3) := by decide +kernel
theorem dX1_spreadTaints_128 : decode cX1_spreadTaints 128 = .ok (.iload_n 2, 1) := by decide +kernel
theorem dX1_spreadTaints_129 : decode cX1_spreadTaints 129 = .ok (.invokevirtual 90, 3) := by decide +kernel
theorem dX1_spreadTaints_132 : decode cX1_spreadTaints 132 = .ok (.land, 1) := by decide +kernel
theorem dX1_spreadTaints_133 : decode cX1_spreadTaints 133 = .ok (.lor, 1) := by decide +kernel
theorem dX1_spreadTaints_134 : decode cX1_spreadTaints 134 = .ok (.lload 4, 2) := by decide +kernel
theorem dX1_spreadTaints_136 : decode cX1_spreadTaints 136 = .ok (.lload 6, 2) := by decide +kernel
theorem dX1_spreadTaints_138 : decode cX1_spreadTaints 138 = .ok (.land, 1) := by decide +kernel
theorem dX1_spreadTaints_139 : decode cX1_spreadTaints 139 = .ok (.lor, 1) := by decide +kernel
theorem dX1_spreadTaints_140 : decode cX1_spreadTaints 140 = .ok (.lastore, 1) := by decide +kernel
theorem dX1_spreadTaints_141 : decode cX1_spreadTaints 141 = .ok (.iinc 1 1, 3) := by decide +kernel
theorem dX1_spreadTaints_144 : decode cX1_spreadTaints 144 = .ok (.goto (-100), 3) := by decide +kernel
theorem dX1_spreadTaints_147 : decode cX1_spreadTaints 147 = .ok (.return_, 1) := by decide +kernel
theorem dX1_countTainted_0 : decode cX1_countTainted 0 = .ok (.iconst 0, 1) := by decide +kernel
theorem dX1_countTainted_1 : decode cX1_countTainted 1 = .ok (.istore_n 1, 1) := by decide +kernel
theorem dX1_countTainted_2 : decode cX1_countTainted 2 = .ok (.iconst 0, 1) := by decide +kernel
theorem dX1_countTainted_3 : decode cX1_countTainted 3 = .ok (.istore_n 2, 1) := by decide +kernel
theorem dX1_countTainted_4 : decode cX1_countTainted 4 = .ok (.iload_n 2, 1) := by decide +kernel
theorem dX1_countTainted_5 : decode cX1_countTainted 5 = .ok (.aload_n 0, 1) := by decide +kernel
theorem dX1_countTainted_6 : decode cX1_countTainted 6 = .ok (.getfield 14, 3) := by decide +kernel
theorem dX1_countTainted_9 : decode cX1_countTainted 9 = .ok (.getfield 84, 3) := by decide +kernel
theorem dX1_countTainted_12 : decode cX1_countTainted 12 = .ok (.if_icmp .ge 18, 3) := by decide +kernel
theorem dX1_countTainted_15 : decode cX1_countTainted 15 = .ok (.iload_n 1, 1) := by decide +kernel
theorem dX1_countTainted_16 : decode cX1_countTainted 16 = .ok (.aload_n 0, 1) := by decide +kernel
theorem dX1_countTainted_17 : decode cX1_countTainted 17 = .ok (.getfield 35, 3) := by decide +kernel
theorem dX1_countTainted_20 : decode cX1_countTainted 20 = .ok (.iload_n 2, 1) := by decide +kernel
theorem dX1_countTainted_21 : decode cX1_countTainted 21 = .ok (.iaload, 1) := by decide +kernel
theorem dX1_countTainted_22 : decode cX1_countTainted 22 = .ok (.iadd, 1) := by decide +kernel
theorem dX1_countTainted_23 : decode cX1_countTainted 23 = .ok (.istore_n 1, 1) := by decide +kernel
theorem dX1_countTainted_24 : decode cX1_countTainted 24 = .ok (.iinc 2 1, 3) := by decide +kernel
theorem dX1_countTainted_27 : decode cX1_countTainted 27 = .ok (.goto (-23), 3) := by decide +kernel
theorem dX1_countTainted_30 : decode cX1_countTainted 30 = .ok (.iload_n 1, 1) := by decide +kernel
theorem dX1_countTainted_31 : decode cX1_countTainted 31 = .ok (.ireturn, 1) := by decide +kernel
set_option maxRecDepth 20000 in
theorem ggX1_setTaintedInputs_X1_settingsOf : GoodIn wsX1_setTaintedInputs wsX1_settingsOf := goodIn_r _ [6, 7, 8, 9, 5, 10, 11] (by decide +kernel) (by decide +kernel)
set_option maxRecDepth 20000 in
theorem gX1_setTaintedInputs_X1_settingsOf : GoodIn wsX1_setTaintedInputs (va_wsS RX1 135 yX1_settingsOf wsX1_settingsOf) := goodIn_app (goodIn_of _ (by decide +kernel)) ggX1_setTaintedInputs_X1_settingsOf
theorem dX1_setTaintedInputs_0 : decode cX1_setTaintedInputs 0 = .ok (.iconst 0, 1) := by decide +kernel
theorem dX1_setTaintedInputs_1 : decode cX1_setTaintedInputs 1 = .ok (.istore_n 2, 1) := by decide +kernel
theorem dX1_setTaintedInputs_2 : decode cX1_setTaintedInputs 2 = .ok (.iconst 0, 1) := by decide +kernel
theorem dX1_setTaintedInputs_3 : decode cX1_setTaintedInputs 3 = .ok (.istore_n 3, 1) := by decide +kernel
theorem dX1_setTaintedInputs_4 : decode cX1_setTaintedInputs 4 = .ok (.iload_n 3, 1) := by decide +kernel
theorem dX1_setTaintedInputs_5 : decode cX1_setTaintedInputs 5 = .ok (.aload_n 0, 1) := by decide +kernel
theorem dX1_setTaintedInputs_6 : decode cX1_setTaintedInputs 6 = .ok (.getfield 14, 3) := by decide +kernel
theorem dX1_setTaintedInputs_9 : decode cX1_setTaintedInputs 9 = .ok (.getfield 84, 3) := by decide +kernel
theorem dX1_setTaintedInputs_12 : decode cX1_setTaintedInputs 12 = .ok (.if_icmp .ge 44, 3) := by decide +kernel
theorem dX1_setTaintedInputs_15 : decode cX1_setTaintedInputs 15 = .ok (.aload_n 0, 1) := by decide +kernel
theorem dX1_setTaintedInputs_16 : decode cX1_setTaintedInputs 16 = .ok (.getfield 35, 3) := by decide +kernel
theorem dX1_setTaintedInputs_19 : decode cX1_setTaintedInputs 19 = .ok (.iload_n 3, 1) := by decide +kernel
theorem dX1_setTaintedInputs_20 : decode cX1_setTaintedInputs 20 = .ok (.iaload, 1) := by decide +kernel
theorem dX1_setTaintedInputs_21 : decode cX1_setTaintedInputs 21 = .ok (.iconst 1, 1) := by decide +kernel
theorem dX1_setTaintedInputs_22 : decode cX1_setTaintedInputs 22 = .ok (.if_icmp .ne 28, 3) := by decide +kernel
theorem dX1_setTaintedInputs_25 : decode cX1_setTaintedInputs 25 = .ok (.aload_n 0, 1) := by decide +kernel
theorem dX1_setTaintedInputs_26 : decode cX1_setTaintedInputs 26 = .ok (.getfield 14, 3) := by decide +kernel
theorem dX1_setTaintedInputs_29 : decode cX1_setTaintedInputs 29 = .ok (.getfield 129, 3) := by decide +kernel
theorem dX1_setTaintedInputs_32 : decode cX1_setTaintedInputs 32 = .ok (.aload_n 0, 1) := by decide +kernel
theorem dX1_setTaintedInputs_33 : decode cX1_setTaintedInputs 33 = .ok (.getfield 14, 3) := by decide +kernel
theorem dX1_setTaintedInputs_36 : decode cX1_setTaintedInputs 36 = .ok (.getfield 126, 3) := by decide +kernel
theorem dX1_setTaintedInputs_39 : decode cX1_setTaintedInputs 39 = .ok (.iload_n 3, 1) := by decide +kernel
theorem dX1_setTaintedInputs_40 : decode cX1_setTaintedInputs 40 = .ok (.iaload, 1) := by decide +kernel
theorem dX1_setTaintedInputs_41 : decode cX1_setTaintedInputs 41 = .ok (.iload_n 2, 1) := by decide +kernel
theorem dX1_setTaintedInputs_42 : decode cX1_setTaintedInputs 42 = .ok (.iload_n 1, 1) := by decide +kernel
theorem dX1_setTaintedInputs_43 : decode cX1_setTaintedInputs 43 = .ok (.invokestatic 135, 3) := by decide +kernel
theorem dX1_setTaintedInputs_46 : decode cX1_setTaintedInputs 46 = .ok (.lastore, 1) := by decide +kernel
theorem dX1_setTaintedInputs_47 : decode cX1_setTaintedInputs 47 = .ok (.iinc 2 1, 3) := by decide +kernel
theorem dX1_setTaintedInputs_50 : decode cX1_setTaintedInputs 50 = .ok (.iinc 3 1, 3) := by decide +kernel
theorem dX1_setTaintedInputs_53 : decode cX1_setTaintedInputs 53 = .ok (.goto (-49), 3) := by decide +kernel
theorem dX1_setTaintedInputs_56 : decode cX1_setTaintedInputs 56 = .ok (.return_, 1) := by decide +kernel
set_option maxRecDepth 20000 in
theorem ggX1_settingsOf_X1_wordOfBit : GoodIn wsX1_settingsOf wsX1_wordOfBit := goodIn_r _ [5, 6] (by decide +kernel) (by decide +kernel)
set_option maxRecDepth 20000 in
theorem gX1_settingsOf_X1_wordOfBit : GoodIn wsX1_settingsOf (va_wsS RX1 132 yX1_wordOfBit wsX1_wordOfBit) := goodIn_app (goodIn_of _ (by decide +kernel)) ggX1_settingsOf_X1_wordOfBit
theorem dX1_settingsOf_0 : decode cX1_settingsOf 0 = .ok (.iload_n 0, 1) := by decide +kernel
theorem dX1_settingsOf_1 : decode cX1_settingsOf 1 = .ok (.getstatic 139, 3) := by decide +kernel
theorem dX1_settingsOf_4 : decode cX1_settingsOf 4 = .ok (.arraylength, 1) := by decide +kernel
theorem dX1_settingsOf_5 : decode cX1_settingsOf 5 = .ok (.if_icmp .ge 9, 3) := by decide +kernel
theorem dX1_settingsOf_8 : decode cX1_settingsOf 8 = .ok (.getstatic 139, 3) := by decide +kernel
theorem dX1_settingsOf_11 : decode cX1_settingsOf 11 = .ok (.iload_n 0, 1) := by decide +kernel
theorem dX1_settingsOf_12 : decode cX1_settingsOf 12 = .ok (.laload, 1) := by decide +kernel
theorem dX1_settingsOf_13 : decode cX1_settingsOf 13 = .ok (.lreturn, 1) := by decide +kernel
theorem dX1_settingsOf_14 : decode cX1_settingsOf 14 = .ok (.iload_n 1, 1) := by decide +kernel
theorem dX1_settingsOf_15 : decode cX1_settingsOf 15 = .ok (.iload_n 0, 1) := by decide +kernel
theorem dX1_settingsOf_16 : decode cX1_settingsOf 16 = .ok (.getstatic 139, 3) := by decide +kernel
theorem dX1_settingsOf_19 : decode cX1_settingsOf 19 = .ok (.arraylength, 1) := by decide +kernel
theorem dX1_settingsOf_20 : decode cX1_settingsOf 20 = .ok (.isub, 1) := by decide +kernel
theorem dX1_settingsOf_21 : decode cX1_settingsOf 21 = .ok (.ishr, 1) := by decide +kernel
theorem dX1_settingsOf_22 : decode cX1_settingsOf 22 = .ok (.iconst 1, 1) := by decide +kernel
theorem dX1_settingsOf_23 : decode cX1_settingsOf 23 = .ok (.iand, 1) := by decide +kernel
theorem dX1_settingsOf_24 : decode cX1_settingsOf 24 = .ok (.invokestatic 132, 3) := by decide +kernel
theorem dX1_settingsOf_27 : decode cX1_settingsOf 27 = .ok (.lreturn, 1) := by decide +kernel
theorem dX1_wordOfBit_0 : decode cX1_wordOfBit 0 = .ok (.iload_n 0, 1) := by decide +kernel
theorem dX1_wordOfBit_1 : decode cX1_wordOfBit 1 = .ok (.ifCond .ne 7, 3) := by decide +kernel
theorem dX1_wordOfBit_4 : decode cX1_wordOfBit 4 = .ok (.lconst 0, 1) := by decide +kernel
theorem dX1_wordOfBit_5 : decode cX1_wordOfBit 5 = .ok (.goto 6, 3) := by decide +kernel
theorem dX1_wordOfBit_8 : decode cX1_wordOfBit 8 = .ok (.ldc2_w 142, 3) := by decide +kernel
theorem dX1_wordOfBit_11 : decode cX1_wordOfBit 11 = .ok (.lreturn, 1) := by decide +kernel
theorem dX1_bitOf_0 : decode cX1_bitOf 0 = .ok (.lload_n 0, 1) := by decide +kernel
theorem dX1_bitOf_1 : decode cX1_bitOf 1 = .ok (.lconst 1, 1) := by decide +kernel
theorem dX1_bitOf_2 : decode cX1_bitOf 2 = .ok (.land, 1) := by decide +kernel
theorem dX1_bitOf_3 : decode cX1_bitOf 3 = .ok (.lconst 0, 1) := by decide +kernel
theorem dX1_bitOf_4 : decode cX1_bitOf 4 = .ok (.lcmp, 1) := by decide +kernel
theorem dX1_bitOf_5 : decode cX1_bitOf 5 = .ok (.ifCond .ne 7, 3) := by decide +kernel
theorem dX1_bitOf_8 : decode cX1_bitOf 8 = .ok (.iconst 0, 1) := by decide +kernel
theorem dX1_bitOf_9 : decode cX1_bitOf 9 = .ok (.goto 4, 3) := by decide +kernel
theorem dX1_bitOf_12 : decode cX1_bitOf 12 = .ok (.iconst 1, 1) := by decide +kernel
theorem dX1_bitOf_13 : decode cX1_bitOf 13 = .ok (.ireturn, 1) := by decide +kernel
theorem dX1_not_0 : decode cX1_not 0 = .ok (.iload_n 0, 1) := by decide +kernel
theorem dX1_not_1 : decode cX1_not 1 = .ok (.iconst (-1), 1) := by decide +kernel
theorem dX1_not_2 : decode cX1_not 2 = .ok (.if_icmp .ne 7, 3) := by decide +kernel
theorem dX1_not_5 : decode cX1_not 5 = .ok (.iconst (-1), 1) := by decide +kernel
theorem dX1_not_6 : decode cX1_not 6 = .ok (.goto 6, 3) := by decide +kernel
theorem dX1_not_9 : decode cX1_not 9 = .ok (.iload_n 0, 1) := by decide +kernel
theorem dX1_not_10 : decode cX1_not 10 = .ok (.iconst 1, 1) := by decide +kernel
theorem dX1_not_11 : decode cX1_not 11 = .ok (.ixor, 1) := by decide +kernel
theorem dX1_not_12 : decode cX1_not 12 = .ok (.ireturn, 1) := by decide +kernel
set_option maxRecDepth 20000 in
theorem ggX2_init_X2_begin : GoodIn wsX2_init wsX2_begin := goodIn_r _ [12, 13, 14, 15, 16, 17, 11, 18, 5, 6, 19, 20, 21, 4, 22, 23, 24, 25, 26, 27, 28, 29, 30] (by decide +kernel) (by decide +kernel)
set_option maxRecDepth 20000 in
theorem gX2_init_X2_begin : GoodIn wsX2_init (wsV RX2 22 RX2 yX2_begin wsX2_begin) := goodIn_app (goodIn_of _ (by decide +kernel)) ggX2_init_X2_begin

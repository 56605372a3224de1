theorem dX9_way_0 : decode cX9_way 0 = .ok (.iload_n 1, 1) := by decide +kernel
theorem dX9_way_1 : decode cX9_way 1 = .ok (.i2l, 1) := by decide +kernel
theorem dX9_way_2 : decode cX9_way 2 = .ok (.lconst 0, 1) := by decide +kernel
theorem dX9_way_3 : decode cX9_way 3 = .ok (.lconst 1, 1) := by decide +kernel
theorem dX9_way_4 : decode cX9_way 4 = .ok (.invokestatic 62, 3) := by decide +kernel
theorem dX9_way_7 : decode cX9_way 7 = .ok (.ifCond .ne 6, 3) := by decide +kernel
theorem dX9_way_10 : decode cX9_way 10 = .ok (.bipush (-2), 2) := by decide +kernel
theorem dX9_way_12 : decode cX9_way 12 = .ok (.ireturn, 1) := by decide +kernel
theorem dX9_way_13 : decode cX9_way 13 = .ok (.aload_n 0, 1) := by decide +kernel
theorem dX9_way_14 : decode cX9_way 14 = .ok (.getfield 73, 3) := by decide +kernel
theorem dX9_way_17 : decode cX9_way 17 = .ok (.istore_n 2, 1) := by decide +kernel
theorem dX9_way_18 : decode cX9_way 18 = .ok (.aload_n 0, 1) := by decide +kernel
theorem dX9_way_19 : decode cX9_way 19 = .ok (.iload_n 1, 1) := by decide +kernel
theorem dX9_way_20 : decode cX9_way 20 = .ok (.putfield 73, 3) := by decide +kernel
theorem dX9_way_23 : decode cX9_way 23 = .ok (.aload_n 0, 1) := by decide +kernel
theorem dX9_way_24 : decode cX9_way 24 = .ok (.iconst 0, 1) := by decide +kernel
theorem dX9_way_25 : decode cX9_way 25 = .ok (.putfield 66, 3) := by decide +kernel
theorem dX9_way_28 : decode cX9_way 28 = .ok (.iload_n 2, 1) := by decide +kernel
theorem dX9_way_29 : decode cX9_way 29 = .ok (.ireturn, 1) := by decide +kernel
set_option maxRecDepth 20000 in
theorem ggX9_lead_X9_isPoint : GoodIn wsX9_lead wsX9_isPoint := goodIn_r _ [6, 7, 8, 9, 5, 10, 17, 18, 19, 20, 21, 22, 23, 24, 25, 26, 27, 28, 29, 30, 31, 32, 33, 34, 35, 36, 37, 38, 39, 40] (by decide +kernel) (by decide +kernel)
set_option maxRecDepth 20000 in
theorem gX9_lead_X9_isPoint : GoodIn wsX9_lead (wsV RX9 76 RX9 yX9_isPoint wsX9_isPoint) := goodIn_app (goodIn_of _ (by decide +kernel)) ggX9_lead_X9_isPoint
set_option maxRecDepth 20000 in
theorem ggX9_lead_X9_remembers : GoodIn wsX9_lead wsX9_remembers := goodIn_r _ [14, 15, 16, 1, 17, 18, 19, 20, 21, 22, 23, 24, 25, 26, 27, 28, 29, 30, 31, 32, 33, 34, 35, 36, 37, 38, 39, 40] (by decide +kernel) (by decide +kernel)
set_option maxRecDepth 20000 in
theorem gX9_lead_X9_remembers : GoodIn wsX9_lead (wsV RX9 80 RX9 yX9_remembers wsX9_remembers) := goodIn_app (goodIn_of _ (by decide +kernel)) ggX9_lead_X9_remembers
theorem dX9_lead_0 : decode cX9_lead 0 = .ok (.aload_n 0, 1) := by decide +kernel
theorem dX9_lead_1 : decode cX9_lead 1 = .ok (.iload_n 1, 1) := by decide +kernel
theorem dX9_lead_2 : decode cX9_lead 2 = .ok (.invokevirtual 76, 3) := by decide +kernel
theorem dX9_lead_5 : decode cX9_lead 5 = .ok (.ifCond .eq 11, 3) := by decide +kernel
theorem dX9_lead_8 : decode cX9_lead 8 = .ok (.aload_n 0, 1) := by decide +kernel
theorem dX9_lead_9 : decode cX9_lead 9 = .ok (.iload_n 2, 1) := by decide +kernel
theorem dX9_lead_10 : decode cX9_lead 10 = .ok (.invokevirtual 76, 3) := by decide +kernel
theorem dX9_lead_13 : decode cX9_lead 13 = .ok (.ifCond .ne 6, 3) := by decide +kernel
theorem dX9_lead_16 : decode cX9_lead 16 = .ok (.bipush (-2), 2) := by decide +kernel
theorem dX9_lead_18 : decode cX9_lead 18 = .ok (.ireturn, 1) := by decide +kernel
theorem dX9_lead_19 : decode cX9_lead 19 = .ok (.aload_n 0, 1) := by decide +kernel
theorem dX9_lead_20 : decode cX9_lead 20 = .ok (.invokevirtual 80, 3) := by decide +kernel
theorem dX9_lead_23 : decode cX9_lead 23 = .ok (.aload_n 0, 1) := by decide +kernel
theorem dX9_lead_24 : decode cX9_lead 24 = .ok (.getfield 15, 3) := by decide +kernel
theorem dX9_lead_27 : decode cX9_lead 27 = .ok (.iload_n 1, 1) := by decide +kernel
theorem dX9_lead_28 : decode cX9_lead 28 = .ok (.iaload, 1) := by decide +kernel
theorem dX9_lead_29 : decode cX9_lead 29 = .ok (.istore_n 3, 1) := by decide +kernel
theorem dX9_lead_30 : decode cX9_lead 30 = .ok (.aload_n 0, 1) := by decide +kernel
theorem dX9_lead_31 : decode cX9_lead 31 = .ok (.getfield 15, 3) := by decide +kernel
theorem dX9_lead_34 : decode cX9_lead 34 = .ok (.iload_n 1, 1) := by decide +kernel
theorem dX9_lead_35 : decode cX9_lead 35 = .ok (.iload_n 2, 1) := by decide +kernel
theorem dX9_lead_36 : decode cX9_lead 36 = .ok (.iastore, 1) := by decide +kernel
theorem dX9_lead_37 : decode cX9_lead 37 = .ok (.iload_n 3, 1) := by decide +kernel
theorem dX9_lead_38 : decode cX9_lead 38 = .ok (.ireturn, 1) := by decide +kernel
theorem dX9_isRound_0 : decode cX9_isRound 0 = .ok (.aload_n 0, 1) := by decide +kernel
theorem dX9_isRound_1 : decode cX9_isRound 1 = .ok (.getfield 15, 3) := by decide +kernel
theorem dX9_isRound_4 : decode cX9_isRound 4 = .ok (.iload_n 1, 1) := by decide +kernel
theorem dX9_isRound_5 : decode cX9_isRound 5 = .ok (.iaload, 1) := by decide +kernel
theorem dX9_isRound_6 : decode cX9_isRound 6 = .ok (.istore_n 2, 1) := by decide +kernel
theorem dX9_isRound_7 : decode cX9_isRound 7 = .ok (.iconst 1, 1) := by decide +kernel
theorem dX9_isRound_8 : decode cX9_isRound 8 = .ok (.istore_n 3, 1) := by decide +kernel
theorem dX9_isRound_9 : decode cX9_isRound 9 = .ok (.iload_n 3, 1) := by decide +kernel
theorem dX9_isRound_10 : decode cX9_isRound 10 = .ok (.aload_n 0, 1) := by decide +kernel
theorem dX9_isRound_11 : decode cX9_isRound 11 = .ok (.getfield 9, 3) := by decide +kernel
theorem dX9_isRound_14 : decode cX9_isRound 14 = .ok (.if_icmp .ge 21, 3) := by decide +kernel
theorem dX9_isRound_17 : decode cX9_isRound 17 = .ok (.iload_n 2, 1) := by decide +kernel
theorem dX9_isRound_18 : decode cX9_isRound 18 = .ok (.iload_n 1, 1) := by decide +kernel
theorem dX9_isRound_19 : decode cX9_isRound 19 = .ok (.if_icmp .eq 16, 3) := by decide +kernel
theorem dX9_isRound_22 : decode cX9_isRound 22 = .ok (.aload_n 0, 1) := by decide +kernel
theorem dX9_isRound_23 : decode cX9_isRound 23 = .ok (.getfield 15, 3) := by decide +kernel
theorem dX9_isRound_26 : decode cX9_isRound 26 = .ok (.iload_n 2, 1) := by decide +kernel
theorem dX9_isRound_27 : decode cX9_isRound 27 = .ok (.iaload, 1) := by decide +kernel
theorem dX9_isRound_28 : decode cX9_isRound 28 = .ok (.istore_n 2, 1) := by decide +kernel
theorem dX9_isRound_29 : decode cX9_isRound 29 = .ok (.iinc 3 1, 3) := by decide +kernel
theorem dX9_isRound_32 : decode cX9_isRound 32 = .ok (.goto (-23), 3) := by decide +kernel
theorem dX9_isRound_35 : decode cX9_isRound 35 = .ok (.iload_n 2, 1) := by decide +kernel
theorem dX9_isRound_36 : decode cX9_isRound 36 = .ok (.iload_n 1, 1) := by decide +kernel
theorem dX9_isRound_37 : decode cX9_isRound 37 = .ok (.if_icmp .ne 7, 3) := by decide +kernel
theorem dX9_isRound_40 : decode cX9_isRound 40 = .ok (.iconst 1, 1) := by decide +kernel
theorem dX9_isRound_41 : decode cX9_isRound 41 = .ok (.goto 4, 3) := by decide +kernel
theorem dX9_isRound_44 : decode cX9_isRound 44 = .ok (.iconst 0, 1) := by decide +kernel
theorem dX9_isRound_45 : decode cX9_isRound 45 = .ok (.ireturn, 1) := by decide +kernel
set_option maxRecDepth 20000 in
theorem ggX9_tail_X9_isRound : GoodIn wsX9_tail wsX9_isRound := goodIn_r _ [6, 1, 7, 8, 9, 10, 11, 12, 13, 14, 15, 16, 17, 18, 19, 20, 21, 22, 23, 24, 25, 26, 27, 28, 29, 30, 31] (by decide +kernel) (by decide +kernel)
set_option maxRecDepth 20000 in
theorem gX9_tail_X9_isRound : GoodIn wsX9_tail (wsV RX9 83 RX9 yX9_isRound wsX9_isRound) := goodIn_app (goodIn_of _ (by decide +kernel)) ggX9_tail_X9_isRound
theorem dX9_tail_0 : decode cX9_tail 0 = .ok (.iload_n 1, 1) := by decide +kernel
theorem dX9_tail_1 : decode cX9_tail 1 = .ok (.istore_n 2, 1) := by decide +kernel
theorem dX9_tail_2 : decode cX9_tail 2 = .ok (.iconst 0, 1) := by decide +kernel
theorem dX9_tail_3 : decode cX9_tail 3 = .ok (.istore_n 3, 1) := by decide +kernel
theorem dX9_tail_4 : decode cX9_tail 4 = .ok (.aload_n 0, 1) := by decide +kernel
theorem dX9_tail_5 : decode cX9_tail 5 = .ok (.iload_n 2, 1) := by decide +kernel
theorem dX9_tail_6 : decode cX9_tail 6 = .ok (.invokevirtual 83, 3) := by decide +kernel
theorem dX9_tail_9 : decode cX9_tail 9 = .ok (.ifCond .ne 16, 3) := by decide +kernel
theorem dX9_tail_12 : decode cX9_tail 12 = .ok (.aload_n 0, 1) := by decide +kernel
theorem dX9_tail_13 : decode cX9_tail 13 = .ok (.getfield 15, 3) := by decide +kernel
theorem dX9_tail_16 : decode cX9_tail 16 = .ok (.iload_n 2, 1) := by decide +kernel
theorem dX9_tail_17 : decode cX9_tail 17 = .ok (.iaload, 1) := by decide +kernel
theorem dX9_tail_18 : decode cX9_tail 18 = .ok (.istore_n 2, 1) := by decide +kernel
theorem dX9_tail_19 : decode cX9_tail 19 = .ok (.iinc 3 1, 3) := by decide +kernel
theorem dX9_tail_22 : decode cX9_tail 22 = .ok (.goto (-18), 3) := by decide +kernel
theorem dX9_tail_25 : decode cX9_tail 25 = .ok (.iload_n 3, 1) := by decide +kernel
theorem dX9_tail_26 : decode cX9_tail 26 = .ok (.ireturn, 1) := by decide +kernel
set_option maxRecDepth 20000 in
theorem ggX9_ringTo_X9_isRound : GoodIn wsX9_ringTo wsX9_isRound := goodIn_r _ [6, 1, 7, 8, 9, 10, 11, 12, 13, 14, 15, 16, 17, 18, 19, 20, 21, 22, 23, 24, 25, 26, 27, 28, 29, 30, 31] (by decide +kernel) (by decide +kernel)
set_option maxRecDepth 20000 in
theorem gX9_ringTo_X9_isRound : GoodIn wsX9_ringTo (wsV RX9 83 RX9 yX9_isRound wsX9_isRound) := goodIn_app (goodIn_of _ (by decide +kernel)) ggX9_ringTo_X9_isRound
theorem dX9_ringTo_0 : decode cX9_ringTo 0 = .ok (.iload_n 1, 1) := by decide +kernel
theorem dX9_ringTo_1 : decode cX9_ringTo 1 = .ok (.istore_n 2, 1) := by decide +kernel
theorem dX9_ringTo_2 : decode cX9_ringTo 2 = .ok (.aload_n 0, 1) := by decide +kernel
theorem dX9_ringTo_3 : decode cX9_ringTo 3 = .ok (.iload_n 2, 1) := by decide +kernel
theorem dX9_ringTo_4 : decode cX9_ringTo 4 = .ok (.invokevirtual 83, 3) := by decide +kernel
theorem dX9_ringTo_7 : decode cX9_ringTo 7 = .ok (.ifCond .ne 13, 3) := by decide +kernel
theorem dX9_ringTo_10 : decode cX9_ringTo 10 = .ok (.aload_n 0, 1) := by decide +kernel
theorem dX9_ringTo_11 : decode cX9_ringTo 11 = .ok (.getfield 15, 3) := by decide +kernel
theorem dX9_ringTo_14 : decode cX9_ringTo 14 = .ok (.iload_n 2, 1) := by decide +kernel
theorem dX9_ringTo_15 : decode cX9_ringTo 15 = .ok (.iaload, 1) := by decide +kernel
theorem dX9_ringTo_16 : decode cX9_ringTo 16 = .ok (.istore_n 2, 1) := by decide +kernel
theorem dX9_ringTo_17 : decode cX9_ringTo 17 = .ok (.goto (-15), 3) := by decide +kernel
theorem dX9_ringTo_20 : decode cX9_ringTo 20 = .ok (.iconst 0, 1) := by decide +kernel
theorem dX9_ringTo_21 : decode cX9_ringTo 21 = .ok (.istore_n 3, 1) := by decide +kernel
theorem dX9_ringTo_22 : decode cX9_ringTo 22 = .ok (.iload_n 3, 1) := by decide +kernel
theorem dX9_ringTo_23 : decode cX9_ringTo 23 = .ok (.iload_n 2, 1) := by decide +kernel
theorem dX9_ringTo_24 : decode cX9_ringTo 24 = .ok (.ishr, 1) := by decide +kernel
theorem dX9_ringTo_25 : decode cX9_ringTo 25 = .ok (.iconst 1, 1) := by decide +kernel
theorem dX9_ringTo_26 : decode cX9_ringTo 26 = .ok (.iand, 1) := by decide +kernel
theorem dX9_ringTo_27 : decode cX9_ringTo 27 = .ok (.ifCond .ne 19, 3) := by decide +kernel
theorem dX9_ringTo_30 : decode cX9_ringTo 30 = .ok (.iload_n 3, 1) := by decide +kernel
theorem dX9_ringTo_31 : decode cX9_ringTo 31 = .ok (.iconst 1, 1) := by decide +kernel
theorem dX9_ringTo_32 : decode cX9_ringTo 32 = .ok (.iload_n 2, 1) := by decide +kernel
theorem dX9_ringTo_33 : decode cX9_ringTo 33 = .ok (.ishl, 1) := by decide +kernel
theorem dX9_ringTo_34 : decode cX9_ringTo 34 = .ok (.ior, 1) := by decide +kernel
theorem dX9_ringTo_35 : decode cX9_ringTo 35 = .ok (.istore_n 3, 1) := by decide +kernel
theorem dX9_ringTo_36 : decode cX9_ringTo 36 = .ok (.aload_n 0, 1) := by decide +kernel
theorem dX9_ringTo_37 : decode cX9_ringTo 37 = .ok (.getfield 15, 3) := by decide +kernel
theorem dX9_ringTo_40 : decode cX9_ringTo 40 = .ok (.iload_n 2, 1) := by decide +kernel
theorem dX9_ringTo_41 : decode cX9_ringTo 41 = .ok (.iaload, 1) := by decide +kernel
theorem dX9_ringTo_42 : decode cX9_ringTo 42 = .ok (.istore_n 2, 1) := by decide +kernel
theorem dX9_ringTo_43 : decode cX9_ringTo 43 = .ok (.goto (-21), 3) := by decide +kernel
theorem dX9_ringTo_46 : decode cX9_ringTo 46 = .ok (.iload_n 3, 1) := by decide +kernel
theorem dX9_ringTo_47 : decode cX9_ringTo 47 = .ok (.ireturn, 1) := by decide +kernel
set_option maxRecDepth 20000 in
theorem ggX9_of_X9_isPoint : GoodIn wsX9_of wsX9_isPoint := goodIn_r _ [7, 8, 9, 10, 6, 11, 31, 32, 33, 34, 35, 36, 37, 38, 39, 40, 41, 42, 43, 44, 45, 46, 47, 48, 49, 50, 51, 52, 53, 54] (by decide +kernel) (by decide +kernel)
set_option maxRecDepth 20000 in
theorem gX9_of_X9_isPoint : GoodIn wsX9_of (wsV RX9 76 RX9 yX9_isPoint wsX9_isPoint) := goodIn_app (goodIn_of _ (by decide +kernel)) ggX9_of_X9_isPoint
set_option maxRecDepth 20000 in
theorem ggX9_of_X9_in : GoodIn wsX9_of wsX9_in := goodIn_r _ [11] (by decide +kernel) (by decide +kernel)
set_option maxRecDepth 20000 in
theorem gX9_of_X9_in : GoodIn wsX9_of (va_wsS RX9 62 yX9_in wsX9_in) := goodIn_app (goodIn_of _ (by decide +kernel)) ggX9_of_X9_in
set_option maxRecDepth 20000 in
theorem ggX9_of_X9_tail : GoodIn wsX9_of wsX9_tail := goodIn_r _ [15, 2, 16, 17, 18, 6, 19, 8, 31, 32, 33, 34, 35, 36, 37, 38, 39, 40, 41, 42, 43, 44, 45, 46, 47, 48, 49, 50, 51, 52, 53, 54] (by decide +kernel) (by decide +kernel)
set_option maxRecDepth 20000 in
theorem gX9_of_X9_tail : GoodIn wsX9_of (wsV RX9 88 RX9 yX9_tail wsX9_tail) := goodIn_app (goodIn_of _ (by decide +kernel)) ggX9_of_X9_tail
set_option maxRecDepth 20000 in
theorem ggX9_of_X9_ringTo : GoodIn wsX9_of wsX9_ringTo := goodIn_r _ [23, 2, 16, 17, 18, 6, 19, 8, 31, 32, 33, 34, 35, 36, 37, 38, 39, 40, 41, 42, 43, 44, 45, 46, 47, 48, 49, 50, 51, 52, 53, 54] (by decide +kernel) (by decide +kernel)
set_option maxRecDepth 20000 in
theorem gX9_of_X9_ringTo : GoodIn wsX9_of (wsV RX9 92 RX9 yX9_ringTo wsX9_ringTo) := goodIn_app (goodIn_of _ (by decide +kernel)) ggX9_of_X9_ringTo
set_option maxRecDepth 20000 in
theorem ggX9_of_J6_bitCount_0f7a4 : GoodIn wsX9_of wsJ6_bitCount_0f7a4 := goodIn_r _ [27, 28, 29, 30] (by decide +kernel) (by decide +kernel)
set_option maxRecDepth 20000 in
theorem gX9_of_J6_bitCount_0f7a4 : GoodIn wsX9_of (va_wsS RX9 95 yJ6_bitCount_0f7a4 wsJ6_bitCount_0f7a4) := goodIn_app (goodIn_of _ (by decide +kernel)) ggX9_of_J6_bitCount_0f7a4
theorem dX9_of_0 : decode cX9_of 0 = .ok (.aload_n 0, 1) := by decide +kernel
theorem dX9_of_1 : decode cX9_of 1 = .ok (.iload_n 1, 1) := by decide +kernel
theorem dX9_of_2 : decode cX9_of 2 = .ok (.invokevirtual 76, 3) := by decide +kernel
theorem dX9_of_5 : decode cX9_of 5 = .ok (.ifCond .eq 15, 3) := by decide +kernel
theorem dX9_of_8 : decode cX9_of 8 = .ok (.iload_n 2, 1) := by decide +kernel
theorem dX9_of_9 : decode cX9_of 9 = .ok (.i2l, 1) := by decide +kernel
theorem dX9_of_10 : decode cX9_of 10 = .ok (.lconst 0, 1) := by decide +kernel
theorem dX9_of_11 : decode cX9_of 11 = .ok (.ldc2_w 86, 3) := by decide +kernel
theorem dX9_of_14 : decode cX9_of 14 = .ok (.invokestatic 62, 3) := by decide +kernel
theorem dX9_of_17 : decode cX9_of 17 = .ok (.ifCond .ne 6, 3) := by decide +kernel
theorem dX9_of_20 : decode cX9_of 20 = .ok (.bipush (-2), 2) := by decide +kernel
theorem dX9_of_22 : decode cX9_of 22 = .ok (.ireturn, 1) := by decide +kernel
theorem dX9_of_23 : decode cX9_of 23 = .ok (.iload_n 2, 1) := by decide +kernel
theorem dX9_of_24 : decode cX9_of 24 = .ok (.ifCond .ne 12, 3) := by decide +kernel
theorem dX9_of_27 : decode cX9_of 27 = .ok (.aload_n 0, 1) := by decide +kernel
theorem dX9_of_28 : decode cX9_of 28 = .ok (.getfield 15, 3) := by decide +kernel
theorem dX9_of_31 : decode cX9_of 31 = .ok (.iload_n 1, 1) := by decide +kernel
theorem dX9_of_32 : decode cX9_of 32 = .ok (.iaload, 1) := by decide +kernel
theorem dX9_of_33 : decode cX9_of 33 = .ok (.goto 37, 3) := by decide +kernel
theorem dX9_of_36 : decode cX9_of 36 = .ok (.iload_n 2, 1) := by decide +kernel
theorem dX9_of_37 : decode cX9_of 37 = .ok (.iconst 1, 1) := by decide +kernel
theorem dX9_of_38 : decode cX9_of 38 = .ok (.if_icmp .ne 11, 3) := by decide +kernel
theorem dX9_of_41 : decode cX9_of 41 = .ok (.aload_n 0, 1) := by decide +kernel
theorem dX9_of_42 : decode cX9_of 42 = .ok (.iload_n 1, 1) := by decide +kernel
theorem dX9_of_43 : decode cX9_of 43 = .ok (.invokevirtual 88, 3) := by decide +kernel
theorem dX9_of_46 : decode cX9_of 46 = .ok (.goto 24, 3) := by decide +kernel
theorem dX9_of_49 : decode cX9_of 49 = .ok (.iload_n 2, 1) := by decide +kernel
theorem dX9_of_50 : decode cX9_of 50 = .ok (.iconst 2, 1) := by decide +kernel
theorem dX9_of_51 : decode cX9_of 51 = .ok (.if_icmp .ne 11, 3) := by decide +kernel
theorem dX9_of_54 : decode cX9_of 54 = .ok (.aload_n 0, 1) := by decide +kernel
theorem dX9_of_55 : decode cX9_of 55 = .ok (.iload_n 1, 1) := by decide +kernel
theorem dX9_of_56 : decode cX9_of 56 = .ok (.invokevirtual 92, 3) := by decide +kernel
theorem dX9_of_59 : decode cX9_of 59 = .ok (.goto 11, 3) := by decide +kernel
theorem dX9_of_62 : decode cX9_of 62 = .ok (.aload_n 0, 1) := by decide +kernel
theorem dX9_of_63 : decode cX9_of 63 = .ok (.iload_n 1, 1) := by decide +kernel
theorem dX9_of_64 : decode cX9_of 64 = .ok (.invokevirtual 92, 3) := by decide +kernel
theorem dX9_of_67 : decode cX9_of 67 = .ok (.invokestatic 95, 3) := by decide +kernel
theorem dX9_of_70 : decode cX9_of 70 = .ok (.ireturn, 1) := by decide +kernel
theorem dX9_map_0 : decode cX9_map 0 = .ok (.iconst 0, 1) := by decide +kernel
theorem dX9_map_1 : decode cX9_map 1 = .ok (.istore_n 1, 1) := by decide +kernel
theorem dX9_map_2 : decode cX9_map 2 = .ok (.iconst 0, 1) := by decide +kernel
theorem dX9_map_3 : decode cX9_map 3 = .ok (.istore_n 2, 1) := by decide +kernel
theorem dX9_map_4 : decode cX9_map 4 = .ok (.iload_n 2, 1) := by decide +kernel
theorem dX9_map_5 : decode cX9_map 5 = .ok (.aload_n 0, 1) := by decide +kernel
theorem dX9_map_6 : decode cX9_map 6 = .ok (.getfield 9, 3) := by decide +kernel
theorem dX9_map_9 : decode cX9_map 9 = .ok (.if_icmp .ge 21, 3) := by decide +kernel
theorem dX9_map_12 : decode cX9_map 12 = .ok (.bipush 10, 2) := by decide +kernel
theorem dX9_map_14 : decode cX9_map 14 = .ok (.iload_n 1, 1) := by decide +kernel
theorem dX9_map_15 : decode cX9_map 15 = .ok (.imul, 1) := by decide +kernel
theorem dX9_map_16 : decode cX9_map 16 = .ok (.aload_n 0, 1) := by decide +kernel
theorem dX9_map_17 : decode cX9_map 17 = .ok (.getfield 15, 3) := by decide +kernel
theorem dX9_map_20 : decode cX9_map 20 = .ok (.iload_n 2, 1) := by decide +kernel
theorem dX9_map_21 : decode cX9_map 21 = .ok (.iaload, 1) := by decide +kernel
theorem dX9_map_22 : decode cX9_map 22 = .ok (.iadd, 1) := by decide +kernel
theorem dX9_map_23 : decode cX9_map 23 = .ok (.istore_n 1, 1) := by decide +kernel
theorem dX9_map_24 : decode cX9_map 24 = .ok (.iinc 2 1, 3) := by decide +kernel
theorem dX9_map_27 : decode cX9_map 27 = .ok (.goto (-23), 3) := by decide +kernel
theorem dX9_map_30 : decode cX9_map 30 = .ok (.iload_n 1, 1) := by decide +kernel
theorem dX9_map_31 : decode cX9_map 31 = .ok (.ireturn, 1) := by decide +kernel
set_option maxRecDepth 20000 in
theorem ggX9_ringAt_X9_isRound : GoodIn wsX9_ringAt wsX9_isRound := goodIn_r _ [6, 7, 1, 17, 18, 19, 20, 21, 22, 23, 24, 25, 26, 27, 28, 29, 30, 31, 32, 33, 34, 35, 36, 37, 38, 39, 40] (by decide +kernel) (by decide +kernel)
set_option maxRecDepth 20000 in
theorem gX9_ringAt_X9_isRound : GoodIn wsX9_ringAt (wsV RX9 83 RX9 yX9_isRound wsX9_isRound) := goodIn_app (goodIn_of _ (by decide +kernel)) ggX9_ringAt_X9_isRound
set_option maxRecDepth 20000 in
theorem ggX9_ringAt_X9_ringTo : GoodIn wsX9_ringAt wsX9_ringTo := goodIn_r _ [11, 7, 2, 3, 4, 5, 6, 1, 17, 18, 19, 20, 21, 22, 23, 24, 25, 26, 27, 28, 29, 30, 31, 32, 33, 34, 35, 36, 37, 38, 39, 40] (by decide +kernel) (by decide +kernel)
set_option maxRecDepth 20000 in
theorem gX9_ringAt_X9_ringTo : GoodIn wsX9_ringAt (wsV RX9 92 RX9 yX9_ringTo wsX9_ringTo) := goodIn_app (goodIn_of _ (by decide +kernel)) ggX9_ringAt_X9_ringTo
set_option maxRecDepth 20000 in
theorem ggX9_ringAt_J6_numberOfTrailingZeros_0f7a4 : GoodIn wsX9_ringAt wsJ6_numberOfTrailingZeros_0f7a4 := goodIn_r _ [15, 16] (by decide +kernel) (by decide +kernel)
set_option maxRecDepth 20000 in
theorem gX9_ringAt_J6_numberOfTrailingZeros_0f7a4 : GoodIn wsX9_ringAt (va_wsS RX9 100 yJ6_numberOfTrailingZeros_0f7a4 wsJ6_numberOfTrailingZeros_0f7a4) := goodIn_app (goodIn_of _ (by decide +kernel)) ggX9_ringAt_J6_numberOfTrailingZeros_0f7a4
theorem dX9_ringAt_0 : decode cX9_ringAt 0 = .ok (.iconst 0, 1) := by decide +kernel
theorem dX9_ringAt_1 : decode cX9_ringAt 1 = .ok (.istore_n 2, 1) := by decide +kernel
theorem dX9_ringAt_2 : decode cX9_ringAt 2 = .ok (.iconst 0, 1) := by decide +kernel
theorem dX9_ringAt_3 : decode cX9_ringAt 3 = .ok (.istore_n 3, 1) := by decide +kernel
theorem dX9_ringAt_4 : decode cX9_ringAt 4 = .ok (.iload_n 3, 1) := by decide +kernel
theorem dX9_ringAt_5 : decode cX9_ringAt 5 = .ok (.aload_n 0, 1) := by decide +kernel
theorem dX9_ringAt_6 : decode cX9_ringAt 6 = .ok (.getfield 9, 3) := by decide +kernel
theorem dX9_ringAt_9 : decode cX9_ringAt 9 = .ok (.if_icmp .ge 43, 3) := by decide +kernel
theorem dX9_ringAt_12 : decode cX9_ringAt 12 = .ok (.aload_n 0, 1) := by decide +kernel
theorem dX9_ringAt_13 : decode cX9_ringAt 13 = .ok (.iload_n 3, 1) := by decide +kernel
theorem dX9_ringAt_14 : decode cX9_ringAt 14 = .ok (.invokevirtual 83, 3) := by decide +kernel
theorem dX9_ringAt_17 : decode cX9_ringAt 17 = .ok (.ifCond .eq 29, 3) := by decide +kernel
theorem dX9_ringAt_20 : decode cX9_ringAt 20 = .ok (.aload_n 0, 1) := by decide +kernel
theorem dX9_ringAt_21 : decode cX9_ringAt 21 = .ok (.iload_n 3, 1) := by decide +kernel
theorem dX9_ringAt_22 : decode cX9_ringAt 22 = .ok (.invokevirtual 92, 3) := by decide +kernel
theorem dX9_ringAt_25 : decode cX9_ringAt 25 = .ok (.invokestatic 100, 3) := by decide +kernel
theorem dX9_ringAt_28 : decode cX9_ringAt 28 = .ok (.iload_n 3, 1) := by decide +kernel
theorem dX9_ringAt_29 : decode cX9_ringAt 29 = .ok (.if_icmp .ne 17, 3) := by decide +kernel
theorem dX9_ringAt_32 : decode cX9_ringAt 32 = .ok (.iload_n 2, 1) := by decide +kernel
theorem dX9_ringAt_33 : decode cX9_ringAt 33 = .ok (.iload_n 1, 1) := by decide +kernel
theorem dX9_ringAt_34 : decode cX9_ringAt 34 = .ok (.if_icmp .ne 9, 3) := by decide +kernel
theorem dX9_ringAt_37 : decode cX9_ringAt 37 = .ok (.aload_n 0, 1) := by decide +kernel
theorem dX9_ringAt_38 : decode cX9_ringAt 38 = .ok (.iload_n 3, 1) := by decide +kernel
theorem dX9_ringAt_39 : decode cX9_ringAt 39 = .ok (.invokevirtual 92, 3) := by decide +kernel
theorem dX9_ringAt_42 : decode cX9_ringAt 42 = .ok (.ireturn, 1) := by decide +kernel
theorem dX9_ringAt_43 : decode cX9_ringAt 43 = .ok (.iinc 2 1, 3) := by decide +kernel
theorem dX9_ringAt_46 : decode cX9_ringAt 46 = .ok (.iinc 3 1, 3) := by decide +kernel
theorem dX9_ringAt_49 : decode cX9_ringAt 49 = .ok (.goto (-45), 3) := by decide +kernel
theorem dX9_ringAt_52 : decode cX9_ringAt 52 = .ok (.iconst 0, 1) := by decide +kernel
theorem dX9_ringAt_53 : decode cX9_ringAt 53 = .ok (.ireturn, 1) := by decide +kernel
set_option maxRecDepth 20000 in
theorem ggX9_rings_X9_in : GoodIn wsX9_rings wsX9_in := goodIn_r _ [10] (by decide +kernel) (by decide +kernel)
set_option maxRecDepth 20000 in
theorem gX9_rings_X9_in : GoodIn wsX9_rings (va_wsS RX9 62 yX9_in wsX9_in) := goodIn_app (goodIn_of _ (by decide +kernel)) ggX9_rings_X9_in
set_option maxRecDepth 20000 in
theorem ggX9_rings_X9_ringAt : GoodIn wsX9_rings wsX9_ringAt := goodIn_r _ [14, 6, 15, 16, 17, 9, 18, 19, 20, 21, 22, 23, 24, 25, 26, 27, 28, 35, 36, 37, 38, 39, 40, 41, 42, 43, 44, 45, 46, 47, 48, 49, 50, 51, 52, 53, 54, 55, 56, 57, 58] (by decide +kernel) (by decide +kernel)
set_option maxRecDepth 20000 in
theorem gX9_rings_X9_ringAt : GoodIn wsX9_rings (wsV RX9 103 RX9 yX9_ringAt wsX9_ringAt) := goodIn_app (goodIn_of _ (by decide +kernel)) ggX9_rings_X9_ringAt
set_option maxRecDepth 20000 in
theorem ggX9_rings_J6_bitCount_0f7a4 : GoodIn wsX9_rings wsJ6_bitCount_0f7a4 := goodIn_r _ [31, 32, 33, 34] (by decide +kernel) (by decide +kernel)
set_option maxRecDepth 20000 in
theorem gX9_rings_J6_bitCount_0f7a4 : GoodIn wsX9_rings (va_wsS RX9 95 yJ6_bitCount_0f7a4 wsJ6_bitCount_0f7a4) := goodIn_app (goodIn_of _ (by decide +kernel)) ggX9_rings_J6_bitCount_0f7a4
theorem dX9_rings_0 : decode cX9_rings 0 = .ok (.iload_n 1, 1) := by decide +kernel
theorem dX9_rings_1 : decode cX9_rings 1 = .ok (.i2l, 1) := by decide +kernel
theorem dX9_rings_2 : decode cX9_rings 2 = .ok (.lconst 0, 1) := by decide +kernel
theorem dX9_rings_3 : decode cX9_rings 3 = .ok (.ldc2_w 86, 3) := by decide +kernel
theorem dX9_rings_6 : decode cX9_rings 6 = .ok (.invokestatic 62, 3) := by decide +kernel
theorem dX9_rings_9 : decode cX9_rings 9 = .ok (.ifCond .ne 6, 3) := by decide +kernel
theorem dX9_rings_12 : decode cX9_rings 12 = .ok (.bipush (-2), 2) := by decide +kernel
theorem dX9_rings_14 : decode cX9_rings 14 = .ok (.ireturn, 1) := by decide +kernel
theorem dX9_rings_15 : decode cX9_rings 15 = .ok (.iconst 0, 1) := by decide +kernel
theorem dX9_rings_16 : decode cX9_rings 16 = .ok (.istore_n 2, 1) := by decide +kernel
theorem dX9_rings_17 : decode cX9_rings 17 = .ok (.iconst 0, 1) := by decide +kernel
theorem dX9_rings_18 : decode cX9_rings 18 = .ok (.istore_n 3, 1) := by decide +kernel
theorem dX9_rings_19 : decode cX9_rings 19 = .ok (.iconst 0, 1) := by decide +kernel
theorem dX9_rings_20 : decode cX9_rings 20 = .ok (.istore 4, 2) := by decide +kernel
theorem dX9_rings_22 : decode cX9_rings 22 = .ok (.aload_n 0, 1) := by decide +kernel
theorem dX9_rings_23 : decode cX9_rings 23 = .ok (.iconst 0, 1) := by decide +kernel
theorem dX9_rings_24 : decode cX9_rings 24 = .ok (.invokevirtual 103, 3) := by decide +kernel
theorem dX9_rings_27 : decode cX9_rings 27 = .ok (.istore 5, 2) := by decide +kernel
theorem dX9_rings_29 : decode cX9_rings 29 = .ok (.iload 5, 2) := by decide +kernel
theorem dX9_rings_31 : decode cX9_rings 31 = .ok (.ifCond .eq 36, 3) := by decide +kernel
theorem dX9_rings_34 : decode cX9_rings 34 = .ok (.iinc 2 1, 3) := by decide +kernel
theorem dX9_rings_37 : decode cX9_rings 37 = .ok (.iload_n 3, 1) := by decide +kernel
theorem dX9_rings_38 : decode cX9_rings 38 = .ok (.iload 5, 2) := by decide +kernel
theorem dX9_rings_40 : decode cX9_rings 40 = .ok (.invokestatic 95, 3) := by decide +kernel
theorem dX9_rings_43 : decode cX9_rings 43 = .ok (.iadd, 1) := by decide +kernel
theorem dX9_rings_44 : decode cX9_rings 44 = .ok (.istore_n 3, 1) := by decide +kernel
theorem dX9_rings_45 : decode cX9_rings 45 = .ok (.iload 4, 2) := by decide +kernel
theorem dX9_rings_47 : decode cX9_rings 47 = .ok (.iload 5, 2) := by decide +kernel
theorem dX9_rings_49 : decode cX9_rings 49 = .ok (.invokestatic 95, 3) := by decide +kernel
theorem dX9_rings_52 : decode cX9_rings 52 = .ok (.invokestatic 106, 3) := by decide +kernel
theorem dX9_rings_55 : decode cX9_rings 55 = .ok (.istore 4, 2) := by decide +kernel
theorem dX9_rings_57 : decode cX9_rings 57 = .ok (.aload_n 0, 1) := by decide +kernel
theorem dX9_rings_58 : decode cX9_rings 58 = .ok (.iload_n 2, 1) := by decide +kernel
theorem dX9_rings_59 : decode cX9_rings 59 = .ok (.invokevirtual 103, 3) := by decide +kernel
theorem dX9_rings_62 : decode cX9_rings 62 = .ok (.istore 5, 2) := by decide +kernel
theorem dX9_rings_64 : decode cX9_rings 64 = .ok (.goto (-35), 3) := by decide +kernel
theorem dX9_rings_67 : decode cX9_rings 67 = .ok (.iload_n 1, 1) := by decide +kernel
theorem dX9_rings_68 : decode cX9_rings 68 = .ok (.ifCond .ne 7, 3) := by decide +kernel
theorem dX9_rings_71 : decode cX9_rings 71 = .ok (.iload_n 2, 1) := by decide +kernel
theorem dX9_rings_72 : decode cX9_rings 72 = .ok (.goto 35, 3) := by decide +kernel
theorem dX9_rings_75 : decode cX9_rings 75 = .ok (.iload_n 1, 1) := by decide +kernel
theorem dX9_rings_76 : decode cX9_rings 76 = .ok (.iconst 1, 1) := by decide +kernel
theorem dX9_rings_77 : decode cX9_rings 77 = .ok (.if_icmp .ne 7, 3) := by decide +kernel
theorem dX9_rings_80 : decode cX9_rings 80 = .ok (.iload_n 3, 1) := by decide +kernel
theorem dX9_rings_81 : decode cX9_rings 81 = .ok (.goto 26, 3) := by decide +kernel
theorem dX9_rings_84 : decode cX9_rings 84 = .ok (.iload_n 1, 1) := by decide +kernel
theorem dX9_rings_85 : decode cX9_rings 85 = .ok (.iconst 2, 1) := by decide +kernel
theorem dX9_rings_86 : decode cX9_rings 86 = .ok (.if_icmp .ne 8, 3) := by decide +kernel
theorem dX9_rings_89 : decode cX9_rings 89 = .ok (.iload 4, 2) := by decide +kernel
theorem dX9_rings_91 : decode cX9_rings 91 = .ok (.goto 16, 3) := by decide +kernel
theorem dX9_rings_94 : decode cX9_rings 94 = .ok (.iload_n 3, 1) := by decide +kernel
theorem dX9_rings_95 : decode cX9_rings 95 = .ok (.aload_n 0, 1) := by decide +kernel
theorem dX9_rings_96 : decode cX9_rings 96 = .ok (.getfield 9, 3) := by decide +kernel
theorem dX9_rings_99 : decode cX9_rings 99 = .ok (.if_icmp .ne 7, 3) := by decide +kernel
theorem dX9_rings_102 : decode cX9_rings 102 = .ok (.iconst 1, 1) := by decide +kernel
theorem dX9_rings_103 : decode cX9_rings 103 = .ok (.goto 4, 3) := by decide +kernel
theorem dX9_rings_106 : decode cX9_rings 106 = .ok (.iconst 0, 1) := by decide +kernel
theorem dX9_rings_107 : decode cX9_rings 107 = .ok (.ireturn, 1) := by decide +kernel
set_option maxRecDepth 20000 in
theorem ggX9_isRing_X9_ringAt : GoodIn wsX9_isRing wsX9_ringAt := goodIn_r _ [5, 6, 7, 8, 9, 4, 10, 11, 12, 13, 14, 15, 16, 17, 18, 19, 20, 21, 22, 23, 24, 25, 26, 27, 28, 29, 30, 31, 32, 33, 34, 35, 36, 37, 38, 39, 40, 41, 42, 43, 44] (by decide +kernel) (by decide +kernel)
set_option maxRecDepth 20000 in
theorem gX9_isRing_X9_ringAt : GoodIn wsX9_isRing (wsV RX9 103 RX9 yX9_ringAt wsX9_ringAt) := goodIn_app (goodIn_of _ (by decide +kernel)) ggX9_isRing_X9_ringAt
theorem dX9_isRing_0 : decode cX9_isRing 0 = .ok (.iload_n 1, 1) := by decide +kernel
theorem dX9_isRing_1 : decode cX9_isRing 1 = .ok (.ifCond .lt 15, 3) := by decide +kernel
theorem dX9_isRing_4 : decode cX9_isRing 4 = .ok (.aload_n 0, 1) := by decide +kernel
theorem dX9_isRing_5 : decode cX9_isRing 5 = .ok (.iload_n 1, 1) := by decide +kernel
theorem dX9_isRing_6 : decode cX9_isRing 6 = .ok (.invokevirtual 103, 3) := by decide +kernel
theorem dX9_isRing_9 : decode cX9_isRing 9 = .ok (.ifCond .eq 7, 3) := by decide +kernel
theorem dX9_isRing_12 : decode cX9_isRing 12 = .ok (.iconst 1, 1) := by decide +kernel
theorem dX9_isRing_13 : decode cX9_isRing 13 = .ok (.goto 4, 3) := by decide +kernel
theorem dX9_isRing_16 : decode cX9_isRing 16 = .ok (.iconst 0, 1) := by decide +kernel
theorem dX9_isRing_17 : decode cX9_isRing 17 = .ok (.ireturn, 1) := by decide +kernel
theorem dX9_kindOf_0 : decode cX9_kindOf 0 = .ok (.iload_n 0, 1) := by decide +kernel
theorem dX9_kindOf_1 : decode cX9_kindOf 1 = .ok (.iconst 1, 1) := by decide +kernel
theorem dX9_kindOf_2 : decode cX9_kindOf 2 = .ok (.if_icmp .ne 7, 3) := by decide +kernel
theorem dX9_kindOf_5 : decode cX9_kindOf 5 = .ok (.iconst 3, 1) := by decide +kernel
theorem dX9_kindOf_6 : decode cX9_kindOf 6 = .ok (.goto 23, 3) := by decide +kernel
theorem dX9_kindOf_9 : decode cX9_kindOf 9 = .ok (.iload_n 0, 1) := by decide +kernel
theorem dX9_kindOf_10 : decode cX9_kindOf 10 = .ok (.iconst 2, 1) := by decide +kernel
theorem dX9_kindOf_11 : decode cX9_kindOf 11 = .ok (.if_icmp .ne 7, 3) := by decide +kernel
theorem dX9_kindOf_14 : decode cX9_kindOf 14 = .ok (.iconst 4, 1) := by decide +kernel
theorem dX9_kindOf_15 : decode cX9_kindOf 15 = .ok (.goto 14, 3) := by decide +kernel
theorem dX9_kindOf_18 : decode cX9_kindOf 18 = .ok (.iload_n 0, 1) := by decide +kernel
theorem dX9_kindOf_19 : decode cX9_kindOf 19 = .ok (.iconst 2, 1) := by decide +kernel
theorem dX9_kindOf_20 : decode cX9_kindOf 20 = .ok (.irem, 1) := by decide +kernel
theorem dX9_kindOf_21 : decode cX9_kindOf 21 = .ok (.ifCond .ne 7, 3) := by decide +kernel
theorem dX9_kindOf_24 : decode cX9_kindOf 24 = .ok (.iconst 1, 1) := by decide +kernel
theorem dX9_kindOf_25 : decode cX9_kindOf 25 = .ok (.goto 4, 3) := by decide +kernel
theorem dX9_kindOf_28 : decode cX9_kindOf 28 = .ok (.iconst 2, 1) := by decide +kernel
theorem dX9_kindOf_29 : decode cX9_kindOf 29 = .ok (.ireturn, 1) := by decide +kernel
set_option maxRecDepth 20000 in
theorem ggX9_ring_X9_isRing : GoodIn wsX9_ring wsX9_isRing := goodIn_r _ [6, 7, 8, 9, 5, 10, 11, 12, 13, 14, 15, 16, 17, 18, 19, 20, 21, 22, 23, 24, 25, 38, 39, 40, 41, 42, 43, 44, 45, 46, 47, 48, 49, 50, 51, 52, 53, 54, 55, 56, 57, 58, 59, 60, 61] (by decide +kernel) (by decide +kernel)
set_option maxRecDepth 20000 in
theorem gX9_ring_X9_isRing : GoodIn wsX9_ring (wsV RX9 112 RX9 yX9_isRing wsX9_isRing) := goodIn_app (goodIn_of _ (by decide +kernel)) ggX9_ring_X9_isRing
set_option maxRecDepth 20000 in
theorem ggX9_ring_X9_in : GoodIn wsX9_ring wsX9_in := goodIn_r _ [28] (by decide +kernel) (by decide +kernel)
set_option maxRecDepth 20000 in
theorem gX9_ring_X9_in : GoodIn wsX9_ring (va_wsS RX9 62 yX9_in wsX9_in) := goodIn_app (goodIn_of _ (by decide +kernel)) ggX9_ring_X9_in
set_option maxRecDepth 20000 in
theorem ggX9_ring_X9_ringAt : GoodIn wsX9_ring wsX9_ringAt := goodIn_r _ [10, 11, 12, 13, 14, 5, 15, 16, 17, 18, 19, 20, 21, 22, 23, 24, 25, 38, 39, 40, 41, 42, 43, 44, 45, 46, 47, 48, 49, 50, 51, 52, 53, 54, 55, 56, 57, 58, 59, 60, 61] (by decide +kernel) (by decide +kernel)
set_option maxRecDepth 20000 in
theorem gX9_ring_X9_ringAt : GoodIn wsX9_ring (wsV RX9 103 RX9 yX9_ringAt wsX9_ringAt) := goodIn_app (goodIn_of _ (by decide +kernel)) ggX9_ring_X9_ringAt
set_option maxRecDepth 20000 in
theorem ggX9_ring_J6_bitCount_0f7a4 : GoodIn wsX9_ring wsJ6_bitCount_0f7a4 := goodIn_r _ [31, 32, 33, 34] (by decide +kernel) (by decide +kernel)
set_option maxRecDepth 20000 in
theorem gX9_ring_J6_bitCount_0f7a4 : GoodIn wsX9_ring (va_wsS RX9 95 yJ6_bitCount_0f7a4 wsJ6_bitCount_0f7a4) := goodIn_app (goodIn_of _ (by decide +kernel)) ggX9_ring_J6_bitCount_0f7a4
set_option maxRecDepth 20000 in
theorem ggX9_ring_X9_kindOf : GoodIn wsX9_ring wsX9_kindOf := goodIn_r _ [37] (by decide +kernel) (by decide +kernel)
set_option maxRecDepth 20000 in
theorem gX9_ring_X9_kindOf : GoodIn wsX9_ring (va_wsS RX9 115 yX9_kindOf wsX9_kindOf) := goodIn_app (goodIn_of _ (by decide +kernel)) ggX9_ring_X9_kindOf
set_option maxRecDepth 20000 in
theorem ggX9_ring_J6_numberOfTrailingZeros_0f7a4 : GoodIn wsX9_ring wsJ6_numberOfTrailingZeros_0f7a4 := goodIn_r _ [24, 25] (by decide +kernel) (by decide +kernel)
set_option maxRecDepth 20000 in
theorem gX9_ring_J6_numberOfTrailingZeros_0f7a4 : GoodIn wsX9_ring (va_wsS RX9 100 yJ6_numberOfTrailingZeros_0f7a4 wsJ6_numberOfTrailingZeros_0f7a4) := goodIn_app (goodIn_of _ (by decide +kernel)) ggX9_ring_J6_numberOfTrailingZeros_0f7a4
theorem dX9_ring_0 : decode cX9_ring 0 = .ok (.aload_n 0, 1) := by decide +kernel
theorem dX9_ring_1 : decode cX9_ring 1 = .ok (.iload_n 1, 1) := by decide +kernel
theorem dX9_ring_2 : decode cX9_ring 2 = .ok (.invokevirtual 112, 3) := by decide +kernel
theorem dX9_ring_5 : decode cX9_ring 5 = .ok (.ifCond .eq 15, 3) := by decide +kernel
theorem dX9_ring_8 : decode cX9_ring 8 = .ok (.iload_n 2, 1) := by decide +kernel
theorem dX9_ring_9 : decode cX9_ring 9 = .ok (.i2l, 1) := by decide +kernel
theorem dX9_ring_10 : decode cX9_ring 10 = .ok (.lconst 0, 1) := by decide +kernel
theorem dX9_ring_11 : decode cX9_ring 11 = .ok (.ldc2_w 69, 3) := by decide +kernel
theorem dX9_ring_14 : decode cX9_ring 14 = .ok (.invokestatic 62, 3) := by decide +kernel
theorem dX9_ring_17 : decode cX9_ring 17 = .ok (.ifCond .ne 6, 3) := by decide +kernel
theorem dX9_ring_20 : decode cX9_ring 20 = .ok (.bipush (-2), 2) := by decide +kernel
theorem dX9_ring_22 : decode cX9_ring 22 = .ok (.ireturn, 1) := by decide +kernel
theorem dX9_ring_23 : decode cX9_ring 23 = .ok (.aload_n 0, 1) := by decide +kernel
theorem dX9_ring_24 : decode cX9_ring 24 = .ok (.iload_n 1, 1) := by decide +kernel
theorem dX9_ring_25 : decode cX9_ring 25 = .ok (.invokevirtual 103, 3) := by decide +kernel
theorem dX9_ring_28 : decode cX9_ring 28 = .ok (.istore_n 3, 1) := by decide +kernel
theorem dX9_ring_29 : decode cX9_ring 29 = .ok (.iload_n 3, 1) := by decide +kernel
theorem dX9_ring_30 : decode cX9_ring 30 = .ok (.invokestatic 95, 3) := by decide +kernel
theorem dX9_ring_33 : decode cX9_ring 33 = .ok (.istore 4, 2) := by decide +kernel
theorem dX9_ring_35 : decode cX9_ring 35 = .ok (.iload_n 2, 1) := by decide +kernel
theorem dX9_ring_36 : decode cX9_ring 36 = .ok (.ifCond .ne 11, 3) := by decide +kernel
theorem dX9_ring_39 : decode cX9_ring 39 = .ok (.iload 4, 2) := by decide +kernel
theorem dX9_ring_41 : decode cX9_ring 41 = .ok (.invokestatic 115, 3) := by decide +kernel
theorem dX9_ring_44 : decode cX9_ring 44 = .ok (.goto 17, 3) := by decide +kernel
theorem dX9_ring_47 : decode cX9_ring 47 = .ok (.iload_n 2, 1) := by decide +kernel
theorem dX9_ring_48 : decode cX9_ring 48 = .ok (.iconst 1, 1) := by decide +kernel
theorem dX9_ring_49 : decode cX9_ring 49 = .ok (.if_icmp .ne 8, 3) := by decide +kernel
theorem dX9_ring_52 : decode cX9_ring 52 = .ok (.iload 4, 2) := by decide +kernel
theorem dX9_ring_54 : decode cX9_ring 54 = .ok (.goto 7, 3) := by decide +kernel
theorem dX9_ring_57 : decode cX9_ring 57 = .ok (.iload_n 3, 1) := by decide +kernel
theorem dX9_ring_58 : decode cX9_ring 58 = .ok (.invokestatic 100, 3) := by decide +kernel
theorem dX9_ring_61 : decode cX9_ring 61 = .ok (.ireturn, 1) := by decide +kernel
set_option maxRecDepth 20000 in
theorem ggX9_taken_X9_isRing : GoodIn wsX9_taken wsX9_isRing := goodIn_r _ [6, 7, 8, 9, 5, 10, 11, 12, 13, 14, 15, 16, 17, 18, 19, 20, 21, 22, 23, 24, 25, 38, 39, 40, 41, 42, 43, 44, 45, 46, 47, 48, 49, 50, 51, 52, 53, 54, 55, 56, 57, 58, 59, 60, 61] (by decide +kernel) (by decide +kernel)
set_option maxRecDepth 20000 in
theorem gX9_taken_X9_isRing : GoodIn wsX9_taken (wsV RX9 112 RX9 yX9_isRing wsX9_isRing) := goodIn_app (goodIn_of _ (by decide +kernel)) ggX9_taken_X9_isRing
set_option maxRecDepth 20000 in
theorem ggX9_taken_X9_in : GoodIn wsX9_taken wsX9_in := goodIn_r _ [28] (by decide +kernel) (by decide +kernel)
set_option maxRecDepth 20000 in
theorem gX9_taken_X9_in : GoodIn wsX9_taken (va_wsS RX9 62 yX9_in wsX9_in) := goodIn_app (goodIn_of _ (by decide +kernel)) ggX9_taken_X9_in
set_option maxRecDepth 20000 in
theorem ggX9_taken_X9_ringAt : GoodIn wsX9_taken wsX9_ringAt := goodIn_r _ [10, 11, 12, 13, 14, 5, 15, 16, 17, 18, 19, 20, 21, 22, 23, 24, 25, 38, 39, 40, 41, 42, 43, 44, 45, 46, 47, 48, 49, 50, 51, 52, 53, 54, 55, 56, 57, 58, 59, 60, 61] (by decide +kernel) (by decide +kernel)
set_option maxRecDepth 20000 in
theorem gX9_taken_X9_ringAt : GoodIn wsX9_taken (wsV RX9 103 RX9 yX9_ringAt wsX9_ringAt) := goodIn_app (goodIn_of _ (by decide +kernel)) ggX9_taken_X9_ringAt
set_option maxRecDepth 20000 in
theorem ggX9_taken_J6_bitCount_0f7a4 : GoodIn wsX9_taken wsJ6_bitCount_0f7a4 := goodIn_r _ [31, 32, 33, 34] (by decide +kernel) (by decide +kernel)
set_option maxRecDepth 20000 in
theorem gX9_taken_J6_bitCount_0f7a4 : GoodIn wsX9_taken (va_wsS RX9 95 yJ6_bitCount_0f7a4 wsJ6_bitCount_0f7a4) := goodIn_app (goodIn_of _ (by decide +kernel)) ggX9_taken_J6_bitCount_0f7a4
set_option maxRecDepth 20000 in
theorem ggX9_taken_X9_kindOf : GoodIn wsX9_taken wsX9_kindOf := goodIn_r _ [37] (by decide +kernel) (by decide +kernel)
set_option maxRecDepth 20000 in
theorem gX9_taken_X9_kindOf : GoodIn wsX9_taken (va_wsS RX9 115 yX9_kindOf wsX9_kindOf) := goodIn_app (goodIn_of _ (by decide +kernel)) ggX9_taken_X9_kindOf
theorem dX9_taken_0 : decode cX9_taken 0 = .ok (.aload_n 0, 1) := by decide +kernel
theorem dX9_taken_1 : decode cX9_taken 1 = .ok (.iload_n 1, 1) := by decide +kernel
theorem dX9_taken_2 : decode cX9_taken 2 = .ok (.invokevirtual 112, 3) := by decide +kernel
theorem dX9_taken_5 : decode cX9_taken 5 = .ok (.ifCond .eq 15, 3) := by decide +kernel
theorem dX9_taken_8 : decode cX9_taken 8 = .ok (.iload_n 2, 1) := by decide +kernel
theorem dX9_taken_9 : decode cX9_taken 9 = .ok (.i2l, 1) := by decide +kernel
theorem dX9_taken_10 : decode cX9_taken 10 = .ok (.lconst 0, 1) := by decide +kernel
theorem dX9_taken_11 : decode cX9_taken 11 = .ok (.ldc2_w 118, 3) := by decide +kernel
theorem dX9_taken_14 : decode cX9_taken 14 = .ok (.invokestatic 62, 3) := by decide +kernel
theorem dX9_taken_17 : decode cX9_taken 17 = .ok (.ifCond .ne 6, 3) := by decide +kernel
theorem dX9_taken_20 : decode cX9_taken 20 = .ok (.bipush (-2), 2) := by decide +kernel
theorem dX9_taken_22 : decode cX9_taken 22 = .ok (.ireturn, 1) := by decide +kernel
theorem dX9_taken_23 : decode cX9_taken 23 = .ok (.aload_n 0, 1) := by decide +kernel
theorem dX9_taken_24 : decode cX9_taken 24 = .ok (.iload_n 1, 1) := by decide +kernel
theorem dX9_taken_25 : decode cX9_taken 25 = .ok (.invokevirtual 103, 3) := by decide +kernel
theorem dX9_taken_28 : decode cX9_taken 28 = .ok (.invokestatic 95, 3) := by decide +kernel
theorem dX9_taken_31 : decode cX9_taken 31 = .ok (.istore_n 3, 1) := by decide +kernel
theorem dX9_taken_32 : decode cX9_taken 32 = .ok (.iload_n 3, 1) := by decide +kernel
theorem dX9_taken_33 : decode cX9_taken 33 = .ok (.invokestatic 115, 3) := by decide +kernel
theorem dX9_taken_36 : decode cX9_taken 36 = .ok (.istore 4, 2) := by decide +kernel
theorem dX9_taken_38 : decode cX9_taken 38 = .ok (.iload_n 2, 1) := by decide +kernel
theorem dX9_taken_39 : decode cX9_taken 39 = .ok (.ifCond .eq 31, 3) := by decide +kernel
theorem dX9_taken_42 : decode cX9_taken 42 = .ok (.iload_n 2, 1) := by decide +kernel
theorem dX9_taken_43 : decode cX9_taken 43 = .ok (.iload 4, 2) := by decide +kernel
theorem dX9_taken_45 : decode cX9_taken 45 = .ok (.if_icmp .eq 25, 3) := by decide +kernel
theorem dX9_taken_48 : decode cX9_taken 48 = .ok (.iload_n 2, 1) := by decide +kernel
theorem dX9_taken_49 : decode cX9_taken 49 = .ok (.iconst 2, 1) := by decide +kernel
theorem dX9_taken_50 : decode cX9_taken 50 = .ok (.if_icmp .ne 9, 3) := by decide +kernel
theorem dX9_taken_53 : decode cX9_taken 53 = .ok (.iload 4, 2) := by decide +kernel
theorem dX9_taken_55 : decode cX9_taken 55 = .ok (.iconst 3, 1) := by decide +kernel
theorem dX9_taken_56 : decode cX9_taken 56 = .ok (.if_icmp .eq 14, 3) := by decide +kernel
theorem dX9_taken_59 : decode cX9_taken 59 = .ok (.iload_n 2, 1) := by decide +kernel
theorem dX9_taken_60 : decode cX9_taken 60 = .ok (.iconst 1, 1) := by decide +kernel
theorem dX9_taken_61 : decode cX9_taken 61 = .ok (.if_icmp .ne 13, 3) := by decide +kernel
theorem dX9_taken_64 : decode cX9_taken 64 = .ok (.iload 4, 2) := by decide +kernel
theorem dX9_taken_66 : decode cX9_taken 66 = .ok (.iconst 4, 1) := by decide +kernel
theorem dX9_taken_67 : decode cX9_taken 67 = .ok (.if_icmp .ne 7, 3) := by decide +kernel
theorem dX9_taken_70 : decode cX9_taken 70 = .ok (.iconst 1, 1) := by decide +kernel
theorem dX9_taken_71 : decode cX9_taken 71 = .ok (.goto 4, 3) := by decide +kernel
theorem dX9_taken_74 : decode cX9_taken 74 = .ok (.iconst 0, 1) := by decide +kernel
theorem dX9_taken_75 : decode cX9_taken 75 = .ok (.istore 5, 2) := by decide +kernel
theorem dX9_taken_77 : decode cX9_taken 77 = .ok (.iload 5, 2) := by decide +kernel
theorem dX9_taken_79 : decode cX9_taken 79 = .ok (.ifCond .eq 7, 3) := by decide +kernel
theorem dX9_taken_82 : decode cX9_taken 82 = .ok (.iload_n 3, 1) := by decide +kernel
theorem dX9_taken_83 : decode cX9_taken 83 = .ok (.goto 5, 3) := by decide +kernel
theorem dX9_taken_86 : decode cX9_taken 86 = .ok (.bipush (-13), 2) := by decide +kernel
theorem dX9_taken_88 : decode cX9_taken 88 = .ok (.ireturn, 1) := by decide +kernel
theorem dX9_pieces_0 : decode cX9_pieces 0 = .ok (.aload_n 0, 1) := by decide +kernel
theorem dX9_pieces_1 : decode cX9_pieces 1 = .ok (.getfield 73, 3) := by decide +kernel
theorem dX9_pieces_4 : decode cX9_pieces 4 = .ok (.ifCond .ne 12, 3) := by decide +kernel
theorem dX9_pieces_7 : decode cX9_pieces 7 = .ok (.aload_n 0, 1) := by decide +kernel
theorem dX9_pieces_8 : decode cX9_pieces 8 = .ok (.getfield 9, 3) := by decide +kernel
theorem dX9_pieces_11 : decode cX9_pieces 11 = .ok (.iconst 1, 1) := by decide +kernel
theorem dX9_pieces_12 : decode cX9_pieces 12 = .ok (.isub, 1) := by decide +kernel
theorem dX9_pieces_13 : decode cX9_pieces 13 = .ok (.goto 7, 3) := by decide +kernel
theorem dX9_pieces_16 : decode cX9_pieces 16 = .ok (.aload_n 0, 1) := by decide +kernel
theorem dX9_pieces_17 : decode cX9_pieces 17 = .ok (.getfield 9, 3) := by decide +kernel
theorem dX9_pieces_20 : decode cX9_pieces 20 = .ok (.ireturn, 1) := by decide +kernel
set_option maxRecDepth 20000 in
theorem ggX9_isPiece_X9_pieces : GoodIn wsX9_isPiece wsX9_pieces := goodIn_r _ [5, 6, 7, 11, 12, 13, 14, 15, 16, 17, 18, 19, 20, 21, 22, 23, 24, 25, 26, 27, 28, 29, 30, 31, 32, 33, 34] (by decide +kernel) (by decide +kernel)
set_option maxRecDepth 20000 in
theorem gX9_isPiece_X9_pieces : GoodIn wsX9_isPiece (wsV RX9 120 RX9 yX9_pieces wsX9_pieces) := goodIn_app (goodIn_of _ (by decide +kernel)) ggX9_isPiece_X9_pieces
set_option maxRecDepth 20000 in
theorem ggX9_isPiece_X9_in : GoodIn wsX9_isPiece wsX9_in := goodIn_r _ [10] (by decide +kernel) (by decide +kernel)
set_option maxRecDepth 20000 in
theorem gX9_isPiece_X9_in : GoodIn wsX9_isPiece (va_wsS RX9 62 yX9_in wsX9_in) := goodIn_app (goodIn_of _ (by decide +kernel)) ggX9_isPiece_X9_in
theorem dX9_isPiece_0 : decode cX9_isPiece 0 = .ok (.iload_n 1, 1) := by decide +kernel
theorem dX9_isPiece_1 : decode cX9_isPiece 1 = .ok (.i2l, 1) := by decide +kernel
theorem dX9_isPiece_2 : decode cX9_isPiece 2 = .ok (.lconst 0, 1) := by decide +kernel
theorem dX9_isPiece_3 : decode cX9_isPiece 3 = .ok (.aload_n 0, 1) := by decide +kernel
theorem dX9_isPiece_4 : decode cX9_isPiece 4 = .ok (.invokevirtual 120, 3) := by decide +kernel
theorem dX9_isPiece_7 : decode cX9_isPiece 7 = .ok (.iconst 1, 1) := by decide +kernel
theorem dX9_isPiece_8 : decode cX9_isPiece 8 = .ok (.isub, 1) := by decide +kernel
theorem dX9_isPiece_9 : decode cX9_isPiece 9 = .ok (.i2l, 1) := by decide +kernel
theorem dX9_isPiece_10 : decode cX9_isPiece 10 = .ok (.invokestatic 62, 3) := by decide +kernel
theorem dX9_isPiece_13 : decode cX9_isPiece 13 = .ok (.ireturn, 1) := by decide +kernel
theorem dX9_coversOf_0 : decode cX9_coversOf 0 = .ok (.aload_n 0, 1) := by decide +kernel
theorem dX9_coversOf_1 : decode cX9_coversOf 1 = .ok (.getfield 15, 3) := by decide +kernel
theorem dX9_coversOf_4 : decode cX9_coversOf 4 = .ok (.iload_n 1, 1) := by decide +kernel
theorem dX9_coversOf_5 : decode cX9_coversOf 5 = .ok (.iaload, 1) := by decide +kernel
theorem dX9_coversOf_6 : decode cX9_coversOf 6 = .ok (.istore_n 2, 1) := by decide +kernel
theorem dX9_coversOf_7 : decode cX9_coversOf 7 = .ok (.aload_n 0, 1) := by decide +kernel
theorem dX9_coversOf_8 : decode cX9_coversOf 8 = .ok (.getfield 15, 3) := by decide +kernel
theorem dX9_coversOf_11 : decode cX9_coversOf 11 = .ok (.iload_n 1, 1) := by decide +kernel
theorem dX9_coversOf_12 : decode cX9_coversOf 12 = .ok (.iconst 1, 1) := by decide +kernel
theorem dX9_coversOf_13 : decode cX9_coversOf 13 = .ok (.iadd, 1) := by decide +kernel
theorem dX9_coversOf_14 : decode cX9_coversOf 14 = .ok (.aload_n 0, 1) := by decide +kernel
theorem dX9_coversOf_15 : decode cX9_coversOf 15 = .ok (.getfield 9, 3) := by decide +kernel
theorem dX9_coversOf_18 : decode cX9_coversOf 18 = .ok (.irem, 1) := by decide +kernel
theorem dX9_coversOf_19 : decode cX9_coversOf 19 = .ok (.iaload, 1) := by decide +kernel
theorem dX9_coversOf_20 : decode cX9_coversOf 20 = .ok (.istore_n 3, 1) := by decide +kernel
theorem dX9_coversOf_21 : decode cX9_coversOf 21 = .ok (.iconst 0, 1) := by decide +kernel
theorem dX9_coversOf_22 : decode cX9_coversOf 22 = .ok (.istore 4, 2) := by decide +kernel
theorem dX9_coversOf_24 : decode cX9_coversOf 24 = .ok (.aload_n 0, 1) := by decide +kernel
theorem dX9_coversOf_25 : decode cX9_coversOf 25 = .ok (.getfield 73, 3) := by decide +kernel
theorem dX9_coversOf_28 : decode cX9_coversOf 28 = .ok (.ifCond .ne 38, 3) := by decide +kernel
theorem dX9_coversOf_31 : decode cX9_coversOf 31 = .ok (.iload_n 2, 1) := by decide +kernel
theorem dX9_coversOf_32 : decode cX9_coversOf 32 = .ok (.iload_n 3, 1) := by decide +kernel
theorem dX9_coversOf_33 : decode cX9_coversOf 33 = .ok (.invokestatic 124, 3) := by decide +kernel
theorem dX9_coversOf_36 : decode cX9_coversOf 36 = .ok (.istore 5, 2) := by decide +kernel
theorem dX9_coversOf_38 : decode cX9_coversOf 38 = .ok (.iload 5, 2) := by decide +kernel
theorem dX9_coversOf_40 : decode cX9_coversOf 40 = .ok (.iload_n 2, 1) := by decide +kernel
theorem dX9_coversOf_41 : decode cX9_coversOf 41 = .ok (.iload_n 3, 1) := by decide +kernel
theorem dX9_coversOf_42 : decode cX9_coversOf 42 = .ok (.invokestatic 106, 3) := by decide +kernel
theorem dX9_coversOf_45 : decode cX9_coversOf 45 = .ok (.if_icmp .ge 18, 3) := by decide +kernel
theorem dX9_coversOf_48 : decode cX9_coversOf 48 = .ok (.iload 4, 2) := by decide +kernel
theorem dX9_coversOf_50 : decode cX9_coversOf 50 = .ok (.iconst 1, 1) := by decide +kernel
theorem dX9_coversOf_51 : decode cX9_coversOf 51 = .ok (.iload 5, 2) := by decide +kernel
theorem dX9_coversOf_53 : decode cX9_coversOf 53 = .ok (.ishl, 1) := by decide +kernel
theorem dX9_coversOf_54 : decode cX9_coversOf 54 = .ok (.ior, 1) := by decide +kernel
theorem dX9_coversOf_55 : decode cX9_coversOf 55 = .ok (.istore 4, 2) := by decide +kernel
theorem dX9_coversOf_57 : decode cX9_coversOf 57 = .ok (.iinc 5 1, 3) := by decide +kernel
theorem dX9_coversOf_60 : decode cX9_coversOf 60 = .ok (.goto (-22), 3) := by decide +kernel
theorem dX9_coversOf_63 : decode cX9_coversOf 63 = .ok (.iload 4, 2) := by decide +kernel
theorem dX9_coversOf_65 : decode cX9_coversOf 65 = .ok (.ireturn, 1) := by decide +kernel
theorem dX9_coversOf_66 : decode cX9_coversOf 66 = .ok (.iload_n 2, 1) := by decide +kernel
theorem dX9_coversOf_67 : decode cX9_coversOf 67 = .ok (.istore 5, 2) := by decide +kernel
theorem dX9_coversOf_69 : decode cX9_coversOf 69 = .ok (.iload 5, 2) := by decide +kernel
theorem dX9_coversOf_71 : decode cX9_coversOf 71 = .ok (.iload_n 3, 1) := by decide +kernel
theorem dX9_coversOf_72 : decode cX9_coversOf 72 = .ok (.if_icmp .eq 26, 3) := by decide +kernel
theorem dX9_coversOf_75 : decode cX9_coversOf 75 = .ok (.iload 4, 2) := by decide +kernel
theorem dX9_coversOf_77 : decode cX9_coversOf 77 = .ok (.iconst 1, 1) := by decide +kernel
theorem dX9_coversOf_78 : decode cX9_coversOf 78 = .ok (.iload 5, 2) := by decide +kernel
theorem dX9_coversOf_80 : decode cX9_coversOf 80 = .ok (.ishl, 1) := by decide +kernel
theorem dX9_coversOf_81 : decode cX9_coversOf 81 = .ok (.ior, 1) := by decide +kernel
theorem dX9_coversOf_82 : decode cX9_coversOf 82 = .ok (.istore 4, 2) := by decide +kernel
theorem dX9_coversOf_84 : decode cX9_coversOf 84 = .ok (.iload 5, 2) := by decide +kernel
theorem dX9_coversOf_86 : decode cX9_coversOf 86 = .ok (.iconst 1, 1) := by decide +kernel
theorem dX9_coversOf_87 : decode cX9_coversOf 87 = .ok (.iadd, 1) := by decide +kernel
theorem dX9_coversOf_88 : decode cX9_coversOf 88 = .ok (.aload_n 0, 1) := by decide +kernel
theorem dX9_coversOf_89 : decode cX9_coversOf 89 = .ok (.getfield 9, 3) := by decide +kernel
theorem dX9_coversOf_92 : decode cX9_coversOf 92 = .ok (.irem, 1) := by decide +kernel
theorem dX9_coversOf_93 : decode cX9_coversOf 93 = .ok (.istore 5, 2) := by decide +kernel
theorem dX9_coversOf_95 : decode cX9_coversOf 95 = .ok (.goto (-26), 3) := by decide +kernel
theorem dX9_coversOf_98 : decode cX9_coversOf 98 = .ok (.iload 4, 2) := by decide +kernel
theorem dX9_coversOf_100 : decode cX9_coversOf 100 = .ok (.ireturn, 1) := by decide +kernel
theorem dX9_falls_0 : decode cX9_falls 0 = .ok (.aload_n 0, 1) := by decide +kernel
theorem dX9_falls_1 : decode cX9_falls 1 = .ok (.getfield 73, 3) := by decide +kernel
theorem dX9_falls_4 : decode cX9_falls 4 = .ok (.ifCond .ne 24, 3) := by decide +kernel
theorem dX9_falls_7 : decode cX9_falls 7 = .ok (.aload_n 0, 1) := by decide +kernel
theorem dX9_falls_8 : decode cX9_falls 8 = .ok (.getfield 15, 3) := by decide +kernel
theorem dX9_falls_11 : decode cX9_falls 11 = .ok (.iload_n 1, 1) := by decide +kernel
theorem dX9_falls_12 : decode cX9_falls 12 = .ok (.iaload, 1) := by decide +kernel
theorem dX9_falls_13 : decode cX9_falls 13 = .ok (.aload_n 0, 1) := by decide +kernel
theorem dX9_falls_14 : decode cX9_falls 14 = .ok (.getfield 15, 3) := by decide +kernel
theorem dX9_falls_17 : decode cX9_falls 17 = .ok (.iload_n 1, 1) := by decide +kernel
theorem dX9_falls_18 : decode cX9_falls 18 = .ok (.iconst 1, 1) := by decide +kernel
theorem dX9_falls_19 : decode cX9_falls 19 = .ok (.iadd, 1) := by decide +kernel
theorem dX9_falls_20 : decode cX9_falls 20 = .ok (.iaload, 1) := by decide +kernel
theorem dX9_falls_21 : decode cX9_falls 21 = .ok (.if_icmp .le 7, 3) := by decide +kernel
theorem dX9_falls_24 : decode cX9_falls 24 = .ok (.iconst 1, 1) := by decide +kernel
theorem dX9_falls_25 : decode cX9_falls 25 = .ok (.goto 4, 3) := by decide +kernel
theorem dX9_falls_28 : decode cX9_falls 28 = .ok (.iconst 0, 1) := by decide +kernel
theorem dX9_falls_29 : decode cX9_falls 29 = .ok (.ireturn, 1) := by decide +kernel
set_option maxRecDepth 20000 in
theorem ggX9_reached_X9_coversOf : GoodIn wsX9_reached wsX9_coversOf := goodIn_r _ [5, 6, 7, 8, 9, 10, 11, 12, 13, 14, 15, 20, 21, 22, 23, 24, 25, 26, 27, 28, 29, 30, 31, 32, 33, 34, 35, 36, 37, 38, 39, 40, 41, 42, 43] (by decide +kernel) (by decide +kernel)
set_option maxRecDepth 20000 in
theorem gX9_reached_X9_coversOf : GoodIn wsX9_reached (wsV RX9 127 RX9 yX9_coversOf wsX9_coversOf) := goodIn_app (goodIn_of _ (by decide +kernel)) ggX9_reached_X9_coversOf
set_option maxRecDepth 20000 in
theorem ggX9_reached_X9_pieces : GoodIn wsX9_reached wsX9_pieces := goodIn_r _ [19, 8, 7, 20, 21, 22, 23, 24, 25, 26, 27, 28, 29, 30, 31, 32, 33, 34, 35, 36, 37, 38, 39, 40, 41, 42, 43] (by decide +kernel) (by decide +kernel)
set_option maxRecDepth 20000 in
theorem gX9_reached_X9_pieces : GoodIn wsX9_reached (wsV RX9 120 RX9 yX9_pieces wsX9_pieces) := goodIn_app (goodIn_of _ (by decide +kernel)) ggX9_reached_X9_pieces
theorem dX9_reached_0 : decode cX9_reached 0 = .ok (.aload_n 0, 1) := by decide +kernel
theorem dX9_reached_1 : decode cX9_reached 1 = .ok (.iload_n 1, 1) := by decide +kernel
theorem dX9_reached_2 : decode cX9_reached 2 = .ok (.invokevirtual 127, 3) := by decide +kernel
theorem dX9_reached_5 : decode cX9_reached 5 = .ok (.istore_n 2, 1) := by decide +kernel
theorem dX9_reached_6 : decode cX9_reached 6 = .ok (.iconst 0, 1) := by decide +kernel
theorem dX9_reached_7 : decode cX9_reached 7 = .ok (.istore_n 3, 1) := by decide +kernel
theorem dX9_reached_8 : decode cX9_reached 8 = .ok (.iload_n 3, 1) := by decide +kernel
theorem dX9_reached_9 : decode cX9_reached 9 = .ok (.bipush 8, 2) := by decide +kernel
theorem dX9_reached_11 : decode cX9_reached 11 = .ok (.if_icmp .ge 49, 3) := by decide +kernel
theorem dX9_reached_14 : decode cX9_reached 14 = .ok (.iconst 0, 1) := by decide +kernel
theorem dX9_reached_15 : decode cX9_reached 15 = .ok (.istore 4, 2) := by decide +kernel
theorem dX9_reached_17 : decode cX9_reached 17 = .ok (.iload 4, 2) := by decide +kernel
theorem dX9_reached_19 : decode cX9_reached 19 = .ok (.aload_n 0, 1) := by decide +kernel
theorem dX9_reached_20 : decode cX9_reached 20 = .ok (.invokevirtual 120, 3) := by decide +kernel
theorem dX9_reached_23 : decode cX9_reached 23 = .ok (.if_icmp .ge 31, 3) := by decide +kernel
theorem dX9_reached_26 : decode cX9_reached 26 = .ok (.iload_n 2, 1) := by decide +kernel
theorem dX9_reached_27 : decode cX9_reached 27 = .ok (.iload_n 2, 1) := by decide +kernel
theorem dX9_reached_28 : decode cX9_reached 28 = .ok (.iload 4, 2) := by decide +kernel
theorem dX9_reached_30 : decode cX9_reached 30 = .ok (.ishr, 1) := by decide +kernel
theorem dX9_reached_31 : decode cX9_reached 31 = .ok (.iconst 1, 1) := by decide +kernel
theorem dX9_reached_32 : decode cX9_reached 32 = .ok (.iand, 1) := by decide +kernel
theorem dX9_reached_33 : decode cX9_reached 33 = .ok (.ifCond .eq 12, 3) := by decide +kernel
theorem dX9_reached_36 : decode cX9_reached 36 = .ok (.aload_n 0, 1) := by decide +kernel
theorem dX9_reached_37 : decode cX9_reached 37 = .ok (.iload 4, 2) := by decide +kernel
theorem dX9_reached_39 : decode cX9_reached 39 = .ok (.invokevirtual 127, 3) := by decide +kernel
theorem dX9_reached_42 : decode cX9_reached 42 = .ok (.goto 4, 3) := by decide +kernel
theorem dX9_reached_45 : decode cX9_reached 45 = .ok (.iconst 0, 1) := by decide +kernel
theorem dX9_reached_46 : decode cX9_reached 46 = .ok (.ior, 1) := by decide +kernel
theorem dX9_reached_47 : decode cX9_reached 47 = .ok (.istore_n 2, 1) := by decide +kernel
theorem dX9_reached_48 : decode cX9_reached 48 = .ok (.iinc 4 1, 3) := by decide +kernel
theorem dX9_reached_51 : decode cX9_reached 51 = .ok (.goto (-34), 3) := by decide +kernel
theorem dX9_reached_54 : decode cX9_reached 54 = .ok (.iinc 3 1, 3) := by decide +kernel
theorem dX9_reached_57 : decode cX9_reached 57 = .ok (.goto (-49), 3) := by decide +kernel
theorem dX9_reached_60 : decode cX9_reached 60 = .ok (.iload_n 2, 1) := by decide +kernel
theorem dX9_reached_61 : decode cX9_reached 61 = .ok (.ireturn, 1) := by decide +kernel
set_option maxRecDepth 20000 in
theorem ggX9_covers_X9_isPiece : GoodIn wsX9_covers wsX9_isPiece := goodIn_r _ [6, 7, 8, 9, 5, 10, 11, 12, 13, 14, 15, 36, 37, 38, 39, 40, 41, 42, 43, 44, 45, 46, 47, 48, 49, 50, 51, 52, 53, 54, 55, 56, 57, 58, 59] (by decide +kernel) (by decide +kernel)
set_option maxRecDepth 20000 in
theorem gX9_covers_X9_isPiece : GoodIn wsX9_covers (wsV RX9 130 RX9 yX9_isPiece wsX9_isPiece) := goodIn_app (goodIn_of _ (by decide +kernel)) ggX9_covers_X9_isPiece
set_option maxRecDepth 20000 in
theorem ggX9_covers_X9_in : GoodIn wsX9_covers wsX9_in := goodIn_r _ [15] (by decide +kernel) (by decide +kernel)
set_option maxRecDepth 20000 in
theorem gX9_covers_X9_in : GoodIn wsX9_covers (va_wsS RX9 62 yX9_in wsX9_in) := goodIn_app (goodIn_of _ (by decide +kernel)) ggX9_covers_X9_in
set_option maxRecDepth 20000 in
theorem ggX9_covers_X9_coversOf : GoodIn wsX9_covers wsX9_coversOf := goodIn_r _ [19, 20, 12, 11, 21, 22, 23, 24, 25, 26, 27, 36, 37, 38, 39, 40, 41, 42, 43, 44, 45, 46, 47, 48, 49, 50, 51, 52, 53, 54, 55, 56, 57, 58, 59] (by decide +kernel) (by decide +kernel)
set_option maxRecDepth 20000 in
theorem gX9_covers_X9_coversOf : GoodIn wsX9_covers (wsV RX9 127 RX9 yX9_coversOf wsX9_coversOf) := goodIn_app (goodIn_of _ (by decide +kernel)) ggX9_covers_X9_coversOf
set_option maxRecDepth 20000 in
theorem ggX9_covers_X9_reached : GoodIn wsX9_covers wsX9_reached := goodIn_r _ [31, 16, 17, 18, 5, 19, 20, 12, 11, 21, 22, 23, 24, 25, 26, 27, 7, 8, 9, 10, 36, 37, 38, 39, 40, 41, 42, 43, 44, 45, 46, 47, 48, 49, 50, 51, 52, 53, 54, 55, 56, 57, 58, 59] (by decide +kernel) (by decide +kernel)
set_option maxRecDepth 20000 in
theorem gX9_covers_X9_reached : GoodIn wsX9_covers (wsV RX9 133 RX9 yX9_reached wsX9_reached) := goodIn_app (goodIn_of _ (by decide +kernel)) ggX9_covers_X9_reached
set_option maxRecDepth 20000 in
theorem ggX9_covers_X9_falls : GoodIn wsX9_covers wsX9_falls := goodIn_r _ [35, 11, 20, 36, 37, 38, 39, 40, 41, 42, 43, 44, 45, 46, 47, 48, 49, 50, 51, 52, 53, 54, 55, 56, 57, 58, 59] (by decide +kernel) (by decide +kernel)
set_option maxRecDepth 20000 in
theorem gX9_covers_X9_falls : GoodIn wsX9_covers (wsV RX9 136 RX9 yX9_falls wsX9_falls) := goodIn_app (goodIn_of _ (by decide +kernel)) ggX9_covers_X9_falls
theorem dX9_covers_0 : decode cX9_covers 0 = .ok (.aload_n 0, 1) := by decide +kernel
theorem dX9_covers_1 : decode cX9_covers 1 = .ok (.iload_n 1, 1) := by decide +kernel
theorem dX9_covers_2 : decode cX9_covers 2 = .ok (.invokevirtual 130, 3) := by decide +kernel
theorem dX9_covers_5 : decode cX9_covers 5 = .ok (.ifCond .eq 15, 3) := by decide +kernel
theorem dX9_covers_8 : decode cX9_covers 8 = .ok (.iload_n 2, 1) := by decide +kernel
theorem dX9_covers_9 : decode cX9_covers 9 = .ok (.i2l, 1) := by decide +kernel
theorem dX9_covers_10 : decode cX9_covers 10 = .ok (.lconst 0, 1) := by decide +kernel
theorem dX9_covers_11 : decode cX9_covers 11 = .ok (.ldc2_w 69, 3) := by decide +kernel
theorem dX9_covers_14 : decode cX9_covers 14 = .ok (.invokestatic 62, 3) := by decide +kernel
theorem dX9_covers_17 : decode cX9_covers 17 = .ok (.ifCond .ne 6, 3) := by decide +kernel
theorem dX9_covers_20 : decode cX9_covers 20 = .ok (.bipush (-2), 2) := by decide +kernel
theorem dX9_covers_22 : decode cX9_covers 22 = .ok (.ireturn, 1) := by decide +kernel
theorem dX9_covers_23 : decode cX9_covers 23 = .ok (.iload_n 2, 1) := by decide +kernel
theorem dX9_covers_24 : decode cX9_covers 24 = .ok (.ifCond .ne 11, 3) := by decide +kernel
theorem dX9_covers_27 : decode cX9_covers 27 = .ok (.aload_n 0, 1) := by decide +kernel
theorem dX9_covers_28 : decode cX9_covers 28 = .ok (.iload_n 1, 1) := by decide +kernel
theorem dX9_covers_29 : decode cX9_covers 29 = .ok (.invokevirtual 127, 3) := by decide +kernel
theorem dX9_covers_32 : decode cX9_covers 32 = .ok (.goto 29, 3) := by decide +kernel
theorem dX9_covers_35 : decode cX9_covers 35 = .ok (.iload_n 2, 1) := by decide +kernel
theorem dX9_covers_36 : decode cX9_covers 36 = .ok (.iconst 2, 1) := by decide +kernel
theorem dX9_covers_37 : decode cX9_covers 37 = .ok (.if_icmp .ne 11, 3) := by decide +kernel
theorem dX9_covers_40 : decode cX9_covers 40 = .ok (.aload_n 0, 1) := by decide +kernel
theorem dX9_covers_41 : decode cX9_covers 41 = .ok (.iload_n 1, 1) := by decide +kernel
theorem dX9_covers_42 : decode cX9_covers 42 = .ok (.invokevirtual 133, 3) := by decide +kernel
theorem dX9_covers_45 : decode cX9_covers 45 = .ok (.goto 16, 3) := by decide +kernel
theorem dX9_covers_48 : decode cX9_covers 48 = .ok (.aload_n 0, 1) := by decide +kernel
theorem dX9_covers_49 : decode cX9_covers 49 = .ok (.iload_n 1, 1) := by decide +kernel
theorem dX9_covers_50 : decode cX9_covers 50 = .ok (.invokevirtual 136, 3) := by decide +kernel
theorem dX9_covers_53 : decode cX9_covers 53 = .ok (.ifCond .eq 7, 3) := by decide +kernel
theorem dX9_covers_56 : decode cX9_covers 56 = .ok (.iconst 1, 1) := by decide +kernel
theorem dX9_covers_57 : decode cX9_covers 57 = .ok (.goto 4, 3) := by decide +kernel
theorem dX9_covers_60 : decode cX9_covers 60 = .ok (.iconst 0, 1) := by decide +kernel
theorem dX9_covers_61 : decode cX9_covers 61 = .ok (.ireturn, 1) := by decide +kernel
set_option maxRecDepth 20000 in
theorem ggX9_tellsPaths_X9_pieces : GoodIn wsX9_tellsPaths wsX9_pieces := goodIn_r _ [7, 8, 9, 22, 23, 24, 25, 26, 27, 28, 29, 30, 31, 32, 33, 34, 35, 36, 37, 38, 39, 40, 41, 42, 43, 44, 45] (by decide +kernel) (by decide +kernel)
set_option maxRecDepth 20000 in
theorem gX9_tellsPaths_X9_pieces : GoodIn wsX9_tellsPaths (wsV RX9 120 RX9 yX9_pieces wsX9_pieces) := goodIn_app (goodIn_of _ (by decide +kernel)) ggX9_tellsPaths_X9_pieces
set_option maxRecDepth 20000 in
theorem ggX9_tellsPaths_X9_coversOf : GoodIn wsX9_tellsPaths wsX9_coversOf := goodIn_r _ [13, 14, 9, 8, 15, 16, 17, 18, 19, 20, 21, 22, 23, 24, 25, 26, 27, 28, 29, 30, 31, 32, 33, 34, 35, 36, 37, 38, 39, 40, 41, 42, 43, 44, 45] (by decide +kernel) (by decide +kernel)
set_option maxRecDepth 20000 in
theorem gX9_tellsPaths_X9_coversOf : GoodIn wsX9_tellsPaths (wsV RX9 127 RX9 yX9_coversOf wsX9_coversOf) := goodIn_app (goodIn_of _ (by decide +kernel)) ggX9_tellsPaths_X9_coversOf
theorem dX9_tellsPaths_0 : decode cX9_tellsPaths 0 = .ok (.iconst 0, 1) := by decide +kernel
theorem dX9_tellsPaths_1 : decode cX9_tellsPaths 1 = .ok (.istore_n 2, 1) := by decide +kernel
theorem dX9_tellsPaths_2 : decode cX9_tellsPaths 2 = .ok (.iload_n 2, 1) := by decide +kernel
theorem dX9_tellsPaths_3 : decode cX9_tellsPaths 3 = .ok (.bipush 64, 2) := by decide +kernel
theorem dX9_tellsPaths_5 : decode cX9_tellsPaths 5 = .ok (.if_icmp .ge 31, 3) := by decide +kernel
theorem dX9_tellsPaths_8 : decode cX9_tellsPaths 8 = .ok (.aload_n 0, 1) := by decide +kernel
theorem dX9_tellsPaths_9 : decode cX9_tellsPaths 9 = .ok (.getfield 22, 3) := by decide +kernel
theorem dX9_tellsPaths_12 : decode cX9_tellsPaths 12 = .ok (.iload_n 2, 1) := by decide +kernel
theorem dX9_tellsPaths_13 : decode cX9_tellsPaths 13 = .ok (.iload_n 2, 1) := by decide +kernel
theorem dX9_tellsPaths_14 : decode cX9_tellsPaths 14 = .ok (.bipush 8, 2) := by decide +kernel
theorem dX9_tellsPaths_16 : decode cX9_tellsPaths 16 = .ok (.idiv, 1) := by decide +kernel
theorem dX9_tellsPaths_17 : decode cX9_tellsPaths 17 = .ok (.iload_n 2, 1) := by decide +kernel
theorem dX9_tellsPaths_18 : decode cX9_tellsPaths 18 = .ok (.bipush 8, 2) := by decide +kernel
theorem dX9_tellsPaths_20 : decode cX9_tellsPaths 20 = .ok (.irem, 1) := by decide +kernel
theorem dX9_tellsPaths_21 : decode cX9_tellsPaths 21 = .ok (.if_icmp .ne 7, 3) := by decide +kernel
theorem dX9_tellsPaths_24 : decode cX9_tellsPaths 24 = .ok (.lconst 1, 1) := by decide +kernel
theorem dX9_tellsPaths_25 : decode cX9_tellsPaths 25 = .ok (.goto 4, 3) := by decide +kernel
theorem dX9_tellsPaths_28 : decode cX9_tellsPaths 28 = .ok (.lconst 0, 1) := by decide +kernel
theorem dX9_tellsPaths_29 : decode cX9_tellsPaths 29 = .ok (.lastore, 1) := by decide +kernel
theorem dX9_tellsPaths_30 : decode cX9_tellsPaths 30 = .ok (.iinc 2 1, 3) := by decide +kernel
theorem dX9_tellsPaths_33 : decode cX9_tellsPaths 33 = .ok (.goto (-31), 3) := by decide +kernel
theorem dX9_tellsPaths_36 : decode cX9_tellsPaths 36 = .ok (.iconst 0, 1) := by decide +kernel
theorem dX9_tellsPaths_37 : decode cX9_tellsPaths 37 = .ok (.istore_n 2, 1) := by decide +kernel
theorem dX9_tellsPaths_38 : decode cX9_tellsPaths 38 = .ok (.iload_n 2, 1) := by decide +kernel
theorem dX9_tellsPaths_39 : decode cX9_tellsPaths 39 = .ok (.iload_n 1, 1) := by decide +kernel
theorem dX9_tellsPaths_40 : decode cX9_tellsPaths 40 = .ok (.if_icmp .ge 146, 3) := by decide +kernel
theorem dX9_tellsPaths_43 : decode cX9_tellsPaths 43 = .ok (.iconst 0, 1) := by decide +kernel
theorem dX9_tellsPaths_44 : decode cX9_tellsPaths 44 = .ok (.istore_n 3, 1) := by decide +kernel
theorem dX9_tellsPaths_45 : decode cX9_tellsPaths 45 = .ok (.iload_n 3, 1) := by decide +kernel
theorem dX9_tellsPaths_46 : decode cX9_tellsPaths 46 = .ok (.aload_n 0, 1) := by decide +kernel
theorem dX9_tellsPaths_47 : decode cX9_tellsPaths 47 = .ok (.invokevirtual 120, 3) := by decide +kernel
theorem dX9_tellsPaths_50 : decode cX9_tellsPaths 50 = .ok (.if_icmp .ge 99, 3) := by decide +kernel
theorem dX9_tellsPaths_53 : decode cX9_tellsPaths 53 = .ok (.aload_n 0, 1) := by decide +kernel
theorem dX9_tellsPaths_54 : decode cX9_tellsPaths 54 = .ok (.iload_n 3, 1) := by decide +kernel
theorem dX9_tellsPaths_55 : decode cX9_tellsPaths 55 = .ok (.invokevirtual 127, 3) := by decide +kernel
theorem dX9_tellsPaths_58 : decode cX9_tellsPaths 58 = .ok (.istore 4, 2) := by decide +kernel
theorem dX9_tellsPaths_60 : decode cX9_tellsPaths 60 = .ok (.iconst 0, 1) := by decide +kernel
theorem dX9_tellsPaths_61 : decode cX9_tellsPaths 61 = .ok (.istore 5, 2) := by decide +kernel
theorem dX9_tellsPaths_63 : decode cX9_tellsPaths 63 = .ok (.iload 5, 2) := by decide +kernel
theorem dX9_tellsPaths_65 : decode cX9_tellsPaths 65 = .ok (.bipush 8, 2) := by decide +kernel
theorem dX9_tellsPaths_67 : decode cX9_tellsPaths 67 = .ok (.if_icmp .ge 76, 3) := by decide +kernel
theorem dX9_tellsPaths_70 : decode cX9_tellsPaths 70 = .ok (.lconst 0, 1) := by decide +kernel
theorem dX9_tellsPaths_71 : decode cX9_tellsPaths 71 = .ok (.lstore 6, 2) := by decide +kernel
theorem dX9_tellsPaths_73 : decode cX9_tellsPaths 73 = .ok (.iconst 0, 1) := by decide +kernel
theorem dX9_tellsPaths_74 : decode cX9_tellsPaths 74 = .ok (.istore 8, 2) := by decide +kernel
theorem dX9_tellsPaths_76 : decode cX9_tellsPaths 76 = .ok (.iload 8, 2) := by decide +kernel
theorem dX9_tellsPaths_78 : decode cX9_tellsPaths 78 = .ok (.aload_n 0, 1) := by decide +kernel
theorem dX9_tellsPaths_79 : decode cX9_tellsPaths 79 = .ok (.invokevirtual 120, 3) := by decide +kernel
theorem dX9_tellsPaths_82 : decode cX9_tellsPaths 82 = .ok (.if_icmp .ge 41, 3) := by decide +kernel
theorem dX9_tellsPaths_85 : decode cX9_tellsPaths 85 = .ok (.lload 6, 2) := by decide +kernel
theorem dX9_tellsPaths_87 : decode cX9_tellsPaths 87 = .ok (.iload 4, 2) := by decide +kernel
theorem dX9_tellsPaths_89 : decode cX9_tellsPaths 89 = .ok (.iload 8, 2) := by decide +kernel
theorem dX9_tellsPaths_91 : decode cX9_tellsPaths 91 = .ok (.ishr, 1) := by decide +kernel
theorem dX9_tellsPaths_92 : decode cX9_tellsPaths 92 = .ok (.iconst 1, 1) := by decide +kernel
theorem dX9_tellsPaths_93 : decode cX9_tellsPaths 93 = .ok (.iand, 1) := by decide +kernel
theorem dX9_tellsPaths_94 : decode cX9_tellsPaths 94 = .ok (.ifCond .eq 19, 3) := by decide +kernel
theorem dX9_tellsPaths_97 : decode cX9_tellsPaths 97 = .ok (.aload_n 0, 1) := by decide +kernel
theorem dX9_tellsPaths_98 : decode cX9_tellsPaths 98 = .ok (.getfield 22, 3) := by decide +kernel
theorem dX9_tellsPaths_101 : decode cX9_tellsPaths 101 = .ok (.bipush 8, 2) := by decide +kernel
theorem dX9_tellsPaths_103 : decode cX9_tellsPaths 103 = .ok (.iload 8, 2) := by decide +kernel
theorem dX9_tellsPaths_105 : decode cX9_tellsPaths 105 = .ok (.imul, 1) := by decide +kernel
theorem dX9_tellsPaths_106 : decode cX9_tellsPaths 106 = .ok (.iload 5, 2) := by decide +kernel
theorem dX9_tellsPaths_108 : decode cX9_tellsPaths 108 = .ok (.iadd, 1) := by decide +kernel
theorem dX9_tellsPaths_109 : decode cX9_tellsPaths 109 = .ok (.laload, 1) := by decide +kernel
theorem dX9_tellsPaths_110 : decode cX9_tellsPaths 110 = .ok (.goto 4, 3) := by decide +kernel
theorem dX9_tellsPaths_113 : decode cX9_tellsPaths 113 = .ok (.lconst 0, 1) := by decide +kernel
theorem dX9_tellsPaths_114 : decode cX9_tellsPaths 114 = .ok (.ladd, 1) := by decide +kernel
theorem dX9_tellsPaths_115 : decode cX9_tellsPaths 115 = .ok (.lstore 6, 2) := by decide +kernel
theorem dX9_tellsPaths_117 : decode cX9_tellsPaths 117 = .ok (.iinc 8 1, 3) := by decide +kernel
theorem dX9_tellsPaths_120 : decode cX9_tellsPaths 120 = .ok (.goto (-44), 3) := by decide +kernel
theorem dX9_tellsPaths_123 : decode cX9_tellsPaths 123 = .ok (.aload_n 0, 1) := by decide +kernel
theorem dX9_tellsPaths_124 : decode cX9_tellsPaths 124 = .ok (.getfield 26, 3) := by decide +kernel
theorem dX9_tellsPaths_127 : decode cX9_tellsPaths 127 = .ok (.bipush 8, 2) := by decide +kernel
theorem dX9_tellsPaths_129 : decode cX9_tellsPaths 129 = .ok (.iload_n 3, 1) := by decide +kernel
theorem dX9_tellsPaths_130 : decode cX9_tellsPaths 130 = .ok (.imul, 1) := by decide +kernel
theorem dX9_tellsPaths_131 : decode cX9_tellsPaths 131 = .ok (.iload 5, 2) := by decide +kernel
theorem dX9_tellsPaths_133 : decode cX9_tellsPaths 133 = .ok (.iadd, 1) := by decide +kernel
theorem dX9_tellsPaths_134 : decode cX9_tellsPaths 134 = .ok (.lload 6, 2) := by decide +kernel
theorem dX9_tellsPaths_136 : decode cX9_tellsPaths 136 = .ok (.lastore, 1) := by decide +kernel
theorem dX9_tellsPaths_137 : decode cX9_tellsPaths 137 = .ok (.iinc 5 1, 3) := by decide +kernel
theorem dX9_tellsPaths_140 : decode cX9_tellsPaths 140 = .ok (.goto (-77), 3) := by decide +kernel
theorem dX9_tellsPaths_143 : decode cX9_tellsPaths 143 = .ok (.iinc 3 1, 3) := by decide +kernel
theorem dX9_tellsPaths_146 : decode cX9_tellsPaths 146 = .ok (.goto (-101), 3) := by decide +kernel
theorem dX9_tellsPaths_149 : decode cX9_tellsPaths 149 = .ok (.iconst 0, 1) := by decide +kernel
theorem dX9_tellsPaths_150 : decode cX9_tellsPaths 150 = .ok (.istore_n 3, 1) := by decide +kernel
theorem dX9_tellsPaths_151 : decode cX9_tellsPaths 151 = .ok (.iload_n 3, 1) := by decide +kernel
theorem dX9_tellsPaths_152 : decode cX9_tellsPaths 152 = .ok (.bipush 8, 2) := by decide +kernel
theorem dX9_tellsPaths_154 : decode cX9_tellsPaths 154 = .ok (.aload_n 0, 1) := by decide +kernel
theorem dX9_tellsPaths_155 : decode cX9_tellsPaths 155 = .ok (.invokevirtual 120, 3) := by decide +kernel
theorem dX9_tellsPaths_158 : decode cX9_tellsPaths 158 = .ok (.imul, 1) := by decide +kernel
theorem dX9_tellsPaths_159 : decode cX9_tellsPaths 159 = .ok (.if_icmp .ge 21, 3) := by decide +kernel
theorem dX9_tellsPaths_162 : decode cX9_tellsPaths 162 = .ok (.aload_n 0, 1) := by decide +kernel
theorem dX9_tellsPaths_163 : decode cX9_tellsPaths 163 = .ok (.getfield 22, 3) := by decide +kernel
theorem dX9_tellsPaths_166 : decode cX9_tellsPaths 166 = .ok (.iload_n 3, 1) := by decide +kernel
theorem dX9_tellsPaths_167 : decode cX9_tellsPaths 167 = .ok (.aload_n 0, 1) := by decide +kernel
theorem dX9_tellsPaths_168 : decode cX9_tellsPaths 168 = .ok (.getfield 26, 3) := by decide +kernel
theorem dX9_tellsPaths_171 : decode cX9_tellsPaths 171 = .ok (.iload_n 3, 1) := by decide +kernel
theorem dX9_tellsPaths_172 : decode cX9_tellsPaths 172 = .ok (.laload, 1) := by decide +kernel
theorem dX9_tellsPaths_173 : decode cX9_tellsPaths 173 = .ok (.lastore, 1) := by decide +kernel
theorem dX9_tellsPaths_174 : decode cX9_tellsPaths 174 = .ok (.iinc 3 1, 3) := by decide +kernel
theorem dX9_tellsPaths_177 : decode cX9_tellsPaths 177 = .ok (.goto (-26), 3) := by decide +kernel
theorem dX9_tellsPaths_180 : decode cX9_tellsPaths 180 = .ok (.iinc 2 1, 3) := by decide +kernel
theorem dX9_tellsPaths_183 : decode cX9_tellsPaths 183 = .ok (.goto (-145), 3) := by decide +kernel
theorem dX9_tellsPaths_186 : decode cX9_tellsPaths 186 = .ok (.return_, 1) := by decide +kernel
set_option maxRecDepth 20000 in
theorem ggX9_paths_X9_isPiece : GoodIn wsX9_paths wsX9_isPiece := goodIn_r _ [8, 9, 10, 11, 7, 12, 13, 14, 15, 16, 17, 35, 36, 37, 38, 39, 40, 41, 42, 43, 44, 45, 46, 47, 48, 49, 50, 51, 52, 53, 54, 55, 56, 57, 58] (by decide +kernel) (by decide +kernel)
set_option maxRecDepth 20000 in
theorem gX9_paths_X9_isPiece : GoodIn wsX9_paths (wsV RX9 130 RX9 yX9_isPiece wsX9_isPiece) := goodIn_app (goodIn_of _ (by decide +kernel)) ggX9_paths_X9_isPiece
set_option maxRecDepth 20000 in
theorem ggX9_paths_X9_in : GoodIn wsX9_paths wsX9_in := goodIn_r _ [17] (by decide +kernel) (by decide +kernel)
set_option maxRecDepth 20000 in
theorem gX9_paths_X9_in : GoodIn wsX9_paths (va_wsS RX9 62 yX9_in wsX9_in) := goodIn_app (goodIn_of _ (by decide +kernel)) ggX9_paths_X9_in
set_option maxRecDepth 20000 in
theorem ggX9_paths_X9_tellsPaths : GoodIn wsX9_paths wsX9_tellsPaths := goodIn_r _ [21, 3, 22, 9, 10, 11, 7, 12, 13, 14, 23, 24, 25, 26, 27, 28, 29, 30, 31, 32, 33, 34, 35, 36, 37, 38, 39, 40, 41, 42, 43, 44, 45, 46, 47, 48, 49, 50, 51, 52, 53, 54, 55, 56, 57, 58] (by decide +kernel) (by decide +kernel)
set_option maxRecDepth 20000 in
theorem gX9_paths_X9_tellsPaths : GoodIn wsX9_paths (wsV RX9 143 RX9 yX9_tellsPaths wsX9_tellsPaths) := goodIn_app (goodIn_of _ (by decide +kernel)) ggX9_paths_X9_tellsPaths
theorem dX9_paths_0 : decode cX9_paths 0 = .ok (.aload_n 0, 1) := by decide +kernel
theorem dX9_paths_1 : decode cX9_paths 1 = .ok (.iload_n 1, 1) := by decide +kernel
theorem dX9_paths_2 : decode cX9_paths 2 = .ok (.invokevirtual 130, 3) := by decide +kernel
theorem dX9_paths_5 : decode cX9_paths 5 = .ok (.ifCond .eq 23, 3) := by decide +kernel
theorem dX9_paths_8 : decode cX9_paths 8 = .ok (.aload_n 0, 1) := by decide +kernel
theorem dX9_paths_9 : decode cX9_paths 9 = .ok (.iload_n 2, 1) := by decide +kernel
theorem dX9_paths_10 : decode cX9_paths 10 = .ok (.invokevirtual 130, 3) := by decide +kernel
theorem dX9_paths_13 : decode cX9_paths 13 = .ok (.ifCond .eq 15, 3) := by decide +kernel
theorem dX9_paths_16 : decode cX9_paths 16 = .ok (.iload_n 3, 1) := by decide +kernel
theorem dX9_paths_17 : decode cX9_paths 17 = .ok (.i2l, 1) := by decide +kernel
theorem dX9_paths_18 : decode cX9_paths 18 = .ok (.lconst 0, 1) := by decide +kernel
theorem dX9_paths_19 : decode cX9_paths 19 = .ok (.ldc2_w 139, 3) := by decide +kernel
theorem dX9_paths_22 : decode cX9_paths 22 = .ok (.invokestatic 62, 3) := by decide +kernel
theorem dX9_paths_25 : decode cX9_paths 25 = .ok (.ifCond .ne 7, 3) := by decide +kernel
theorem dX9_paths_28 : decode cX9_paths 28 = .ok (.ldc2_w 141, 3) := by decide +kernel
theorem dX9_paths_31 : decode cX9_paths 31 = .ok (.lreturn, 1) := by decide +kernel
theorem dX9_paths_32 : decode cX9_paths 32 = .ok (.aload_n 0, 1) := by decide +kernel
theorem dX9_paths_33 : decode cX9_paths 33 = .ok (.iload_n 3, 1) := by decide +kernel
theorem dX9_paths_34 : decode cX9_paths 34 = .ok (.invokevirtual 143, 3) := by decide +kernel
theorem dX9_paths_37 : decode cX9_paths 37 = .ok (.aload_n 0, 1) := by decide +kernel
theorem dX9_paths_38 : decode cX9_paths 38 = .ok (.getfield 22, 3) := by decide +kernel
theorem dX9_paths_41 : decode cX9_paths 41 = .ok (.bipush 8, 2) := by decide +kernel
theorem dX9_paths_43 : decode cX9_paths 43 = .ok (.iload_n 1, 1) := by decide +kernel
theorem dX9_paths_44 : decode cX9_paths 44 = .ok (.imul, 1) := by decide +kernel
theorem dX9_paths_45 : decode cX9_paths 45 = .ok (.iload_n 2, 1) := by decide +kernel
theorem dX9_paths_46 : decode cX9_paths 46 = .ok (.iadd, 1) := by decide +kernel
theorem dX9_paths_47 : decode cX9_paths 47 = .ok (.laload, 1) := by decide +kernel
theorem dX9_paths_48 : decode cX9_paths 48 = .ok (.lreturn, 1) := by decide +kernel
set_option maxRecDepth 20000 in
theorem ggX9_loopsOf_X9_tellsPaths : GoodIn wsX9_loopsOf wsX9_tellsPaths := goodIn_r _ [6, 1, 7, 8, 9, 10, 5, 11, 12, 13, 14, 15, 16, 17, 18, 19, 20, 21, 22, 23, 24, 25, 26, 27, 28, 29, 30, 31, 32, 33, 34, 35, 36, 37, 38, 39, 40, 41, 42, 43, 44, 45, 46, 47, 48, 49] (by decide +kernel) (by decide +kernel)
set_option maxRecDepth 20000 in
theorem gX9_loopsOf_X9_tellsPaths : GoodIn wsX9_loopsOf (wsV RX9 143 RX9 yX9_tellsPaths wsX9_tellsPaths) := goodIn_app (goodIn_of _ (by decide +kernel)) ggX9_loopsOf_X9_tellsPaths
set_option maxRecDepth 20000 in
theorem ggX9_loopsOf_X9_pieces : GoodIn wsX9_loopsOf wsX9_pieces := goodIn_r _ [11, 12, 13, 26, 27, 28, 29, 30, 31, 32, 33, 34, 35, 36, 37, 38, 39, 40, 41, 42, 43, 44, 45, 46, 47, 48, 49] (by decide +kernel) (by decide +kernel)
set_option maxRecDepth 20000 in
theorem gX9_loopsOf_X9_pieces : GoodIn wsX9_loopsOf (wsV RX9 120 RX9 yX9_pieces wsX9_pieces) := goodIn_app (goodIn_of _ (by decide +kernel)) ggX9_loopsOf_X9_pieces
theorem dX9_loopsOf_0 : decode cX9_loopsOf 0 = .ok (.aload_n 0, 1) := by decide +kernel
theorem dX9_loopsOf_1 : decode cX9_loopsOf 1 = .ok (.iload_n 1, 1) := by decide +kernel
theorem dX9_loopsOf_2 : decode cX9_loopsOf 2 = .ok (.invokevirtual 143, 3) := by decide +kernel
theorem dX9_loopsOf_5 : decode cX9_loopsOf 5 = .ok (.lconst 0, 1) := by decide +kernel
theorem dX9_loopsOf_6 : decode cX9_loopsOf 6 = .ok (.lstore_n 2, 1) := by decide +kernel
theorem dX9_loopsOf_7 : decode cX9_loopsOf 7 = .ok (.iconst 0, 1) := by decide +kernel
theorem dX9_loopsOf_8 : decode cX9_loopsOf 8 = .ok (.istore 4, 2) := by decide +kernel
theorem dX9_loopsOf_10 : decode cX9_loopsOf 10 = .ok (.iload 4, 2) := by decide +kernel
theorem dX9_loopsOf_12 : decode cX9_loopsOf 12 = .ok (.aload_n 0, 1) := by decide +kernel
theorem dX9_loopsOf_13 : decode cX9_loopsOf 13 = .ok (.invokevirtual 120, 3) := by decide +kernel
theorem dX9_loopsOf_16 : decode cX9_loopsOf 16 = .ok (.if_icmp .ge 25, 3) := by decide +kernel
theorem dX9_loopsOf_19 : decode cX9_loopsOf 19 = .ok (.lload_n 2, 1) := by decide +kernel
theorem dX9_loopsOf_20 : decode cX9_loopsOf 20 = .ok (.aload_n 0, 1) := by decide +kernel
theorem dX9_loopsOf_21 : decode cX9_loopsOf 21 = .ok (.getfield 22, 3) := by decide +kernel
theorem dX9_loopsOf_24 : decode cX9_loopsOf 24 = .ok (.bipush 8, 2) := by decide +kernel
theorem dX9_loopsOf_26 : decode cX9_loopsOf 26 = .ok (.iload 4, 2) := by decide +kernel
theorem dX9_loopsOf_28 : decode cX9_loopsOf 28 = .ok (.imul, 1) := by decide +kernel
theorem dX9_loopsOf_29 : decode cX9_loopsOf 29 = .ok (.iload 4, 2) := by decide +kernel
theorem dX9_loopsOf_31 : decode cX9_loopsOf 31 = .ok (.iadd, 1) := by decide +kernel
theorem dX9_loopsOf_32 : decode cX9_loopsOf 32 = .ok (.laload, 1) := by decide +kernel
theorem dX9_loopsOf_33 : decode cX9_loopsOf 33 = .ok (.ladd, 1) := by decide +kernel
theorem dX9_loopsOf_34 : decode cX9_loopsOf 34 = .ok (.lstore_n 2, 1) := by decide +kernel
theorem dX9_loopsOf_35 : decode cX9_loopsOf 35 = .ok (.iinc 4 1, 3) := by decide +kernel
theorem dX9_loopsOf_38 : decode cX9_loopsOf 38 = .ok (.goto (-28), 3) := by decide +kernel
theorem dX9_loopsOf_41 : decode cX9_loopsOf 41 = .ok (.lload_n 2, 1) := by decide +kernel
theorem dX9_loopsOf_42 : decode cX9_loopsOf 42 = .ok (.lreturn, 1) := by decide +kernel
set_option maxRecDepth 20000 in
theorem ggX9_simpleOf_X9_loopsOf : GoodIn wsX9_simpleOf wsX9_loopsOf := goodIn_r _ [5, 6, 7, 8, 9, 4, 10, 11, 12, 13, 14, 15, 16, 17, 18, 19, 20, 21, 22, 23, 24, 25, 26, 27, 28, 29, 33, 34, 35, 36, 37, 38, 39, 40, 41, 42, 43, 44, 45, 46, 47, 48, 49, 50, 51, 52, 53, 54, 55, 56] (by decide +kernel) (by decide +kernel)
set_option maxRecDepth 20000 in
theorem gX9_simpleOf_X9_loopsOf : GoodIn wsX9_simpleOf (wsV RX9 147 RX9 yX9_loopsOf wsX9_loopsOf) := goodIn_app (goodIn_of _ (by decide +kernel)) ggX9_simpleOf_X9_loopsOf
set_option maxRecDepth 20000 in
theorem ggX9_simpleOf_X9_simpleOf : GoodIn wsX9_simpleOf wsX9_simpleOf := goodIn_r _ [0, 1, 2, 3, 4, 5, 6, 7, 8, 9, 10, 11, 12, 13, 14, 15, 16, 17, 18, 19, 20, 21, 22, 23, 24, 25, 26, 27, 28, 29, 30, 31, 32, 33, 34, 35, 36, 37, 38, 39, 40, 41, 42, 43, 44, 45, 46, 47, 48, 49, 50, 51, 52, 53, 54, 55, 56] (by decide +kernel) (by decide +kernel)
set_option maxRecDepth 20000 in
theorem gX9_simpleOf_X9_simpleOf : GoodIn wsX9_simpleOf (wsV RX9 151 RX9 yX9_simpleOf wsX9_simpleOf) := goodIn_app (goodIn_of _ (by decide +kernel)) ggX9_simpleOf_X9_simpleOf
theorem dX9_simpleOf_0 : decode cX9_simpleOf 0 = .ok (.aload_n 0, 1) := by decide +kernel
theorem dX9_simpleOf_1 : decode cX9_simpleOf 1 = .ok (.iload_n 1, 1) := by decide +kernel
theorem dX9_simpleOf_2 : decode cX9_simpleOf 2 = .ok (.invokevirtual 147, 3) := by decide +kernel
theorem dX9_simpleOf_5 : decode cX9_simpleOf 5 = .ok (.lstore_n 2, 1) := by decide +kernel
theorem dX9_simpleOf_6 : decode cX9_simpleOf 6 = .ok (.iconst 1, 1) := by decide +kernel
theorem dX9_simpleOf_7 : decode cX9_simpleOf 7 = .ok (.istore 4, 2) := by decide +kernel
theorem dX9_simpleOf_9 : decode cX9_simpleOf 9 = .ok (.iload 4, 2) := by decide +kernel
theorem dX9_simpleOf_11 : decode cX9_simpleOf 11 = .ok (.iload_n 1, 1) := by decide +kernel
theorem dX9_simpleOf_12 : decode cX9_simpleOf 12 = .ok (.if_icmp .ge 29, 3) := by decide +kernel
theorem dX9_simpleOf_15 : decode cX9_simpleOf 15 = .ok (.lload_n 2, 1) := by decide +kernel
theorem dX9_simpleOf_16 : decode cX9_simpleOf 16 = .ok (.iload_n 1, 1) := by decide +kernel
theorem dX9_simpleOf_17 : decode cX9_simpleOf 17 = .ok (.iload 4, 2) := by decide +kernel
theorem dX9_simpleOf_19 : decode cX9_simpleOf 19 = .ok (.irem, 1) := by decide +kernel
theorem dX9_simpleOf_20 : decode cX9_simpleOf 20 = .ok (.ifCond .ne 12, 3) := by decide +kernel
theorem dX9_simpleOf_23 : decode cX9_simpleOf 23 = .ok (.aload_n 0, 1) := by decide +kernel
theorem dX9_simpleOf_24 : decode cX9_simpleOf 24 = .ok (.iload 4, 2) := by decide +kernel
theorem dX9_simpleOf_26 : decode cX9_simpleOf 26 = .ok (.invokevirtual 151, 3) := by decide +kernel
theorem dX9_simpleOf_29 : decode cX9_simpleOf 29 = .ok (.goto 4, 3) := by decide +kernel
theorem dX9_simpleOf_32 : decode cX9_simpleOf 32 = .ok (.lconst 0, 1) := by decide +kernel
theorem dX9_simpleOf_33 : decode cX9_simpleOf 33 = .ok (.lsub, 1) := by decide +kernel
theorem dX9_simpleOf_34 : decode cX9_simpleOf 34 = .ok (.lstore_n 2, 1) := by decide +kernel
theorem dX9_simpleOf_35 : decode cX9_simpleOf 35 = .ok (.iinc 4 1, 3) := by decide +kernel
theorem dX9_simpleOf_38 : decode cX9_simpleOf 38 = .ok (.goto (-29), 3) := by decide +kernel
theorem dX9_simpleOf_41 : decode cX9_simpleOf 41 = .ok (.lload_n 2, 1) := by decide +kernel
theorem dX9_simpleOf_42 : decode cX9_simpleOf 42 = .ok (.lreturn, 1) := by decide +kernel
set_option maxRecDepth 20000 in
theorem ggX9_loops_X9_in : GoodIn wsX9_loops wsX9_in := goodIn_r _ [6] (by decide +kernel) (by decide +kernel)
set_option maxRecDepth 20000 in
theorem gX9_loops_X9_in : GoodIn wsX9_loops (va_wsS RX9 62 yX9_in wsX9_in) := goodIn_app (goodIn_of _ (by decide +kernel)) ggX9_loops_X9_in
set_option maxRecDepth 20000 in
theorem ggX9_loops_X9_loopsOf : GoodIn wsX9_loops wsX9_loopsOf := goodIn_r _ [10, 11, 12, 13, 14, 5, 15, 16, 17, 18, 19, 20, 21, 22, 23, 24, 25, 26, 27, 28, 29, 30, 31, 32, 33, 34, 39, 40, 41, 42, 43, 44, 45, 46, 47, 48, 49, 50, 51, 52, 53, 54, 55, 56, 57, 58, 59, 60, 61, 62] (by decide +kernel) (by decide +kernel)
set_option maxRecDepth 20000 in
theorem gX9_loops_X9_loopsOf : GoodIn wsX9_loops (wsV RX9 147 RX9 yX9_loopsOf wsX9_loopsOf) := goodIn_app (goodIn_of _ (by decide +kernel)) ggX9_loops_X9_loopsOf
set_option maxRecDepth 20000 in
theorem ggX9_loops_X9_simpleOf : GoodIn wsX9_loops wsX9_simpleOf := goodIn_r _ [38, 7, 8, 9, 5, 10, 11, 12, 13, 14, 15, 16, 17, 18, 19, 20, 21, 22, 23, 24, 25, 26, 27, 28, 29, 30, 31, 32, 33, 34, 35, 36, 37, 39, 40, 41, 42, 43, 44, 45, 46, 47, 48, 49, 50, 51, 52, 53, 54, 55, 56, 57, 58, 59, 60, 61, 62] (by decide +kernel) (by decide +kernel)
set_option maxRecDepth 20000 in
theorem gX9_loops_X9_simpleOf : GoodIn wsX9_loops (wsV RX9 151 RX9 yX9_simpleOf wsX9_simpleOf) := goodIn_app (goodIn_of _ (by decide +kernel)) ggX9_loops_X9_simpleOf
theorem dX9_loops_0 : decode cX9_loops 0 = .ok (.iload_n 1, 1) := by decide +kernel
theorem dX9_loops_1 : decode cX9_loops 1 = .ok (.i2l, 1) := by decide +kernel
theorem dX9_loops_2 : decode cX9_loops 2 = .ok (.lconst 1, 1) := by decide +kernel
theorem dX9_loops_3 : decode cX9_loops 3 = .ok (.ldc2_w 139, 3) := by decide +kernel
theorem dX9_loops_6 : decode cX9_loops 6 = .ok (.invokestatic 62, 3) := by decide +kernel
theorem dX9_loops_9 : decode cX9_loops 9 = .ok (.ifCond .eq 13, 3) := by decide +kernel
theorem dX9_loops_12 : decode cX9_loops 12 = .ok (.iload_n 2, 1) := by decide +kernel
theorem dX9_loops_13 : decode cX9_loops 13 = .ok (.i2l, 1) := by decide +kernel
theorem dX9_loops_14 : decode cX9_loops 14 = .ok (.lconst 0, 1) := by decide +kernel
theorem dX9_loops_15 : decode cX9_loops 15 = .ok (.lconst 1, 1) := by decide +kernel
theorem dX9_loops_16 : decode cX9_loops 16 = .ok (.invokestatic 62, 3) := by decide +kernel
theorem dX9_loops_19 : decode cX9_loops 19 = .ok (.ifCond .ne 7, 3) := by decide +kernel
theorem dX9_loops_22 : decode cX9_loops 22 = .ok (.ldc2_w 141, 3) := by decide +kernel
theorem dX9_loops_25 : decode cX9_loops 25 = .ok (.lreturn, 1) := by decide +kernel
theorem dX9_loops_26 : decode cX9_loops 26 = .ok (.iload_n 2, 1) := by decide +kernel
theorem dX9_loops_27 : decode cX9_loops 27 = .ok (.ifCond .ne 11, 3) := by decide +kernel
theorem dX9_loops_30 : decode cX9_loops 30 = .ok (.aload_n 0, 1) := by decide +kernel
theorem dX9_loops_31 : decode cX9_loops 31 = .ok (.iload_n 1, 1) := by decide +kernel
theorem dX9_loops_32 : decode cX9_loops 32 = .ok (.invokevirtual 147, 3) := by decide +kernel
theorem dX9_loops_35 : decode cX9_loops 35 = .ok (.goto 8, 3) := by decide +kernel
theorem dX9_loops_38 : decode cX9_loops 38 = .ok (.aload_n 0, 1) := by decide +kernel
theorem dX9_loops_39 : decode cX9_loops 39 = .ok (.iload_n 1, 1) := by decide +kernel
theorem dX9_loops_40 : decode cX9_loops 40 = .ok (.invokevirtual 151, 3) := by decide +kernel
theorem dX9_loops_43 : decode cX9_loops 43 = .ok (.lreturn, 1) := by decide +kernel
set_option maxRecDepth 20000 in
theorem ggX9_isForced_X9_simpleOf : GoodIn wsX9_isForced wsX9_simpleOf := goodIn_r _ [5, 6, 7, 8, 4, 9, 10, 11, 12, 13, 14, 15, 16, 17, 18, 19, 20, 21, 22, 23, 24, 25, 26, 27, 28, 29, 30, 31, 32, 33, 1, 2, 3, 57, 58, 59, 60, 61, 62, 63, 64, 65, 66, 67, 68, 69, 70, 71, 72, 73, 74, 75, 76, 77, 78, 79, 80] (by decide +kernel) (by decide +kernel)
set_option maxRecDepth 20000 in
theorem gX9_isForced_X9_simpleOf : GoodIn wsX9_isForced (wsV RX9 151 RX9 yX9_simpleOf wsX9_simpleOf) := goodIn_app (goodIn_of _ (by decide +kernel)) ggX9_isForced_X9_simpleOf
set_option maxRecDepth 20000 in
theorem ggX9_isForced_X9_ringAt : GoodIn wsX9_isForced wsX9_ringAt := goodIn_r _ [37, 21, 38, 39, 40, 4, 41, 26, 42, 43, 44, 45, 46, 47, 48, 49, 50, 57, 58, 59, 60, 61, 62, 63, 64, 65, 66, 67, 68, 69, 70, 71, 72, 73, 74, 75, 76, 77, 78, 79, 80] (by decide +kernel) (by decide +kernel)
set_option maxRecDepth 20000 in
theorem gX9_isForced_X9_ringAt : GoodIn wsX9_isForced (wsV RX9 103 RX9 yX9_ringAt wsX9_ringAt) := goodIn_app (goodIn_of _ (by decide +kernel)) ggX9_isForced_X9_ringAt
set_option maxRecDepth 20000 in
theorem ggX9_isForced_J6_bitCount_0f7a4 : GoodIn wsX9_isForced wsJ6_bitCount_0f7a4 := goodIn_r _ [53, 54, 55, 56] (by decide +kernel) (by decide +kernel)
set_option maxRecDepth 20000 in
theorem gX9_isForced_J6_bitCount_0f7a4 : GoodIn wsX9_isForced (va_wsS RX9 95 yJ6_bitCount_0f7a4 wsJ6_bitCount_0f7a4) := goodIn_app (goodIn_of _ (by decide +kernel)) ggX9_isForced_J6_bitCount_0f7a4
theorem dX9_isForced_0 : decode cX9_isForced 0 = .ok (.aload_n 0, 1) := by decide +kernel
theorem dX9_isForced_1 : decode cX9_isForced 1 = .ok (.iload_n 1, 1) := by decide +kernel
theorem dX9_isForced_2 : decode cX9_isForced 2 = .ok (.invokevirtual 151, 3) := by decide +kernel
theorem dX9_isForced_5 : decode cX9_isForced 5 = .ok (.lconst 0, 1) := by decide +kernel
theorem dX9_isForced_6 : decode cX9_isForced 6 = .ok (.lcmp, 1) := by decide +kernel
theorem dX9_isForced_7 : decode cX9_isForced 7 = .ok (.ifCond .le 7, 3) := by decide +kernel
theorem dX9_isForced_10 : decode cX9_isForced 10 = .ok (.iconst 1, 1) := by decide +kernel
theorem dX9_isForced_11 : decode cX9_isForced 11 = .ok (.goto 4, 3) := by decide +kernel
theorem dX9_isForced_14 : decode cX9_isForced 14 = .ok (.iconst 0, 1) := by decide +kernel
theorem dX9_isForced_15 : decode cX9_isForced 15 = .ok (.istore_n 2, 1) := by decide +kernel
theorem dX9_isForced_16 : decode cX9_isForced 16 = .ok (.iconst 0, 1) := by decide +kernel
theorem dX9_isForced_17 : decode cX9_isForced 17 = .ok (.istore_n 3, 1) := by decide +kernel
theorem dX9_isForced_18 : decode cX9_isForced 18 = .ok (.aload_n 0, 1) := by decide +kernel
theorem dX9_isForced_19 : decode cX9_isForced 19 = .ok (.iload_n 3, 1) := by decide +kernel
theorem dX9_isForced_20 : decode cX9_isForced 20 = .ok (.invokevirtual 103, 3) := by decide +kernel
theorem dX9_isForced_23 : decode cX9_isForced 23 = .ok (.ifCond .eq 29, 3) := by decide +kernel
theorem dX9_isForced_26 : decode cX9_isForced 26 = .ok (.iload_n 2, 1) := by decide +kernel
theorem dX9_isForced_27 : decode cX9_isForced 27 = .ok (.aload_n 0, 1) := by decide +kernel
theorem dX9_isForced_28 : decode cX9_isForced 28 = .ok (.iload_n 3, 1) := by decide +kernel
theorem dX9_isForced_29 : decode cX9_isForced 29 = .ok (.invokevirtual 103, 3) := by decide +kernel
theorem dX9_isForced_32 : decode cX9_isForced 32 = .ok (.invokestatic 95, 3) := by decide +kernel
theorem dX9_isForced_35 : decode cX9_isForced 35 = .ok (.iload_n 1, 1) := by decide +kernel
theorem dX9_isForced_36 : decode cX9_isForced 36 = .ok (.if_icmp .ne 7, 3) := by decide +kernel
theorem dX9_isForced_39 : decode cX9_isForced 39 = .ok (.iconst 1, 1) := by decide +kernel
theorem dX9_isForced_40 : decode cX9_isForced 40 = .ok (.goto 4, 3) := by decide +kernel
theorem dX9_isForced_43 : decode cX9_isForced 43 = .ok (.iconst 0, 1) := by decide +kernel
theorem dX9_isForced_44 : decode cX9_isForced 44 = .ok (.ior, 1) := by decide +kernel
theorem dX9_isForced_45 : decode cX9_isForced 45 = .ok (.istore_n 2, 1) := by decide +kernel
theorem dX9_isForced_46 : decode cX9_isForced 46 = .ok (.iinc 3 1, 3) := by decide +kernel
theorem dX9_isForced_49 : decode cX9_isForced 49 = .ok (.goto (-31), 3) := by decide +kernel
theorem dX9_isForced_52 : decode cX9_isForced 52 = .ok (.iload_n 2, 1) := by decide +kernel
theorem dX9_isForced_53 : decode cX9_isForced 53 = .ok (.ireturn, 1) := by decide +kernel
set_option maxRecDepth 20000 in
theorem ggX9_forced_X9_in : GoodIn wsX9_forced wsX9_in := goodIn_r _ [5] (by decide +kernel) (by decide +kernel)
set_option maxRecDepth 20000 in
theorem gX9_forced_X9_in : GoodIn wsX9_forced (va_wsS RX9 62 yX9_in wsX9_in) := goodIn_app (goodIn_of _ (by decide +kernel)) ggX9_forced_X9_in
set_option maxRecDepth 20000 in
theorem ggX9_forced_X9_isForced : GoodIn wsX9_forced wsX9_isForced := goodIn_r _ [9, 10, 11, 12, 4, 13, 14, 15, 16, 17, 18, 19, 20, 21, 22, 23, 24, 25, 26, 27, 28, 29, 30, 31, 32, 33, 34, 35, 36, 37, 38, 39, 40, 41, 42, 43, 44, 45, 46, 47, 48, 49, 50, 51, 52, 53, 54, 55, 56, 57, 58, 59, 60, 61, 62, 63, 64, 65, 66, 67, 68, 69, 70, 71, 72, 73, 74, 75, 76, 77, 78, 79, 80, 81, 82, 83, 84, 85, 86, 87, 88] (by decide +kernel) (by decide +kernel)
set_option maxRecDepth 20000 in
theorem gX9_forced_X9_isForced : GoodIn wsX9_forced (wsV RX9 156 RX9 yX9_isForced wsX9_isForced) := goodIn_app (goodIn_of _ (by decide +kernel)) ggX9_forced_X9_isForced
theorem dX9_forced_0 : decode cX9_forced 0 = .ok (.iload_n 1, 1) := by decide +kernel
theorem dX9_forced_1 : decode cX9_forced 1 = .ok (.i2l, 1) := by decide +kernel
theorem dX9_forced_2 : decode cX9_forced 2 = .ok (.lconst 1, 1) := by decide +kernel
theorem dX9_forced_3 : decode cX9_forced 3 = .ok (.ldc2_w 154, 3) := by decide +kernel
theorem dX9_forced_6 : decode cX9_forced 6 = .ok (.invokestatic 62, 3) := by decide +kernel
theorem dX9_forced_9 : decode cX9_forced 9 = .ok (.ifCond .ne 6, 3) := by decide +kernel
theorem dX9_forced_12 : decode cX9_forced 12 = .ok (.bipush (-2), 2) := by decide +kernel
theorem dX9_forced_14 : decode cX9_forced 14 = .ok (.ireturn, 1) := by decide +kernel
theorem dX9_forced_15 : decode cX9_forced 15 = .ok (.aload_n 0, 1) := by decide +kernel
theorem dX9_forced_16 : decode cX9_forced 16 = .ok (.iload_n 1, 1) := by decide +kernel
theorem dX9_forced_17 : decode cX9_forced 17 = .ok (.invokevirtual 156, 3) := by decide +kernel
theorem dX9_forced_20 : decode cX9_forced 20 = .ok (.ifCond .eq 7, 3) := by decide +kernel
theorem dX9_forced_23 : decode cX9_forced 23 = .ok (.iconst 1, 1) := by decide +kernel
theorem dX9_forced_24 : decode cX9_forced 24 = .ok (.goto 4, 3) := by decide +kernel
theorem dX9_forced_27 : decode cX9_forced 27 = .ok (.iconst 0, 1) := by decide +kernel
theorem dX9_forced_28 : decode cX9_forced 28 = .ok (.ireturn, 1) := by decide +kernel
set_option maxRecDepth 20000 in
theorem ggX9_allForced_X9_isForced : GoodIn wsX9_allForced wsX9_isForced := goodIn_r _ [5, 6, 7, 8, 4, 9, 10, 11, 12, 13, 14, 15, 16, 17, 18, 19, 20, 21, 22, 23, 24, 25, 26, 27, 28, 29, 30, 31, 32, 33, 34, 35, 36, 37, 38, 39, 40, 41, 42, 43, 44, 45, 46, 47, 48, 49, 50, 51, 52, 53, 54, 55, 56, 57, 58, 59, 60, 61, 62, 63, 64, 65, 66, 67, 68, 69, 70, 71, 72, 73, 74, 75, 76, 77, 78, 79, 80, 81, 82, 83, 84] (by decide +kernel) (by decide +kernel)
set_option maxRecDepth 20000 in
theorem gX9_allForced_X9_isForced : GoodIn wsX9_allForced (wsV RX9 156 RX9 yX9_isForced wsX9_isForced) := goodIn_app (goodIn_of _ (by decide +kernel)) ggX9_allForced_X9_isForced
theorem dX9_allForced_0 : decode cX9_allForced 0 = .ok (.iconst 0, 1) := by decide +kernel
theorem dX9_allForced_1 : decode cX9_allForced 1 = .ok (.istore_n 1, 1) := by decide +kernel
theorem dX9_allForced_2 : decode cX9_allForced 2 = .ok (.iconst 1, 1) := by decide +kernel
theorem dX9_allForced_3 : decode cX9_allForced 3 = .ok (.istore_n 2, 1) := by decide +kernel
theorem dX9_allForced_4 : decode cX9_allForced 4 = .ok (.iload_n 2, 1) := by decide +kernel
theorem dX9_allForced_5 : decode cX9_allForced 5 = .ok (.bipush 12, 2) := by decide +kernel
theorem dX9_allForced_7 : decode cX9_allForced 7 = .ok (.if_icmp .gt 27, 3) := by decide +kernel
theorem dX9_allForced_10 : decode cX9_allForced 10 = .ok (.iload_n 1, 1) := by decide +kernel
theorem dX9_allForced_11 : decode cX9_allForced 11 = .ok (.aload_n 0, 1) := by decide +kernel
theorem dX9_allForced_12 : decode cX9_allForced 12 = .ok (.iload_n 2, 1) := by decide +kernel
theorem dX9_allForced_13 : decode cX9_allForced 13 = .ok (.invokevirtual 156, 3) := by decide +kernel
theorem dX9_allForced_16 : decode cX9_allForced 16 = .ok (.ifCond .eq 9, 3) := by decide +kernel
theorem dX9_allForced_19 : decode cX9_allForced 19 = .ok (.iconst 1, 1) := by decide +kernel
theorem dX9_allForced_20 : decode cX9_allForced 20 = .ok (.iload_n 2, 1) := by decide +kernel
theorem dX9_allForced_21 : decode cX9_allForced 21 = .ok (.ishl, 1) := by decide +kernel
theorem dX9_allForced_22 : decode cX9_allForced 22 = .ok (.goto 4, 3) := by decide +kernel
theorem dX9_allForced_25 : decode cX9_allForced 25 = .ok (.iconst 0, 1) := by decide +kernel
theorem dX9_allForced_26 : decode cX9_allForced 26 = .ok (.ior, 1) := by decide +kernel
theorem dX9_allForced_27 : decode cX9_allForced 27 = .ok (.istore_n 1, 1) := by decide +kernel
theorem dX9_allForced_28 : decode cX9_allForced 28 = .ok (.iinc 2 1, 3) := by decide +kernel
theorem dX9_allForced_31 : decode cX9_allForced 31 = .ok (.goto (-27), 3) := by decide +kernel
theorem dX9_allForced_34 : decode cX9_allForced 34 = .ok (.iload_n 1, 1) := by decide +kernel
theorem dX9_allForced_35 : decode cX9_allForced 35 = .ok (.ireturn, 1) := by decide +kernel
set_option maxRecDepth 20000 in
theorem ggX9_isAhead_J6_numberOfTrailingZeros_0f7a4 : GoodIn wsX9_isAhead wsJ6_numberOfTrailingZeros_0f7a4 := goodIn_r _ [4, 5] (by decide +kernel) (by decide +kernel)
set_option maxRecDepth 20000 in
theorem gX9_isAhead_J6_numberOfTrailingZeros_0f7a4 : GoodIn wsX9_isAhead (va_wsS RX9 100 yJ6_numberOfTrailingZeros_0f7a4 wsJ6_numberOfTrailingZeros_0f7a4) := goodIn_app (goodIn_of _ (by decide +kernel)) ggX9_isAhead_J6_numberOfTrailingZeros_0f7a4
theorem dX9_isAhead_0 : decode cX9_isAhead 0 = .ok (.iload_n 0, 1) := by decide +kernel
theorem dX9_isAhead_1 : decode cX9_isAhead 1 = .ok (.invokestatic 100, 3) := by decide +kernel
theorem dX9_isAhead_4 : decode cX9_isAhead 4 = .ok (.istore_n 2, 1) := by decide +kernel
theorem dX9_isAhead_5 : decode cX9_isAhead 5 = .ok (.iload_n 1, 1) := by decide +kernel
theorem dX9_isAhead_6 : decode cX9_isAhead 6 = .ok (.invokestatic 100, 3) := by decide +kernel
theorem dX9_isAhead_9 : decode cX9_isAhead 9 = .ok (.istore_n 3, 1) := by decide +kernel
theorem dX9_isAhead_10 : decode cX9_isAhead 10 = .ok (.iload_n 0, 1) := by decide +kernel
theorem dX9_isAhead_11 : decode cX9_isAhead 11 = .ok (.iload_n 2, 1) := by decide +kernel
theorem dX9_isAhead_12 : decode cX9_isAhead 12 = .ok (.ishr, 1) := by decide +kernel
theorem dX9_isAhead_13 : decode cX9_isAhead 13 = .ok (.istore 4, 2) := by decide +kernel
theorem dX9_isAhead_15 : decode cX9_isAhead 15 = .ok (.iload_n 1, 1) := by decide +kernel
theorem dX9_isAhead_16 : decode cX9_isAhead 16 = .ok (.iload_n 3, 1) := by decide +kernel
theorem dX9_isAhead_17 : decode cX9_isAhead 17 = .ok (.ishr, 1) := by decide +kernel
theorem dX9_isAhead_18 : decode cX9_isAhead 18 = .ok (.istore 5, 2) := by decide +kernel
theorem dX9_isAhead_20 : decode cX9_isAhead 20 = .ok (.iload 4, 2) := by decide +kernel
theorem dX9_isAhead_22 : decode cX9_isAhead 22 = .ok (.iconst 1, 1) := by decide +kernel
theorem dX9_isAhead_23 : decode cX9_isAhead 23 = .ok (.if_icmp .eq 9, 3) := by decide +kernel
theorem dX9_isAhead_26 : decode cX9_isAhead 26 = .ok (.iload 5, 2) := by decide +kernel
theorem dX9_isAhead_28 : decode cX9_isAhead 28 = .ok (.iconst 1, 1) := by decide +kernel
theorem dX9_isAhead_29 : decode cX9_isAhead 29 = .ok (.if_icmp .ne 26, 3) := by decide +kernel
theorem dX9_isAhead_32 : decode cX9_isAhead 32 = .ok (.iload 4, 2) := by decide +kernel
theorem dX9_isAhead_34 : decode cX9_isAhead 34 = .ok (.iconst 1, 1) := by decide +kernel
theorem dX9_isAhead_35 : decode cX9_isAhead 35 = .ok (.if_icmp .ne 14, 3) := by decide +kernel
theorem dX9_isAhead_38 : decode cX9_isAhead 38 = .ok (.iload 5, 2) := by decide +kernel
theorem dX9_isAhead_40 : decode cX9_isAhead 40 = .ok (.iconst 1, 1) := by decide +kernel
theorem dX9_isAhead_41 : decode cX9_isAhead 41 = .ok (.if_icmp .ne 12, 3) := by decide +kernel
theorem dX9_isAhead_44 : decode cX9_isAhead 44 = .ok (.iload_n 2, 1) := by decide +kernel
theorem dX9_isAhead_45 : decode cX9_isAhead 45 = .ok (.iload_n 3, 1) := by decide +kernel
theorem dX9_isAhead_46 : decode cX9_isAhead 46 = .ok (.if_icmp .le 7, 3) := by decide +kernel
theorem dX9_isAhead_49 : decode cX9_isAhead 49 = .ok (.iconst 1, 1) := by decide +kernel
theorem dX9_isAhead_50 : decode cX9_isAhead 50 = .ok (.goto 4, 3) := by decide +kernel
theorem dX9_isAhead_53 : decode cX9_isAhead 53 = .ok (.iconst 0, 1) := by decide +kernel
theorem dX9_isAhead_54 : decode cX9_isAhead 54 = .ok (.ireturn, 1) := by decide +kernel
theorem dX9_isAhead_55 : decode cX9_isAhead 55 = .ok (.iload_n 2, 1) := by decide +kernel
theorem dX9_isAhead_56 : decode cX9_isAhead 56 = .ok (.iload_n 3, 1) := by decide +kernel
theorem dX9_isAhead_57 : decode cX9_isAhead 57 = .ok (.if_icmp .eq 16, 3) := by decide +kernel
theorem dX9_isAhead_60 : decode cX9_isAhead 60 = .ok (.iload_n 2, 1) := by decide +kernel
theorem dX9_isAhead_61 : decode cX9_isAhead 61 = .ok (.iload_n 3, 1) := by decide +kernel
theorem dX9_isAhead_62 : decode cX9_isAhead 62 = .ok (.if_icmp .ge 7, 3) := by decide +kernel
theorem dX9_isAhead_65 : decode cX9_isAhead 65 = .ok (.iconst 1, 1) := by decide +kernel
theorem dX9_isAhead_66 : decode cX9_isAhead 66 = .ok (.goto 19, 3) := by decide +kernel
theorem dX9_isAhead_69 : decode cX9_isAhead 69 = .ok (.iconst 0, 1) := by decide +kernel
theorem dX9_isAhead_70 : decode cX9_isAhead 70 = .ok (.goto 15, 3) := by decide +kernel
theorem dX9_isAhead_73 : decode cX9_isAhead 73 = .ok (.iload 4, 2) := by decide +kernel
theorem dX9_isAhead_75 : decode cX9_isAhead 75 = .ok (.iload 5, 2) := by decide +kernel
theorem dX9_isAhead_77 : decode cX9_isAhead 77 = .ok (.if_icmp .ge 7, 3) := by decide +kernel
theorem dX9_isAhead_80 : decode cX9_isAhead 80 = .ok (.iconst 1, 1) := by decide +kernel
theorem dX9_isAhead_81 : decode cX9_isAhead 81 = .ok (.goto 4, 3) := by decide +kernel
theorem dX9_isAhead_84 : decode cX9_isAhead 84 = .ok (.iconst 0, 1) := by decide +kernel
theorem dX9_isAhead_85 : decode cX9_isAhead 85 = .ok (.ireturn, 1) := by decide +kernel
set_option maxRecDepth 20000 in
theorem ggX9_ahead_X9_in : GoodIn wsX9_ahead wsX9_in := goodIn_r _ [5] (by decide +kernel) (by decide +kernel)
set_option maxRecDepth 20000 in
theorem gX9_ahead_X9_in : GoodIn wsX9_ahead (va_wsS RX9 62 yX9_in wsX9_in) := goodIn_app (goodIn_of _ (by decide +kernel)) ggX9_ahead_X9_in
set_option maxRecDepth 20000 in
theorem ggX9_ahead_X9_isAhead : GoodIn wsX9_ahead wsX9_isAhead := goodIn_r _ [8, 9, 10, 11, 12, 13] (by decide +kernel) (by decide +kernel)
set_option maxRecDepth 20000 in
theorem gX9_ahead_X9_isAhead : GoodIn wsX9_ahead (va_wsS RX9 161 yX9_isAhead wsX9_isAhead) := goodIn_app (goodIn_of _ (by decide +kernel)) ggX9_ahead_X9_isAhead
theorem dX9_ahead_0 : decode cX9_ahead 0 = .ok (.iload_n 1, 1) := by decide +kernel
theorem dX9_ahead_1 : decode cX9_ahead 1 = .ok (.i2l, 1) := by decide +kernel
theorem dX9_ahead_2 : decode cX9_ahead 2 = .ok (.lconst 1, 1) := by decide +kernel
theorem dX9_ahead_3 : decode cX9_ahead 3 = .ok (.ldc2_w 159, 3) := by decide +kernel
theorem dX9_ahead_6 : decode cX9_ahead 6 = .ok (.invokestatic 62, 3) := by decide +kernel
theorem dX9_ahead_9 : decode cX9_ahead 9 = .ok (.ifCond .eq 15, 3) := by decide +kernel
theorem dX9_ahead_12 : decode cX9_ahead 12 = .ok (.iload_n 2, 1) := by decide +kernel
theorem dX9_ahead_13 : decode cX9_ahead 13 = .ok (.i2l, 1) := by decide +kernel
theorem dX9_ahead_14 : decode cX9_ahead 14 = .ok (.lconst 1, 1) := by decide +kernel
theorem dX9_ahead_15 : decode cX9_ahead 15 = .ok (.ldc2_w 159, 3) := by decide +kernel
theorem dX9_ahead_18 : decode cX9_ahead 18 = .ok (.invokestatic 62, 3) := by decide +kernel
theorem dX9_ahead_21 : decode cX9_ahead 21 = .ok (.ifCond .ne 6, 3) := by decide +kernel
theorem dX9_ahead_24 : decode cX9_ahead 24 = .ok (.bipush (-2), 2) := by decide +kernel
theorem dX9_ahead_26 : decode cX9_ahead 26 = .ok (.ireturn, 1) := by decide +kernel
theorem dX9_ahead_27 : decode cX9_ahead 27 = .ok (.iload_n 1, 1) := by decide +kernel
theorem dX9_ahead_28 : decode cX9_ahead 28 = .ok (.iload_n 2, 1) := by decide +kernel
theorem dX9_ahead_29 : decode cX9_ahead 29 = .ok (.if_icmp .eq 15, 3) := by decide +kernel
theorem dX9_ahead_32 : decode cX9_ahead 32 = .ok (.iload_n 1, 1) := by decide +kernel
theorem dX9_ahead_33 : decode cX9_ahead 33 = .ok (.iload_n 2, 1) := by decide +kernel
theorem dX9_ahead_34 : decode cX9_ahead 34 = .ok (.invokestatic 161, 3) := by decide +kernel
theorem dX9_ahead_37 : decode cX9_ahead 37 = .ok (.ifCond .eq 7, 3) := by decide +kernel
theorem dX9_ahead_40 : decode cX9_ahead 40 = .ok (.iconst 1, 1) := by decide +kernel
theorem dX9_ahead_41 : decode cX9_ahead 41 = .ok (.goto 4, 3) := by decide +kernel
theorem dX9_ahead_44 : decode cX9_ahead 44 = .ok (.iconst 0, 1) := by decide +kernel
theorem dX9_ahead_45 : decode cX9_ahead 45 = .ok (.ireturn, 1) := by decide +kernel
set_option maxRecDepth 20000 in
theorem ggX9_placeOf_X9_isAhead : GoodIn wsX9_placeOf wsX9_isAhead := goodIn_r _ [4, 5, 6, 7, 8, 9] (by decide +kernel) (by decide +kernel)
set_option maxRecDepth 20000 in
theorem gX9_placeOf_X9_isAhead : GoodIn wsX9_placeOf (va_wsS RX9 161 yX9_isAhead wsX9_isAhead) := goodIn_app (goodIn_of _ (by decide +kernel)) ggX9_placeOf_X9_isAhead
theorem dX9_placeOf_0 : decode cX9_placeOf 0 = .ok (.iconst 0, 1) := by decide +kernel
theorem dX9_placeOf_1 : decode cX9_placeOf 1 = .ok (.istore_n 1, 1) := by decide +kernel
theorem dX9_placeOf_2 : decode cX9_placeOf 2 = .ok (.iconst 1, 1) := by decide +kernel
theorem dX9_placeOf_3 : decode cX9_placeOf 3 = .ok (.istore_n 2, 1) := by decide +kernel
theorem dX9_placeOf_4 : decode cX9_placeOf 4 = .ok (.iload_n 2, 1) := by decide +kernel
theorem dX9_placeOf_5 : decode cX9_placeOf 5 = .ok (.bipush 12, 2) := by decide +kernel
theorem dX9_placeOf_7 : decode cX9_placeOf 7 = .ok (.if_icmp .gt 30, 3) := by decide +kernel
theorem dX9_placeOf_10 : decode cX9_placeOf 10 = .ok (.iload_n 1, 1) := by decide +kernel
theorem dX9_placeOf_11 : decode cX9_placeOf 11 = .ok (.iload_n 2, 1) := by decide +kernel
theorem dX9_placeOf_12 : decode cX9_placeOf 12 = .ok (.iload_n 0, 1) := by decide +kernel
theorem dX9_placeOf_13 : decode cX9_placeOf 13 = .ok (.if_icmp .eq 15, 3) := by decide +kernel
theorem dX9_placeOf_16 : decode cX9_placeOf 16 = .ok (.iload_n 2, 1) := by decide +kernel
theorem dX9_placeOf_17 : decode cX9_placeOf 17 = .ok (.iload_n 0, 1) := by decide +kernel
theorem dX9_placeOf_18 : decode cX9_placeOf 18 = .ok (.invokestatic 161, 3) := by decide +kernel
theorem dX9_placeOf_21 : decode cX9_placeOf 21 = .ok (.ifCond .eq 7, 3) := by decide +kernel
theorem dX9_placeOf_24 : decode cX9_placeOf 24 = .ok (.iconst 1, 1) := by decide +kernel
theorem dX9_placeOf_25 : decode cX9_placeOf 25 = .ok (.goto 4, 3) := by decide +kernel
theorem dX9_placeOf_28 : decode cX9_placeOf 28 = .ok (.iconst 0, 1) := by decide +kernel
theorem dX9_placeOf_29 : decode cX9_placeOf 29 = .ok (.iadd, 1) := by decide +kernel
theorem dX9_placeOf_30 : decode cX9_placeOf 30 = .ok (.istore_n 1, 1) := by decide +kernel
theorem dX9_placeOf_31 : decode cX9_placeOf 31 = .ok (.iinc 2 1, 3) := by decide +kernel
theorem dX9_placeOf_34 : decode cX9_placeOf 34 = .ok (.goto (-30), 3) := by decide +kernel
theorem dX9_placeOf_37 : decode cX9_placeOf 37 = .ok (.iload_n 1, 1) := by decide +kernel
theorem dX9_placeOf_38 : decode cX9_placeOf 38 = .ok (.ireturn, 1) := by decide +kernel
set_option maxRecDepth 20000 in
theorem ggX9_order_X9_in : GoodIn wsX9_order wsX9_in := goodIn_r _ [4] (by decide +kernel) (by decide +kernel)
set_option maxRecDepth 20000 in
theorem gX9_order_X9_in : GoodIn wsX9_order (va_wsS RX9 62 yX9_in wsX9_in) := goodIn_app (goodIn_of _ (by decide +kernel)) ggX9_order_X9_in
set_option maxRecDepth 20000 in
theorem ggX9_order_X9_placeOf : GoodIn wsX9_order wsX9_placeOf := goodIn_r _ [7, 8, 9, 3, 10, 11, 12, 13, 14, 15] (by decide +kernel) (by decide +kernel)
set_option maxRecDepth 20000 in
theorem gX9_order_X9_placeOf : GoodIn wsX9_order (va_wsS RX9 165 yX9_placeOf wsX9_placeOf) := goodIn_app (goodIn_of _ (by decide +kernel)) ggX9_order_X9_placeOf
theorem dX9_order_0 : decode cX9_order 0 = .ok (.iload_n 2, 1) := by decide +kernel
theorem dX9_order_1 : decode cX9_order 1 = .ok (.i2l, 1) := by decide +kernel
theorem dX9_order_2 : decode cX9_order 2 = .ok (.lconst 0, 1) := by decide +kernel
theorem dX9_order_3 : decode cX9_order 3 = .ok (.lconst 1, 1) := by decide +kernel
theorem dX9_order_4 : decode cX9_order 4 = .ok (.invokestatic 62, 3) := by decide +kernel
theorem dX9_order_7 : decode cX9_order 7 = .ok (.ifCond .eq 20, 3) := by decide +kernel
theorem dX9_order_10 : decode cX9_order 10 = .ok (.iload_n 1, 1) := by decide +kernel
theorem dX9_order_11 : decode cX9_order 11 = .ok (.i2l, 1) := by decide +kernel
theorem dX9_order_12 : decode cX9_order 12 = .ok (.iload_n 2, 1) := by decide +kernel
theorem dX9_order_13 : decode cX9_order 13 = .ok (.i2l, 1) := by decide +kernel
theorem dX9_order_14 : decode cX9_order 14 = .ok (.iload_n 2, 1) := by decide +kernel
theorem dX9_order_15 : decode cX9_order 15 = .ok (.bipush 12, 2) := by decide +kernel
theorem dX9_order_17 : decode cX9_order 17 = .ok (.iadd, 1) := by decide +kernel
theorem dX9_order_18 : decode cX9_order 18 = .ok (.iconst 1, 1) := by decide +kernel
theorem dX9_order_19 : decode cX9_order 19 = .ok (.isub, 1) := by decide +kernel
theorem dX9_order_20 : decode cX9_order 20 = .ok (.i2l, 1) := by decide +kernel
theorem dX9_order_21 : decode cX9_order 21 = .ok (.invokestatic 62, 3) := by decide +kernel
theorem dX9_order_24 : decode cX9_order 24 = .ok (.ifCond .ne 6, 3) := by decide +kernel
theorem dX9_order_27 : decode cX9_order 27 = .ok (.bipush (-2), 2) := by decide +kernel
theorem dX9_order_29 : decode cX9_order 29 = .ok (.ireturn, 1) := by decide +kernel
theorem dX9_order_30 : decode cX9_order 30 = .ok (.iload_n 2, 1) := by decide +kernel
theorem dX9_order_31 : decode cX9_order 31 = .ok (.iconst 1, 1) := by decide +kernel
theorem dX9_order_32 : decode cX9_order 32 = .ok (.if_icmp .ne 8, 3) := by decide +kernel
theorem dX9_order_35 : decode cX9_order 35 = .ok (.iload_n 1, 1) := by decide +kernel
theorem dX9_order_36 : decode cX9_order 36 = .ok (.invokestatic 165, 3) := by decide +kernel
theorem dX9_order_39 : decode cX9_order 39 = .ok (.ireturn, 1) := by decide +kernel
theorem dX9_order_40 : decode cX9_order 40 = .ok (.iconst 0, 1) := by decide +kernel
theorem dX9_order_41 : decode cX9_order 41 = .ok (.istore_n 3, 1) := by decide +kernel
theorem dX9_order_42 : decode cX9_order 42 = .ok (.iconst 1, 1) := by decide +kernel
theorem dX9_order_43 : decode cX9_order 43 = .ok (.istore 4, 2) := by decide +kernel
theorem dX9_order_45 : decode cX9_order 45 = .ok (.iload 4, 2) := by decide +kernel
theorem dX9_order_47 : decode cX9_order 47 = .ok (.bipush 12, 2) := by decide +kernel
theorem dX9_order_49 : decode cX9_order 49 = .ok (.if_icmp .gt 25, 3) := by decide +kernel
theorem dX9_order_52 : decode cX9_order 52 = .ok (.iload 4, 2) := by decide +kernel
theorem dX9_order_54 : decode cX9_order 54 = .ok (.invokestatic 165, 3) := by decide +kernel
theorem dX9_order_57 : decode cX9_order 57 = .ok (.iload_n 1, 1) := by decide +kernel
theorem dX9_order_58 : decode cX9_order 58 = .ok (.if_icmp .ne 8, 3) := by decide +kernel
theorem dX9_order_61 : decode cX9_order 61 = .ok (.iload 4, 2) := by decide +kernel
theorem dX9_order_63 : decode cX9_order 63 = .ok (.goto 4, 3) := by decide +kernel
theorem dX9_order_66 : decode cX9_order 66 = .ok (.iload_n 3, 1) := by decide +kernel
theorem dX9_order_67 : decode cX9_order 67 = .ok (.istore_n 3, 1) := by decide +kernel
theorem dX9_order_68 : decode cX9_order 68 = .ok (.iinc 4 1, 3) := by decide +kernel
theorem dX9_order_71 : decode cX9_order 71 = .ok (.goto (-26), 3) := by decide +kernel
theorem dX9_order_74 : decode cX9_order 74 = .ok (.iload_n 3, 1) := by decide +kernel
theorem dX9_order_75 : decode cX9_order 75 = .ok (.ireturn, 1) := by decide +kernel
theorem dX9_comes_0 : decode cX9_comes 0 = .ok (.iconst 0, 1) := by decide +kernel
theorem dX9_comes_1 : decode cX9_comes 1 = .ok (.istore_n 2, 1) := by decide +kernel
theorem dX9_comes_2 : decode cX9_comes 2 = .ok (.iload_n 2, 1) := by decide +kernel
theorem dX9_comes_3 : decode cX9_comes 3 = .ok (.aload_n 0, 1) := by decide +kernel
theorem dX9_comes_4 : decode cX9_comes 4 = .ok (.getfield 168, 3) := by decide +kernel
theorem dX9_comes_7 : decode cX9_comes 7 = .ok (.if_icmp .ge 19, 3) := by decide +kernel
theorem dX9_comes_10 : decode cX9_comes 10 = .ok (.aload_n 0, 1) := by decide +kernel
theorem dX9_comes_11 : decode cX9_comes 11 = .ok (.getfield 29, 3) := by decide +kernel
theorem dX9_comes_14 : decode cX9_comes 14 = .ok (.iload_n 2, 1) := by decide +kernel
theorem dX9_comes_15 : decode cX9_comes 15 = .ok (.iaload, 1) := by decide +kernel
theorem dX9_comes_16 : decode cX9_comes 16 = .ok (.iload_n 1, 1) := by decide +kernel
theorem dX9_comes_17 : decode cX9_comes 17 = .ok (.if_icmp .ge 9, 3) := by decide +kernel
theorem dX9_comes_20 : decode cX9_comes 20 = .ok (.iinc 2 1, 3) := by decide +kernel
theorem dX9_comes_23 : decode cX9_comes 23 = .ok (.goto (-21), 3) := by decide +kernel
theorem dX9_comes_26 : decode cX9_comes 26 = .ok (.iload_n 2, 1) := by decide +kernel
theorem dX9_comes_27 : decode cX9_comes 27 = .ok (.aload_n 0, 1) := by decide +kernel
theorem dX9_comes_28 : decode cX9_comes 28 = .ok (.getfield 168, 3) := by decide +kernel
theorem dX9_comes_31 : decode cX9_comes 31 = .ok (.if_icmp .ge 14, 3) := by decide +kernel
theorem dX9_comes_34 : decode cX9_comes 34 = .ok (.aload_n 0, 1) := by decide +kernel
theorem dX9_comes_35 : decode cX9_comes 35 = .ok (.getfield 29, 3) := by decide +kernel
theorem dX9_comes_38 : decode cX9_comes 38 = .ok (.iload_n 2, 1) := by decide +kernel
theorem dX9_comes_39 : decode cX9_comes 39 = .ok (.iaload, 1) := by decide +kernel
theorem dX9_comes_40 : decode cX9_comes 40 = .ok (.iload_n 1, 1) := by decide +kernel
theorem dX9_comes_41 : decode cX9_comes 41 = .ok (.if_icmp .ne 4, 3) := by decide +kernel
theorem dX9_comes_44 : decode cX9_comes 44 = .ok (.return_, 1) := by decide +kernel
theorem dX9_comes_45 : decode cX9_comes 45 = .ok (.aload_n 0, 1) := by decide +kernel
theorem dX9_comes_46 : decode cX9_comes 46 = .ok (.getfield 168, 3) := by decide +kernel
theorem dX9_comes_49 : decode cX9_comes 49 = .ok (.istore_n 3, 1) := by decide +kernel
theorem dX9_comes_50 : decode cX9_comes 50 = .ok (.iload_n 3, 1) := by decide +kernel
theorem dX9_comes_51 : decode cX9_comes 51 = .ok (.iload_n 2, 1) := by decide +kernel
theorem dX9_comes_52 : decode cX9_comes 52 = .ok (.if_icmp .le 23, 3) := by decide +kernel
theorem dX9_comes_55 : decode cX9_comes 55 = .ok (.aload_n 0, 1) := by decide +kernel
theorem dX9_comes_56 : decode cX9_comes 56 = .ok (.getfield 29, 3) := by decide +kernel
theorem dX9_comes_59 : decode cX9_comes 59 = .ok (.iload_n 3, 1) := by decide +kernel
theorem dX9_comes_60 : decode cX9_comes 60 = .ok (.aload_n 0, 1) := by decide +kernel
theorem dX9_comes_61 : decode cX9_comes 61 = .ok (.getfield 29, 3) := by decide +kernel
theorem dX9_comes_64 : decode cX9_comes 64 = .ok (.iload_n 3, 1) := by decide +kernel
theorem dX9_comes_65 : decode cX9_comes 65 = .ok (.iconst 1, 1) := by decide +kernel
theorem dX9_comes_66 : decode cX9_comes 66 = .ok (.isub, 1) := by decide +kernel
theorem dX9_comes_67 : decode cX9_comes 67 = .ok (.iaload, 1) := by decide +kernel
theorem dX9_comes_68 : decode cX9_comes 68 = .ok (.iastore, 1) := by decide +kernel
theorem dX9_comes_69 : decode cX9_comes 69 = .ok (.iinc 3 (-1), 3) := by decide +kernel
theorem dX9_comes_72 : decode cX9_comes 72 = .ok (.goto (-22), 3) := by decide +kernel
theorem dX9_comes_75 : decode cX9_comes 75 = .ok (.aload_n 0, 1) := by decide +kernel
theorem dX9_comes_76 : decode cX9_comes 76 = .ok (.getfield 29, 3) := by decide +kernel

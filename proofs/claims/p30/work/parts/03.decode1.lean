theorem dX8_rings_77 : decode cX8_rings 77 = .ok (.iconst 0, 1) := by decide +kernel
theorem dX8_rings_78 : decode cX8_rings 78 = .ok (.ireturn, 1) := by decide +kernel
theorem dX8_rings_79 : decode cX8_rings 79 = .ok (.bipush (-2), 2) := by decide +kernel
theorem dX8_rings_81 : decode cX8_rings 81 = .ok (.ireturn, 1) := by decide +kernel
set_option maxRecDepth 20000 in
theorem ggX8_ring_X0_leastOfRing : GoodIn wsX8_ring wsX0_leastOfRing := goodIn_r _ [6, 7, 8, 9, 10, 5, 11, 12, 13, 14, 15, 16, 38, 39, 40, 41] (by decide +kernel) (by decide +kernel)
set_option maxRecDepth 20000 in
theorem gX8_ring_X0_leastOfRing : GoodIn wsX8_ring (wsV RX8 112 RX0 yX0_leastOfRing wsX0_leastOfRing) := goodIn_app (goodIn_of _ (by decide +kernel)) ggX8_ring_X0_leastOfRing
set_option maxRecDepth 20000 in
theorem ggX8_ring_X0_ringBits : GoodIn wsX8_ring wsX0_ringBits := goodIn_r _ [15, 7, 16, 38, 39, 40, 41] (by decide +kernel) (by decide +kernel)
set_option maxRecDepth 20000 in
theorem gX8_ring_X0_ringBits : GoodIn wsX8_ring (wsV RX8 92 RX0 yX0_ringBits wsX0_ringBits) := goodIn_app (goodIn_of _ (by decide +kernel)) ggX8_ring_X0_ringBits
set_option maxRecDepth 20000 in
theorem ggX8_ring_J6_bitCount_0f7a4 : GoodIn wsX8_ring wsJ6_bitCount_0f7a4 := goodIn_r _ [21, 22, 23, 24] (by decide +kernel) (by decide +kernel)
set_option maxRecDepth 20000 in
theorem gX8_ring_J6_bitCount_0f7a4 : GoodIn wsX8_ring (va_wsS RX8 95 yJ6_bitCount_0f7a4 wsJ6_bitCount_0f7a4) := goodIn_app (goodIn_of _ (by decide +kernel)) ggX8_ring_J6_bitCount_0f7a4
set_option maxRecDepth 20000 in
theorem ggX8_ring_X2_ofRing : GoodIn wsX8_ring wsX2_ofRing := goodIn_r _ [28] (by decide +kernel) (by decide +kernel)
set_option maxRecDepth 20000 in
theorem gX8_ring_X2_ofRing : GoodIn wsX8_ring (va_wsS RX8 115 yX2_ofRing wsX2_ofRing) := goodIn_app (goodIn_of _ (by decide +kernel)) ggX8_ring_X2_ofRing
theorem dX8_ring_0 : decode cX8_ring 0 = .ok (.aload_n 0, 1) := by decide +kernel
theorem dX8_ring_1 : decode cX8_ring 1 = .ok (.getfield 18, 3) := by decide +kernel
theorem dX8_ring_4 : decode cX8_ring 4 = .ok (.iload_n 1, 1) := by decide +kernel
theorem dX8_ring_5 : decode cX8_ring 5 = .ok (.invokevirtual 112, 3) := by decide +kernel
theorem dX8_ring_8 : decode cX8_ring 8 = .ok (.istore_n 3, 1) := by decide +kernel
theorem dX8_ring_9 : decode cX8_ring 9 = .ok (.iload_n 3, 1) := by decide +kernel
theorem dX8_ring_10 : decode cX8_ring 10 = .ok (.ifCond .ge 6, 3) := by decide +kernel
theorem dX8_ring_13 : decode cX8_ring 13 = .ok (.bipush (-2), 2) := by decide +kernel
theorem dX8_ring_15 : decode cX8_ring 15 = .ok (.ireturn, 1) := by decide +kernel
theorem dX8_ring_16 : decode cX8_ring 16 = .ok (.aload_n 0, 1) := by decide +kernel
theorem dX8_ring_17 : decode cX8_ring 17 = .ok (.getfield 18, 3) := by decide +kernel
theorem dX8_ring_20 : decode cX8_ring 20 = .ok (.iload_n 3, 1) := by decide +kernel
theorem dX8_ring_21 : decode cX8_ring 21 = .ok (.invokevirtual 92, 3) := by decide +kernel
theorem dX8_ring_24 : decode cX8_ring 24 = .ok (.invokestatic 95, 3) := by decide +kernel
theorem dX8_ring_27 : decode cX8_ring 27 = .ok (.istore 4, 2) := by decide +kernel
theorem dX8_ring_29 : decode cX8_ring 29 = .ok (.iload_n 2, 1) := by decide +kernel
theorem dX8_ring_30 : decode cX8_ring 30 = .ok (.tableswitch 37 0 2 #[26, 32, 35], 26) := by decide +kernel
theorem dX8_ring_56 : decode cX8_ring 56 = .ok (.iload 4, 2) := by decide +kernel
theorem dX8_ring_58 : decode cX8_ring 58 = .ok (.invokestatic 115, 3) := by decide +kernel
theorem dX8_ring_61 : decode cX8_ring 61 = .ok (.ireturn, 1) := by decide +kernel
theorem dX8_ring_62 : decode cX8_ring 62 = .ok (.iload 4, 2) := by decide +kernel
theorem dX8_ring_64 : decode cX8_ring 64 = .ok (.ireturn, 1) := by decide +kernel
theorem dX8_ring_65 : decode cX8_ring 65 = .ok (.iload_n 3, 1) := by decide +kernel
theorem dX8_ring_66 : decode cX8_ring 66 = .ok (.ireturn, 1) := by decide +kernel
theorem dX8_ring_67 : decode cX8_ring 67 = .ok (.bipush (-2), 2) := by decide +kernel
theorem dX8_ring_69 : decode cX8_ring 69 = .ok (.ireturn, 1) := by decide +kernel
set_option maxRecDepth 20000 in
theorem ggX8_taken_X0_leastOfRing : GoodIn wsX8_taken wsX0_leastOfRing := goodIn_r _ [6, 7, 8, 9, 10, 5, 11, 12, 13, 14, 15, 16, 42, 43, 44, 45] (by decide +kernel) (by decide +kernel)
set_option maxRecDepth 20000 in
theorem gX8_taken_X0_leastOfRing : GoodIn wsX8_taken (wsV RX8 112 RX0 yX0_leastOfRing wsX0_leastOfRing) := goodIn_app (goodIn_of _ (by decide +kernel)) ggX8_taken_X0_leastOfRing
set_option maxRecDepth 20000 in
theorem ggX8_taken_X0_ringBits : GoodIn wsX8_taken wsX0_ringBits := goodIn_r _ [15, 7, 16, 42, 43, 44, 45] (by decide +kernel) (by decide +kernel)
set_option maxRecDepth 20000 in
theorem gX8_taken_X0_ringBits : GoodIn wsX8_taken (wsV RX8 92 RX0 yX0_ringBits wsX0_ringBits) := goodIn_app (goodIn_of _ (by decide +kernel)) ggX8_taken_X0_ringBits
set_option maxRecDepth 20000 in
theorem ggX8_taken_J6_bitCount_0f7a4 : GoodIn wsX8_taken wsJ6_bitCount_0f7a4 := goodIn_r _ [21, 22, 23, 24] (by decide +kernel) (by decide +kernel)
set_option maxRecDepth 20000 in
theorem gX8_taken_J6_bitCount_0f7a4 : GoodIn wsX8_taken (va_wsS RX8 95 yJ6_bitCount_0f7a4 wsJ6_bitCount_0f7a4) := goodIn_app (goodIn_of _ (by decide +kernel)) ggX8_taken_J6_bitCount_0f7a4
set_option maxRecDepth 20000 in
theorem ggX8_taken_X2_ofRing : GoodIn wsX8_taken wsX2_ofRing := goodIn_r _ [28] (by decide +kernel) (by decide +kernel)
set_option maxRecDepth 20000 in
theorem gX8_taken_X2_ofRing : GoodIn wsX8_taken (va_wsS RX8 115 yX2_ofRing wsX2_ofRing) := goodIn_app (goodIn_of _ (by decide +kernel)) ggX8_taken_X2_ofRing
set_option maxRecDepth 20000 in
theorem ggX8_taken_X2_isUnder : GoodIn wsX8_taken wsX2_isUnder := goodIn_r _ [31, 32] (by decide +kernel) (by decide +kernel)
set_option maxRecDepth 20000 in
theorem gX8_taken_X2_isUnder : GoodIn wsX8_taken (va_wsS RX8 120 yX2_isUnder wsX2_isUnder) := goodIn_app (goodIn_of _ (by decide +kernel)) ggX8_taken_X2_isUnder
theorem dX8_taken_0 : decode cX8_taken 0 = .ok (.aload_n 0, 1) := by decide +kernel
theorem dX8_taken_1 : decode cX8_taken 1 = .ok (.getfield 18, 3) := by decide +kernel
theorem dX8_taken_4 : decode cX8_taken 4 = .ok (.iload_n 1, 1) := by decide +kernel
theorem dX8_taken_5 : decode cX8_taken 5 = .ok (.invokevirtual 112, 3) := by decide +kernel
theorem dX8_taken_8 : decode cX8_taken 8 = .ok (.istore_n 3, 1) := by decide +kernel
theorem dX8_taken_9 : decode cX8_taken 9 = .ok (.iload_n 3, 1) := by decide +kernel
theorem dX8_taken_10 : decode cX8_taken 10 = .ok (.ifCond .lt 12, 3) := by decide +kernel
theorem dX8_taken_13 : decode cX8_taken 13 = .ok (.iload_n 2, 1) := by decide +kernel
theorem dX8_taken_14 : decode cX8_taken 14 = .ok (.ifCond .lt 8, 3) := by decide +kernel
theorem dX8_taken_17 : decode cX8_taken 17 = .ok (.iload_n 2, 1) := by decide +kernel
theorem dX8_taken_18 : decode cX8_taken 18 = .ok (.iconst 4, 1) := by decide +kernel
theorem dX8_taken_19 : decode cX8_taken 19 = .ok (.if_icmp .le 6, 3) := by decide +kernel
theorem dX8_taken_22 : decode cX8_taken 22 = .ok (.bipush (-2), 2) := by decide +kernel
theorem dX8_taken_24 : decode cX8_taken 24 = .ok (.ireturn, 1) := by decide +kernel
theorem dX8_taken_25 : decode cX8_taken 25 = .ok (.aload_n 0, 1) := by decide +kernel
theorem dX8_taken_26 : decode cX8_taken 26 = .ok (.getfield 18, 3) := by decide +kernel
theorem dX8_taken_29 : decode cX8_taken 29 = .ok (.iload_n 3, 1) := by decide +kernel
theorem dX8_taken_30 : decode cX8_taken 30 = .ok (.invokevirtual 92, 3) := by decide +kernel
theorem dX8_taken_33 : decode cX8_taken 33 = .ok (.invokestatic 95, 3) := by decide +kernel
theorem dX8_taken_36 : decode cX8_taken 36 = .ok (.istore 4, 2) := by decide +kernel
theorem dX8_taken_38 : decode cX8_taken 38 = .ok (.iload 4, 2) := by decide +kernel
theorem dX8_taken_40 : decode cX8_taken 40 = .ok (.invokestatic 115, 3) := by decide +kernel
theorem dX8_taken_43 : decode cX8_taken 43 = .ok (.iload_n 2, 1) := by decide +kernel
theorem dX8_taken_44 : decode cX8_taken 44 = .ok (.invokestatic 120, 3) := by decide +kernel
theorem dX8_taken_47 : decode cX8_taken 47 = .ok (.ifCond .eq 8, 3) := by decide +kernel
theorem dX8_taken_50 : decode cX8_taken 50 = .ok (.iload 4, 2) := by decide +kernel
theorem dX8_taken_52 : decode cX8_taken 52 = .ok (.goto 5, 3) := by decide +kernel
theorem dX8_taken_55 : decode cX8_taken 55 = .ok (.bipush (-13), 2) := by decide +kernel
theorem dX8_taken_57 : decode cX8_taken 57 = .ok (.ireturn, 1) := by decide +kernel
set_option maxRecDepth 20000 in
theorem ggX8_turn_X8_areTurnings : GoodIn wsX8_turn wsX8_areTurnings := goodIn_r _ [6, 7, 8, 5, 9] (by decide +kernel) (by decide +kernel)
set_option maxRecDepth 20000 in
theorem gX8_turn_X8_areTurnings : GoodIn wsX8_turn (va_wsS RX8 206 yX8_areTurnings wsX8_areTurnings) := goodIn_app (goodIn_of _ (by decide +kernel)) ggX8_turn_X8_areTurnings
set_option maxRecDepth 20000 in
theorem ggX8_turn_X0_packed : GoodIn wsX8_turn wsX0_packed := goodIn_r _ [14, 15, 77, 78, 79, 80] (by decide +kernel) (by decide +kernel)
set_option maxRecDepth 20000 in
theorem gX8_turn_X0_packed : GoodIn wsX8_turn (wsV RX8 77 RX0 yX0_packed wsX0_packed) := goodIn_app (goodIn_of _ (by decide +kernel)) ggX8_turn_X0_packed
set_option maxRecDepth 20000 in
theorem ggX8_turn_X1_keep : GoodIn wsX8_turn wsX1_keep := goodIn_r _ [20, 21, 22, 23, 24, 25, 19, 26, 81, 82] (by decide +kernel) (by decide +kernel)
set_option maxRecDepth 20000 in
theorem gX8_turn_X1_keep : GoodIn wsX8_turn (wsV RX8 81 RX1 yX1_keep wsX1_keep) := goodIn_app (goodIn_of _ (by decide +kernel)) ggX8_turn_X1_keep
set_option maxRecDepth 20000 in
theorem ggX8_turn_X8_withoutLast : GoodIn wsX8_turn wsX8_withoutLast := goodIn_r _ [9] (by decide +kernel) (by decide +kernel)
set_option maxRecDepth 20000 in
theorem gX8_turn_X8_withoutLast : GoodIn wsX8_turn (va_wsS RX8 209 yX8_withoutLast wsX8_withoutLast) := goodIn_app (goodIn_of _ (by decide +kernel)) ggX8_turn_X8_withoutLast
set_option maxRecDepth 20000 in
theorem ggX8_turn_X0_turned : GoodIn wsX8_turn wsX0_turned := goodIn_r _ [30, 31, 15, 32, 33, 34, 35, 36, 37, 38, 39, 13, 40, 41, 42, 43, 44, 45, 46, 47, 48, 49, 50, 51, 52, 53, 54, 55, 56, 57, 58, 59, 60, 61, 62, 63, 64, 65, 66, 67, 77, 78, 79, 80] (by decide +kernel) (by decide +kernel)
set_option maxRecDepth 20000 in
theorem gX8_turn_X0_turned : GoodIn wsX8_turn (wsV RX8 212 RX0 yX0_turned wsX0_turned) := goodIn_app (goodIn_of _ (by decide +kernel)) ggX8_turn_X0_turned
theorem dX8_turn_0 : decode cX8_turn 0 = .ok (.iload_n 1, 1) := by decide +kernel
theorem dX8_turn_1 : decode cX8_turn 1 = .ok (.iconst 1, 1) := by decide +kernel
theorem dX8_turn_2 : decode cX8_turn 2 = .ok (.if_icmp .lt 27, 3) := by decide +kernel
theorem dX8_turn_5 : decode cX8_turn 5 = .ok (.iload_n 1, 1) := by decide +kernel
theorem dX8_turn_6 : decode cX8_turn 6 = .ok (.bipush 6, 2) := by decide +kernel
theorem dX8_turn_8 : decode cX8_turn 8 = .ok (.if_icmp .gt 21, 3) := by decide +kernel
theorem dX8_turn_11 : decode cX8_turn 11 = .ok (.iload_n 1, 1) := by decide +kernel
theorem dX8_turn_12 : decode cX8_turn 12 = .ok (.iload_n 2, 1) := by decide +kernel
theorem dX8_turn_13 : decode cX8_turn 13 = .ok (.invokestatic 206, 3) := by decide +kernel
theorem dX8_turn_16 : decode cX8_turn 16 = .ok (.ifCond .eq 13, 3) := by decide +kernel
theorem dX8_turn_19 : decode cX8_turn 19 = .ok (.iload_n 3, 1) := by decide +kernel
theorem dX8_turn_20 : decode cX8_turn 20 = .ok (.ifCond .lt 9, 3) := by decide +kernel
theorem dX8_turn_23 : decode cX8_turn 23 = .ok (.iload_n 3, 1) := by decide +kernel
theorem dX8_turn_24 : decode cX8_turn 24 = .ok (.bipush 8, 2) := by decide +kernel
theorem dX8_turn_26 : decode cX8_turn 26 = .ok (.if_icmp .lt 6, 3) := by decide +kernel
theorem dX8_turn_29 : decode cX8_turn 29 = .ok (.bipush (-2), 2) := by decide +kernel
theorem dX8_turn_31 : decode cX8_turn 31 = .ok (.ireturn, 1) := by decide +kernel
theorem dX8_turn_32 : decode cX8_turn 32 = .ok (.aload_n 0, 1) := by decide +kernel
theorem dX8_turn_33 : decode cX8_turn 33 = .ok (.getfield 28, 3) := by decide +kernel
theorem dX8_turn_36 : decode cX8_turn 36 = .ok (.aload_n 0, 1) := by decide +kernel
theorem dX8_turn_37 : decode cX8_turn 37 = .ok (.getfield 18, 3) := by decide +kernel
theorem dX8_turn_40 : decode cX8_turn 40 = .ok (.invokevirtual 77, 3) := by decide +kernel
theorem dX8_turn_43 : decode cX8_turn 43 = .ok (.invokevirtual 81, 3) := by decide +kernel
theorem dX8_turn_46 : decode cX8_turn 46 = .ok (.iconst 0, 1) := by decide +kernel
theorem dX8_turn_47 : decode cX8_turn 47 = .ok (.istore 4, 2) := by decide +kernel
theorem dX8_turn_49 : decode cX8_turn 49 = .ok (.iload_n 1, 1) := by decide +kernel
theorem dX8_turn_50 : decode cX8_turn 50 = .ok (.iconst 1, 1) := by decide +kernel
theorem dX8_turn_51 : decode cX8_turn 51 = .ok (.isub, 1) := by decide +kernel
theorem dX8_turn_52 : decode cX8_turn 52 = .ok (.istore 5, 2) := by decide +kernel
theorem dX8_turn_54 : decode cX8_turn 54 = .ok (.iload 5, 2) := by decide +kernel
theorem dX8_turn_56 : decode cX8_turn 56 = .ok (.ifCond .lt 32, 3) := by decide +kernel
theorem dX8_turn_59 : decode cX8_turn 59 = .ok (.aload_n 0, 1) := by decide +kernel
theorem dX8_turn_60 : decode cX8_turn 60 = .ok (.getfield 18, 3) := by decide +kernel
theorem dX8_turn_63 : decode cX8_turn 63 = .ok (.iload_n 2, 1) := by decide +kernel
theorem dX8_turn_64 : decode cX8_turn 64 = .ok (.iload 5, 2) := by decide +kernel
theorem dX8_turn_66 : decode cX8_turn 66 = .ok (.invokestatic 209, 3) := by decide +kernel
theorem dX8_turn_69 : decode cX8_turn 69 = .ok (.bipush 10, 2) := by decide +kernel
theorem dX8_turn_71 : decode cX8_turn 71 = .ok (.irem, 1) := by decide +kernel
theorem dX8_turn_72 : decode cX8_turn 72 = .ok (.iload_n 3, 1) := by decide +kernel
theorem dX8_turn_73 : decode cX8_turn 73 = .ok (.invokevirtual 212, 3) := by decide +kernel
theorem dX8_turn_76 : decode cX8_turn 76 = .ok (.ifCond .eq 6, 3) := by decide +kernel
theorem dX8_turn_79 : decode cX8_turn 79 = .ok (.iinc 4 1, 3) := by decide +kernel
theorem dX8_turn_82 : decode cX8_turn 82 = .ok (.iinc 5 (-1), 3) := by decide +kernel
theorem dX8_turn_85 : decode cX8_turn 85 = .ok (.goto (-31), 3) := by decide +kernel
theorem dX8_turn_88 : decode cX8_turn 88 = .ok (.iload 4, 2) := by decide +kernel
theorem dX8_turn_90 : decode cX8_turn 90 = .ok (.ireturn, 1) := by decide +kernel
set_option maxRecDepth 20000 in
theorem ggX8_areTurnings_X8_withoutLast : GoodIn wsX8_areTurnings wsX8_withoutLast := goodIn_r _ [4] (by decide +kernel) (by decide +kernel)
set_option maxRecDepth 20000 in
theorem gX8_areTurnings_X8_withoutLast : GoodIn wsX8_areTurnings (va_wsS RX8 209 yX8_withoutLast wsX8_withoutLast) := goodIn_app (goodIn_of _ (by decide +kernel)) ggX8_areTurnings_X8_withoutLast
theorem dX8_areTurnings_0 : decode cX8_areTurnings 0 = .ok (.iload_n 1, 1) := by decide +kernel
theorem dX8_areTurnings_1 : decode cX8_areTurnings 1 = .ok (.ifCond .lt 11, 3) := by decide +kernel
theorem dX8_areTurnings_4 : decode cX8_areTurnings 4 = .ok (.iload_n 1, 1) := by decide +kernel
theorem dX8_areTurnings_5 : decode cX8_areTurnings 5 = .ok (.iload_n 0, 1) := by decide +kernel
theorem dX8_areTurnings_6 : decode cX8_areTurnings 6 = .ok (.invokestatic 209, 3) := by decide +kernel
theorem dX8_areTurnings_9 : decode cX8_areTurnings 9 = .ok (.ifCond .eq 5, 3) := by decide +kernel
theorem dX8_areTurnings_12 : decode cX8_areTurnings 12 = .ok (.iconst 0, 1) := by decide +kernel
theorem dX8_areTurnings_13 : decode cX8_areTurnings 13 = .ok (.ireturn, 1) := by decide +kernel
theorem dX8_areTurnings_14 : decode cX8_areTurnings 14 = .ok (.iconst 0, 1) := by decide +kernel
theorem dX8_areTurnings_15 : decode cX8_areTurnings 15 = .ok (.istore_n 2, 1) := by decide +kernel
theorem dX8_areTurnings_16 : decode cX8_areTurnings 16 = .ok (.iload_n 2, 1) := by decide +kernel
theorem dX8_areTurnings_17 : decode cX8_areTurnings 17 = .ok (.iload_n 0, 1) := by decide +kernel
theorem dX8_areTurnings_18 : decode cX8_areTurnings 18 = .ok (.if_icmp .ge 23, 3) := by decide +kernel
theorem dX8_areTurnings_21 : decode cX8_areTurnings 21 = .ok (.iload_n 1, 1) := by decide +kernel
theorem dX8_areTurnings_22 : decode cX8_areTurnings 22 = .ok (.iload_n 2, 1) := by decide +kernel
theorem dX8_areTurnings_23 : decode cX8_areTurnings 23 = .ok (.invokestatic 209, 3) := by decide +kernel
theorem dX8_areTurnings_26 : decode cX8_areTurnings 26 = .ok (.bipush 10, 2) := by decide +kernel
theorem dX8_areTurnings_28 : decode cX8_areTurnings 28 = .ok (.irem, 1) := by decide +kernel
theorem dX8_areTurnings_29 : decode cX8_areTurnings 29 = .ok (.iconst 4, 1) := by decide +kernel
theorem dX8_areTurnings_30 : decode cX8_areTurnings 30 = .ok (.if_icmp .le 5, 3) := by decide +kernel
theorem dX8_areTurnings_33 : decode cX8_areTurnings 33 = .ok (.iconst 0, 1) := by decide +kernel
theorem dX8_areTurnings_34 : decode cX8_areTurnings 34 = .ok (.ireturn, 1) := by decide +kernel
theorem dX8_areTurnings_35 : decode cX8_areTurnings 35 = .ok (.iinc 2 1, 3) := by decide +kernel
theorem dX8_areTurnings_38 : decode cX8_areTurnings 38 = .ok (.goto (-22), 3) := by decide +kernel
theorem dX8_areTurnings_41 : decode cX8_areTurnings 41 = .ok (.iconst 1, 1) := by decide +kernel
theorem dX8_areTurnings_42 : decode cX8_areTurnings 42 = .ok (.ireturn, 1) := by decide +kernel
theorem dX8_withoutLast_0 : decode cX8_withoutLast 0 = .ok (.iload_n 0, 1) := by decide +kernel
theorem dX8_withoutLast_1 : decode cX8_withoutLast 1 = .ok (.istore_n 2, 1) := by decide +kernel
theorem dX8_withoutLast_2 : decode cX8_withoutLast 2 = .ok (.iconst 0, 1) := by decide +kernel
theorem dX8_withoutLast_3 : decode cX8_withoutLast 3 = .ok (.istore_n 3, 1) := by decide +kernel
theorem dX8_withoutLast_4 : decode cX8_withoutLast 4 = .ok (.iload_n 3, 1) := by decide +kernel
theorem dX8_withoutLast_5 : decode cX8_withoutLast 5 = .ok (.iload_n 1, 1) := by decide +kernel
theorem dX8_withoutLast_6 : decode cX8_withoutLast 6 = .ok (.if_icmp .ge 14, 3) := by decide +kernel
theorem dX8_withoutLast_9 : decode cX8_withoutLast 9 = .ok (.iload_n 2, 1) := by decide +kernel
theorem dX8_withoutLast_10 : decode cX8_withoutLast 10 = .ok (.bipush 10, 2) := by decide +kernel
theorem dX8_withoutLast_12 : decode cX8_withoutLast 12 = .ok (.idiv, 1) := by decide +kernel
theorem dX8_withoutLast_13 : decode cX8_withoutLast 13 = .ok (.istore_n 2, 1) := by decide +kernel
theorem dX8_withoutLast_14 : decode cX8_withoutLast 14 = .ok (.iinc 3 1, 3) := by decide +kernel
theorem dX8_withoutLast_17 : decode cX8_withoutLast 17 = .ok (.goto (-13), 3) := by decide +kernel
theorem dX8_withoutLast_20 : decode cX8_withoutLast 20 = .ok (.iload_n 2, 1) := by decide +kernel
theorem dX8_withoutLast_21 : decode cX8_withoutLast 21 = .ok (.ireturn, 1) := by decide +kernel
set_option maxRecDepth 20000 in
theorem ggX8_feed_X6_put : GoodIn wsX8_feed wsX6_put := goodIn_r _ [7, 8, 9, 19, 20] (by decide +kernel) (by decide +kernel)
set_option maxRecDepth 20000 in
theorem gX8_feed_X6_put : GoodIn wsX8_feed (wsV RX8 218 RX6 yX6_put wsX6_put) := goodIn_app (goodIn_of _ (by decide +kernel)) ggX8_feed_X6_put
theorem dX8_feed_0 : decode cX8_feed 0 = .ok (.iload_n 1, 1) := by decide +kernel
theorem dX8_feed_1 : decode cX8_feed 1 = .ok (.ifCond .lt 9, 3) := by decide +kernel
theorem dX8_feed_4 : decode cX8_feed 4 = .ok (.iload_n 1, 1) := by decide +kernel
theorem dX8_feed_5 : decode cX8_feed 5 = .ok (.bipush 127, 2) := by decide +kernel
theorem dX8_feed_7 : decode cX8_feed 7 = .ok (.if_icmp .le 6, 3) := by decide +kernel
theorem dX8_feed_10 : decode cX8_feed 10 = .ok (.bipush (-2), 2) := by decide +kernel
theorem dX8_feed_12 : decode cX8_feed 12 = .ok (.ireturn, 1) := by decide +kernel
theorem dX8_feed_13 : decode cX8_feed 13 = .ok (.aload_n 0, 1) := by decide +kernel
theorem dX8_feed_14 : decode cX8_feed 14 = .ok (.getfield 35, 3) := by decide +kernel
theorem dX8_feed_17 : decode cX8_feed 17 = .ok (.getfield 215, 3) := by decide +kernel
theorem dX8_feed_20 : decode cX8_feed 20 = .ok (.bipush 60, 2) := by decide +kernel
theorem dX8_feed_22 : decode cX8_feed 22 = .ok (.if_icmp .lt 6, 3) := by decide +kernel
theorem dX8_feed_25 : decode cX8_feed 25 = .ok (.bipush (-4), 2) := by decide +kernel
theorem dX8_feed_27 : decode cX8_feed 27 = .ok (.ireturn, 1) := by decide +kernel
theorem dX8_feed_28 : decode cX8_feed 28 = .ok (.aload_n 0, 1) := by decide +kernel
theorem dX8_feed_29 : decode cX8_feed 29 = .ok (.getfield 35, 3) := by decide +kernel
theorem dX8_feed_32 : decode cX8_feed 32 = .ok (.iload_n 1, 1) := by decide +kernel
theorem dX8_feed_33 : decode cX8_feed 33 = .ok (.invokevirtual 218, 3) := by decide +kernel
theorem dX8_feed_36 : decode cX8_feed 36 = .ok (.aload_n 0, 1) := by decide +kernel
theorem dX8_feed_37 : decode cX8_feed 37 = .ok (.getfield 35, 3) := by decide +kernel
theorem dX8_feed_40 : decode cX8_feed 40 = .ok (.getfield 215, 3) := by decide +kernel
theorem dX8_feed_43 : decode cX8_feed 43 = .ok (.ireturn, 1) := by decide +kernel
set_option maxRecDepth 20000 in
theorem ggX8_read_X7_faultIn : GoodIn wsX8_read wsX7_faultIn := goodIn_r _ [13, 14, 15, 16, 17, 18, 19, 12, 20, 21, 22, 23, 24, 25, 26, 27, 28, 29, 30, 31, 32, 33, 34, 35, 36, 37, 38, 39, 40, 41, 42, 94, 95, 96, 97, 98, 99, 100, 101, 102, 103, 104] (by decide +kernel) (by decide +kernel)
set_option maxRecDepth 20000 in
theorem gX8_read_X7_faultIn : GoodIn wsX8_read (wsV RX8 221 RX7 yX7_faultIn wsX7_faultIn) := goodIn_app (goodIn_of _ (by decide +kernel)) ggX8_read_X7_faultIn
set_option maxRecDepth 20000 in
theorem ggX8_read_X7_keepReasons : GoodIn wsX8_read wsX7_keepReasons := goodIn_r _ [46, 47, 48, 23, 22, 49, 50, 51, 52, 53, 54, 55, 96, 97, 98, 99, 100, 101, 102, 103, 104] (by decide +kernel) (by decide +kernel)
set_option maxRecDepth 20000 in
theorem gX8_read_X7_keepReasons : GoodIn wsX8_read (wsV RX8 225 RX7 yX7_keepReasons wsX7_keepReasons) := goodIn_app (goodIn_of _ (by decide +kernel)) ggX8_read_X7_keepReasons
set_option maxRecDepth 20000 in
theorem ggX8_read_X0_packed : GoodIn wsX8_read wsX0_packed := goodIn_r _ [60, 61, 90, 91, 92, 93] (by decide +kernel) (by decide +kernel)
set_option maxRecDepth 20000 in
theorem gX8_read_X0_packed : GoodIn wsX8_read (wsV RX8 77 RX0 yX0_packed wsX0_packed) := goodIn_app (goodIn_of _ (by decide +kernel)) ggX8_read_X0_packed
set_option maxRecDepth 20000 in
theorem ggX8_read_X1_keep : GoodIn wsX8_read wsX1_keep := goodIn_r _ [66, 67, 68, 69, 70, 71, 65, 72, 105, 106] (by decide +kernel) (by decide +kernel)
set_option maxRecDepth 20000 in
theorem gX8_read_X1_keep : GoodIn wsX8_read (wsV RX8 81 RX1 yX1_keep wsX1_keep) := goodIn_app (goodIn_of _ (by decide +kernel)) ggX8_read_X1_keep
set_option maxRecDepth 20000 in
theorem ggX8_read_X0_leadAll : GoodIn wsX8_read wsX0_leadAll := goodIn_r _ [76, 61, 77, 78, 79, 80, 90, 91, 92, 93] (by decide +kernel) (by decide +kernel)
set_option maxRecDepth 20000 in
theorem gX8_read_X0_leadAll : GoodIn wsX8_read (wsV RX8 229 RX0 yX0_leadAll wsX0_leadAll) := goodIn_app (goodIn_of _ (by decide +kernel)) ggX8_read_X0_leadAll
theorem dX8_read_0 : decode cX8_read 0 = .ok (.aload_n 0, 1) := by decide +kernel
theorem dX8_read_1 : decode cX8_read 1 = .ok (.getfield 42, 3) := by decide +kernel
theorem dX8_read_4 : decode cX8_read 4 = .ok (.aload_n 0, 1) := by decide +kernel
theorem dX8_read_5 : decode cX8_read 5 = .ok (.getfield 35, 3) := by decide +kernel
theorem dX8_read_8 : decode cX8_read 8 = .ok (.aload_n 0, 1) := by decide +kernel
theorem dX8_read_9 : decode cX8_read 9 = .ok (.getfield 18, 3) := by decide +kernel
theorem dX8_read_12 : decode cX8_read 12 = .ok (.getfield 60, 3) := by decide +kernel
theorem dX8_read_15 : decode cX8_read 15 = .ok (.invokevirtual 221, 3) := by decide +kernel
theorem dX8_read_18 : decode cX8_read 18 = .ok (.istore_n 1, 1) := by decide +kernel
theorem dX8_read_19 : decode cX8_read 19 = .ok (.aload_n 0, 1) := by decide +kernel
theorem dX8_read_20 : decode cX8_read 20 = .ok (.getfield 35, 3) := by decide +kernel
theorem dX8_read_23 : decode cX8_read 23 = .ok (.iconst 0, 1) := by decide +kernel
theorem dX8_read_24 : decode cX8_read 24 = .ok (.putfield 215, 3) := by decide +kernel
theorem dX8_read_27 : decode cX8_read 27 = .ok (.iload_n 1, 1) := by decide +kernel
theorem dX8_read_28 : decode cX8_read 28 = .ok (.ifCond .lt 16, 3) := by decide +kernel
theorem dX8_read_31 : decode cX8_read 31 = .ok (.aload_n 0, 1) := by decide +kernel
theorem dX8_read_32 : decode cX8_read 32 = .ok (.getfield 42, 3) := by decide +kernel
theorem dX8_read_35 : decode cX8_read 35 = .ok (.iload_n 1, 1) := by decide +kernel
theorem dX8_read_36 : decode cX8_read 36 = .ok (.invokevirtual 225, 3) := by decide +kernel
theorem dX8_read_39 : decode cX8_read 39 = .ok (.bipush (-100), 2) := by decide +kernel
theorem dX8_read_41 : decode cX8_read 41 = .ok (.iload_n 1, 1) := by decide +kernel
theorem dX8_read_42 : decode cX8_read 42 = .ok (.isub, 1) := by decide +kernel
theorem dX8_read_43 : decode cX8_read 43 = .ok (.ireturn, 1) := by decide +kernel
theorem dX8_read_44 : decode cX8_read 44 = .ok (.aload_n 0, 1) := by decide +kernel
theorem dX8_read_45 : decode cX8_read 45 = .ok (.getfield 28, 3) := by decide +kernel
theorem dX8_read_48 : decode cX8_read 48 = .ok (.aload_n 0, 1) := by decide +kernel
theorem dX8_read_49 : decode cX8_read 49 = .ok (.getfield 18, 3) := by decide +kernel
theorem dX8_read_52 : decode cX8_read 52 = .ok (.invokevirtual 77, 3) := by decide +kernel
theorem dX8_read_55 : decode cX8_read 55 = .ok (.invokevirtual 81, 3) := by decide +kernel
theorem dX8_read_58 : decode cX8_read 58 = .ok (.aload_n 0, 1) := by decide +kernel
theorem dX8_read_59 : decode cX8_read 59 = .ok (.getfield 18, 3) := by decide +kernel
theorem dX8_read_62 : decode cX8_read 62 = .ok (.aload_n 0, 1) := by decide +kernel
theorem dX8_read_63 : decode cX8_read 63 = .ok (.getfield 42, 3) := by decide +kernel
theorem dX8_read_66 : decode cX8_read 66 = .ok (.getfield 228, 3) := by decide +kernel
theorem dX8_read_69 : decode cX8_read 69 = .ok (.invokevirtual 229, 3) := by decide +kernel
theorem dX8_read_72 : decode cX8_read 72 = .ok (.aload_n 0, 1) := by decide +kernel
theorem dX8_read_73 : decode cX8_read 73 = .ok (.getfield 42, 3) := by decide +kernel
theorem dX8_read_76 : decode cX8_read 76 = .ok (.getfield 233, 3) := by decide +kernel
theorem dX8_read_79 : decode cX8_read 79 = .ok (.ireturn, 1) := by decide +kernel
theorem dX8_why_0 : decode cX8_why 0 = .ok (.iload_n 1, 1) := by decide +kernel
theorem dX8_why_1 : decode cX8_why 1 = .ok (.ifCond .lt 18, 3) := by decide +kernel
theorem dX8_why_4 : decode cX8_why 4 = .ok (.iload_n 1, 1) := by decide +kernel
theorem dX8_why_5 : decode cX8_why 5 = .ok (.iconst 3, 1) := by decide +kernel
theorem dX8_why_6 : decode cX8_why 6 = .ok (.if_icmp .ge 13, 3) := by decide +kernel
theorem dX8_why_9 : decode cX8_why 9 = .ok (.aload_n 0, 1) := by decide +kernel
theorem dX8_why_10 : decode cX8_why 10 = .ok (.getfield 42, 3) := by decide +kernel
theorem dX8_why_13 : decode cX8_why 13 = .ok (.getfield 236, 3) := by decide +kernel
theorem dX8_why_16 : decode cX8_why 16 = .ok (.ifCond .ne 7, 3) := by decide +kernel
theorem dX8_why_19 : decode cX8_why 19 = .ok (.ldc2_w 138, 3) := by decide +kernel
theorem dX8_why_22 : decode cX8_why 22 = .ok (.lreturn, 1) := by decide +kernel
theorem dX8_why_23 : decode cX8_why 23 = .ok (.aload_n 0, 1) := by decide +kernel
theorem dX8_why_24 : decode cX8_why 24 = .ok (.getfield 42, 3) := by decide +kernel
theorem dX8_why_27 : decode cX8_why 27 = .ok (.getfield 240, 3) := by decide +kernel
theorem dX8_why_30 : decode cX8_why 30 = .ok (.iload_n 1, 1) := by decide +kernel
theorem dX8_why_31 : decode cX8_why 31 = .ok (.laload, 1) := by decide +kernel
theorem dX8_why_32 : decode cX8_why 32 = .ok (.lreturn, 1) := by decide +kernel
set_option maxRecDepth 20000 in
theorem ggX8_back_X1_takeLatest : GoodIn wsX8_back wsX1_takeLatest := goodIn_r _ [8, 9, 10, 26, 27] (by decide +kernel) (by decide +kernel)
set_option maxRecDepth 20000 in
theorem gX8_back_X1_takeLatest : GoodIn wsX8_back (wsV RX8 245 RX1 yX1_takeLatest wsX1_takeLatest) := goodIn_app (goodIn_of _ (by decide +kernel)) ggX8_back_X1_takeLatest
set_option maxRecDepth 20000 in
theorem ggX8_back_X0_unpack : GoodIn wsX8_back wsX0_unpack := goodIn_r _ [15, 16, 28, 29, 30, 31] (by decide +kernel) (by decide +kernel)
set_option maxRecDepth 20000 in
theorem gX8_back_X0_unpack : GoodIn wsX8_back (wsV RX8 248 RX0 yX0_unpack wsX0_unpack) := goodIn_app (goodIn_of _ (by decide +kernel)) ggX8_back_X0_unpack
theorem dX8_back_0 : decode cX8_back 0 = .ok (.aload_n 0, 1) := by decide +kernel
theorem dX8_back_1 : decode cX8_back 1 = .ok (.getfield 28, 3) := by decide +kernel
theorem dX8_back_4 : decode cX8_back 4 = .ok (.getfield 243, 3) := by decide +kernel
theorem dX8_back_7 : decode cX8_back 7 = .ok (.ifCond .ne 6, 3) := by decide +kernel
theorem dX8_back_10 : decode cX8_back 10 = .ok (.bipush (-3), 2) := by decide +kernel
theorem dX8_back_12 : decode cX8_back 12 = .ok (.ireturn, 1) := by decide +kernel
theorem dX8_back_13 : decode cX8_back 13 = .ok (.aload_n 0, 1) := by decide +kernel
theorem dX8_back_14 : decode cX8_back 14 = .ok (.getfield 18, 3) := by decide +kernel
theorem dX8_back_17 : decode cX8_back 17 = .ok (.aload_n 0, 1) := by decide +kernel
theorem dX8_back_18 : decode cX8_back 18 = .ok (.getfield 28, 3) := by decide +kernel
theorem dX8_back_21 : decode cX8_back 21 = .ok (.invokevirtual 245, 3) := by decide +kernel
theorem dX8_back_24 : decode cX8_back 24 = .ok (.invokevirtual 248, 3) := by decide +kernel
theorem dX8_back_27 : decode cX8_back 27 = .ok (.aload_n 0, 1) := by decide +kernel
theorem dX8_back_28 : decode cX8_back 28 = .ok (.getfield 28, 3) := by decide +kernel
theorem dX8_back_31 : decode cX8_back 31 = .ok (.getfield 243, 3) := by decide +kernel
theorem dX8_back_34 : decode cX8_back 34 = .ok (.ireturn, 1) := by decide +kernel
set_option maxRecDepth 20000 in
theorem ggX8_image_X0_become : GoodIn wsX8_image wsX0_become := goodIn_r _ [9, 10, 11, 12, 13, 14, 15, 8, 16, 17, 18, 19, 20, 30, 31, 32, 33] (by decide +kernel) (by decide +kernel)
set_option maxRecDepth 20000 in
theorem gX8_image_X0_become : GoodIn wsX8_image (wsV RX8 251 RX0 yX0_become wsX0_become) := goodIn_app (goodIn_of _ (by decide +kernel)) ggX8_image_X0_become
theorem dX8_image_0 : decode cX8_image 0 = .ok (.aload_n 0, 1) := by decide +kernel
theorem dX8_image_1 : decode cX8_image 1 = .ok (.getfield 22, 3) := by decide +kernel
theorem dX8_image_4 : decode cX8_image 4 = .ok (.aload_n 0, 1) := by decide +kernel
theorem dX8_image_5 : decode cX8_image 5 = .ok (.getfield 18, 3) := by decide +kernel
theorem dX8_image_8 : decode cX8_image 8 = .ok (.invokevirtual 251, 3) := by decide +kernel
theorem dX8_image_11 : decode cX8_image 11 = .ok (.aload_n 0, 1) := by decide +kernel
theorem dX8_image_12 : decode cX8_image 12 = .ok (.iconst 1, 1) := by decide +kernel
theorem dX8_image_13 : decode cX8_image 13 = .ok (.putfield 254, 3) := by decide +kernel
theorem dX8_image_16 : decode cX8_image 16 = .ok (.aload_n 0, 1) := by decide +kernel
theorem dX8_image_17 : decode cX8_image 17 = .ok (.getfield 18, 3) := by decide +kernel
theorem dX8_image_20 : decode cX8_image 20 = .ok (.getfield 60, 3) := by decide +kernel
theorem dX8_image_23 : decode cX8_image 23 = .ok (.ireturn, 1) := by decide +kernel
set_option maxRecDepth 20000 in
theorem ggX8_undo_X0_become : GoodIn wsX8_undo wsX0_become := goodIn_r _ [10, 11, 12, 13, 14, 15, 16, 9, 17, 18, 19, 20, 21, 37, 38, 39, 40] (by decide +kernel) (by decide +kernel)
set_option maxRecDepth 20000 in
theorem gX8_undo_X0_become : GoodIn wsX8_undo (wsV RX8 251 RX0 yX0_become wsX0_become) := goodIn_app (goodIn_of _ (by decide +kernel)) ggX8_undo_X0_become
set_option maxRecDepth 20000 in
theorem ggX8_undo_X1_forget : GoodIn wsX8_undo wsX1_forget := goodIn_r _ [26, 27, 41, 42] (by decide +kernel) (by decide +kernel)
set_option maxRecDepth 20000 in
theorem gX8_undo_X1_forget : GoodIn wsX8_undo (wsV RX8 67 RX1 yX1_forget wsX1_forget) := goodIn_app (goodIn_of _ (by decide +kernel)) ggX8_undo_X1_forget
theorem dX8_undo_0 : decode cX8_undo 0 = .ok (.aload_n 0, 1) := by decide +kernel
theorem dX8_undo_1 : decode cX8_undo 1 = .ok (.getfield 254, 3) := by decide +kernel
theorem dX8_undo_4 : decode cX8_undo 4 = .ok (.ifCond .ne 6, 3) := by decide +kernel
theorem dX8_undo_7 : decode cX8_undo 7 = .ok (.bipush (-3), 2) := by decide +kernel
theorem dX8_undo_9 : decode cX8_undo 9 = .ok (.ireturn, 1) := by decide +kernel
theorem dX8_undo_10 : decode cX8_undo 10 = .ok (.aload_n 0, 1) := by decide +kernel
theorem dX8_undo_11 : decode cX8_undo 11 = .ok (.getfield 18, 3) := by decide +kernel
theorem dX8_undo_14 : decode cX8_undo 14 = .ok (.aload_n 0, 1) := by decide +kernel
theorem dX8_undo_15 : decode cX8_undo 15 = .ok (.getfield 22, 3) := by decide +kernel
theorem dX8_undo_18 : decode cX8_undo 18 = .ok (.invokevirtual 251, 3) := by decide +kernel
theorem dX8_undo_21 : decode cX8_undo 21 = .ok (.aload_n 0, 1) := by decide +kernel
theorem dX8_undo_22 : decode cX8_undo 22 = .ok (.getfield 28, 3) := by decide +kernel
theorem dX8_undo_25 : decode cX8_undo 25 = .ok (.invokevirtual 67, 3) := by decide +kernel
theorem dX8_undo_28 : decode cX8_undo 28 = .ok (.aload_n 0, 1) := by decide +kernel
theorem dX8_undo_29 : decode cX8_undo 29 = .ok (.getfield 18, 3) := by decide +kernel
theorem dX8_undo_32 : decode cX8_undo 32 = .ok (.getfield 60, 3) := by decide +kernel
theorem dX8_undo_35 : decode cX8_undo 35 = .ok (.ireturn, 1) := by decide +kernel
set_option maxRecDepth 20000 in
theorem ggX8_count_X0_pieceNumber : GoodIn wsX8_count wsX0_pieceNumber := goodIn_r _ [13, 14, 15, 25, 26, 27, 28] (by decide +kernel) (by decide +kernel)
set_option maxRecDepth 20000 in
theorem gX8_count_X0_pieceNumber : GoodIn wsX8_count (wsV RX8 257 RX0 yX0_pieceNumber wsX0_pieceNumber) := goodIn_app (goodIn_of _ (by decide +kernel)) ggX8_count_X0_pieceNumber
theorem dX8_count_0 : decode cX8_count 0 = .ok (.iload_n 1, 1) := by decide +kernel
theorem dX8_count_1 : decode cX8_count 1 = .ok (.tableswitch 84 0 5 #[39, 47, 55, 63, 71, 79], 39) := by decide +kernel
theorem dX8_count_40 : decode cX8_count 40 = .ok (.aload_n 0, 1) := by decide +kernel
theorem dX8_count_41 : decode cX8_count 41 = .ok (.getfield 18, 3) := by decide +kernel
theorem dX8_count_44 : decode cX8_count 44 = .ok (.getfield 60, 3) := by decide +kernel
theorem dX8_count_47 : decode cX8_count 47 = .ok (.ireturn, 1) := by decide +kernel
theorem dX8_count_48 : decode cX8_count 48 = .ok (.aload_n 0, 1) := by decide +kernel
theorem dX8_count_49 : decode cX8_count 49 = .ok (.getfield 18, 3) := by decide +kernel
theorem dX8_count_52 : decode cX8_count 52 = .ok (.getfield 70, 3) := by decide +kernel
theorem dX8_count_55 : decode cX8_count 55 = .ok (.ireturn, 1) := by decide +kernel
theorem dX8_count_56 : decode cX8_count 56 = .ok (.aload_n 0, 1) := by decide +kernel
theorem dX8_count_57 : decode cX8_count 57 = .ok (.getfield 18, 3) := by decide +kernel
theorem dX8_count_60 : decode cX8_count 60 = .ok (.invokevirtual 257, 3) := by decide +kernel
theorem dX8_count_63 : decode cX8_count 63 = .ok (.ireturn, 1) := by decide +kernel
theorem dX8_count_64 : decode cX8_count 64 = .ok (.aload_n 0, 1) := by decide +kernel
theorem dX8_count_65 : decode cX8_count 65 = .ok (.getfield 28, 3) := by decide +kernel
theorem dX8_count_68 : decode cX8_count 68 = .ok (.getfield 243, 3) := by decide +kernel
theorem dX8_count_71 : decode cX8_count 71 = .ok (.ireturn, 1) := by decide +kernel
theorem dX8_count_72 : decode cX8_count 72 = .ok (.aload_n 0, 1) := by decide +kernel
theorem dX8_count_73 : decode cX8_count 73 = .ok (.getfield 35, 3) := by decide +kernel
theorem dX8_count_76 : decode cX8_count 76 = .ok (.getfield 215, 3) := by decide +kernel
theorem dX8_count_79 : decode cX8_count 79 = .ok (.ireturn, 1) := by decide +kernel
theorem dX8_count_80 : decode cX8_count 80 = .ok (.aload_n 0, 1) := by decide +kernel
theorem dX8_count_81 : decode cX8_count 81 = .ok (.getfield 9, 3) := by decide +kernel
theorem dX8_count_84 : decode cX8_count 84 = .ok (.ireturn, 1) := by decide +kernel
theorem dX8_count_85 : decode cX8_count 85 = .ok (.bipush (-2), 2) := by decide +kernel
theorem dX8_count_87 : decode cX8_count 87 = .ok (.ireturn, 1) := by decide +kernel
theorem dJ6_bitCount_0f7a4_0 : decode cJ6_bitCount_0f7a4 0 = .ok (.iload_n 0, 1) := by decide +kernel
theorem dJ6_bitCount_0f7a4_1 : decode cJ6_bitCount_0f7a4 1 = .ok (.iload_n 0, 1) := by decide +kernel
theorem dJ6_bitCount_0f7a4_2 : decode cJ6_bitCount_0f7a4 2 = .ok (.iconst 1, 1) := by decide +kernel
theorem dJ6_bitCount_0f7a4_3 : decode cJ6_bitCount_0f7a4 3 = .ok (.iushr, 1) := by decide +kernel
theorem dJ6_bitCount_0f7a4_4 : decode cJ6_bitCount_0f7a4 4 = .ok (.ldc_w 265, 3) := by decide +kernel
theorem dJ6_bitCount_0f7a4_7 : decode cJ6_bitCount_0f7a4 7 = .ok (.iand, 1) := by decide +kernel
theorem dJ6_bitCount_0f7a4_8 : decode cJ6_bitCount_0f7a4 8 = .ok (.isub, 1) := by decide +kernel
theorem dJ6_bitCount_0f7a4_9 : decode cJ6_bitCount_0f7a4 9 = .ok (.istore_n 0, 1) := by decide +kernel
theorem dJ6_bitCount_0f7a4_10 : decode cJ6_bitCount_0f7a4 10 = .ok (.iload_n 0, 1) := by decide +kernel
theorem dJ6_bitCount_0f7a4_11 : decode cJ6_bitCount_0f7a4 11 = .ok (.ldc_w 266, 3) := by decide +kernel
theorem dJ6_bitCount_0f7a4_14 : decode cJ6_bitCount_0f7a4 14 = .ok (.iand, 1) := by decide +kernel
theorem dJ6_bitCount_0f7a4_15 : decode cJ6_bitCount_0f7a4 15 = .ok (.iload_n 0, 1) := by decide +kernel
theorem dJ6_bitCount_0f7a4_16 : decode cJ6_bitCount_0f7a4 16 = .ok (.iconst 2, 1) := by decide +kernel
theorem dJ6_bitCount_0f7a4_17 : decode cJ6_bitCount_0f7a4 17 = .ok (.iushr, 1) := by decide +kernel
theorem dJ6_bitCount_0f7a4_18 : decode cJ6_bitCount_0f7a4 18 = .ok (.ldc_w 266, 3) := by decide +kernel
theorem dJ6_bitCount_0f7a4_21 : decode cJ6_bitCount_0f7a4 21 = .ok (.iand, 1) := by decide +kernel
theorem dJ6_bitCount_0f7a4_22 : decode cJ6_bitCount_0f7a4 22 = .ok (.iadd, 1) := by decide +kernel
theorem dJ6_bitCount_0f7a4_23 : decode cJ6_bitCount_0f7a4 23 = .ok (.istore_n 0, 1) := by decide +kernel
theorem dJ6_bitCount_0f7a4_24 : decode cJ6_bitCount_0f7a4 24 = .ok (.iload_n 0, 1) := by decide +kernel
theorem dJ6_bitCount_0f7a4_25 : decode cJ6_bitCount_0f7a4 25 = .ok (.iload_n 0, 1) := by decide +kernel
theorem dJ6_bitCount_0f7a4_26 : decode cJ6_bitCount_0f7a4 26 = .ok (.iconst 4, 1) := by decide +kernel
theorem dJ6_bitCount_0f7a4_27 : decode cJ6_bitCount_0f7a4 27 = .ok (.iushr, 1) := by decide +kernel
theorem dJ6_bitCount_0f7a4_28 : decode cJ6_bitCount_0f7a4 28 = .ok (.iadd, 1) := by decide +kernel
theorem dJ6_bitCount_0f7a4_29 : decode cJ6_bitCount_0f7a4 29 = .ok (.ldc_w 267, 3) := by decide +kernel
theorem dJ6_bitCount_0f7a4_32 : decode cJ6_bitCount_0f7a4 32 = .ok (.iand, 1) := by decide +kernel
theorem dJ6_bitCount_0f7a4_33 : decode cJ6_bitCount_0f7a4 33 = .ok (.istore_n 0, 1) := by decide +kernel
theorem dJ6_bitCount_0f7a4_34 : decode cJ6_bitCount_0f7a4 34 = .ok (.iload_n 0, 1) := by decide +kernel
theorem dJ6_bitCount_0f7a4_35 : decode cJ6_bitCount_0f7a4 35 = .ok (.iload_n 0, 1) := by decide +kernel
theorem dJ6_bitCount_0f7a4_36 : decode cJ6_bitCount_0f7a4 36 = .ok (.bipush 8, 2) := by decide +kernel
theorem dJ6_bitCount_0f7a4_38 : decode cJ6_bitCount_0f7a4 38 = .ok (.iushr, 1) := by decide +kernel
theorem dJ6_bitCount_0f7a4_39 : decode cJ6_bitCount_0f7a4 39 = .ok (.iadd, 1) := by decide +kernel
theorem dJ6_bitCount_0f7a4_40 : decode cJ6_bitCount_0f7a4 40 = .ok (.istore_n 0, 1) := by decide +kernel
theorem dJ6_bitCount_0f7a4_41 : decode cJ6_bitCount_0f7a4 41 = .ok (.iload_n 0, 1) := by decide +kernel
theorem dJ6_bitCount_0f7a4_42 : decode cJ6_bitCount_0f7a4 42 = .ok (.iload_n 0, 1) := by decide +kernel
theorem dJ6_bitCount_0f7a4_43 : decode cJ6_bitCount_0f7a4 43 = .ok (.bipush 16, 2) := by decide +kernel
theorem dJ6_bitCount_0f7a4_45 : decode cJ6_bitCount_0f7a4 45 = .ok (.iushr, 1) := by decide +kernel
theorem dJ6_bitCount_0f7a4_46 : decode cJ6_bitCount_0f7a4 46 = .ok (.iadd, 1) := by decide +kernel
theorem dJ6_bitCount_0f7a4_47 : decode cJ6_bitCount_0f7a4 47 = .ok (.istore_n 0, 1) := by decide +kernel
theorem dJ6_bitCount_0f7a4_48 : decode cJ6_bitCount_0f7a4 48 = .ok (.iload_n 0, 1) := by decide +kernel
theorem dJ6_bitCount_0f7a4_49 : decode cJ6_bitCount_0f7a4 49 = .ok (.bipush 63, 2) := by decide +kernel
theorem dJ6_bitCount_0f7a4_51 : decode cJ6_bitCount_0f7a4 51 = .ok (.iand, 1) := by decide +kernel
theorem dJ6_bitCount_0f7a4_52 : decode cJ6_bitCount_0f7a4 52 = .ok (.ireturn, 1) := by decide +kernel
theorem dJ9_max_7cf53_0 : decode cJ9_max_7cf53 0 = .ok (.iload_n 0, 1) := by decide +kernel
theorem dJ9_max_7cf53_1 : decode cJ9_max_7cf53 1 = .ok (.iload_n 1, 1) := by decide +kernel
theorem dJ9_max_7cf53_2 : decode cJ9_max_7cf53 2 = .ok (.if_icmp .lt 7, 3) := by decide +kernel
theorem dJ9_max_7cf53_5 : decode cJ9_max_7cf53 5 = .ok (.iload_n 0, 1) := by decide +kernel
theorem dJ9_max_7cf53_6 : decode cJ9_max_7cf53 6 = .ok (.goto 4, 3) := by decide +kernel
theorem dJ9_max_7cf53_9 : decode cJ9_max_7cf53 9 = .ok (.iload_n 1, 1) := by decide +kernel
theorem dJ9_max_7cf53_10 : decode cJ9_max_7cf53 10 = .ok (.ireturn, 1) := by decide +kernel
theorem dJ9_min_7cf53_0 : decode cJ9_min_7cf53 0 = .ok (.iload_n 0, 1) := by decide +kernel
theorem dJ9_min_7cf53_1 : decode cJ9_min_7cf53 1 = .ok (.iload_n 1, 1) := by decide +kernel
theorem dJ9_min_7cf53_2 : decode cJ9_min_7cf53 2 = .ok (.if_icmp .gt 7, 3) := by decide +kernel
theorem dJ9_min_7cf53_5 : decode cJ9_min_7cf53 5 = .ok (.iload_n 0, 1) := by decide +kernel
theorem dJ9_min_7cf53_6 : decode cJ9_min_7cf53 6 = .ok (.goto 4, 3) := by decide +kernel
theorem dJ9_min_7cf53_9 : decode cJ9_min_7cf53 9 = .ok (.iload_n 1, 1) := by decide +kernel
theorem dJ9_min_7cf53_10 : decode cJ9_min_7cf53 10 = .ok (.ireturn, 1) := by decide +kernel
theorem dL_at_0 : decode cL_at 0 = .ok (.iload_n 1, 1) := by decide +kernel
theorem dL_at_1 : decode cL_at 1 = .ok (.aload_n 0, 1) := by decide +kernel
theorem dL_at_2 : decode cL_at 2 = .ok (.arraylength, 1) := by decide +kernel
theorem dL_at_3 : decode cL_at 3 = .ok (.if_icmp .ge 9, 3) := by decide +kernel
theorem dL_at_6 : decode cL_at 6 = .ok (.aload_n 0, 1) := by decide +kernel
theorem dL_at_7 : decode cL_at 7 = .ok (.iload_n 1, 1) := by decide +kernel
theorem dL_at_8 : decode cL_at 8 = .ok (.iaload, 1) := by decide +kernel
theorem dL_at_9 : decode cL_at 9 = .ok (.goto 4, 3) := by decide +kernel
theorem dL_at_12 : decode cL_at 12 = .ok (.iconst 0, 1) := by decide +kernel
theorem dL_at_13 : decode cL_at 13 = .ok (.ireturn, 1) := by decide +kernel
set_option maxRecDepth 20000 in
theorem ggL_build_X8_init : GoodIn wsL_build wsX8_init := goodIn_r _ [6, 7, 8, 9, 10, 11, 12, 13, 14, 15, 16, 17, 18, 19, 20, 21, 22, 23, 24, 25, 26, 27, 28, 29, 30, 31, 32, 33, 34, 35, 36, 37, 38, 39, 40, 41, 42, 43, 44, 45, 46, 47, 48, 49, 50, 51, 52, 53, 54, 55, 56, 57, 58, 59, 60, 61, 62, 63, 64, 65, 66, 67, 68, 69, 70, 71, 72, 73, 74, 75, 76, 77, 78, 123, 124, 125, 126, 127, 128, 129, 130, 131, 132, 133, 134, 135, 136, 137, 138, 139, 140, 141, 142, 143, 144, 145, 146, 147, 148, 149, 150, 151, 152, 153, 154, 155, 156, 157, 158, 159, 160, 161, 162, 163, 164] (by decide +kernel) (by decide +kernel)
set_option maxRecDepth 20000 in
theorem gL_build_X8_init : GoodIn wsL_build (wsX8_init) := ggL_build_X8_init
set_option maxRecDepth 20000 in
theorem ggL_build_L_at : GoodIn wsL_build wsL_at := goodIn_r _ [82] (by decide +kernel) (by decide +kernel)
set_option maxRecDepth 20000 in
theorem gL_build_L_at : GoodIn wsL_build (va_wsS RL 10 yL_at wsL_at) := goodIn_app (goodIn_of _ (by decide +kernel)) ggL_build_L_at
set_option maxRecDepth 20000 in
theorem ggL_build_X8_points : GoodIn wsL_build wsX8_points := goodIn_r _ [86, 14, 87, 19, 88, 89, 90, 13, 91, 40, 43, 92, 93, 94, 18, 95, 96, 123, 124, 125, 126, 127, 128, 129, 130, 131, 132, 133, 134, 135, 136, 137] (by decide +kernel) (by decide +kernel)
set_option maxRecDepth 20000 in
theorem gL_build_X8_points : GoodIn wsL_build (wsV RL 16 RX8 yX8_points wsX8_points) := goodIn_app (goodIn_of _ (by decide +kernel)) ggL_build_X8_points
set_option maxRecDepth 20000 in
theorem ggL_build_X8_way : GoodIn wsL_build wsX8_way := goodIn_r _ [100, 14, 101, 19, 92, 93, 94, 18, 95, 96, 123, 124, 125, 126, 127, 128, 129, 130, 131, 132, 133, 134, 135, 136, 137] (by decide +kernel) (by decide +kernel)
set_option maxRecDepth 20000 in
theorem gL_build_X8_way : GoodIn wsL_build (wsV RL 20 RX8 yX8_way wsX8_way) := goodIn_app (goodIn_of _ (by decide +kernel)) ggL_build_X8_way
set_option maxRecDepth 20000 in
theorem ggL_build_X8_lead : GoodIn wsL_build wsX8_lead := goodIn_r _ [105, 14, 19, 106, 107, 108, 109, 13, 110, 40, 111, 112, 113, 114, 43, 115, 116, 117, 18, 118, 96, 48, 119, 120, 121, 122, 123, 124, 125, 126, 127, 128, 129, 130, 131, 132, 133, 134, 135, 136, 137] (by decide +kernel) (by decide +kernel)
set_option maxRecDepth 20000 in
theorem gL_build_X8_lead : GoodIn wsL_build (wsV RL 23 RX8 yX8_lead wsX8_lead) := goodIn_app (goodIn_of _ (by decide +kernel)) ggL_build_X8_lead
theorem dL_build_0 : decode cL_build 0 = .ok (.new 7, 3) := by decide +kernel
theorem dL_build_3 : decode cL_build 3 = .ok (.dup, 1) := by decide +kernel
theorem dL_build_4 : decode cL_build 4 = .ok (.invokespecial 9, 3) := by decide +kernel
theorem dL_build_7 : decode cL_build 7 = .ok (.astore_n 1, 1) := by decide +kernel
theorem dL_build_8 : decode cL_build 8 = .ok (.iconst 2, 1) := by decide +kernel
theorem dL_build_9 : decode cL_build 9 = .ok (.aload_n 0, 1) := by decide +kernel
theorem dL_build_10 : decode cL_build 10 = .ok (.iconst 0, 1) := by decide +kernel
theorem dL_build_11 : decode cL_build 11 = .ok (.invokestatic 10, 3) := by decide +kernel
theorem dL_build_14 : decode cL_build 14 = .ok (.bipush 7, 2) := by decide +kernel
theorem dL_build_16 : decode cL_build 16 = .ok (.iand, 1) := by decide +kernel
theorem dL_build_17 : decode cL_build 17 = .ok (.bipush 7, 2) := by decide +kernel
theorem dL_build_19 : decode cL_build 19 = .ok (.irem, 1) := by decide +kernel
theorem dL_build_20 : decode cL_build 20 = .ok (.iadd, 1) := by decide +kernel
theorem dL_build_21 : decode cL_build 21 = .ok (.istore_n 2, 1) := by decide +kernel
theorem dL_build_22 : decode cL_build 22 = .ok (.aload_n 1, 1) := by decide +kernel
theorem dL_build_23 : decode cL_build 23 = .ok (.iload_n 2, 1) := by decide +kernel
theorem dL_build_24 : decode cL_build 24 = .ok (.invokevirtual 16, 3) := by decide +kernel
theorem dL_build_27 : decode cL_build 27 = .ok (.pop, 1) := by decide +kernel
theorem dL_build_28 : decode cL_build 28 = .ok (.aload_n 1, 1) := by decide +kernel
theorem dL_build_29 : decode cL_build 29 = .ok (.aload_n 0, 1) := by decide +kernel
theorem dL_build_30 : decode cL_build 30 = .ok (.iconst 0, 1) := by decide +kernel
theorem dL_build_31 : decode cL_build 31 = .ok (.invokestatic 10, 3) := by decide +kernel
theorem dL_build_34 : decode cL_build 34 = .ok (.iconst 3, 1) := by decide +kernel
theorem dL_build_35 : decode cL_build 35 = .ok (.ishr, 1) := by decide +kernel
theorem dL_build_36 : decode cL_build 36 = .ok (.iconst 1, 1) := by decide +kernel
theorem dL_build_37 : decode cL_build 37 = .ok (.iand, 1) := by decide +kernel
theorem dL_build_38 : decode cL_build 38 = .ok (.invokevirtual 20, 3) := by decide +kernel
theorem dL_build_41 : decode cL_build 41 = .ok (.pop, 1) := by decide +kernel
theorem dL_build_42 : decode cL_build 42 = .ok (.aload_n 0, 1) := by decide +kernel
theorem dL_build_43 : decode cL_build 43 = .ok (.iconst 0, 1) := by decide +kernel
theorem dL_build_44 : decode cL_build 44 = .ok (.invokestatic 10, 3) := by decide +kernel
theorem dL_build_47 : decode cL_build 47 = .ok (.iconst 4, 1) := by decide +kernel
theorem dL_build_48 : decode cL_build 48 = .ok (.ishr, 1) := by decide +kernel
theorem dL_build_49 : decode cL_build 49 = .ok (.iconst 1, 1) := by decide +kernel
theorem dL_build_50 : decode cL_build 50 = .ok (.iand, 1) := by decide +kernel
theorem dL_build_51 : decode cL_build 51 = .ok (.iconst 1, 1) := by decide +kernel
theorem dL_build_52 : decode cL_build 52 = .ok (.if_icmp .ne 7, 3) := by decide +kernel
theorem dL_build_55 : decode cL_build 55 = .ok (.iconst 1, 1) := by decide +kernel
theorem dL_build_56 : decode cL_build 56 = .ok (.goto 4, 3) := by decide +kernel
theorem dL_build_59 : decode cL_build 59 = .ok (.iconst 0, 1) := by decide +kernel
theorem dL_build_60 : decode cL_build 60 = .ok (.istore_n 3, 1) := by decide +kernel
theorem dL_build_61 : decode cL_build 61 = .ok (.iconst 0, 1) := by decide +kernel
theorem dL_build_62 : decode cL_build 62 = .ok (.istore 4, 2) := by decide +kernel
theorem dL_build_64 : decode cL_build 64 = .ok (.iconst 0, 1) := by decide +kernel
theorem dL_build_65 : decode cL_build 65 = .ok (.istore 5, 2) := by decide +kernel
theorem dL_build_67 : decode cL_build 67 = .ok (.iload 5, 2) := by decide +kernel
theorem dL_build_69 : decode cL_build 69 = .ok (.iload_n 2, 1) := by decide +kernel
theorem dL_build_70 : decode cL_build 70 = .ok (.if_icmp .ge 69, 3) := by decide +kernel
theorem dL_build_73 : decode cL_build 73 = .ok (.aload_n 0, 1) := by decide +kernel
theorem dL_build_74 : decode cL_build 74 = .ok (.iconst 1, 1) := by decide +kernel
theorem dL_build_75 : decode cL_build 75 = .ok (.invokestatic 10, 3) := by decide +kernel
theorem dL_build_78 : decode cL_build 78 = .ok (.iconst 3, 1) := by decide +kernel
theorem dL_build_79 : decode cL_build 79 = .ok (.iload 5, 2) := by decide +kernel
theorem dL_build_81 : decode cL_build 81 = .ok (.imul, 1) := by decide +kernel
theorem dL_build_82 : decode cL_build 82 = .ok (.ishr, 1) := by decide +kernel
theorem dL_build_83 : decode cL_build 83 = .ok (.bipush 7, 2) := by decide +kernel
theorem dL_build_85 : decode cL_build 85 = .ok (.iand, 1) := by decide +kernel
theorem dL_build_86 : decode cL_build 86 = .ok (.iload_n 2, 1) := by decide +kernel
theorem dL_build_87 : decode cL_build 87 = .ok (.irem, 1) := by decide +kernel
theorem dL_build_88 : decode cL_build 88 = .ok (.istore 6, 2) := by decide +kernel
theorem dL_build_90 : decode cL_build 90 = .ok (.iload_n 3, 1) := by decide +kernel
theorem dL_build_91 : decode cL_build 91 = .ok (.ifCond .eq 24, 3) := by decide +kernel
theorem dL_build_94 : decode cL_build 94 = .ok (.iload 4, 2) := by decide +kernel
theorem dL_build_96 : decode cL_build 96 = .ok (.iload 6, 2) := by decide +kernel
theorem dL_build_98 : decode cL_build 98 = .ok (.ishr, 1) := by decide +kernel
theorem dL_build_99 : decode cL_build 99 = .ok (.iconst 1, 1) := by decide +kernel
theorem dL_build_100 : decode cL_build 100 = .ok (.iand, 1) := by decide +kernel
theorem dL_build_101 : decode cL_build 101 = .ok (.ifCond .eq 14, 3) := by decide +kernel
theorem dL_build_104 : decode cL_build 104 = .ok (.iload 6, 2) := by decide +kernel
theorem dL_build_106 : decode cL_build 106 = .ok (.iconst 1, 1) := by decide +kernel
theorem dL_build_107 : decode cL_build 107 = .ok (.iadd, 1) := by decide +kernel
theorem dL_build_108 : decode cL_build 108 = .ok (.iload_n 2, 1) := by decide +kernel
theorem dL_build_109 : decode cL_build 109 = .ok (.irem, 1) := by decide +kernel
theorem dL_build_110 : decode cL_build 110 = .ok (.istore 6, 2) := by decide +kernel
theorem dL_build_112 : decode cL_build 112 = .ok (.goto (-22), 3) := by decide +kernel
theorem dL_build_115 : decode cL_build 115 = .ok (.iload 4, 2) := by decide +kernel
theorem dL_build_117 : decode cL_build 117 = .ok (.iconst 1, 1) := by decide +kernel
theorem dL_build_118 : decode cL_build 118 = .ok (.iload 6, 2) := by decide +kernel
theorem dL_build_120 : decode cL_build 120 = .ok (.ishl, 1) := by decide +kernel
theorem dL_build_121 : decode cL_build 121 = .ok (.ior, 1) := by decide +kernel
theorem dL_build_122 : decode cL_build 122 = .ok (.istore 4, 2) := by decide +kernel
theorem dL_build_124 : decode cL_build 124 = .ok (.aload_n 1, 1) := by decide +kernel
theorem dL_build_125 : decode cL_build 125 = .ok (.iload 5, 2) := by decide +kernel
theorem dL_build_127 : decode cL_build 127 = .ok (.iload 6, 2) := by decide +kernel
theorem dL_build_129 : decode cL_build 129 = .ok (.invokevirtual 23, 3) := by decide +kernel
theorem dL_build_132 : decode cL_build 132 = .ok (.pop, 1) := by decide +kernel
theorem dL_build_133 : decode cL_build 133 = .ok (.iinc 5 1, 3) := by decide +kernel
theorem dL_build_136 : decode cL_build 136 = .ok (.goto (-69), 3) := by decide +kernel
theorem dL_build_139 : decode cL_build 139 = .ok (.aload_n 1, 1) := by decide +kernel
theorem dL_build_140 : decode cL_build 140 = .ok (.areturn, 1) := by decide +kernel

theorem dX8_way_25 : decode cX8_way 25 = .ok (.putfield 70, 3) := by decide +kernel
theorem dX8_way_28 : decode cX8_way 28 = .ok (.aload_n 0, 1) := by decide +kernel
theorem dX8_way_29 : decode cX8_way 29 = .ok (.getfield 28, 3) := by decide +kernel
theorem dX8_way_32 : decode cX8_way 32 = .ok (.invokevirtual 67, 3) := by decide +kernel
theorem dX8_way_35 : decode cX8_way 35 = .ok (.iload_n 2, 1) := by decide +kernel
theorem dX8_way_36 : decode cX8_way 36 = .ok (.ireturn, 1) := by decide +kernel
set_option maxRecDepth 20000 in
theorem ggX8_lead_X0_holds : GoodIn wsX8_lead wsX0_holds := goodIn_r _ [8, 9, 35, 36, 37, 38] (by decide +kernel) (by decide +kernel)
set_option maxRecDepth 20000 in
theorem gX8_lead_X0_holds : GoodIn wsX8_lead (wsV RX8 73 RX0 yX0_holds wsX0_holds) := goodIn_app (goodIn_of _ (by decide +kernel)) ggX8_lead_X0_holds
set_option maxRecDepth 20000 in
theorem ggX8_lead_X0_packed : GoodIn wsX8_lead wsX0_packed := goodIn_r _ [13, 14, 35, 36, 37, 38] (by decide +kernel) (by decide +kernel)
set_option maxRecDepth 20000 in
theorem gX8_lead_X0_packed : GoodIn wsX8_lead (wsV RX8 77 RX0 yX0_packed wsX0_packed) := goodIn_app (goodIn_of _ (by decide +kernel)) ggX8_lead_X0_packed
set_option maxRecDepth 20000 in
theorem ggX8_lead_X1_keep : GoodIn wsX8_lead wsX1_keep := goodIn_r _ [19, 20, 21, 22, 23, 24, 18, 25, 39, 40] (by decide +kernel) (by decide +kernel)
set_option maxRecDepth 20000 in
theorem gX8_lead_X1_keep : GoodIn wsX8_lead (wsV RX8 81 RX1 yX1_keep wsX1_keep) := goodIn_app (goodIn_of _ (by decide +kernel)) ggX8_lead_X1_keep
theorem dX8_lead_0 : decode cX8_lead 0 = .ok (.aload_n 0, 1) := by decide +kernel
theorem dX8_lead_1 : decode cX8_lead 1 = .ok (.getfield 18, 3) := by decide +kernel
theorem dX8_lead_4 : decode cX8_lead 4 = .ok (.iload_n 1, 1) := by decide +kernel
theorem dX8_lead_5 : decode cX8_lead 5 = .ok (.invokevirtual 73, 3) := by decide +kernel
theorem dX8_lead_8 : decode cX8_lead 8 = .ok (.ifCond .eq 14, 3) := by decide +kernel
theorem dX8_lead_11 : decode cX8_lead 11 = .ok (.aload_n 0, 1) := by decide +kernel
theorem dX8_lead_12 : decode cX8_lead 12 = .ok (.getfield 18, 3) := by decide +kernel
theorem dX8_lead_15 : decode cX8_lead 15 = .ok (.iload_n 2, 1) := by decide +kernel
theorem dX8_lead_16 : decode cX8_lead 16 = .ok (.invokevirtual 73, 3) := by decide +kernel
theorem dX8_lead_19 : decode cX8_lead 19 = .ok (.ifCond .ne 6, 3) := by decide +kernel
theorem dX8_lead_22 : decode cX8_lead 22 = .ok (.bipush (-2), 2) := by decide +kernel
theorem dX8_lead_24 : decode cX8_lead 24 = .ok (.ireturn, 1) := by decide +kernel
theorem dX8_lead_25 : decode cX8_lead 25 = .ok (.aload_n 0, 1) := by decide +kernel
theorem dX8_lead_26 : decode cX8_lead 26 = .ok (.getfield 28, 3) := by decide +kernel
theorem dX8_lead_29 : decode cX8_lead 29 = .ok (.aload_n 0, 1) := by decide +kernel
theorem dX8_lead_30 : decode cX8_lead 30 = .ok (.getfield 18, 3) := by decide +kernel
theorem dX8_lead_33 : decode cX8_lead 33 = .ok (.invokevirtual 77, 3) := by decide +kernel
theorem dX8_lead_36 : decode cX8_lead 36 = .ok (.invokevirtual 81, 3) := by decide +kernel
theorem dX8_lead_39 : decode cX8_lead 39 = .ok (.aload_n 0, 1) := by decide +kernel
theorem dX8_lead_40 : decode cX8_lead 40 = .ok (.getfield 18, 3) := by decide +kernel
theorem dX8_lead_43 : decode cX8_lead 43 = .ok (.getfield 84, 3) := by decide +kernel
theorem dX8_lead_46 : decode cX8_lead 46 = .ok (.iload_n 1, 1) := by decide +kernel
theorem dX8_lead_47 : decode cX8_lead 47 = .ok (.iaload, 1) := by decide +kernel
theorem dX8_lead_48 : decode cX8_lead 48 = .ok (.istore_n 3, 1) := by decide +kernel
theorem dX8_lead_49 : decode cX8_lead 49 = .ok (.aload_n 0, 1) := by decide +kernel
theorem dX8_lead_50 : decode cX8_lead 50 = .ok (.getfield 18, 3) := by decide +kernel
theorem dX8_lead_53 : decode cX8_lead 53 = .ok (.getfield 84, 3) := by decide +kernel
theorem dX8_lead_56 : decode cX8_lead 56 = .ok (.iload_n 1, 1) := by decide +kernel
theorem dX8_lead_57 : decode cX8_lead 57 = .ok (.iload_n 2, 1) := by decide +kernel
theorem dX8_lead_58 : decode cX8_lead 58 = .ok (.iastore, 1) := by decide +kernel
theorem dX8_lead_59 : decode cX8_lead 59 = .ok (.iload_n 3, 1) := by decide +kernel
theorem dX8_lead_60 : decode cX8_lead 60 = .ok (.ireturn, 1) := by decide +kernel
set_option maxRecDepth 20000 in
theorem ggX8_of_X0_holds : GoodIn wsX8_of wsX0_holds := goodIn_r _ [7, 8, 35, 36, 37, 38] (by decide +kernel) (by decide +kernel)
set_option maxRecDepth 20000 in
theorem gX8_of_X0_holds : GoodIn wsX8_of (wsV RX8 73 RX0 yX0_holds wsX0_holds) := goodIn_app (goodIn_of _ (by decide +kernel)) ggX8_of_X0_holds
set_option maxRecDepth 20000 in
theorem ggX8_of_X0_tailOf : GoodIn wsX8_of wsX0_tailOf := goodIn_r _ [12, 8, 13, 14, 15, 16, 6, 17, 35, 36, 37, 38] (by decide +kernel) (by decide +kernel)
set_option maxRecDepth 20000 in
theorem gX8_of_X0_tailOf : GoodIn wsX8_of (wsV RX8 88 RX0 yX0_tailOf wsX0_tailOf) := goodIn_app (goodIn_of _ (by decide +kernel)) ggX8_of_X0_tailOf
set_option maxRecDepth 20000 in
theorem ggX8_of_X0_ringBits : GoodIn wsX8_of wsX0_ringBits := goodIn_r _ [17, 8, 13, 35, 36, 37, 38] (by decide +kernel) (by decide +kernel)
set_option maxRecDepth 20000 in
theorem gX8_of_X0_ringBits : GoodIn wsX8_of (wsV RX8 92 RX0 yX0_ringBits wsX0_ringBits) := goodIn_app (goodIn_of _ (by decide +kernel)) ggX8_of_X0_ringBits
set_option maxRecDepth 20000 in
theorem ggX8_of_J6_bitCount_0f7a4 : GoodIn wsX8_of wsJ6_bitCount_0f7a4 := goodIn_r _ [22, 23, 24, 25] (by decide +kernel) (by decide +kernel)
set_option maxRecDepth 20000 in
theorem gX8_of_J6_bitCount_0f7a4 : GoodIn wsX8_of (va_wsS RX8 95 yJ6_bitCount_0f7a4 wsJ6_bitCount_0f7a4) := goodIn_app (goodIn_of _ (by decide +kernel)) ggX8_of_J6_bitCount_0f7a4
theorem dX8_of_0 : decode cX8_of 0 = .ok (.aload_n 0, 1) := by decide +kernel
theorem dX8_of_1 : decode cX8_of 1 = .ok (.getfield 18, 3) := by decide +kernel
theorem dX8_of_4 : decode cX8_of 4 = .ok (.iload_n 1, 1) := by decide +kernel
theorem dX8_of_5 : decode cX8_of 5 = .ok (.invokevirtual 73, 3) := by decide +kernel
theorem dX8_of_8 : decode cX8_of 8 = .ok (.ifCond .ne 6, 3) := by decide +kernel
theorem dX8_of_11 : decode cX8_of 11 = .ok (.bipush (-2), 2) := by decide +kernel
theorem dX8_of_13 : decode cX8_of 13 = .ok (.ireturn, 1) := by decide +kernel
theorem dX8_of_14 : decode cX8_of 14 = .ok (.iload_n 2, 1) := by decide +kernel
theorem dX8_of_15 : decode cX8_of 15 = .ok (.tableswitch 69 0 3 #[29, 39, 48, 57], 29) := by decide +kernel
theorem dX8_of_44 : decode cX8_of 44 = .ok (.aload_n 0, 1) := by decide +kernel
theorem dX8_of_45 : decode cX8_of 45 = .ok (.getfield 18, 3) := by decide +kernel
theorem dX8_of_48 : decode cX8_of 48 = .ok (.getfield 84, 3) := by decide +kernel
theorem dX8_of_51 : decode cX8_of 51 = .ok (.iload_n 1, 1) := by decide +kernel
theorem dX8_of_52 : decode cX8_of 52 = .ok (.iaload, 1) := by decide +kernel
theorem dX8_of_53 : decode cX8_of 53 = .ok (.ireturn, 1) := by decide +kernel
theorem dX8_of_54 : decode cX8_of 54 = .ok (.aload_n 0, 1) := by decide +kernel
theorem dX8_of_55 : decode cX8_of 55 = .ok (.getfield 18, 3) := by decide +kernel
theorem dX8_of_58 : decode cX8_of 58 = .ok (.iload_n 1, 1) := by decide +kernel
theorem dX8_of_59 : decode cX8_of 59 = .ok (.invokevirtual 88, 3) := by decide +kernel
theorem dX8_of_62 : decode cX8_of 62 = .ok (.ireturn, 1) := by decide +kernel
theorem dX8_of_63 : decode cX8_of 63 = .ok (.aload_n 0, 1) := by decide +kernel
theorem dX8_of_64 : decode cX8_of 64 = .ok (.getfield 18, 3) := by decide +kernel
theorem dX8_of_67 : decode cX8_of 67 = .ok (.iload_n 1, 1) := by decide +kernel
theorem dX8_of_68 : decode cX8_of 68 = .ok (.invokevirtual 92, 3) := by decide +kernel
theorem dX8_of_71 : decode cX8_of 71 = .ok (.ireturn, 1) := by decide +kernel
theorem dX8_of_72 : decode cX8_of 72 = .ok (.aload_n 0, 1) := by decide +kernel
theorem dX8_of_73 : decode cX8_of 73 = .ok (.getfield 18, 3) := by decide +kernel
theorem dX8_of_76 : decode cX8_of 76 = .ok (.iload_n 1, 1) := by decide +kernel
theorem dX8_of_77 : decode cX8_of 77 = .ok (.invokevirtual 92, 3) := by decide +kernel
theorem dX8_of_80 : decode cX8_of 80 = .ok (.invokestatic 95, 3) := by decide +kernel
theorem dX8_of_83 : decode cX8_of 83 = .ok (.ireturn, 1) := by decide +kernel
theorem dX8_of_84 : decode cX8_of 84 = .ok (.bipush (-2), 2) := by decide +kernel
theorem dX8_of_86 : decode cX8_of 86 = .ok (.ireturn, 1) := by decide +kernel
set_option maxRecDepth 20000 in
theorem ggX8_map_X0_figures : GoodIn wsX8_map wsX0_figures := goodIn_r _ [6, 7, 8, 18, 19, 20, 21] (by decide +kernel) (by decide +kernel)
set_option maxRecDepth 20000 in
theorem gX8_map_X0_figures : GoodIn wsX8_map (wsV RX8 100 RX0 yX0_figures wsX0_figures) := goodIn_app (goodIn_of _ (by decide +kernel)) ggX8_map_X0_figures
theorem dX8_map_0 : decode cX8_map 0 = .ok (.aload_n 0, 1) := by decide +kernel
theorem dX8_map_1 : decode cX8_map 1 = .ok (.getfield 18, 3) := by decide +kernel
theorem dX8_map_4 : decode cX8_map 4 = .ok (.invokevirtual 100, 3) := by decide +kernel
theorem dX8_map_7 : decode cX8_map 7 = .ok (.ireturn, 1) := by decide +kernel
set_option maxRecDepth 20000 in
theorem ggX8_rings_X0_ringNumber : GoodIn wsX8_rings wsX0_ringNumber := goodIn_r _ [7, 8, 9, 10, 11, 6, 12, 13, 14, 15, 16, 17, 46, 47, 48, 49] (by decide +kernel) (by decide +kernel)
set_option maxRecDepth 20000 in
theorem gX8_rings_X0_ringNumber : GoodIn wsX8_rings (wsV RX8 103 RX0 yX0_ringNumber wsX0_ringNumber) := goodIn_app (goodIn_of _ (by decide +kernel)) ggX8_rings_X0_ringNumber
set_option maxRecDepth 20000 in
theorem ggX8_rings_X0_pointsOnRings : GoodIn wsX8_rings wsX0_pointsOnRings := goodIn_r _ [21, 8, 13, 14, 15, 6, 16, 17, 22, 23, 24, 25, 26, 27, 28, 46, 47, 48, 49] (by decide +kernel) (by decide +kernel)
set_option maxRecDepth 20000 in
theorem gX8_rings_X0_pointsOnRings : GoodIn wsX8_rings (wsV RX8 106 RX0 yX0_pointsOnRings wsX0_pointsOnRings) := goodIn_app (goodIn_of _ (by decide +kernel)) ggX8_rings_X0_pointsOnRings
set_option maxRecDepth 20000 in
theorem ggX8_rings_X0_greatestRing : GoodIn wsX8_rings wsX0_greatestRing := goodIn_r _ [32, 8, 33, 34, 35, 36, 13, 14, 15, 6, 16, 17, 22, 23, 24, 25, 26, 27, 28, 46, 47, 48, 49] (by decide +kernel) (by decide +kernel)
set_option maxRecDepth 20000 in
theorem gX8_rings_X0_greatestRing : GoodIn wsX8_rings (wsV RX8 109 RX0 yX0_greatestRing wsX0_greatestRing) := goodIn_app (goodIn_of _ (by decide +kernel)) ggX8_rings_X0_greatestRing
theorem dX8_rings_0 : decode cX8_rings 0 = .ok (.iload_n 1, 1) := by decide +kernel
theorem dX8_rings_1 : decode cX8_rings 1 = .ok (.tableswitch 78 0 3 #[31, 39, 47, 55], 31) := by decide +kernel
theorem dX8_rings_32 : decode cX8_rings 32 = .ok (.aload_n 0, 1) := by decide +kernel
theorem dX8_rings_33 : decode cX8_rings 33 = .ok (.getfield 18, 3) := by decide +kernel
theorem dX8_rings_36 : decode cX8_rings 36 = .ok (.invokevirtual 103, 3) := by decide +kernel
theorem dX8_rings_39 : decode cX8_rings 39 = .ok (.ireturn, 1) := by decide +kernel
theorem dX8_rings_40 : decode cX8_rings 40 = .ok (.aload_n 0, 1) := by decide +kernel
theorem dX8_rings_41 : decode cX8_rings 41 = .ok (.getfield 18, 3) := by decide +kernel
theorem dX8_rings_44 : decode cX8_rings 44 = .ok (.invokevirtual 106, 3) := by decide +kernel
theorem dX8_rings_47 : decode cX8_rings 47 = .ok (.ireturn, 1) := by decide +kernel
theorem dX8_rings_48 : decode cX8_rings 48 = .ok (.aload_n 0, 1) := by decide +kernel
theorem dX8_rings_49 : decode cX8_rings 49 = .ok (.getfield 18, 3) := by decide +kernel
theorem dX8_rings_52 : decode cX8_rings 52 = .ok (.invokevirtual 109, 3) := by decide +kernel
theorem dX8_rings_55 : decode cX8_rings 55 = .ok (.ireturn, 1) := by decide +kernel
theorem dX8_rings_56 : decode cX8_rings 56 = .ok (.aload_n 0, 1) := by decide +kernel
theorem dX8_rings_57 : decode cX8_rings 57 = .ok (.getfield 18, 3) := by decide +kernel
theorem dX8_rings_60 : decode cX8_rings 60 = .ok (.invokevirtual 106, 3) := by decide +kernel
theorem dX8_rings_63 : decode cX8_rings 63 = .ok (.aload_n 0, 1) := by decide +kernel
theorem dX8_rings_64 : decode cX8_rings 64 = .ok (.getfield 18, 3) := by decide +kernel
theorem dX8_rings_67 : decode cX8_rings 67 = .ok (.getfield 60, 3) := by decide +kernel
theorem dX8_rings_70 : decode cX8_rings 70 = .ok (.if_icmp .ne 7, 3) := by decide +kernel
theorem dX8_rings_73 : decode cX8_rings 73 = .ok (.iconst 1, 1) := by decide +kernel
theorem dX8_rings_74 : decode cX8_rings 74 = .ok (.goto 4, 3) := by decide +kernel
theorem dX8_rings_77 : decode cX8_rings 77 = .ok (.iconst 0, 1) := by decide +kernel
theorem dX8_rings_78 : decode cX8_rings 78 = .ok (.ireturn, 1) := by decide +kernel
theorem dX8_rings_79 : decode cX8_rings 79 = .ok (.bipush (-2), 2) := by decide +kernel
theorem dX8_rings_81 : decode cX8_rings 81 = .ok (.ireturn, 1) := by decide +kernel
set_option maxRecDepth 20000 in
theorem ggX8_ring_X0_leastOfRing : GoodIn wsX8_ring wsX0_leastOfRing := goodIn_r _ [6, 7, 8, 9, 10, 5, 11, 12, 13, 14, 15, 16, 38, 39, 40, 41] (by decide +kernel) (by decide +kernel)
set_option maxRecDepth 20000 in
theorem gX8_ring_X0_leastOfRing : GoodIn wsX8_ring (wsV RX8 112 RX0 yX0_leastOfRing wsX0_leastOfRing) := goodIn_app (goodIn_of _ (by decide +kernel)) ggX8_ring_X0_leastOfRing
set_option maxRecDepth 20000 in
theorem ggX8_ring_X0_ringBits : GoodIn wsX8_ring wsX0_ringBits := goodIn_r _ [15, 7, 16, 38, 39, 40, 41] (by decide +kernel) (by decide +kernel)
set_option maxRecDepth 20000 in
theorem gX8_ring_X0_ringBits : GoodIn wsX8_ring (wsV RX8 92 RX0 yX0_ringBits wsX0_ringBits) := goodIn_app (goodIn_of _ (by decide +kernel)) ggX8_ring_X0_ringBits
set_option maxRecDepth 20000 in
theorem ggX8_ring_J6_bitCount_0f7a4 : GoodIn wsX8_ring wsJ6_bitCount_0f7a4 := goodIn_r _ [21, 22, 23, 24] (by decide +kernel) (by decide +kernel)
set_option maxRecDepth 20000 in
theorem gX8_ring_J6_bitCount_0f7a4 : GoodIn wsX8_ring (va_wsS RX8 95 yJ6_bitCount_0f7a4 wsJ6_bitCount_0f7a4) := goodIn_app (goodIn_of _ (by decide +kernel)) ggX8_ring_J6_bitCount_0f7a4
set_option maxRecDepth 20000 in
theorem ggX8_ring_X2_ofRing : GoodIn wsX8_ring wsX2_ofRing := goodIn_r _ [28] (by decide +kernel) (by decide +kernel)
set_option maxRecDepth 20000 in
theorem gX8_ring_X2_ofRing : GoodIn wsX8_ring (va_wsS RX8 115 yX2_ofRing wsX2_ofRing) := goodIn_app (goodIn_of _ (by decide +kernel)) ggX8_ring_X2_ofRing
theorem dX8_ring_0 : decode cX8_ring 0 = .ok (.aload_n 0, 1) := by decide +kernel
theorem dX8_ring_1 : decode cX8_ring 1 = .ok (.getfield 18, 3) := by decide +kernel
theorem dX8_ring_4 : decode cX8_ring 4 = .ok (.iload_n 1, 1) := by decide +kernel
theorem dX8_ring_5 : decode cX8_ring 5 = .ok (.invokevirtual 112, 3) := by decide +kernel
theorem dX8_ring_8 : decode cX8_ring 8 = .ok (.istore_n 3, 1) := by decide +kernel
theorem dX8_ring_9 : decode cX8_ring 9 = .ok (.iload_n 3, 1) := by decide +kernel
theorem dX8_ring_10 : decode cX8_ring 10 = .ok (.ifCond .ge 6, 3) := by decide +kernel
theorem dX8_ring_13 : decode cX8_ring 13 = .ok (.bipush (-2), 2) := by decide +kernel
theorem dX8_ring_15 : decode cX8_ring 15 = .ok (.ireturn, 1) := by decide +kernel
theorem dX8_ring_16 : decode cX8_ring 16 = .ok (.aload_n 0, 1) := by decide +kernel
theorem dX8_ring_17 : decode cX8_ring 17 = .ok (.getfield 18, 3) := by decide +kernel
theorem dX8_ring_20 : decode cX8_ring 20 = .ok (.iload_n 3, 1) := by decide +kernel
theorem dX8_ring_21 : decode cX8_ring 21 = .ok (.invokevirtual 92, 3) := by decide +kernel
theorem dX8_ring_24 : decode cX8_ring 24 = .ok (.invokestatic 95, 3) := by decide +kernel
theorem dX8_ring_27 : decode cX8_ring 27 = .ok (.istore 4, 2) := by decide +kernel
theorem dX8_ring_29 : decode cX8_ring 29 = .ok (.iload_n 2, 1) := by decide +kernel
theorem dX8_ring_30 : decode cX8_ring 30 = .ok (.tableswitch 37 0 2 #[26, 32, 35], 26) := by decide +kernel
theorem dX8_ring_56 : decode cX8_ring 56 = .ok (.iload 4, 2) := by decide +kernel
theorem dX8_ring_58 : decode cX8_ring 58 = .ok (.invokestatic 115, 3) := by decide +kernel
theorem dX8_ring_61 : decode cX8_ring 61 = .ok (.ireturn, 1) := by decide +kernel
theorem dX8_ring_62 : decode cX8_ring 62 = .ok (.iload 4, 2) := by decide +kernel
theorem dX8_ring_64 : decode cX8_ring 64 = .ok (.ireturn, 1) := by decide +kernel
theorem dX8_ring_65 : decode cX8_ring 65 = .ok (.iload_n 3, 1) := by decide +kernel
theorem dX8_ring_66 : decode cX8_ring 66 = .ok (.ireturn, 1) := by decide +kernel
theorem dX8_ring_67 : decode cX8_ring 67 = .ok (.bipush (-2), 2) := by decide +kernel
theorem dX8_ring_69 : decode cX8_ring 69 = .ok (.ireturn, 1) := by decide +kernel
set_option maxRecDepth 20000 in
theorem ggX8_taken_X0_leastOfRing : GoodIn wsX8_taken wsX0_leastOfRing := goodIn_r _ [6, 7, 8, 9, 10, 5, 11, 12, 13, 14, 15, 16, 42, 43, 44, 45] (by decide +kernel) (by decide +kernel)
set_option maxRecDepth 20000 in
theorem gX8_taken_X0_leastOfRing : GoodIn wsX8_taken (wsV RX8 112 RX0 yX0_leastOfRing wsX0_leastOfRing) := goodIn_app (goodIn_of _ (by decide +kernel)) ggX8_taken_X0_leastOfRing
set_option maxRecDepth 20000 in
theorem ggX8_taken_X0_ringBits : GoodIn wsX8_taken wsX0_ringBits := goodIn_r _ [15, 7, 16, 42, 43, 44, 45] (by decide +kernel) (by decide +kernel)
set_option maxRecDepth 20000 in
theorem gX8_taken_X0_ringBits : GoodIn wsX8_taken (wsV RX8 92 RX0 yX0_ringBits wsX0_ringBits) := goodIn_app (goodIn_of _ (by decide +kernel)) ggX8_taken_X0_ringBits
set_option maxRecDepth 20000 in
theorem ggX8_taken_J6_bitCount_0f7a4 : GoodIn wsX8_taken wsJ6_bitCount_0f7a4 := goodIn_r _ [21, 22, 23, 24] (by decide +kernel) (by decide +kernel)
set_option maxRecDepth 20000 in
theorem gX8_taken_J6_bitCount_0f7a4 : GoodIn wsX8_taken (va_wsS RX8 95 yJ6_bitCount_0f7a4 wsJ6_bitCount_0f7a4) := goodIn_app (goodIn_of _ (by decide +kernel)) ggX8_taken_J6_bitCount_0f7a4
set_option maxRecDepth 20000 in
theorem ggX8_taken_X2_ofRing : GoodIn wsX8_taken wsX2_ofRing := goodIn_r _ [28] (by decide +kernel) (by decide +kernel)
set_option maxRecDepth 20000 in
theorem gX8_taken_X2_ofRing : GoodIn wsX8_taken (va_wsS RX8 115 yX2_ofRing wsX2_ofRing) := goodIn_app (goodIn_of _ (by decide +kernel)) ggX8_taken_X2_ofRing
set_option maxRecDepth 20000 in
theorem ggX8_taken_X2_isUnder : GoodIn wsX8_taken wsX2_isUnder := goodIn_r _ [31, 32] (by decide +kernel) (by decide +kernel)
set_option maxRecDepth 20000 in
theorem gX8_taken_X2_isUnder : GoodIn wsX8_taken (va_wsS RX8 120 yX2_isUnder wsX2_isUnder) := goodIn_app (goodIn_of _ (by decide +kernel)) ggX8_taken_X2_isUnder
theorem dX8_taken_0 : decode cX8_taken 0 = .ok (.aload_n 0, 1) := by decide +kernel
theorem dX8_taken_1 : decode cX8_taken 1 = .ok (.getfield 18, 3) := by decide +kernel
theorem dX8_taken_4 : decode cX8_taken 4 = .ok (.iload_n 1, 1) := by decide +kernel
theorem dX8_taken_5 : decode cX8_taken 5 = .ok (.invokevirtual 112, 3) := by decide +kernel
theorem dX8_taken_8 : decode cX8_taken 8 = .ok (.istore_n 3, 1) := by decide +kernel
theorem dX8_taken_9 : decode cX8_taken 9 = .ok (.iload_n 3, 1) := by decide +kernel
theorem dX8_taken_10 : decode cX8_taken 10 = .ok (.ifCond .lt 12, 3) := by decide +kernel
theorem dX8_taken_13 : decode cX8_taken 13 = .ok (.iload_n 2, 1) := by decide +kernel
theorem dX8_taken_14 : decode cX8_taken 14 = .ok (.ifCond .lt 8, 3) := by decide +kernel
theorem dX8_taken_17 : decode cX8_taken 17 = .ok (.iload_n 2, 1) := by decide +kernel
theorem dX8_taken_18 : decode cX8_taken 18 = .ok (.iconst 4, 1) := by decide +kernel
theorem dX8_taken_19 : decode cX8_taken 19 = .ok (.if_icmp .le 6, 3) := by decide +kernel
theorem dX8_taken_22 : decode cX8_taken 22 = .ok (.bipush (-2), 2) := by decide +kernel
theorem dX8_taken_24 : decode cX8_taken 24 = .ok (.ireturn, 1) := by decide +kernel
theorem dX8_taken_25 : decode cX8_taken 25 = .ok (.aload_n 0, 1) := by decide +kernel
theorem dX8_taken_26 : decode cX8_taken 26 = .ok (.getfield 18, 3) := by decide +kernel
theorem dX8_taken_29 : decode cX8_taken 29 = .ok (.iload_n 3, 1) := by decide +kernel
theorem dX8_taken_30 : decode cX8_taken 30 = .ok (.invokevirtual 92, 3) := by decide +kernel
theorem dX8_taken_33 : decode cX8_taken 33 = .ok (.invokestatic 95, 3) := by decide +kernel
theorem dX8_taken_36 : decode cX8_taken 36 = .ok (.istore 4, 2) := by decide +kernel
theorem dX8_taken_38 : decode cX8_taken 38 = .ok (.iload 4, 2) := by decide +kernel
theorem dX8_taken_40 : decode cX8_taken 40 = .ok (.invokestatic 115, 3) := by decide +kernel
theorem dX8_taken_43 : decode cX8_taken 43 = .ok (.iload_n 2, 1) := by decide +kernel
theorem dX8_taken_44 : decode cX8_taken 44 = .ok (.invokestatic 120, 3) := by decide +kernel
theorem dX8_taken_47 : decode cX8_taken 47 = .ok (.ifCond .eq 8, 3) := by decide +kernel
theorem dX8_taken_50 : decode cX8_taken 50 = .ok (.iload 4, 2) := by decide +kernel
theorem dX8_taken_52 : decode cX8_taken 52 = .ok (.goto 5, 3) := by decide +kernel
theorem dX8_taken_55 : decode cX8_taken 55 = .ok (.bipush (-13), 2) := by decide +kernel
theorem dX8_taken_57 : decode cX8_taken 57 = .ok (.ireturn, 1) := by decide +kernel
set_option maxRecDepth 20000 in
theorem ggX8_covers_X5_learn : GoodIn wsX8_covers wsX5_learn := goodIn_r _ [8, 9, 10, 11, 12, 13, 14, 15, 16, 17, 18, 19, 20, 21, 22, 23, 24, 25, 26, 27, 28, 29, 30, 7, 31, 32, 33, 34, 56, 57, 58, 59, 60, 61, 62, 63, 64, 65, 66, 67] (by decide +kernel) (by decide +kernel)
set_option maxRecDepth 20000 in
theorem gX8_covers_X5_learn : GoodIn wsX8_covers (wsV RX8 124 RX5 yX5_learn wsX5_learn) := goodIn_app (goodIn_of _ (by decide +kernel)) ggX8_covers_X5_learn
set_option maxRecDepth 20000 in
theorem ggX8_covers_X5_holds : GoodIn wsX8_covers wsX5_holds := goodIn_r _ [38, 9, 56, 57, 58, 59, 60, 61, 62, 63] (by decide +kernel) (by decide +kernel)
set_option maxRecDepth 20000 in
theorem gX8_covers_X5_holds : GoodIn wsX8_covers (wsV RX8 128 RX5 yX5_holds wsX5_holds) := goodIn_app (goodIn_of _ (by decide +kernel)) ggX8_covers_X5_holds
set_option maxRecDepth 20000 in
theorem ggX8_covers_X5_falls : GoodIn wsX8_covers wsX5_falls := goodIn_r _ [42, 10, 56, 57, 58, 59, 60, 61, 62, 63] (by decide +kernel) (by decide +kernel)
set_option maxRecDepth 20000 in
theorem gX8_covers_X5_falls : GoodIn wsX8_covers (wsV RX8 132 RX5 yX5_falls wsX5_falls) := goodIn_app (goodIn_of _ (by decide +kernel)) ggX8_covers_X5_falls
set_option maxRecDepth 20000 in
theorem ggX8_covers_X5_reachedFrom : GoodIn wsX8_covers wsX5_reachedFrom := goodIn_r _ [46, 14, 9, 56, 57, 58, 59, 60, 61, 62, 63] (by decide +kernel) (by decide +kernel)
set_option maxRecDepth 20000 in
theorem gX8_covers_X5_reachedFrom : GoodIn wsX8_covers (wsV RX8 135 RX5 yX5_reachedFrom wsX5_reachedFrom) := goodIn_app (goodIn_of _ (by decide +kernel)) ggX8_covers_X5_reachedFrom
theorem dX8_covers_0 : decode cX8_covers 0 = .ok (.aload_n 0, 1) := by decide +kernel
theorem dX8_covers_1 : decode cX8_covers 1 = .ok (.getfield 49, 3) := by decide +kernel
theorem dX8_covers_4 : decode cX8_covers 4 = .ok (.aload_n 0, 1) := by decide +kernel
theorem dX8_covers_5 : decode cX8_covers 5 = .ok (.getfield 18, 3) := by decide +kernel
theorem dX8_covers_8 : decode cX8_covers 8 = .ok (.invokevirtual 124, 3) := by decide +kernel
theorem dX8_covers_11 : decode cX8_covers 11 = .ok (.aload_n 0, 1) := by decide +kernel
theorem dX8_covers_12 : decode cX8_covers 12 = .ok (.getfield 49, 3) := by decide +kernel
theorem dX8_covers_15 : decode cX8_covers 15 = .ok (.iload_n 1, 1) := by decide +kernel
theorem dX8_covers_16 : decode cX8_covers 16 = .ok (.invokevirtual 128, 3) := by decide +kernel
theorem dX8_covers_19 : decode cX8_covers 19 = .ok (.ifCond .ne 6, 3) := by decide +kernel
theorem dX8_covers_22 : decode cX8_covers 22 = .ok (.bipush (-2), 2) := by decide +kernel
theorem dX8_covers_24 : decode cX8_covers 24 = .ok (.ireturn, 1) := by decide +kernel
theorem dX8_covers_25 : decode cX8_covers 25 = .ok (.iload_n 2, 1) := by decide +kernel
theorem dX8_covers_26 : decode cX8_covers 26 = .ok (.tableswitch 62 0 2 #[26, 36, 53], 26) := by decide +kernel
theorem dX8_covers_52 : decode cX8_covers 52 = .ok (.aload_n 0, 1) := by decide +kernel
theorem dX8_covers_53 : decode cX8_covers 53 = .ok (.getfield 49, 3) := by decide +kernel
theorem dX8_covers_56 : decode cX8_covers 56 = .ok (.getfield 129, 3) := by decide +kernel
theorem dX8_covers_59 : decode cX8_covers 59 = .ok (.iload_n 1, 1) := by decide +kernel
theorem dX8_covers_60 : decode cX8_covers 60 = .ok (.iaload, 1) := by decide +kernel
theorem dX8_covers_61 : decode cX8_covers 61 = .ok (.ireturn, 1) := by decide +kernel
theorem dX8_covers_62 : decode cX8_covers 62 = .ok (.aload_n 0, 1) := by decide +kernel
theorem dX8_covers_63 : decode cX8_covers 63 = .ok (.getfield 49, 3) := by decide +kernel
theorem dX8_covers_66 : decode cX8_covers 66 = .ok (.iload_n 1, 1) := by decide +kernel
theorem dX8_covers_67 : decode cX8_covers 67 = .ok (.invokevirtual 132, 3) := by decide +kernel
theorem dX8_covers_70 : decode cX8_covers 70 = .ok (.ifCond .eq 7, 3) := by decide +kernel
theorem dX8_covers_73 : decode cX8_covers 73 = .ok (.iconst 1, 1) := by decide +kernel
theorem dX8_covers_74 : decode cX8_covers 74 = .ok (.goto 4, 3) := by decide +kernel
theorem dX8_covers_77 : decode cX8_covers 77 = .ok (.iconst 0, 1) := by decide +kernel
theorem dX8_covers_78 : decode cX8_covers 78 = .ok (.ireturn, 1) := by decide +kernel
theorem dX8_covers_79 : decode cX8_covers 79 = .ok (.aload_n 0, 1) := by decide +kernel
theorem dX8_covers_80 : decode cX8_covers 80 = .ok (.getfield 49, 3) := by decide +kernel
theorem dX8_covers_83 : decode cX8_covers 83 = .ok (.iload_n 1, 1) := by decide +kernel
theorem dX8_covers_84 : decode cX8_covers 84 = .ok (.invokevirtual 135, 3) := by decide +kernel
theorem dX8_covers_87 : decode cX8_covers 87 = .ok (.ireturn, 1) := by decide +kernel
theorem dX8_covers_88 : decode cX8_covers 88 = .ok (.bipush (-2), 2) := by decide +kernel
theorem dX8_covers_90 : decode cX8_covers 90 = .ok (.ireturn, 1) := by decide +kernel
set_option maxRecDepth 20000 in
theorem ggX8_paths_X5_learn : GoodIn wsX8_paths wsX5_learn := goodIn_r _ [8, 9, 10, 11, 12, 13, 14, 15, 16, 17, 18, 19, 20, 21, 22, 23, 24, 25, 26, 27, 28, 29, 30, 7, 31, 32, 33, 34, 70, 71, 72, 73, 74, 75, 76, 77, 78, 79, 80, 81] (by decide +kernel) (by decide +kernel)
set_option maxRecDepth 20000 in
theorem gX8_paths_X5_learn : GoodIn wsX8_paths (wsV RX8 124 RX5 yX5_learn wsX5_learn) := goodIn_app (goodIn_of _ (by decide +kernel)) ggX8_paths_X5_learn
set_option maxRecDepth 20000 in
theorem ggX8_paths_X5_holds : GoodIn wsX8_paths wsX5_holds := goodIn_r _ [38, 9, 70, 71, 72, 73, 74, 75, 76, 77] (by decide +kernel) (by decide +kernel)
set_option maxRecDepth 20000 in
theorem gX8_paths_X5_holds : GoodIn wsX8_paths (wsV RX8 128 RX5 yX5_holds wsX5_holds) := goodIn_app (goodIn_of _ (by decide +kernel)) ggX8_paths_X5_holds
set_option maxRecDepth 20000 in
theorem ggX8_paths_X5_pathNumber : GoodIn wsX8_paths wsX5_pathNumber := goodIn_r _ [42, 43, 44, 45, 46, 7, 47, 48, 49, 50, 51, 52, 53, 54, 55, 56, 9, 57, 58, 59, 60, 14, 70, 71, 72, 73, 74, 75, 76, 77] (by decide +kernel) (by decide +kernel)
set_option maxRecDepth 20000 in
theorem gX8_paths_X5_pathNumber : GoodIn wsX8_paths (wsV RX8 140 RX5 yX5_pathNumber wsX5_pathNumber) := goodIn_app (goodIn_of _ (by decide +kernel)) ggX8_paths_X5_pathNumber
theorem dX8_paths_0 : decode cX8_paths 0 = .ok (.aload_n 0, 1) := by decide +kernel
theorem dX8_paths_1 : decode cX8_paths 1 = .ok (.getfield 49, 3) := by decide +kernel
theorem dX8_paths_4 : decode cX8_paths 4 = .ok (.aload_n 0, 1) := by decide +kernel
theorem dX8_paths_5 : decode cX8_paths 5 = .ok (.getfield 18, 3) := by decide +kernel
theorem dX8_paths_8 : decode cX8_paths 8 = .ok (.invokevirtual 124, 3) := by decide +kernel
theorem dX8_paths_11 : decode cX8_paths 11 = .ok (.aload_n 0, 1) := by decide +kernel
theorem dX8_paths_12 : decode cX8_paths 12 = .ok (.getfield 49, 3) := by decide +kernel
theorem dX8_paths_15 : decode cX8_paths 15 = .ok (.iload_n 1, 1) := by decide +kernel
theorem dX8_paths_16 : decode cX8_paths 16 = .ok (.invokevirtual 128, 3) := by decide +kernel
theorem dX8_paths_19 : decode cX8_paths 19 = .ok (.ifCond .eq 24, 3) := by decide +kernel
theorem dX8_paths_22 : decode cX8_paths 22 = .ok (.aload_n 0, 1) := by decide +kernel
theorem dX8_paths_23 : decode cX8_paths 23 = .ok (.getfield 49, 3) := by decide +kernel
theorem dX8_paths_26 : decode cX8_paths 26 = .ok (.iload_n 2, 1) := by decide +kernel
theorem dX8_paths_27 : decode cX8_paths 27 = .ok (.invokevirtual 128, 3) := by decide +kernel
theorem dX8_paths_30 : decode cX8_paths 30 = .ok (.ifCond .eq 13, 3) := by decide +kernel
theorem dX8_paths_33 : decode cX8_paths 33 = .ok (.iload_n 3, 1) := by decide +kernel
theorem dX8_paths_34 : decode cX8_paths 34 = .ok (.ifCond .lt 9, 3) := by decide +kernel
theorem dX8_paths_37 : decode cX8_paths 37 = .ok (.iload_n 3, 1) := by decide +kernel
theorem dX8_paths_38 : decode cX8_paths 38 = .ok (.bipush 30, 2) := by decide +kernel
theorem dX8_paths_40 : decode cX8_paths 40 = .ok (.if_icmp .le 7, 3) := by decide +kernel
theorem dX8_paths_43 : decode cX8_paths 43 = .ok (.ldc2_w 138, 3) := by decide +kernel
theorem dX8_paths_46 : decode cX8_paths 46 = .ok (.lreturn, 1) := by decide +kernel
theorem dX8_paths_47 : decode cX8_paths 47 = .ok (.aload_n 0, 1) := by decide +kernel
theorem dX8_paths_48 : decode cX8_paths 48 = .ok (.getfield 49, 3) := by decide +kernel
theorem dX8_paths_51 : decode cX8_paths 51 = .ok (.iload_n 1, 1) := by decide +kernel
theorem dX8_paths_52 : decode cX8_paths 52 = .ok (.iload_n 2, 1) := by decide +kernel
theorem dX8_paths_53 : decode cX8_paths 53 = .ok (.iload_n 3, 1) := by decide +kernel
theorem dX8_paths_54 : decode cX8_paths 54 = .ok (.invokevirtual 140, 3) := by decide +kernel
theorem dX8_paths_57 : decode cX8_paths 57 = .ok (.lreturn, 1) := by decide +kernel
set_option maxRecDepth 20000 in
theorem ggX8_loops_X5_learn : GoodIn wsX8_loops wsX5_learn := goodIn_r _ [10, 11, 12, 13, 14, 15, 16, 17, 18, 19, 20, 21, 22, 23, 24, 25, 26, 27, 28, 29, 30, 31, 32, 9, 33, 34, 35, 36, 74, 75, 76, 77, 78, 79, 80, 81, 82, 83, 84, 85] (by decide +kernel) (by decide +kernel)
set_option maxRecDepth 20000 in
theorem gX8_loops_X5_learn : GoodIn wsX8_loops (wsV RX8 124 RX5 yX5_learn wsX5_learn) := goodIn_app (goodIn_of _ (by decide +kernel)) ggX8_loops_X5_learn
set_option maxRecDepth 20000 in
theorem ggX8_loops_X5_measureLoops : GoodIn wsX8_loops wsX5_measureLoops := goodIn_r _ [40, 41, 11, 42, 43, 44, 45, 46, 9, 47, 48, 49, 50, 51, 52, 53, 54, 55, 56, 57, 58, 59, 60, 16, 61, 62, 63, 64, 74, 75, 76, 77, 78, 79, 80, 81] (by decide +kernel) (by decide +kernel)
set_option maxRecDepth 20000 in
theorem gX8_loops_X5_measureLoops : GoodIn wsX8_loops (wsV RX8 144 RX5 yX5_measureLoops wsX5_measureLoops) := goodIn_app (goodIn_of _ (by decide +kernel)) ggX8_loops_X5_measureLoops
theorem dX8_loops_0 : decode cX8_loops 0 = .ok (.iload_n 1, 1) := by decide +kernel
theorem dX8_loops_1 : decode cX8_loops 1 = .ok (.iconst 1, 1) := by decide +kernel
theorem dX8_loops_2 : decode cX8_loops 2 = .ok (.if_icmp .lt 18, 3) := by decide +kernel
theorem dX8_loops_5 : decode cX8_loops 5 = .ok (.iload_n 1, 1) := by decide +kernel
theorem dX8_loops_6 : decode cX8_loops 6 = .ok (.bipush 30, 2) := by decide +kernel
theorem dX8_loops_8 : decode cX8_loops 8 = .ok (.if_icmp .gt 12, 3) := by decide +kernel
theorem dX8_loops_11 : decode cX8_loops 11 = .ok (.iload_n 2, 1) := by decide +kernel
theorem dX8_loops_12 : decode cX8_loops 12 = .ok (.ifCond .lt 8, 3) := by decide +kernel
theorem dX8_loops_15 : decode cX8_loops 15 = .ok (.iload_n 2, 1) := by decide +kernel
theorem dX8_loops_16 : decode cX8_loops 16 = .ok (.iconst 1, 1) := by decide +kernel
theorem dX8_loops_17 : decode cX8_loops 17 = .ok (.if_icmp .le 7, 3) := by decide +kernel
theorem dX8_loops_20 : decode cX8_loops 20 = .ok (.ldc2_w 138, 3) := by decide +kernel
theorem dX8_loops_23 : decode cX8_loops 23 = .ok (.lreturn, 1) := by decide +kernel
theorem dX8_loops_24 : decode cX8_loops 24 = .ok (.aload_n 0, 1) := by decide +kernel
theorem dX8_loops_25 : decode cX8_loops 25 = .ok (.getfield 49, 3) := by decide +kernel
theorem dX8_loops_28 : decode cX8_loops 28 = .ok (.aload_n 0, 1) := by decide +kernel
theorem dX8_loops_29 : decode cX8_loops 29 = .ok (.getfield 18, 3) := by decide +kernel
theorem dX8_loops_32 : decode cX8_loops 32 = .ok (.invokevirtual 124, 3) := by decide +kernel
theorem dX8_loops_35 : decode cX8_loops 35 = .ok (.aload_n 0, 1) := by decide +kernel
theorem dX8_loops_36 : decode cX8_loops 36 = .ok (.getfield 49, 3) := by decide +kernel
theorem dX8_loops_39 : decode cX8_loops 39 = .ok (.iload_n 1, 1) := by decide +kernel
theorem dX8_loops_40 : decode cX8_loops 40 = .ok (.invokevirtual 144, 3) := by decide +kernel
theorem dX8_loops_43 : decode cX8_loops 43 = .ok (.iload_n 2, 1) := by decide +kernel
theorem dX8_loops_44 : decode cX8_loops 44 = .ok (.ifCond .ne 15, 3) := by decide +kernel
theorem dX8_loops_47 : decode cX8_loops 47 = .ok (.aload_n 0, 1) := by decide +kernel
theorem dX8_loops_48 : decode cX8_loops 48 = .ok (.getfield 49, 3) := by decide +kernel
theorem dX8_loops_51 : decode cX8_loops 51 = .ok (.getfield 147, 3) := by decide +kernel
theorem dX8_loops_54 : decode cX8_loops 54 = .ok (.iload_n 1, 1) := by decide +kernel
theorem dX8_loops_55 : decode cX8_loops 55 = .ok (.laload, 1) := by decide +kernel
theorem dX8_loops_56 : decode cX8_loops 56 = .ok (.goto 12, 3) := by decide +kernel
theorem dX8_loops_59 : decode cX8_loops 59 = .ok (.aload_n 0, 1) := by decide +kernel
theorem dX8_loops_60 : decode cX8_loops 60 = .ok (.getfield 49, 3) := by decide +kernel
theorem dX8_loops_63 : decode cX8_loops 63 = .ok (.getfield 151, 3) := by decide +kernel
theorem dX8_loops_66 : decode cX8_loops 66 = .ok (.iload_n 1, 1) := by decide +kernel
theorem dX8_loops_67 : decode cX8_loops 67 = .ok (.laload, 1) := by decide +kernel
theorem dX8_loops_68 : decode cX8_loops 68 = .ok (.lreturn, 1) := by decide +kernel
set_option maxRecDepth 20000 in
theorem ggX8_forced_X8_forcedBits : GoodIn wsX8_forced wsX8_forcedBits := goodIn_r _ [5, 6, 7, 8, 9, 10, 11, 12, 13, 14, 15, 16, 17, 18, 19, 20, 21, 22, 23, 24, 25, 26, 27, 28, 29, 30, 31, 32, 33, 34, 35, 36, 37, 38, 39, 40, 41, 42, 43, 44, 45, 46, 47, 48, 49, 50, 51, 52, 53, 54, 55, 56, 57, 58, 59, 60, 61, 62, 63, 64, 65, 66, 67, 68, 69, 70, 71, 72, 73, 74, 75, 76, 77, 78, 79, 80, 81, 82, 83, 84, 85, 86, 87, 88, 89, 90, 91, 92, 93, 94, 95, 96, 97, 98, 99, 100, 101, 102, 103, 104] (by decide +kernel) (by decide +kernel)
set_option maxRecDepth 20000 in
theorem gX8_forced_X8_forcedBits : GoodIn wsX8_forced (wsV RX8 154 RX8 yX8_forcedBits wsX8_forcedBits) := goodIn_app (goodIn_of _ (by decide +kernel)) ggX8_forced_X8_forcedBits
theorem dX8_forced_0 : decode cX8_forced 0 = .ok (.iload_n 1, 1) := by decide +kernel
theorem dX8_forced_1 : decode cX8_forced 1 = .ok (.iconst 1, 1) := by decide +kernel
theorem dX8_forced_2 : decode cX8_forced 2 = .ok (.if_icmp .lt 9, 3) := by decide +kernel
theorem dX8_forced_5 : decode cX8_forced 5 = .ok (.iload_n 1, 1) := by decide +kernel
theorem dX8_forced_6 : decode cX8_forced 6 = .ok (.bipush 12, 2) := by decide +kernel
theorem dX8_forced_8 : decode cX8_forced 8 = .ok (.if_icmp .le 6, 3) := by decide +kernel
theorem dX8_forced_11 : decode cX8_forced 11 = .ok (.bipush (-2), 2) := by decide +kernel
theorem dX8_forced_13 : decode cX8_forced 13 = .ok (.ireturn, 1) := by decide +kernel
theorem dX8_forced_14 : decode cX8_forced 14 = .ok (.aload_n 0, 1) := by decide +kernel
theorem dX8_forced_15 : decode cX8_forced 15 = .ok (.invokevirtual 154, 3) := by decide +kernel
theorem dX8_forced_18 : decode cX8_forced 18 = .ok (.iload_n 1, 1) := by decide +kernel
theorem dX8_forced_19 : decode cX8_forced 19 = .ok (.ishr, 1) := by decide +kernel
theorem dX8_forced_20 : decode cX8_forced 20 = .ok (.iconst 1, 1) := by decide +kernel
theorem dX8_forced_21 : decode cX8_forced 21 = .ok (.iand, 1) := by decide +kernel
theorem dX8_forced_22 : decode cX8_forced 22 = .ok (.ireturn, 1) := by decide +kernel
set_option maxRecDepth 20000 in
theorem ggX8_allForced_X8_forcedBits : GoodIn wsX8_allForced wsX8_forcedBits := goodIn_r _ [5, 6, 7, 8, 9, 10, 11, 12, 13, 14, 15, 16, 17, 18, 19, 20, 21, 22, 23, 24, 25, 26, 27, 28, 29, 30, 31, 32, 33, 34, 35, 36, 37, 38, 39, 40, 41, 42, 43, 44, 45, 46, 47, 48, 49, 50, 51, 52, 53, 54, 55, 56, 57, 58, 59, 60, 61, 62, 63, 64, 65, 66, 67, 68, 69, 70, 71, 72, 73, 74, 75, 76, 77, 78, 79, 80, 81, 82, 83, 84, 85, 86, 87, 88, 89, 90, 91, 92, 93, 94, 95, 96, 97, 98, 99, 100, 101, 102, 103, 104] (by decide +kernel) (by decide +kernel)
set_option maxRecDepth 20000 in
theorem gX8_allForced_X8_forcedBits : GoodIn wsX8_allForced (wsV RX8 154 RX8 yX8_forcedBits wsX8_forcedBits) := goodIn_app (goodIn_of _ (by decide +kernel)) ggX8_allForced_X8_forcedBits
theorem dX8_allForced_0 : decode cX8_allForced 0 = .ok (.aload_n 0, 1) := by decide +kernel
theorem dX8_allForced_1 : decode cX8_allForced 1 = .ok (.invokevirtual 154, 3) := by decide +kernel
theorem dX8_allForced_4 : decode cX8_allForced 4 = .ok (.ireturn, 1) := by decide +kernel
set_option maxRecDepth 20000 in
theorem ggX8_forcedBits_X5_learn : GoodIn wsX8_forcedBits wsX5_learn := goodIn_r _ [8, 9, 10, 11, 12, 13, 14, 15, 16, 17, 18, 19, 20, 21, 22, 23, 24, 25, 26, 27, 28, 29, 30, 7, 31, 32, 33, 34, 88, 89, 90, 91, 92, 93, 94, 95, 96, 97, 98, 99] (by decide +kernel) (by decide +kernel)
set_option maxRecDepth 20000 in
theorem gX8_forcedBits_X5_learn : GoodIn wsX8_forcedBits (wsV RX8 124 RX5 yX5_learn wsX5_learn) := goodIn_app (goodIn_of _ (by decide +kernel)) ggX8_forcedBits_X5_learn
set_option maxRecDepth 20000 in
theorem ggX8_forcedBits_X5_measureLoops : GoodIn wsX8_forcedBits wsX5_measureLoops := goodIn_r _ [38, 39, 9, 40, 41, 42, 43, 44, 7, 45, 46, 47, 48, 49, 50, 51, 52, 53, 54, 55, 56, 57, 58, 14, 59, 60, 61, 62, 88, 89, 90, 91, 92, 93, 94, 95] (by decide +kernel) (by decide +kernel)
set_option maxRecDepth 20000 in
theorem gX8_forcedBits_X5_measureLoops : GoodIn wsX8_forcedBits (wsV RX8 144 RX5 yX5_measureLoops wsX5_measureLoops) := goodIn_app (goodIn_of _ (by decide +kernel)) ggX8_forcedBits_X5_measureLoops
set_option maxRecDepth 20000 in
theorem ggX8_forcedBits_X0_ringSizes : GoodIn wsX8_forcedBits wsX0_ringSizes := goodIn_r _ [66, 28, 67, 68, 69, 25, 70, 71, 72, 73, 74, 75, 76, 77, 78, 96, 97, 98, 99] (by decide +kernel) (by decide +kernel)
set_option maxRecDepth 20000 in
theorem gX8_forcedBits_X0_ringSizes : GoodIn wsX8_forcedBits (wsV RX8 157 RX0 yX0_ringSizes wsX0_ringSizes) := goodIn_app (goodIn_of _ (by decide +kernel)) ggX8_forcedBits_X0_ringSizes
theorem dX8_forcedBits_0 : decode cX8_forcedBits 0 = .ok (.aload_n 0, 1) := by decide +kernel
theorem dX8_forcedBits_1 : decode cX8_forcedBits 1 = .ok (.getfield 49, 3) := by decide +kernel
theorem dX8_forcedBits_4 : decode cX8_forcedBits 4 = .ok (.aload_n 0, 1) := by decide +kernel
theorem dX8_forcedBits_5 : decode cX8_forcedBits 5 = .ok (.getfield 18, 3) := by decide +kernel
theorem dX8_forcedBits_8 : decode cX8_forcedBits 8 = .ok (.invokevirtual 124, 3) := by decide +kernel
theorem dX8_forcedBits_11 : decode cX8_forcedBits 11 = .ok (.aload_n 0, 1) := by decide +kernel
theorem dX8_forcedBits_12 : decode cX8_forcedBits 12 = .ok (.getfield 49, 3) := by decide +kernel
theorem dX8_forcedBits_15 : decode cX8_forcedBits 15 = .ok (.bipush 12, 2) := by decide +kernel
theorem dX8_forcedBits_17 : decode cX8_forcedBits 17 = .ok (.invokevirtual 144, 3) := by decide +kernel
theorem dX8_forcedBits_20 : decode cX8_forcedBits 20 = .ok (.aload_n 0, 1) := by decide +kernel
theorem dX8_forcedBits_21 : decode cX8_forcedBits 21 = .ok (.getfield 18, 3) := by decide +kernel
theorem dX8_forcedBits_24 : decode cX8_forcedBits 24 = .ok (.invokevirtual 157, 3) := by decide +kernel
theorem dX8_forcedBits_27 : decode cX8_forcedBits 27 = .ok (.istore_n 1, 1) := by decide +kernel
theorem dX8_forcedBits_28 : decode cX8_forcedBits 28 = .ok (.iconst 1, 1) := by decide +kernel
theorem dX8_forcedBits_29 : decode cX8_forcedBits 29 = .ok (.istore_n 2, 1) := by decide +kernel
theorem dX8_forcedBits_30 : decode cX8_forcedBits 30 = .ok (.iload_n 2, 1) := by decide +kernel
theorem dX8_forcedBits_31 : decode cX8_forcedBits 31 = .ok (.bipush 12, 2) := by decide +kernel
theorem dX8_forcedBits_33 : decode cX8_forcedBits 33 = .ok (.if_icmp .gt 29, 3) := by decide +kernel
theorem dX8_forcedBits_36 : decode cX8_forcedBits 36 = .ok (.aload_n 0, 1) := by decide +kernel
theorem dX8_forcedBits_37 : decode cX8_forcedBits 37 = .ok (.getfield 49, 3) := by decide +kernel
theorem dX8_forcedBits_40 : decode cX8_forcedBits 40 = .ok (.getfield 151, 3) := by decide +kernel
theorem dX8_forcedBits_43 : decode cX8_forcedBits 43 = .ok (.iload_n 2, 1) := by decide +kernel
theorem dX8_forcedBits_44 : decode cX8_forcedBits 44 = .ok (.laload, 1) := by decide +kernel
theorem dX8_forcedBits_45 : decode cX8_forcedBits 45 = .ok (.lconst 0, 1) := by decide +kernel
theorem dX8_forcedBits_46 : decode cX8_forcedBits 46 = .ok (.lcmp, 1) := by decide +kernel
theorem dX8_forcedBits_47 : decode cX8_forcedBits 47 = .ok (.ifCond .eq 9, 3) := by decide +kernel
theorem dX8_forcedBits_50 : decode cX8_forcedBits 50 = .ok (.iload_n 1, 1) := by decide +kernel
theorem dX8_forcedBits_51 : decode cX8_forcedBits 51 = .ok (.iconst 1, 1) := by decide +kernel
theorem dX8_forcedBits_52 : decode cX8_forcedBits 52 = .ok (.iload_n 2, 1) := by decide +kernel
theorem dX8_forcedBits_53 : decode cX8_forcedBits 53 = .ok (.ishl, 1) := by decide +kernel
theorem dX8_forcedBits_54 : decode cX8_forcedBits 54 = .ok (.ior, 1) := by decide +kernel
theorem dX8_forcedBits_55 : decode cX8_forcedBits 55 = .ok (.istore_n 1, 1) := by decide +kernel
theorem dX8_forcedBits_56 : decode cX8_forcedBits 56 = .ok (.iinc 2 1, 3) := by decide +kernel
theorem dX8_forcedBits_59 : decode cX8_forcedBits 59 = .ok (.goto (-29), 3) := by decide +kernel
theorem dX8_forcedBits_62 : decode cX8_forcedBits 62 = .ok (.iload_n 1, 1) := by decide +kernel
theorem dX8_forcedBits_63 : decode cX8_forcedBits 63 = .ok (.ireturn, 1) := by decide +kernel
set_option maxRecDepth 20000 in
theorem ggX8_ahead_X3_isAhead : GoodIn wsX8_ahead wsX3_isAhead := goodIn_r _ [4, 5, 6, 3, 7] (by decide +kernel) (by decide +kernel)
set_option maxRecDepth 20000 in
theorem gX8_ahead_X3_isAhead : GoodIn wsX8_ahead (va_wsS RX8 160 yX3_isAhead wsX3_isAhead) := goodIn_app (goodIn_of _ (by decide +kernel)) ggX8_ahead_X3_isAhead
theorem dX8_ahead_0 : decode cX8_ahead 0 = .ok (.iload_n 1, 1) := by decide +kernel
theorem dX8_ahead_1 : decode cX8_ahead 1 = .ok (.iconst 1, 1) := by decide +kernel
theorem dX8_ahead_2 : decode cX8_ahead 2 = .ok (.if_icmp .lt 20, 3) := by decide +kernel
theorem dX8_ahead_5 : decode cX8_ahead 5 = .ok (.iload_n 1, 1) := by decide +kernel
theorem dX8_ahead_6 : decode cX8_ahead 6 = .ok (.bipush 99, 2) := by decide +kernel
theorem dX8_ahead_8 : decode cX8_ahead 8 = .ok (.if_icmp .gt 14, 3) := by decide +kernel
theorem dX8_ahead_11 : decode cX8_ahead 11 = .ok (.iload_n 2, 1) := by decide +kernel
theorem dX8_ahead_12 : decode cX8_ahead 12 = .ok (.iconst 1, 1) := by decide +kernel
theorem dX8_ahead_13 : decode cX8_ahead 13 = .ok (.if_icmp .lt 9, 3) := by decide +kernel
theorem dX8_ahead_16 : decode cX8_ahead 16 = .ok (.iload_n 2, 1) := by decide +kernel
theorem dX8_ahead_17 : decode cX8_ahead 17 = .ok (.bipush 99, 2) := by decide +kernel
theorem dX8_ahead_19 : decode cX8_ahead 19 = .ok (.if_icmp .le 6, 3) := by decide +kernel
theorem dX8_ahead_22 : decode cX8_ahead 22 = .ok (.bipush (-2), 2) := by decide +kernel
theorem dX8_ahead_24 : decode cX8_ahead 24 = .ok (.ireturn, 1) := by decide +kernel
theorem dX8_ahead_25 : decode cX8_ahead 25 = .ok (.iload_n 1, 1) := by decide +kernel
theorem dX8_ahead_26 : decode cX8_ahead 26 = .ok (.iload_n 2, 1) := by decide +kernel
theorem dX8_ahead_27 : decode cX8_ahead 27 = .ok (.invokestatic 160, 3) := by decide +kernel
theorem dX8_ahead_30 : decode cX8_ahead 30 = .ok (.ifCond .eq 7, 3) := by decide +kernel
theorem dX8_ahead_33 : decode cX8_ahead 33 = .ok (.iconst 1, 1) := by decide +kernel
theorem dX8_ahead_34 : decode cX8_ahead 34 = .ok (.goto 4, 3) := by decide +kernel
theorem dX8_ahead_37 : decode cX8_ahead 37 = .ok (.iconst 0, 1) := by decide +kernel
theorem dX8_ahead_38 : decode cX8_ahead 38 = .ok (.ireturn, 1) := by decide +kernel
set_option maxRecDepth 20000 in
theorem ggX8_order_X3_numberAt : GoodIn wsX8_order wsX3_numberAt := goodIn_r _ [4, 5, 6, 3, 7, 8, 9, 10, 11, 12, 13] (by decide +kernel) (by decide +kernel)
set_option maxRecDepth 20000 in
theorem gX8_order_X3_numberAt : GoodIn wsX8_order (va_wsS RX8 165 yX3_numberAt wsX3_numberAt) := goodIn_app (goodIn_of _ (by decide +kernel)) ggX8_order_X3_numberAt
set_option maxRecDepth 20000 in
theorem ggX8_order_X3_placeOf : GoodIn wsX8_order wsX3_placeOf := goodIn_r _ [7, 8, 9, 3, 10, 11, 12, 13] (by decide +kernel) (by decide +kernel)
set_option maxRecDepth 20000 in
theorem gX8_order_X3_placeOf : GoodIn wsX8_order (va_wsS RX8 169 yX3_placeOf wsX3_placeOf) := goodIn_app (goodIn_of _ (by decide +kernel)) ggX8_order_X3_placeOf
theorem dX8_order_0 : decode cX8_order 0 = .ok (.iload_n 2, 1) := by decide +kernel
theorem dX8_order_1 : decode cX8_order 1 = .ok (.ifCond .ne 20, 3) := by decide +kernel
theorem dX8_order_4 : decode cX8_order 4 = .ok (.iload_n 1, 1) := by decide +kernel
theorem dX8_order_5 : decode cX8_order 5 = .ok (.ifCond .lt 16, 3) := by decide +kernel
theorem dX8_order_8 : decode cX8_order 8 = .ok (.iload_n 1, 1) := by decide +kernel
theorem dX8_order_9 : decode cX8_order 9 = .ok (.bipush 12, 2) := by decide +kernel
theorem dX8_order_11 : decode cX8_order 11 = .ok (.if_icmp .ge 10, 3) := by decide +kernel
theorem dX8_order_14 : decode cX8_order 14 = .ok (.iload_n 1, 1) := by decide +kernel
theorem dX8_order_15 : decode cX8_order 15 = .ok (.bipush 12, 2) := by decide +kernel
theorem dX8_order_17 : decode cX8_order 17 = .ok (.invokestatic 165, 3) := by decide +kernel
theorem dX8_order_20 : decode cX8_order 20 = .ok (.ireturn, 1) := by decide +kernel
theorem dX8_order_21 : decode cX8_order 21 = .ok (.iload_n 2, 1) := by decide +kernel
theorem dX8_order_22 : decode cX8_order 22 = .ok (.iconst 1, 1) := by decide +kernel
theorem dX8_order_23 : decode cX8_order 23 = .ok (.if_icmp .ne 21, 3) := by decide +kernel
theorem dX8_order_26 : decode cX8_order 26 = .ok (.iload_n 1, 1) := by decide +kernel
theorem dX8_order_27 : decode cX8_order 27 = .ok (.iconst 1, 1) := by decide +kernel
theorem dX8_order_28 : decode cX8_order 28 = .ok (.if_icmp .lt 16, 3) := by decide +kernel
theorem dX8_order_31 : decode cX8_order 31 = .ok (.iload_n 1, 1) := by decide +kernel
theorem dX8_order_32 : decode cX8_order 32 = .ok (.bipush 12, 2) := by decide +kernel
theorem dX8_order_34 : decode cX8_order 34 = .ok (.if_icmp .gt 10, 3) := by decide +kernel
theorem dX8_order_37 : decode cX8_order 37 = .ok (.iload_n 1, 1) := by decide +kernel
theorem dX8_order_38 : decode cX8_order 38 = .ok (.bipush 12, 2) := by decide +kernel
theorem dX8_order_40 : decode cX8_order 40 = .ok (.invokestatic 169, 3) := by decide +kernel
theorem dX8_order_43 : decode cX8_order 43 = .ok (.ireturn, 1) := by decide +kernel
theorem dX8_order_44 : decode cX8_order 44 = .ok (.bipush (-2), 2) := by decide +kernel
theorem dX8_order_46 : decode cX8_order 46 = .ok (.ireturn, 1) := by decide +kernel
set_option maxRecDepth 20000 in
theorem ggX8_pattern_X4_canBeOf : GoodIn wsX8_pattern wsX4_canBeOf := goodIn_r _ [8] (by decide +kernel) (by decide +kernel)
set_option maxRecDepth 20000 in
theorem gX8_pattern_X4_canBeOf : GoodIn wsX8_pattern (va_wsS RX8 172 yX4_canBeOf wsX4_canBeOf) := goodIn_app (goodIn_of _ (by decide +kernel)) ggX8_pattern_X4_canBeOf
set_option maxRecDepth 20000 in
theorem ggX8_pattern_X4_seek : GoodIn wsX8_pattern wsX4_seek := goodIn_r _ [12, 13, 14, 15, 16, 17, 18, 19, 20, 21, 22, 23, 24, 25, 26, 27, 28, 7, 29, 30, 31, 32, 33, 34, 35, 36, 37, 38, 39, 40, 41, 42, 43, 44, 45, 46, 47, 48, 49, 50, 51, 52, 53, 54, 55, 56, 57, 58, 59, 60, 61, 62, 63, 64, 65, 66, 67, 68, 69, 70, 71, 72, 73, 74, 75, 76, 77, 78, 79, 80, 81, 82, 83, 84, 85, 86, 87, 88, 89, 90, 91, 92, 93, 94, 95, 96, 97, 98, 99, 100, 101, 102, 103, 104, 105, 106, 107, 108, 109, 110, 111, 112, 113, 114, 115, 116, 117, 118, 119, 120, 121, 122, 123, 124, 125, 126, 127, 128, 129, 130, 131, 132, 133, 134, 135, 150, 151, 152, 153, 154, 155, 156, 157, 146, 147, 148, 149, 158, 159, 160, 161, 162, 163, 164, 165] (by decide +kernel) (by decide +kernel)
set_option maxRecDepth 20000 in
theorem gX8_pattern_X4_seek : GoodIn wsX8_pattern (wsV RX8 175 RX4 yX4_seek wsX4_seek) := goodIn_app (goodIn_of _ (by decide +kernel)) ggX8_pattern_X4_seek
set_option maxRecDepth 20000 in
theorem ggX8_pattern_X4_at : GoodIn wsX8_pattern wsX4_at := goodIn_r _ [98, 90, 89, 150, 151, 152, 153, 154, 155, 156, 157] (by decide +kernel) (by decide +kernel)
set_option maxRecDepth 20000 in
theorem gX8_pattern_X4_at : GoodIn wsX8_pattern (wsV RX8 182 RX4 yX4_at wsX4_at) := goodIn_app (goodIn_of _ (by decide +kernel)) ggX8_pattern_X4_at
theorem dX8_pattern_0 : decode cX8_pattern 0 = .ok (.iload_n 1, 1) := by decide +kernel
theorem dX8_pattern_1 : decode cX8_pattern 1 = .ok (.invokestatic 172, 3) := by decide +kernel
theorem dX8_pattern_4 : decode cX8_pattern 4 = .ok (.ifCond .eq 8, 3) := by decide +kernel
theorem dX8_pattern_7 : decode cX8_pattern 7 = .ok (.iload_n 2, 1) := by decide +kernel
theorem dX8_pattern_8 : decode cX8_pattern 8 = .ok (.iconst (-1), 1) := by decide +kernel
theorem dX8_pattern_9 : decode cX8_pattern 9 = .ok (.if_icmp .ge 6, 3) := by decide +kernel
theorem dX8_pattern_12 : decode cX8_pattern 12 = .ok (.bipush (-2), 2) := by decide +kernel
theorem dX8_pattern_14 : decode cX8_pattern 14 = .ok (.ireturn, 1) := by decide +kernel
theorem dX8_pattern_15 : decode cX8_pattern 15 = .ok (.aload_n 0, 1) := by decide +kernel
theorem dX8_pattern_16 : decode cX8_pattern 16 = .ok (.getfield 18, 3) := by decide +kernel
theorem dX8_pattern_19 : decode cX8_pattern 19 = .ok (.getfield 70, 3) := by decide +kernel
theorem dX8_pattern_22 : decode cX8_pattern 22 = .ok (.iconst 1, 1) := by decide +kernel
theorem dX8_pattern_23 : decode cX8_pattern 23 = .ok (.if_icmp .ne 6, 3) := by decide +kernel
theorem dX8_pattern_26 : decode cX8_pattern 26 = .ok (.bipush (-3), 2) := by decide +kernel
theorem dX8_pattern_28 : decode cX8_pattern 28 = .ok (.ireturn, 1) := by decide +kernel
theorem dX8_pattern_29 : decode cX8_pattern 29 = .ok (.aload_n 0, 1) := by decide +kernel
theorem dX8_pattern_30 : decode cX8_pattern 30 = .ok (.getfield 56, 3) := by decide +kernel
theorem dX8_pattern_33 : decode cX8_pattern 33 = .ok (.iload_n 1, 1) := by decide +kernel
theorem dX8_pattern_34 : decode cX8_pattern 34 = .ok (.aload_n 0, 1) := by decide +kernel
theorem dX8_pattern_35 : decode cX8_pattern 35 = .ok (.getfield 18, 3) := by decide +kernel
theorem dX8_pattern_38 : decode cX8_pattern 38 = .ok (.invokevirtual 175, 3) := by decide +kernel
theorem dX8_pattern_41 : decode cX8_pattern 41 = .ok (.aload_n 0, 1) := by decide +kernel
theorem dX8_pattern_42 : decode cX8_pattern 42 = .ok (.getfield 56, 3) := by decide +kernel
theorem dX8_pattern_45 : decode cX8_pattern 45 = .ok (.getfield 179, 3) := by decide +kernel
theorem dX8_pattern_48 : decode cX8_pattern 48 = .ok (.iload_n 1, 1) := by decide +kernel
theorem dX8_pattern_49 : decode cX8_pattern 49 = .ok (.iaload, 1) := by decide +kernel
theorem dX8_pattern_50 : decode cX8_pattern 50 = .ok (.istore_n 3, 1) := by decide +kernel
theorem dX8_pattern_51 : decode cX8_pattern 51 = .ok (.iload_n 2, 1) := by decide +kernel
theorem dX8_pattern_52 : decode cX8_pattern 52 = .ok (.iconst (-1), 1) := by decide +kernel
theorem dX8_pattern_53 : decode cX8_pattern 53 = .ok (.if_icmp .ne 5, 3) := by decide +kernel
theorem dX8_pattern_56 : decode cX8_pattern 56 = .ok (.iload_n 3, 1) := by decide +kernel
theorem dX8_pattern_57 : decode cX8_pattern 57 = .ok (.ireturn, 1) := by decide +kernel
theorem dX8_pattern_58 : decode cX8_pattern 58 = .ok (.iload_n 2, 1) := by decide +kernel
theorem dX8_pattern_59 : decode cX8_pattern 59 = .ok (.iload_n 3, 1) := by decide +kernel
theorem dX8_pattern_60 : decode cX8_pattern 60 = .ok (.if_icmp .ge 15, 3) := by decide +kernel
theorem dX8_pattern_63 : decode cX8_pattern 63 = .ok (.aload_n 0, 1) := by decide +kernel
theorem dX8_pattern_64 : decode cX8_pattern 64 = .ok (.getfield 56, 3) := by decide +kernel
theorem dX8_pattern_67 : decode cX8_pattern 67 = .ok (.iload_n 1, 1) := by decide +kernel
theorem dX8_pattern_68 : decode cX8_pattern 68 = .ok (.iload_n 2, 1) := by decide +kernel
theorem dX8_pattern_69 : decode cX8_pattern 69 = .ok (.invokevirtual 182, 3) := by decide +kernel
theorem dX8_pattern_72 : decode cX8_pattern 72 = .ok (.goto 4, 3) := by decide +kernel
theorem dX8_pattern_75 : decode cX8_pattern 75 = .ok (.iconst (-1), 1) := by decide +kernel
theorem dX8_pattern_76 : decode cX8_pattern 76 = .ok (.ireturn, 1) := by decide +kernel
set_option maxRecDepth 20000 in
theorem ggX8_has_X4_canBeOf : GoodIn wsX8_has wsX4_canBeOf := goodIn_r _ [7] (by decide +kernel) (by decide +kernel)
set_option maxRecDepth 20000 in
theorem gX8_has_X4_canBeOf : GoodIn wsX8_has (va_wsS RX8 172 yX4_canBeOf wsX4_canBeOf) := goodIn_app (goodIn_of _ (by decide +kernel)) ggX8_has_X4_canBeOf
set_option maxRecDepth 20000 in
theorem ggX8_has_X4_seek : GoodIn wsX8_has wsX4_seek := goodIn_r _ [11, 12, 13, 14, 15, 16, 17, 18, 19, 20, 21, 22, 23, 24, 25, 26, 27, 6, 28, 29, 30, 31, 32, 33, 34, 35, 36, 37, 38, 39, 40, 41, 42, 43, 44, 45, 46, 47, 48, 49, 50, 51, 52, 53, 54, 55, 56, 57, 58, 59, 60, 61, 62, 63, 64, 65, 66, 67, 68, 69, 70, 71, 72, 73, 74, 75, 76, 77, 78, 79, 80, 81, 82, 83, 84, 85, 86, 87, 88, 89, 90, 91, 92, 93, 94, 95, 96, 97, 98, 99, 100, 101, 102, 103, 104, 105, 106, 107, 108, 109, 110, 111, 112, 113, 114, 115, 116, 117, 118, 119, 120, 121, 122, 123, 124, 125, 126, 127, 128, 129, 130, 131, 132, 133, 134, 152, 153, 154, 155, 156, 157, 158, 159, 148, 149, 150, 151, 160, 161, 162, 163, 164, 165, 166, 167] (by decide +kernel) (by decide +kernel)
set_option maxRecDepth 20000 in
theorem gX8_has_X4_seek : GoodIn wsX8_has (wsV RX8 175 RX4 yX4_seek wsX4_seek) := goodIn_app (goodIn_of _ (by decide +kernel)) ggX8_has_X4_seek
set_option maxRecDepth 20000 in
theorem ggX8_has_X4_isFound : GoodIn wsX8_has wsX4_isFound := goodIn_r _ [138, 15, 90, 91, 92, 6, 93, 94, 95, 96, 97, 89, 88, 152, 153, 154, 155, 156, 157, 158, 159] (by decide +kernel) (by decide +kernel)
set_option maxRecDepth 20000 in
theorem gX8_has_X4_isFound : GoodIn wsX8_has (wsV RX8 185 RX4 yX4_isFound wsX4_isFound) := goodIn_app (goodIn_of _ (by decide +kernel)) ggX8_has_X4_isFound
theorem dX8_has_0 : decode cX8_has 0 = .ok (.iload_n 1, 1) := by decide +kernel
theorem dX8_has_1 : decode cX8_has 1 = .ok (.invokestatic 172, 3) := by decide +kernel
theorem dX8_has_4 : decode cX8_has 4 = .ok (.ifCond .ne 6, 3) := by decide +kernel
theorem dX8_has_7 : decode cX8_has 7 = .ok (.bipush (-2), 2) := by decide +kernel
theorem dX8_has_9 : decode cX8_has 9 = .ok (.ireturn, 1) := by decide +kernel
theorem dX8_has_10 : decode cX8_has 10 = .ok (.aload_n 0, 1) := by decide +kernel
theorem dX8_has_11 : decode cX8_has 11 = .ok (.getfield 18, 3) := by decide +kernel
theorem dX8_has_14 : decode cX8_has 14 = .ok (.getfield 70, 3) := by decide +kernel
theorem dX8_has_17 : decode cX8_has 17 = .ok (.iconst 1, 1) := by decide +kernel
theorem dX8_has_18 : decode cX8_has 18 = .ok (.if_icmp .ne 6, 3) := by decide +kernel
theorem dX8_has_21 : decode cX8_has 21 = .ok (.bipush (-3), 2) := by decide +kernel
theorem dX8_has_23 : decode cX8_has 23 = .ok (.ireturn, 1) := by decide +kernel
theorem dX8_has_24 : decode cX8_has 24 = .ok (.aload_n 0, 1) := by decide +kernel
theorem dX8_has_25 : decode cX8_has 25 = .ok (.getfield 56, 3) := by decide +kernel
theorem dX8_has_28 : decode cX8_has 28 = .ok (.iload_n 1, 1) := by decide +kernel
theorem dX8_has_29 : decode cX8_has 29 = .ok (.aload_n 0, 1) := by decide +kernel
theorem dX8_has_30 : decode cX8_has 30 = .ok (.getfield 18, 3) := by decide +kernel
theorem dX8_has_33 : decode cX8_has 33 = .ok (.invokevirtual 175, 3) := by decide +kernel
theorem dX8_has_36 : decode cX8_has 36 = .ok (.aload_n 0, 1) := by decide +kernel
theorem dX8_has_37 : decode cX8_has 37 = .ok (.getfield 56, 3) := by decide +kernel
theorem dX8_has_40 : decode cX8_has 40 = .ok (.iload_n 1, 1) := by decide +kernel
theorem dX8_has_41 : decode cX8_has 41 = .ok (.iload_n 2, 1) := by decide +kernel
theorem dX8_has_42 : decode cX8_has 42 = .ok (.invokevirtual 185, 3) := by decide +kernel
theorem dX8_has_45 : decode cX8_has 45 = .ok (.ifCond .eq 7, 3) := by decide +kernel
theorem dX8_has_48 : decode cX8_has 48 = .ok (.iconst 1, 1) := by decide +kernel
theorem dX8_has_49 : decode cX8_has 49 = .ok (.goto 4, 3) := by decide +kernel
theorem dX8_has_52 : decode cX8_has 52 = .ok (.iconst 0, 1) := by decide +kernel
theorem dX8_has_53 : decode cX8_has 53 = .ok (.ireturn, 1) := by decide +kernel
set_option maxRecDepth 20000 in
theorem ggX8_growth_X5_learn : GoodIn wsX8_growth wsX5_learn := goodIn_r _ [8, 9, 10, 11, 12, 13, 14, 15, 16, 17, 18, 19, 20, 21, 22, 23, 24, 25, 26, 27, 28, 29, 30, 7, 31, 32, 33, 34, 77, 78, 79, 80, 81, 82, 83, 84, 85, 86, 87, 88] (by decide +kernel) (by decide +kernel)
set_option maxRecDepth 20000 in
theorem gX8_growth_X5_learn : GoodIn wsX8_growth (wsV RX8 124 RX5 yX5_learn wsX5_learn) := goodIn_app (goodIn_of _ (by decide +kernel)) ggX8_growth_X5_learn
set_option maxRecDepth 20000 in
theorem ggX8_growth_X5_countTwice : GoodIn wsX8_growth wsX5_countTwice := goodIn_r _ [38, 39, 40, 41, 42, 7, 43, 44, 45, 46, 47, 48, 9, 49, 50, 51, 52, 14, 77, 78, 79, 80, 81, 82, 83, 84] (by decide +kernel) (by decide +kernel)
set_option maxRecDepth 20000 in
theorem gX8_growth_X5_countTwice : GoodIn wsX8_growth (wsV RX8 188 RX5 yX5_countTwice wsX5_countTwice) := goodIn_app (goodIn_of _ (by decide +kernel)) ggX8_growth_X5_countTwice
set_option maxRecDepth 20000 in
theorem ggX8_growth_X5_steepest : GoodIn wsX8_growth wsX5_steepest := goodIn_r _ [56, 9, 44, 57, 58, 59, 7, 60, 39, 77, 78, 79, 80, 81, 82, 83, 84] (by decide +kernel) (by decide +kernel)
set_option maxRecDepth 20000 in
theorem gX8_growth_X5_steepest : GoodIn wsX8_growth (wsV RX8 191 RX5 yX5_steepest wsX5_steepest) := goodIn_app (goodIn_of _ (by decide +kernel)) ggX8_growth_X5_steepest
set_option maxRecDepth 20000 in
theorem ggX8_growth_X5_fractionPart : GoodIn wsX8_growth wsX5_fractionPart := goodIn_r _ [64, 39, 44, 65, 66, 7, 67, 77, 78, 79, 80, 81, 82, 83, 84] (by decide +kernel) (by decide +kernel)
set_option maxRecDepth 20000 in
theorem gX8_growth_X5_fractionPart : GoodIn wsX8_growth (wsV RX8 195 RX5 yX5_fractionPart wsX5_fractionPart) := goodIn_app (goodIn_of _ (by decide +kernel)) ggX8_growth_X5_fractionPart
theorem dX8_growth_0 : decode cX8_growth 0 = .ok (.iload_n 1, 1) := by decide +kernel
theorem dX8_growth_1 : decode cX8_growth 1 = .ok (.ifCond .lt 27, 3) := by decide +kernel
theorem dX8_growth_4 : decode cX8_growth 4 = .ok (.iload_n 1, 1) := by decide +kernel
theorem dX8_growth_5 : decode cX8_growth 5 = .ok (.bipush 10, 2) := by decide +kernel
theorem dX8_growth_7 : decode cX8_growth 7 = .ok (.if_icmp .gt 21, 3) := by decide +kernel
theorem dX8_growth_10 : decode cX8_growth 10 = .ok (.iload_n 2, 1) := by decide +kernel
theorem dX8_growth_11 : decode cX8_growth 11 = .ok (.ifCond .lt 17, 3) := by decide +kernel
theorem dX8_growth_14 : decode cX8_growth 14 = .ok (.iload_n 2, 1) := by decide +kernel
theorem dX8_growth_15 : decode cX8_growth 15 = .ok (.iconst 1, 1) := by decide +kernel
theorem dX8_growth_16 : decode cX8_growth 16 = .ok (.if_icmp .gt 12, 3) := by decide +kernel
theorem dX8_growth_19 : decode cX8_growth 19 = .ok (.iload_n 3, 1) := by decide +kernel
theorem dX8_growth_20 : decode cX8_growth 20 = .ok (.ifCond .lt 8, 3) := by decide +kernel
theorem dX8_growth_23 : decode cX8_growth 23 = .ok (.iload_n 3, 1) := by decide +kernel
theorem dX8_growth_24 : decode cX8_growth 24 = .ok (.iconst 1, 1) := by decide +kernel
theorem dX8_growth_25 : decode cX8_growth 25 = .ok (.if_icmp .le 7, 3) := by decide +kernel
theorem dX8_growth_28 : decode cX8_growth 28 = .ok (.ldc2_w 138, 3) := by decide +kernel
theorem dX8_growth_31 : decode cX8_growth 31 = .ok (.lreturn, 1) := by decide +kernel
theorem dX8_growth_32 : decode cX8_growth 32 = .ok (.aload_n 0, 1) := by decide +kernel
theorem dX8_growth_33 : decode cX8_growth 33 = .ok (.getfield 49, 3) := by decide +kernel
theorem dX8_growth_36 : decode cX8_growth 36 = .ok (.aload_n 0, 1) := by decide +kernel
theorem dX8_growth_37 : decode cX8_growth 37 = .ok (.getfield 18, 3) := by decide +kernel
theorem dX8_growth_40 : decode cX8_growth 40 = .ok (.invokevirtual 124, 3) := by decide +kernel
theorem dX8_growth_43 : decode cX8_growth 43 = .ok (.aload_n 0, 1) := by decide +kernel
theorem dX8_growth_44 : decode cX8_growth 44 = .ok (.getfield 49, 3) := by decide +kernel
theorem dX8_growth_47 : decode cX8_growth 47 = .ok (.iload_n 1, 1) := by decide +kernel
theorem dX8_growth_48 : decode cX8_growth 48 = .ok (.invokevirtual 188, 3) := by decide +kernel
theorem dX8_growth_51 : decode cX8_growth 51 = .ok (.aload_n 0, 1) := by decide +kernel
theorem dX8_growth_52 : decode cX8_growth 52 = .ok (.getfield 49, 3) := by decide +kernel
theorem dX8_growth_55 : decode cX8_growth 55 = .ok (.iload_n 2, 1) := by decide +kernel
theorem dX8_growth_56 : decode cX8_growth 56 = .ok (.iconst 1, 1) := by decide +kernel
theorem dX8_growth_57 : decode cX8_growth 57 = .ok (.if_icmp .ne 7, 3) := by decide +kernel
theorem dX8_growth_60 : decode cX8_growth 60 = .ok (.iconst 1, 1) := by decide +kernel
theorem dX8_growth_61 : decode cX8_growth 61 = .ok (.goto 4, 3) := by decide +kernel
theorem dX8_growth_64 : decode cX8_growth 64 = .ok (.iconst 0, 1) := by decide +kernel
theorem dX8_growth_65 : decode cX8_growth 65 = .ok (.invokevirtual 191, 3) := by decide +kernel
theorem dX8_growth_68 : decode cX8_growth 68 = .ok (.istore 4, 2) := by decide +kernel
theorem dX8_growth_70 : decode cX8_growth 70 = .ok (.iload 4, 2) := by decide +kernel
theorem dX8_growth_72 : decode cX8_growth 72 = .ok (.ifCond .ge 9, 3) := by decide +kernel
theorem dX8_growth_75 : decode cX8_growth 75 = .ok (.ldc2_w 138, 3) := by decide +kernel
theorem dX8_growth_78 : decode cX8_growth 78 = .ok (.goto 13, 3) := by decide +kernel
theorem dX8_growth_81 : decode cX8_growth 81 = .ok (.aload_n 0, 1) := by decide +kernel
theorem dX8_growth_82 : decode cX8_growth 82 = .ok (.getfield 49, 3) := by decide +kernel
theorem dX8_growth_85 : decode cX8_growth 85 = .ok (.iload 4, 2) := by decide +kernel
theorem dX8_growth_87 : decode cX8_growth 87 = .ok (.iload_n 3, 1) := by decide +kernel
theorem dX8_growth_88 : decode cX8_growth 88 = .ok (.invokevirtual 195, 3) := by decide +kernel
theorem dX8_growth_91 : decode cX8_growth 91 = .ok (.lreturn, 1) := by decide +kernel
set_option maxRecDepth 20000 in
theorem ggX8_polynomial_X5_learn : GoodIn wsX8_polynomial wsX5_learn := goodIn_r _ [9, 10, 11, 12, 13, 14, 15, 16, 17, 18, 19, 20, 21, 22, 23, 24, 25, 26, 27, 28, 29, 30, 31, 8, 32, 33, 34, 35, 78, 79, 80, 81, 82, 83, 84, 85, 86, 87, 88, 89] (by decide +kernel) (by decide +kernel)
set_option maxRecDepth 20000 in
theorem gX8_polynomial_X5_learn : GoodIn wsX8_polynomial (wsV RX8 124 RX5 yX5_learn wsX5_learn) := goodIn_app (goodIn_of _ (by decide +kernel)) ggX8_polynomial_X5_learn
set_option maxRecDepth 20000 in
theorem ggX8_polynomial_X5_coefficient : GoodIn wsX8_polynomial wsX5_coefficient := goodIn_r _ [39, 10, 40, 41, 42, 43, 44, 8, 45, 46, 47, 48, 49, 50, 51, 52, 53, 54, 55, 56, 57, 58, 59, 60, 61, 62, 63, 64, 15, 65, 66, 67, 68, 78, 79, 80, 81, 82, 83, 84, 85] (by decide +kernel) (by decide +kernel)
set_option maxRecDepth 20000 in
theorem gX8_polynomial_X5_coefficient : GoodIn wsX8_polynomial (wsV RX8 202 RX5 yX5_coefficient wsX5_coefficient) := goodIn_app (goodIn_of _ (by decide +kernel)) ggX8_polynomial_X5_coefficient
theorem dX8_polynomial_0 : decode cX8_polynomial 0 = .ok (.aload_n 0, 1) := by decide +kernel
theorem dX8_polynomial_1 : decode cX8_polynomial 1 = .ok (.getfield 49, 3) := by decide +kernel
theorem dX8_polynomial_4 : decode cX8_polynomial 4 = .ok (.aload_n 0, 1) := by decide +kernel
theorem dX8_polynomial_5 : decode cX8_polynomial 5 = .ok (.getfield 18, 3) := by decide +kernel
theorem dX8_polynomial_8 : decode cX8_polynomial 8 = .ok (.invokevirtual 124, 3) := by decide +kernel
theorem dX8_polynomial_11 : decode cX8_polynomial 11 = .ok (.iload_n 1, 1) := by decide +kernel
theorem dX8_polynomial_12 : decode cX8_polynomial 12 = .ok (.ifCond .lt 14, 3) := by decide +kernel
theorem dX8_polynomial_15 : decode cX8_polynomial 15 = .ok (.iload_n 1, 1) := by decide +kernel
theorem dX8_polynomial_16 : decode cX8_polynomial 16 = .ok (.aload_n 0, 1) := by decide +kernel
theorem dX8_polynomial_17 : decode cX8_polynomial 17 = .ok (.getfield 49, 3) := by decide +kernel
theorem dX8_polynomial_20 : decode cX8_polynomial 20 = .ok (.getfield 199, 3) := by decide +kernel
theorem dX8_polynomial_23 : decode cX8_polynomial 23 = .ok (.if_icmp .le 7, 3) := by decide +kernel
theorem dX8_polynomial_26 : decode cX8_polynomial 26 = .ok (.ldc2_w 138, 3) := by decide +kernel
theorem dX8_polynomial_29 : decode cX8_polynomial 29 = .ok (.lreturn, 1) := by decide +kernel
theorem dX8_polynomial_30 : decode cX8_polynomial 30 = .ok (.aload_n 0, 1) := by decide +kernel
theorem dX8_polynomial_31 : decode cX8_polynomial 31 = .ok (.getfield 49, 3) := by decide +kernel
theorem dX8_polynomial_34 : decode cX8_polynomial 34 = .ok (.iload_n 1, 1) := by decide +kernel
theorem dX8_polynomial_35 : decode cX8_polynomial 35 = .ok (.invokevirtual 202, 3) := by decide +kernel
theorem dX8_polynomial_38 : decode cX8_polynomial 38 = .ok (.lreturn, 1) := by decide +kernel
set_option maxRecDepth 20000 in
theorem ggX8_turn_X8_areTurnings : GoodIn wsX8_turn wsX8_areTurnings := goodIn_r _ [6, 7, 8, 5, 9] (by decide +kernel) (by decide +kernel)
set_option maxRecDepth 20000 in
theorem gX8_turn_X8_areTurnings : GoodIn wsX8_turn (va_wsS RX8 206 yX8_areTurnings wsX8_areTurnings) := goodIn_app (goodIn_of _ (by decide +kernel)) ggX8_turn_X8_areTurnings
set_option maxRecDepth 20000 in
theorem ggX8_turn_X0_packed : GoodIn wsX8_turn wsX0_packed := goodIn_r _ [14, 15, 77, 78, 79, 80] (by decide +kernel) (by decide +kernel)
set_option maxRecDepth 20000 in
theorem gX8_turn_X0_packed : GoodIn wsX8_turn (wsV RX8 77 RX0 yX0_packed wsX0_packed) := goodIn_app (goodIn_of _ (by decide +kernel)) ggX8_turn_X0_packed
set_option maxRecDepth 20000 in
theorem ggX8_turn_X1_keep : GoodIn wsX8_turn wsX1_keep := goodIn_r _ [20, 21, 22, 23, 24, 25, 19, 26, 81, 82] (by decide +kernel) (by decide +kernel)
set_option maxRecDepth 20000 in
theorem gX8_turn_X1_keep : GoodIn wsX8_turn (wsV RX8 81 RX1 yX1_keep wsX1_keep) := goodIn_app (goodIn_of _ (by decide +kernel)) ggX8_turn_X1_keep
set_option maxRecDepth 20000 in
theorem ggX8_turn_X8_withoutLast : GoodIn wsX8_turn wsX8_withoutLast := goodIn_r _ [9] (by decide +kernel) (by decide +kernel)
set_option maxRecDepth 20000 in
theorem gX8_turn_X8_withoutLast : GoodIn wsX8_turn (va_wsS RX8 209 yX8_withoutLast wsX8_withoutLast) := goodIn_app (goodIn_of _ (by decide +kernel)) ggX8_turn_X8_withoutLast
set_option maxRecDepth 20000 in
theorem ggX8_turn_X0_turned : GoodIn wsX8_turn wsX0_turned := goodIn_r _ [30, 31, 15, 32, 33, 34, 35, 36, 37, 38, 39, 13, 40, 41, 42, 43, 44, 45, 46, 47, 48, 49, 50, 51, 52, 53, 54, 55, 56, 57, 58, 59, 60, 61, 62, 63, 64, 65, 66, 67, 77, 78, 79, 80] (by decide +kernel) (by decide +kernel)
set_option maxRecDepth 20000 in
theorem gX8_turn_X0_turned : GoodIn wsX8_turn (wsV RX8 212 RX0 yX0_turned wsX0_turned) := goodIn_app (goodIn_of _ (by decide +kernel)) ggX8_turn_X0_turned
theorem dX8_turn_0 : decode cX8_turn 0 = .ok (.iload_n 1, 1) := by decide +kernel
theorem dX8_turn_1 : decode cX8_turn 1 = .ok (.iconst 1, 1) := by decide +kernel
theorem dX8_turn_2 : decode cX8_turn 2 = .ok (.if_icmp .lt 27, 3) := by decide +kernel
theorem dX8_turn_5 : decode cX8_turn 5 = .ok (.iload_n 1, 1) := by decide +kernel
theorem dX8_turn_6 : decode cX8_turn 6 = .ok (.bipush 6, 2) := by decide +kernel
theorem dX8_turn_8 : decode cX8_turn 8 = .ok (.if_icmp .gt 21, 3) := by decide +kernel
theorem dX8_turn_11 : decode cX8_turn 11 = .ok (.iload_n 1, 1) := by decide +kernel
theorem dX8_turn_12 : decode cX8_turn 12 = .ok (.iload_n 2, 1) := by decide +kernel
theorem dX8_turn_13 : decode cX8_turn 13 = .ok (.invokestatic 206, 3) := by decide +kernel
theorem dX8_turn_16 : decode cX8_turn 16 = .ok (.ifCond .eq 13, 3) := by decide +kernel
theorem dX8_turn_19 : decode cX8_turn 19 = .ok (.iload_n 3, 1) := by decide +kernel
theorem dX8_turn_20 : decode cX8_turn 20 = .ok (.ifCond .lt 9, 3) := by decide +kernel
theorem dX8_turn_23 : decode cX8_turn 23 = .ok (.iload_n 3, 1) := by decide +kernel
theorem dX8_turn_24 : decode cX8_turn 24 = .ok (.bipush 8, 2) := by decide +kernel
theorem dX8_turn_26 : decode cX8_turn 26 = .ok (.if_icmp .lt 6, 3) := by decide +kernel
theorem dX8_turn_29 : decode cX8_turn 29 = .ok (.bipush (-2), 2) := by decide +kernel
theorem dX8_turn_31 : decode cX8_turn 31 = .ok (.ireturn, 1) := by decide +kernel
theorem dX8_turn_32 : decode cX8_turn 32 = .ok (.aload_n 0, 1) := by decide +kernel
theorem dX8_turn_33 : decode cX8_turn 33 = .ok (.getfield 28, 3) := by decide +kernel
theorem dX8_turn_36 : decode cX8_turn 36 = .ok (.aload_n 0, 1) := by decide +kernel
theorem dX8_turn_37 : decode cX8_turn 37 = .ok (.getfield 18, 3) := by decide +kernel
theorem dX8_turn_40 : decode cX8_turn 40 = .ok (.invokevirtual 77, 3) := by decide +kernel
theorem dX8_turn_43 : decode cX8_turn 43 = .ok (.invokevirtual 81, 3) := by decide +kernel
theorem dX8_turn_46 : decode cX8_turn 46 = .ok (.iconst 0, 1) := by decide +kernel
theorem dX8_turn_47 : decode cX8_turn 47 = .ok (.istore 4, 2) := by decide +kernel
theorem dX8_turn_49 : decode cX8_turn 49 = .ok (.iload_n 1, 1) := by decide +kernel
theorem dX8_turn_50 : decode cX8_turn 50 = .ok (.iconst 1, 1) := by decide +kernel
theorem dX8_turn_51 : decode cX8_turn 51 = .ok (.isub, 1) := by decide +kernel
theorem dX8_turn_52 : decode cX8_turn 52 = .ok (.istore 5, 2) := by decide +kernel
theorem dX8_turn_54 : decode cX8_turn 54 = .ok (.iload 5, 2) := by decide +kernel
theorem dX8_turn_56 : decode cX8_turn 56 = .ok (.ifCond .lt 32, 3) := by decide +kernel
theorem dX8_turn_59 : decode cX8_turn 59 = .ok (.aload_n 0, 1) := by decide +kernel
theorem dX8_turn_60 : decode cX8_turn 60 = .ok (.getfield 18, 3) := by decide +kernel
theorem dX8_turn_63 : decode cX8_turn 63 = .ok (.iload_n 2, 1) := by decide +kernel
theorem dX8_turn_64 : decode cX8_turn 64 = .ok (.iload 5, 2) := by decide +kernel
theorem dX8_turn_66 : decode cX8_turn 66 = .ok (.invokestatic 209, 3) := by decide +kernel
theorem dX8_turn_69 : decode cX8_turn 69 = .ok (.bipush 10, 2) := by decide +kernel
theorem dX8_turn_71 : decode cX8_turn 71 = .ok (.irem, 1) := by decide +kernel
theorem dX8_turn_72 : decode cX8_turn 72 = .ok (.iload_n 3, 1) := by decide +kernel
theorem dX8_turn_73 : decode cX8_turn 73 = .ok (.invokevirtual 212, 3) := by decide +kernel
theorem dX8_turn_76 : decode cX8_turn 76 = .ok (.ifCond .eq 6, 3) := by decide +kernel
theorem dX8_turn_79 : decode cX8_turn 79 = .ok (.iinc 4 1, 3) := by decide +kernel
theorem dX8_turn_82 : decode cX8_turn 82 = .ok (.iinc 5 (-1), 3) := by decide +kernel
theorem dX8_turn_85 : decode cX8_turn 85 = .ok (.goto (-31), 3) := by decide +kernel
theorem dX8_turn_88 : decode cX8_turn 88 = .ok (.iload 4, 2) := by decide +kernel
theorem dX8_turn_90 : decode cX8_turn 90 = .ok (.ireturn, 1) := by decide +kernel
set_option maxRecDepth 20000 in
theorem ggX8_areTurnings_X8_withoutLast : GoodIn wsX8_areTurnings wsX8_withoutLast := goodIn_r _ [4] (by decide +kernel) (by decide +kernel)
set_option maxRecDepth 20000 in
theorem gX8_areTurnings_X8_withoutLast : GoodIn wsX8_areTurnings (va_wsS RX8 209 yX8_withoutLast wsX8_withoutLast) := goodIn_app (goodIn_of _ (by decide +kernel)) ggX8_areTurnings_X8_withoutLast
theorem dX8_areTurnings_0 : decode cX8_areTurnings 0 = .ok (.iload_n 1, 1) := by decide +kernel
theorem dX8_areTurnings_1 : decode cX8_areTurnings 1 = .ok (.ifCond .lt 11, 3) := by decide +kernel
theorem dX8_areTurnings_4 : decode cX8_areTurnings 4 = .ok (.iload_n 1, 1) := by decide +kernel
theorem dX8_areTurnings_5 : decode cX8_areTurnings 5 = .ok (.iload_n 0, 1) := by decide +kernel
theorem dX8_areTurnings_6 : decode cX8_areTurnings 6 = .ok (.invokestatic 209, 3) := by decide +kernel
theorem dX8_areTurnings_9 : decode cX8_areTurnings 9 = .ok (.ifCond .eq 5, 3) := by decide +kernel
theorem dX8_areTurnings_12 : decode cX8_areTurnings 12 = .ok (.iconst 0, 1) := by decide +kernel
theorem dX8_areTurnings_13 : decode cX8_areTurnings 13 = .ok (.ireturn, 1) := by decide +kernel
theorem dX8_areTurnings_14 : decode cX8_areTurnings 14 = .ok (.iconst 0, 1) := by decide +kernel
theorem dX8_areTurnings_15 : decode cX8_areTurnings 15 = .ok (.istore_n 2, 1) := by decide +kernel
theorem dX8_areTurnings_16 : decode cX8_areTurnings 16 = .ok (.iload_n 2, 1) := by decide +kernel
theorem dX8_areTurnings_17 : decode cX8_areTurnings 17 = .ok (.iload_n 0, 1) := by decide +kernel
theorem dX8_areTurnings_18 : decode cX8_areTurnings 18 = .ok (.if_icmp .ge 23, 3) := by decide +kernel
theorem dX8_areTurnings_21 : decode cX8_areTurnings 21 = .ok (.iload_n 1, 1) := by decide +kernel
theorem dX8_areTurnings_22 : decode cX8_areTurnings 22 = .ok (.iload_n 2, 1) := by decide +kernel
theorem dX8_areTurnings_23 : decode cX8_areTurnings 23 = .ok (.invokestatic 209, 3) := by decide +kernel
theorem dX8_areTurnings_26 : decode cX8_areTurnings 26 = .ok (.bipush 10, 2) := by decide +kernel
theorem dX8_areTurnings_28 : decode cX8_areTurnings 28 = .ok (.irem, 1) := by decide +kernel
theorem dX8_areTurnings_29 : decode cX8_areTurnings 29 = .ok (.iconst 4, 1) := by decide +kernel
theorem dX8_areTurnings_30 : decode cX8_areTurnings 30 = .ok (.if_icmp .le 5, 3) := by decide +kernel
theorem dX8_areTurnings_33 : decode cX8_areTurnings 33 = .ok (.iconst 0, 1) := by decide +kernel
theorem dX8_areTurnings_34 : decode cX8_areTurnings 34 = .ok (.ireturn, 1) := by decide +kernel
theorem dX8_areTurnings_35 : decode cX8_areTurnings 35 = .ok (.iinc 2 1, 3) := by decide +kernel
theorem dX8_areTurnings_38 : decode cX8_areTurnings 38 = .ok (.goto (-22), 3) := by decide +kernel
theorem dX8_areTurnings_41 : decode cX8_areTurnings 41 = .ok (.iconst 1, 1) := by decide +kernel
theorem dX8_areTurnings_42 : decode cX8_areTurnings 42 = .ok (.ireturn, 1) := by decide +kernel
theorem dX8_withoutLast_0 : decode cX8_withoutLast 0 = .ok (.iload_n 0, 1) := by decide +kernel
theorem dX8_withoutLast_1 : decode cX8_withoutLast 1 = .ok (.istore_n 2, 1) := by decide +kernel
theorem dX8_withoutLast_2 : decode cX8_withoutLast 2 = .ok (.iconst 0, 1) := by decide +kernel
theorem dX8_withoutLast_3 : decode cX8_withoutLast 3 = .ok (.istore_n 3, 1) := by decide +kernel
theorem dX8_withoutLast_4 : decode cX8_withoutLast 4 = .ok (.iload_n 3, 1) := by decide +kernel
theorem dX8_withoutLast_5 : decode cX8_withoutLast 5 = .ok (.iload_n 1, 1) := by decide +kernel
theorem dX8_withoutLast_6 : decode cX8_withoutLast 6 = .ok (.if_icmp .ge 14, 3) := by decide +kernel
theorem dX8_withoutLast_9 : decode cX8_withoutLast 9 = .ok (.iload_n 2, 1) := by decide +kernel
theorem dX8_withoutLast_10 : decode cX8_withoutLast 10 = .ok (.bipush 10, 2) := by decide +kernel
theorem dX8_withoutLast_12 : decode cX8_withoutLast 12 = .ok (.idiv, 1) := by decide +kernel
theorem dX8_withoutLast_13 : decode cX8_withoutLast 13 = .ok (.istore_n 2, 1) := by decide +kernel
theorem dX8_withoutLast_14 : decode cX8_withoutLast 14 = .ok (.iinc 3 1, 3) := by decide +kernel
theorem dX8_withoutLast_17 : decode cX8_withoutLast 17 = .ok (.goto (-13), 3) := by decide +kernel
theorem dX8_withoutLast_20 : decode cX8_withoutLast 20 = .ok (.iload_n 2, 1) := by decide +kernel
theorem dX8_withoutLast_21 : decode cX8_withoutLast 21 = .ok (.ireturn, 1) := by decide +kernel
set_option maxRecDepth 20000 in
theorem ggX8_feed_X6_put : GoodIn wsX8_feed wsX6_put := goodIn_r _ [7, 8, 9, 19, 20] (by decide +kernel) (by decide +kernel)
set_option maxRecDepth 20000 in
theorem gX8_feed_X6_put : GoodIn wsX8_feed (wsV RX8 218 RX6 yX6_put wsX6_put) := goodIn_app (goodIn_of _ (by decide +kernel)) ggX8_feed_X6_put
theorem dX8_feed_0 : decode cX8_feed 0 = .ok (.iload_n 1, 1) := by decide +kernel
theorem dX8_feed_1 : decode cX8_feed 1 = .ok (.ifCond .lt 9, 3) := by decide +kernel
theorem dX8_feed_4 : decode cX8_feed 4 = .ok (.iload_n 1, 1) := by decide +kernel
theorem dX8_feed_5 : decode cX8_feed 5 = .ok (.bipush 127, 2) := by decide +kernel
theorem dX8_feed_7 : decode cX8_feed 7 = .ok (.if_icmp .le 6, 3) := by decide +kernel
theorem dX8_feed_10 : decode cX8_feed 10 = .ok (.bipush (-2), 2) := by decide +kernel
theorem dX8_feed_12 : decode cX8_feed 12 = .ok (.ireturn, 1) := by decide +kernel
theorem dX8_feed_13 : decode cX8_feed 13 = .ok (.aload_n 0, 1) := by decide +kernel
theorem dX8_feed_14 : decode cX8_feed 14 = .ok (.getfield 35, 3) := by decide +kernel
theorem dX8_feed_17 : decode cX8_feed 17 = .ok (.getfield 215, 3) := by decide +kernel
theorem dX8_feed_20 : decode cX8_feed 20 = .ok (.bipush 60, 2) := by decide +kernel
theorem dX8_feed_22 : decode cX8_feed 22 = .ok (.if_icmp .lt 6, 3) := by decide +kernel
theorem dX8_feed_25 : decode cX8_feed 25 = .ok (.bipush (-4), 2) := by decide +kernel
theorem dX8_feed_27 : decode cX8_feed 27 = .ok (.ireturn, 1) := by decide +kernel
theorem dX8_feed_28 : decode cX8_feed 28 = .ok (.aload_n 0, 1) := by decide +kernel
theorem dX8_feed_29 : decode cX8_feed 29 = .ok (.getfield 35, 3) := by decide +kernel
theorem dX8_feed_32 : decode cX8_feed 32 = .ok (.iload_n 1, 1) := by decide +kernel
theorem dX8_feed_33 : decode cX8_feed 33 = .ok (.invokevirtual 218, 3) := by decide +kernel
theorem dX8_feed_36 : decode cX8_feed 36 = .ok (.aload_n 0, 1) := by decide +kernel
theorem dX8_feed_37 : decode cX8_feed 37 = .ok (.getfield 35, 3) := by decide +kernel
theorem dX8_feed_40 : decode cX8_feed 40 = .ok (.getfield 215, 3) := by decide +kernel
theorem dX8_feed_43 : decode cX8_feed 43 = .ok (.ireturn, 1) := by decide +kernel
set_option maxRecDepth 20000 in
theorem ggX8_read_X7_faultIn : GoodIn wsX8_read wsX7_faultIn := goodIn_r _ [13, 14, 15, 16, 17, 18, 19, 12, 20, 21, 22, 23, 24, 25, 26, 27, 28, 29, 30, 31, 32, 33, 34, 35, 36, 37, 38, 39, 40, 41, 42, 94, 95, 96, 97, 98, 99, 100, 101, 102, 103, 104] (by decide +kernel) (by decide +kernel)
set_option maxRecDepth 20000 in
theorem gX8_read_X7_faultIn : GoodIn wsX8_read (wsV RX8 221 RX7 yX7_faultIn wsX7_faultIn) := goodIn_app (goodIn_of _ (by decide +kernel)) ggX8_read_X7_faultIn
set_option maxRecDepth 20000 in
theorem ggX8_read_X7_keepReasons : GoodIn wsX8_read wsX7_keepReasons := goodIn_r _ [46, 47, 48, 23, 22, 49, 50, 51, 52, 53, 54, 55, 96, 97, 98, 99, 100, 101, 102, 103, 104] (by decide +kernel) (by decide +kernel)
set_option maxRecDepth 20000 in
theorem gX8_read_X7_keepReasons : GoodIn wsX8_read (wsV RX8 225 RX7 yX7_keepReasons wsX7_keepReasons) := goodIn_app (goodIn_of _ (by decide +kernel)) ggX8_read_X7_keepReasons
set_option maxRecDepth 20000 in
theorem ggX8_read_X0_packed : GoodIn wsX8_read wsX0_packed := goodIn_r _ [60, 61, 90, 91, 92, 93] (by decide +kernel) (by decide +kernel)
set_option maxRecDepth 20000 in
theorem gX8_read_X0_packed : GoodIn wsX8_read (wsV RX8 77 RX0 yX0_packed wsX0_packed) := goodIn_app (goodIn_of _ (by decide +kernel)) ggX8_read_X0_packed
set_option maxRecDepth 20000 in
theorem ggX8_read_X1_keep : GoodIn wsX8_read wsX1_keep := goodIn_r _ [66, 67, 68, 69, 70, 71, 65, 72, 105, 106] (by decide +kernel) (by decide +kernel)
set_option maxRecDepth 20000 in
theorem gX8_read_X1_keep : GoodIn wsX8_read (wsV RX8 81 RX1 yX1_keep wsX1_keep) := goodIn_app (goodIn_of _ (by decide +kernel)) ggX8_read_X1_keep
set_option maxRecDepth 20000 in
theorem ggX8_read_X0_leadAll : GoodIn wsX8_read wsX0_leadAll := goodIn_r _ [76, 61, 77, 78, 79, 80, 90, 91, 92, 93] (by decide +kernel) (by decide +kernel)
set_option maxRecDepth 20000 in
theorem gX8_read_X0_leadAll : GoodIn wsX8_read (wsV RX8 229 RX0 yX0_leadAll wsX0_leadAll) := goodIn_app (goodIn_of _ (by decide +kernel)) ggX8_read_X0_leadAll
theorem dX8_read_0 : decode cX8_read 0 = .ok (.aload_n 0, 1) := by decide +kernel
theorem dX8_read_1 : decode cX8_read 1 = .ok (.getfield 42, 3) := by decide +kernel
theorem dX8_read_4 : decode cX8_read 4 = .ok (.aload_n 0, 1) := by decide +kernel
theorem dX8_read_5 : decode cX8_read 5 = .ok (.getfield 35, 3) := by decide +kernel
theorem dX8_read_8 : decode cX8_read 8 = .ok (.aload_n 0, 1) := by decide +kernel
theorem dX8_read_9 : decode cX8_read 9 = .ok (.getfield 18, 3) := by decide +kernel
theorem dX8_read_12 : decode cX8_read 12 = .ok (.getfield 60, 3) := by decide +kernel
theorem dX8_read_15 : decode cX8_read 15 = .ok (.invokevirtual 221, 3) := by decide +kernel
theorem dX8_read_18 : decode cX8_read 18 = .ok (.istore_n 1, 1) := by decide +kernel
theorem dX8_read_19 : decode cX8_read 19 = .ok (.aload_n 0, 1) := by decide +kernel
theorem dX8_read_20 : decode cX8_read 20 = .ok (.getfield 35, 3) := by decide +kernel
theorem dX8_read_23 : decode cX8_read 23 = .ok (.iconst 0, 1) := by decide +kernel
theorem dX8_read_24 : decode cX8_read 24 = .ok (.putfield 215, 3) := by decide +kernel
theorem dX8_read_27 : decode cX8_read 27 = .ok (.iload_n 1, 1) := by decide +kernel
theorem dX8_read_28 : decode cX8_read 28 = .ok (.ifCond .lt 16, 3) := by decide +kernel
theorem dX8_read_31 : decode cX8_read 31 = .ok (.aload_n 0, 1) := by decide +kernel
theorem dX8_read_32 : decode cX8_read 32 = .ok (.getfield 42, 3) := by decide +kernel
theorem dX8_read_35 : decode cX8_read 35 = .ok (.iload_n 1, 1) := by decide +kernel
theorem dX8_read_36 : decode cX8_read 36 = .ok (.invokevirtual 225, 3) := by decide +kernel
theorem dX8_read_39 : decode cX8_read 39 = .ok (.bipush (-100), 2) := by decide +kernel
theorem dX8_read_41 : decode cX8_read 41 = .ok (.iload_n 1, 1) := by decide +kernel
theorem dX8_read_42 : decode cX8_read 42 = .ok (.isub, 1) := by decide +kernel
theorem dX8_read_43 : decode cX8_read 43 = .ok (.ireturn, 1) := by decide +kernel
theorem dX8_read_44 : decode cX8_read 44 = .ok (.aload_n 0, 1) := by decide +kernel
theorem dX8_read_45 : decode cX8_read 45 = .ok (.getfield 28, 3) := by decide +kernel
theorem dX8_read_48 : decode cX8_read 48 = .ok (.aload_n 0, 1) := by decide +kernel
theorem dX8_read_49 : decode cX8_read 49 = .ok (.getfield 18, 3) := by decide +kernel
theorem dX8_read_52 : decode cX8_read 52 = .ok (.invokevirtual 77, 3) := by decide +kernel
theorem dX8_read_55 : decode cX8_read 55 = .ok (.invokevirtual 81, 3) := by decide +kernel
theorem dX8_read_58 : decode cX8_read 58 = .ok (.aload_n 0, 1) := by decide +kernel
theorem dX8_read_59 : decode cX8_read 59 = .ok (.getfield 18, 3) := by decide +kernel
theorem dX8_read_62 : decode cX8_read 62 = .ok (.aload_n 0, 1) := by decide +kernel
theorem dX8_read_63 : decode cX8_read 63 = .ok (.getfield 42, 3) := by decide +kernel
theorem dX8_read_66 : decode cX8_read 66 = .ok (.getfield 228, 3) := by decide +kernel
theorem dX8_read_69 : decode cX8_read 69 = .ok (.invokevirtual 229, 3) := by decide +kernel
theorem dX8_read_72 : decode cX8_read 72 = .ok (.aload_n 0, 1) := by decide +kernel
theorem dX8_read_73 : decode cX8_read 73 = .ok (.getfield 42, 3) := by decide +kernel
theorem dX8_read_76 : decode cX8_read 76 = .ok (.getfield 233, 3) := by decide +kernel
theorem dX8_read_79 : decode cX8_read 79 = .ok (.ireturn, 1) := by decide +kernel
theorem dX8_why_0 : decode cX8_why 0 = .ok (.iload_n 1, 1) := by decide +kernel
theorem dX8_why_1 : decode cX8_why 1 = .ok (.ifCond .lt 18, 3) := by decide +kernel
theorem dX8_why_4 : decode cX8_why 4 = .ok (.iload_n 1, 1) := by decide +kernel
theorem dX8_why_5 : decode cX8_why 5 = .ok (.iconst 3, 1) := by decide +kernel
theorem dX8_why_6 : decode cX8_why 6 = .ok (.if_icmp .ge 13, 3) := by decide +kernel
theorem dX8_why_9 : decode cX8_why 9 = .ok (.aload_n 0, 1) := by decide +kernel
theorem dX8_why_10 : decode cX8_why 10 = .ok (.getfield 42, 3) := by decide +kernel
theorem dX8_why_13 : decode cX8_why 13 = .ok (.getfield 236, 3) := by decide +kernel
theorem dX8_why_16 : decode cX8_why 16 = .ok (.ifCond .ne 7, 3) := by decide +kernel
theorem dX8_why_19 : decode cX8_why 19 = .ok (.ldc2_w 138, 3) := by decide +kernel
theorem dX8_why_22 : decode cX8_why 22 = .ok (.lreturn, 1) := by decide +kernel
theorem dX8_why_23 : decode cX8_why 23 = .ok (.aload_n 0, 1) := by decide +kernel
theorem dX8_why_24 : decode cX8_why 24 = .ok (.getfield 42, 3) := by decide +kernel
theorem dX8_why_27 : decode cX8_why 27 = .ok (.getfield 240, 3) := by decide +kernel
theorem dX8_why_30 : decode cX8_why 30 = .ok (.iload_n 1, 1) := by decide +kernel
theorem dX8_why_31 : decode cX8_why 31 = .ok (.laload, 1) := by decide +kernel
theorem dX8_why_32 : decode cX8_why 32 = .ok (.lreturn, 1) := by decide +kernel
set_option maxRecDepth 20000 in
theorem ggX8_back_X1_takeLatest : GoodIn wsX8_back wsX1_takeLatest := goodIn_r _ [8, 9, 10, 26, 27] (by decide +kernel) (by decide +kernel)
set_option maxRecDepth 20000 in
theorem gX8_back_X1_takeLatest : GoodIn wsX8_back (wsV RX8 245 RX1 yX1_takeLatest wsX1_takeLatest) := goodIn_app (goodIn_of _ (by decide +kernel)) ggX8_back_X1_takeLatest
set_option maxRecDepth 20000 in
theorem ggX8_back_X0_unpack : GoodIn wsX8_back wsX0_unpack := goodIn_r _ [15, 16, 28, 29, 30, 31] (by decide +kernel) (by decide +kernel)
set_option maxRecDepth 20000 in
theorem gX8_back_X0_unpack : GoodIn wsX8_back (wsV RX8 248 RX0 yX0_unpack wsX0_unpack) := goodIn_app (goodIn_of _ (by decide +kernel)) ggX8_back_X0_unpack
theorem dX8_back_0 : decode cX8_back 0 = .ok (.aload_n 0, 1) := by decide +kernel
theorem dX8_back_1 : decode cX8_back 1 = .ok (.getfield 28, 3) := by decide +kernel
theorem dX8_back_4 : decode cX8_back 4 = .ok (.getfield 243, 3) := by decide +kernel
theorem dX8_back_7 : decode cX8_back 7 = .ok (.ifCond .ne 6, 3) := by decide +kernel
theorem dX8_back_10 : decode cX8_back 10 = .ok (.bipush (-3), 2) := by decide +kernel
theorem dX8_back_12 : decode cX8_back 12 = .ok (.ireturn, 1) := by decide +kernel
theorem dX8_back_13 : decode cX8_back 13 = .ok (.aload_n 0, 1) := by decide +kernel
theorem dX8_back_14 : decode cX8_back 14 = .ok (.getfield 18, 3) := by decide +kernel
theorem dX8_back_17 : decode cX8_back 17 = .ok (.aload_n 0, 1) := by decide +kernel
theorem dX8_back_18 : decode cX8_back 18 = .ok (.getfield 28, 3) := by decide +kernel
theorem dX8_back_21 : decode cX8_back 21 = .ok (.invokevirtual 245, 3) := by decide +kernel
theorem dX8_back_24 : decode cX8_back 24 = .ok (.invokevirtual 248, 3) := by decide +kernel
theorem dX8_back_27 : decode cX8_back 27 = .ok (.aload_n 0, 1) := by decide +kernel
theorem dX8_back_28 : decode cX8_back 28 = .ok (.getfield 28, 3) := by decide +kernel
theorem dX8_back_31 : decode cX8_back 31 = .ok (.getfield 243, 3) := by decide +kernel
theorem dX8_back_34 : decode cX8_back 34 = .ok (.ireturn, 1) := by decide +kernel
set_option maxRecDepth 20000 in
theorem ggX8_image_X0_become : GoodIn wsX8_image wsX0_become := goodIn_r _ [9, 10, 11, 12, 13, 14, 15, 8, 16, 17, 18, 19, 20, 30, 31, 32, 33] (by decide +kernel) (by decide +kernel)
set_option maxRecDepth 20000 in
theorem gX8_image_X0_become : GoodIn wsX8_image (wsV RX8 251 RX0 yX0_become wsX0_become) := goodIn_app (goodIn_of _ (by decide +kernel)) ggX8_image_X0_become
theorem dX8_image_0 : decode cX8_image 0 = .ok (.aload_n 0, 1) := by decide +kernel
theorem dX8_image_1 : decode cX8_image 1 = .ok (.getfield 22, 3) := by decide +kernel
theorem dX8_image_4 : decode cX8_image 4 = .ok (.aload_n 0, 1) := by decide +kernel
theorem dX8_image_5 : decode cX8_image 5 = .ok (.getfield 18, 3) := by decide +kernel
theorem dX8_image_8 : decode cX8_image 8 = .ok (.invokevirtual 251, 3) := by decide +kernel
theorem dX8_image_11 : decode cX8_image 11 = .ok (.aload_n 0, 1) := by decide +kernel
theorem dX8_image_12 : decode cX8_image 12 = .ok (.iconst 1, 1) := by decide +kernel
theorem dX8_image_13 : decode cX8_image 13 = .ok (.putfield 254, 3) := by decide +kernel
theorem dX8_image_16 : decode cX8_image 16 = .ok (.aload_n 0, 1) := by decide +kernel
theorem dX8_image_17 : decode cX8_image 17 = .ok (.getfield 18, 3) := by decide +kernel
theorem dX8_image_20 : decode cX8_image 20 = .ok (.getfield 60, 3) := by decide +kernel
theorem dX8_image_23 : decode cX8_image 23 = .ok (.ireturn, 1) := by decide +kernel
set_option maxRecDepth 20000 in
theorem ggX8_undo_X0_become : GoodIn wsX8_undo wsX0_become := goodIn_r _ [10, 11, 12, 13, 14, 15, 16, 9, 17, 18, 19, 20, 21, 37, 38, 39, 40] (by decide +kernel) (by decide +kernel)
set_option maxRecDepth 20000 in
theorem gX8_undo_X0_become : GoodIn wsX8_undo (wsV RX8 251 RX0 yX0_become wsX0_become) := goodIn_app (goodIn_of _ (by decide +kernel)) ggX8_undo_X0_become
set_option maxRecDepth 20000 in
theorem ggX8_undo_X1_forget : GoodIn wsX8_undo wsX1_forget := goodIn_r _ [26, 27, 41, 42] (by decide +kernel) (by decide +kernel)
set_option maxRecDepth 20000 in
theorem gX8_undo_X1_forget : GoodIn wsX8_undo (wsV RX8 67 RX1 yX1_forget wsX1_forget) := goodIn_app (goodIn_of _ (by decide +kernel)) ggX8_undo_X1_forget
theorem dX8_undo_0 : decode cX8_undo 0 = .ok (.aload_n 0, 1) := by decide +kernel
theorem dX8_undo_1 : decode cX8_undo 1 = .ok (.getfield 254, 3) := by decide +kernel
theorem dX8_undo_4 : decode cX8_undo 4 = .ok (.ifCond .ne 6, 3) := by decide +kernel
theorem dX8_undo_7 : decode cX8_undo 7 = .ok (.bipush (-3), 2) := by decide +kernel
theorem dX8_undo_9 : decode cX8_undo 9 = .ok (.ireturn, 1) := by decide +kernel
theorem dX8_undo_10 : decode cX8_undo 10 = .ok (.aload_n 0, 1) := by decide +kernel
theorem dX8_undo_11 : decode cX8_undo 11 = .ok (.getfield 18, 3) := by decide +kernel
theorem dX8_undo_14 : decode cX8_undo 14 = .ok (.aload_n 0, 1) := by decide +kernel
theorem dX8_undo_15 : decode cX8_undo 15 = .ok (.getfield 22, 3) := by decide +kernel
theorem dX8_undo_18 : decode cX8_undo 18 = .ok (.invokevirtual 251, 3) := by decide +kernel
theorem dX8_undo_21 : decode cX8_undo 21 = .ok (.aload_n 0, 1) := by decide +kernel
theorem dX8_undo_22 : decode cX8_undo 22 = .ok (.getfield 28, 3) := by decide +kernel
theorem dX8_undo_25 : decode cX8_undo 25 = .ok (.invokevirtual 67, 3) := by decide +kernel
theorem dX8_undo_28 : decode cX8_undo 28 = .ok (.aload_n 0, 1) := by decide +kernel
theorem dX8_undo_29 : decode cX8_undo 29 = .ok (.getfield 18, 3) := by decide +kernel
theorem dX8_undo_32 : decode cX8_undo 32 = .ok (.getfield 60, 3) := by decide +kernel
theorem dX8_undo_35 : decode cX8_undo 35 = .ok (.ireturn, 1) := by decide +kernel
set_option maxRecDepth 20000 in
theorem ggX8_count_X0_pieceNumber : GoodIn wsX8_count wsX0_pieceNumber := goodIn_r _ [13, 14, 15, 25, 26, 27, 28] (by decide +kernel) (by decide +kernel)
set_option maxRecDepth 20000 in
theorem gX8_count_X0_pieceNumber : GoodIn wsX8_count (wsV RX8 257 RX0 yX0_pieceNumber wsX0_pieceNumber) := goodIn_app (goodIn_of _ (by decide +kernel)) ggX8_count_X0_pieceNumber
theorem dX8_count_0 : decode cX8_count 0 = .ok (.iload_n 1, 1) := by decide +kernel
theorem dX8_count_1 : decode cX8_count 1 = .ok (.tableswitch 84 0 5 #[39, 47, 55, 63, 71, 79], 39) := by decide +kernel
theorem dX8_count_40 : decode cX8_count 40 = .ok (.aload_n 0, 1) := by decide +kernel
theorem dX8_count_41 : decode cX8_count 41 = .ok (.getfield 18, 3) := by decide +kernel
theorem dX8_count_44 : decode cX8_count 44 = .ok (.getfield 60, 3) := by decide +kernel
theorem dX8_count_47 : decode cX8_count 47 = .ok (.ireturn, 1) := by decide +kernel
theorem dX8_count_48 : decode cX8_count 48 = .ok (.aload_n 0, 1) := by decide +kernel
theorem dX8_count_49 : decode cX8_count 49 = .ok (.getfield 18, 3) := by decide +kernel
theorem dX8_count_52 : decode cX8_count 52 = .ok (.getfield 70, 3) := by decide +kernel
theorem dX8_count_55 : decode cX8_count 55 = .ok (.ireturn, 1) := by decide +kernel
theorem dX8_count_56 : decode cX8_count 56 = .ok (.aload_n 0, 1) := by decide +kernel
theorem dX8_count_57 : decode cX8_count 57 = .ok (.getfield 18, 3) := by decide +kernel
theorem dX8_count_60 : decode cX8_count 60 = .ok (.invokevirtual 257, 3) := by decide +kernel
theorem dX8_count_63 : decode cX8_count 63 = .ok (.ireturn, 1) := by decide +kernel
theorem dX8_count_64 : decode cX8_count 64 = .ok (.aload_n 0, 1) := by decide +kernel
theorem dX8_count_65 : decode cX8_count 65 = .ok (.getfield 28, 3) := by decide +kernel
theorem dX8_count_68 : decode cX8_count 68 = .ok (.getfield 243, 3) := by decide +kernel
theorem dX8_count_71 : decode cX8_count 71 = .ok (.ireturn, 1) := by decide +kernel
theorem dX8_count_72 : decode cX8_count 72 = .ok (.aload_n 0, 1) := by decide +kernel
theorem dX8_count_73 : decode cX8_count 73 = .ok (.getfield 35, 3) := by decide +kernel
theorem dX8_count_76 : decode cX8_count 76 = .ok (.getfield 215, 3) := by decide +kernel
theorem dX8_count_79 : decode cX8_count 79 = .ok (.ireturn, 1) := by decide +kernel
theorem dX8_count_80 : decode cX8_count 80 = .ok (.aload_n 0, 1) := by decide +kernel
theorem dX8_count_81 : decode cX8_count 81 = .ok (.getfield 9, 3) := by decide +kernel
theorem dX8_count_84 : decode cX8_count 84 = .ok (.ireturn, 1) := by decide +kernel
theorem dX8_count_85 : decode cX8_count 85 = .ok (.bipush (-2), 2) := by decide +kernel
theorem dX8_count_87 : decode cX8_count 87 = .ok (.ireturn, 1) := by decide +kernel
theorem dX9_init_0 : decode cX9_init 0 = .ok (.aload_n 0, 1) := by decide +kernel
theorem dX9_init_1 : decode cX9_init 1 = .ok (.invokespecial 3, 3) := by decide +kernel
theorem dX9_init_4 : decode cX9_init 4 = .ok (.aload_n 0, 1) := by decide +kernel
theorem dX9_init_5 : decode cX9_init 5 = .ok (.iconst 3, 1) := by decide +kernel
theorem dX9_init_6 : decode cX9_init 6 = .ok (.putfield 9, 3) := by decide +kernel
theorem dX9_init_9 : decode cX9_init 9 = .ok (.aload_n 0, 1) := by decide +kernel
theorem dX9_init_10 : decode cX9_init 10 = .ok (.bipush 8, 2) := by decide +kernel
theorem dX9_init_12 : decode cX9_init 12 = .ok (.newarray .int, 2) := by decide +kernel
theorem dX9_init_14 : decode cX9_init 14 = .ok (.dup, 1) := by decide +kernel
theorem dX9_init_15 : decode cX9_init 15 = .ok (.iconst 0, 1) := by decide +kernel
theorem dX9_init_16 : decode cX9_init 16 = .ok (.iconst 0, 1) := by decide +kernel
theorem dX9_init_17 : decode cX9_init 17 = .ok (.iastore, 1) := by decide +kernel
theorem dX9_init_18 : decode cX9_init 18 = .ok (.dup, 1) := by decide +kernel
theorem dX9_init_19 : decode cX9_init 19 = .ok (.iconst 1, 1) := by decide +kernel
theorem dX9_init_20 : decode cX9_init 20 = .ok (.iconst 1, 1) := by decide +kernel
theorem dX9_init_21 : decode cX9_init 21 = .ok (.iastore, 1) := by decide +kernel
theorem dX9_init_22 : decode cX9_init 22 = .ok (.dup, 1) := by decide +kernel
theorem dX9_init_23 : decode cX9_init 23 = .ok (.iconst 2, 1) := by decide +kernel
theorem dX9_init_24 : decode cX9_init 24 = .ok (.iconst 2, 1) := by decide +kernel
theorem dX9_init_25 : decode cX9_init 25 = .ok (.iastore, 1) := by decide +kernel
theorem dX9_init_26 : decode cX9_init 26 = .ok (.dup, 1) := by decide +kernel
theorem dX9_init_27 : decode cX9_init 27 = .ok (.iconst 3, 1) := by decide +kernel
theorem dX9_init_28 : decode cX9_init 28 = .ok (.iconst 3, 1) := by decide +kernel
theorem dX9_init_29 : decode cX9_init 29 = .ok (.iastore, 1) := by decide +kernel
theorem dX9_init_30 : decode cX9_init 30 = .ok (.dup, 1) := by decide +kernel
theorem dX9_init_31 : decode cX9_init 31 = .ok (.iconst 4, 1) := by decide +kernel
theorem dX9_init_32 : decode cX9_init 32 = .ok (.iconst 4, 1) := by decide +kernel
theorem dX9_init_33 : decode cX9_init 33 = .ok (.iastore, 1) := by decide +kernel
theorem dX9_init_34 : decode cX9_init 34 = .ok (.dup, 1) := by decide +kernel
theorem dX9_init_35 : decode cX9_init 35 = .ok (.iconst 5, 1) := by decide +kernel
theorem dX9_init_36 : decode cX9_init 36 = .ok (.iconst 5, 1) := by decide +kernel
theorem dX9_init_37 : decode cX9_init 37 = .ok (.iastore, 1) := by decide +kernel
theorem dX9_init_38 : decode cX9_init 38 = .ok (.dup, 1) := by decide +kernel
theorem dX9_init_39 : decode cX9_init 39 = .ok (.bipush 6, 2) := by decide +kernel
theorem dX9_init_41 : decode cX9_init 41 = .ok (.bipush 6, 2) := by decide +kernel
theorem dX9_init_43 : decode cX9_init 43 = .ok (.iastore, 1) := by decide +kernel
theorem dX9_init_44 : decode cX9_init 44 = .ok (.dup, 1) := by decide +kernel
theorem dX9_init_45 : decode cX9_init 45 = .ok (.bipush 7, 2) := by decide +kernel
theorem dX9_init_47 : decode cX9_init 47 = .ok (.bipush 7, 2) := by decide +kernel
theorem dX9_init_49 : decode cX9_init 49 = .ok (.iastore, 1) := by decide +kernel
theorem dX9_init_50 : decode cX9_init 50 = .ok (.putfield 15, 3) := by decide +kernel
theorem dX9_init_53 : decode cX9_init 53 = .ok (.aload_n 0, 1) := by decide +kernel
theorem dX9_init_54 : decode cX9_init 54 = .ok (.bipush 80, 2) := by decide +kernel
theorem dX9_init_56 : decode cX9_init 56 = .ok (.newarray .int, 2) := by decide +kernel
theorem dX9_init_58 : decode cX9_init 58 = .ok (.putfield 19, 3) := by decide +kernel
theorem dX9_init_61 : decode cX9_init 61 = .ok (.aload_n 0, 1) := by decide +kernel
theorem dX9_init_62 : decode cX9_init 62 = .ok (.bipush 64, 2) := by decide +kernel
theorem dX9_init_64 : decode cX9_init 64 = .ok (.newarray .long, 2) := by decide +kernel
theorem dX9_init_66 : decode cX9_init 66 = .ok (.putfield 22, 3) := by decide +kernel
theorem dX9_init_69 : decode cX9_init 69 = .ok (.aload_n 0, 1) := by decide +kernel
theorem dX9_init_70 : decode cX9_init 70 = .ok (.bipush 64, 2) := by decide +kernel
theorem dX9_init_72 : decode cX9_init 72 = .ok (.newarray .long, 2) := by decide +kernel
theorem dX9_init_74 : decode cX9_init 74 = .ok (.putfield 26, 3) := by decide +kernel
theorem dX9_init_77 : decode cX9_init 77 = .ok (.aload_n 0, 1) := by decide +kernel
theorem dX9_init_78 : decode cX9_init 78 = .ok (.sipush 800, 3) := by decide +kernel
theorem dX9_init_81 : decode cX9_init 81 = .ok (.newarray .int, 2) := by decide +kernel
theorem dX9_init_83 : decode cX9_init 83 = .ok (.putfield 29, 3) := by decide +kernel
theorem dX9_init_86 : decode cX9_init 86 = .ok (.aload_n 0, 1) := by decide +kernel
theorem dX9_init_87 : decode cX9_init 87 = .ok (.bipush 6, 2) := by decide +kernel
theorem dX9_init_89 : decode cX9_init 89 = .ok (.newarray .int, 2) := by decide +kernel
theorem dX9_init_91 : decode cX9_init 91 = .ok (.putfield 32, 3) := by decide +kernel
theorem dX9_init_94 : decode cX9_init 94 = .ok (.aload_n 0, 1) := by decide +kernel
theorem dX9_init_95 : decode cX9_init 95 = .ok (.bipush 6, 2) := by decide +kernel
theorem dX9_init_97 : decode cX9_init 97 = .ok (.newarray .int, 2) := by decide +kernel
theorem dX9_init_99 : decode cX9_init 99 = .ok (.putfield 35, 3) := by decide +kernel
theorem dX9_init_102 : decode cX9_init 102 = .ok (.aload_n 0, 1) := by decide +kernel
theorem dX9_init_103 : decode cX9_init 103 = .ok (.bipush 8, 2) := by decide +kernel
theorem dX9_init_105 : decode cX9_init 105 = .ok (.newarray .long, 2) := by decide +kernel
theorem dX9_init_107 : decode cX9_init 107 = .ok (.putfield 38, 3) := by decide +kernel
theorem dX9_init_110 : decode cX9_init 110 = .ok (.aload_n 0, 1) := by decide +kernel
theorem dX9_init_111 : decode cX9_init 111 = .ok (.bipush 8, 2) := by decide +kernel
theorem dX9_init_113 : decode cX9_init 113 = .ok (.newarray .long, 2) := by decide +kernel
theorem dX9_init_115 : decode cX9_init 115 = .ok (.putfield 41, 3) := by decide +kernel
theorem dX9_init_118 : decode cX9_init 118 = .ok (.aload_n 0, 1) := by decide +kernel
theorem dX9_init_119 : decode cX9_init 119 = .ok (.bipush 64, 2) := by decide +kernel
theorem dX9_init_121 : decode cX9_init 121 = .ok (.newarray .long, 2) := by decide +kernel
theorem dX9_init_123 : decode cX9_init 123 = .ok (.putfield 44, 3) := by decide +kernel
theorem dX9_init_126 : decode cX9_init 126 = .ok (.aload_n 0, 1) := by decide +kernel
theorem dX9_init_127 : decode cX9_init 127 = .ok (.bipush 64, 2) := by decide +kernel
theorem dX9_init_129 : decode cX9_init 129 = .ok (.newarray .long, 2) := by decide +kernel
theorem dX9_init_131 : decode cX9_init 131 = .ok (.putfield 47, 3) := by decide +kernel
theorem dX9_init_134 : decode cX9_init 134 = .ok (.aload_n 0, 1) := by decide +kernel
theorem dX9_init_135 : decode cX9_init 135 = .ok (.bipush 8, 2) := by decide +kernel
theorem dX9_init_137 : decode cX9_init 137 = .ok (.newarray .int, 2) := by decide +kernel
theorem dX9_init_139 : decode cX9_init 139 = .ok (.putfield 50, 3) := by decide +kernel
theorem dX9_init_142 : decode cX9_init 142 = .ok (.aload_n 0, 1) := by decide +kernel
theorem dX9_init_143 : decode cX9_init 143 = .ok (.bipush 60, 2) := by decide +kernel
theorem dX9_init_145 : decode cX9_init 145 = .ok (.newarray .int, 2) := by decide +kernel
theorem dX9_init_147 : decode cX9_init 147 = .ok (.putfield 53, 3) := by decide +kernel
theorem dX9_init_150 : decode cX9_init 150 = .ok (.aload_n 0, 1) := by decide +kernel
theorem dX9_init_151 : decode cX9_init 151 = .ok (.iconst 3, 1) := by decide +kernel
theorem dX9_init_152 : decode cX9_init 152 = .ok (.newarray .int, 2) := by decide +kernel
theorem dX9_init_154 : decode cX9_init 154 = .ok (.putfield 56, 3) := by decide +kernel
theorem dX9_init_157 : decode cX9_init 157 = .ok (.aload_n 0, 1) := by decide +kernel
theorem dX9_init_158 : decode cX9_init 158 = .ok (.bipush 8, 2) := by decide +kernel
theorem dX9_init_160 : decode cX9_init 160 = .ok (.newarray .int, 2) := by decide +kernel
theorem dX9_init_162 : decode cX9_init 162 = .ok (.putfield 59, 3) := by decide +kernel
theorem dX9_init_165 : decode cX9_init 165 = .ok (.return_, 1) := by decide +kernel
theorem dX9_in_0 : decode cX9_in 0 = .ok (.lload_n 0, 1) := by decide +kernel
theorem dX9_in_1 : decode cX9_in 1 = .ok (.lload_n 2, 1) := by decide +kernel
theorem dX9_in_2 : decode cX9_in 2 = .ok (.lcmp, 1) := by decide +kernel
theorem dX9_in_3 : decode cX9_in 3 = .ok (.ifCond .lt 14, 3) := by decide +kernel
theorem dX9_in_6 : decode cX9_in 6 = .ok (.lload_n 0, 1) := by decide +kernel
theorem dX9_in_7 : decode cX9_in 7 = .ok (.lload 4, 2) := by decide +kernel
theorem dX9_in_9 : decode cX9_in 9 = .ok (.lcmp, 1) := by decide +kernel
theorem dX9_in_10 : decode cX9_in 10 = .ok (.ifCond .gt 7, 3) := by decide +kernel
theorem dX9_in_13 : decode cX9_in 13 = .ok (.iconst 1, 1) := by decide +kernel
theorem dX9_in_14 : decode cX9_in 14 = .ok (.goto 4, 3) := by decide +kernel
theorem dX9_in_17 : decode cX9_in 17 = .ok (.iconst 0, 1) := by decide +kernel
theorem dX9_in_18 : decode cX9_in 18 = .ok (.ireturn, 1) := by decide +kernel
set_option maxRecDepth 20000 in
theorem ggX9_isPoint_X9_in : GoodIn wsX9_isPoint wsX9_in := goodIn_r _ [5] (by decide +kernel) (by decide +kernel)
set_option maxRecDepth 20000 in
theorem gX9_isPoint_X9_in : GoodIn wsX9_isPoint (va_wsS RX9 62 yX9_in wsX9_in) := goodIn_app (goodIn_of _ (by decide +kernel)) ggX9_isPoint_X9_in
theorem dX9_isPoint_0 : decode cX9_isPoint 0 = .ok (.iload_n 1, 1) := by decide +kernel
theorem dX9_isPoint_1 : decode cX9_isPoint 1 = .ok (.i2l, 1) := by decide +kernel
theorem dX9_isPoint_2 : decode cX9_isPoint 2 = .ok (.lconst 0, 1) := by decide +kernel
theorem dX9_isPoint_3 : decode cX9_isPoint 3 = .ok (.aload_n 0, 1) := by decide +kernel
theorem dX9_isPoint_4 : decode cX9_isPoint 4 = .ok (.getfield 9, 3) := by decide +kernel
theorem dX9_isPoint_7 : decode cX9_isPoint 7 = .ok (.iconst 1, 1) := by decide +kernel
theorem dX9_isPoint_8 : decode cX9_isPoint 8 = .ok (.isub, 1) := by decide +kernel
theorem dX9_isPoint_9 : decode cX9_isPoint 9 = .ok (.i2l, 1) := by decide +kernel
theorem dX9_isPoint_10 : decode cX9_isPoint 10 = .ok (.invokestatic 62, 3) := by decide +kernel
theorem dX9_isPoint_13 : decode cX9_isPoint 13 = .ok (.ireturn, 1) := by decide +kernel
theorem dX9_remembers_0 : decode cX9_remembers 0 = .ok (.aload_n 0, 1) := by decide +kernel
theorem dX9_remembers_1 : decode cX9_remembers 1 = .ok (.getfield 66, 3) := by decide +kernel
theorem dX9_remembers_4 : decode cX9_remembers 4 = .ok (.bipush 10, 2) := by decide +kernel
theorem dX9_remembers_6 : decode cX9_remembers 6 = .ok (.if_icmp .ne 43, 3) := by decide +kernel
theorem dX9_remembers_9 : decode cX9_remembers 9 = .ok (.bipush 8, 2) := by decide +kernel
theorem dX9_remembers_11 : decode cX9_remembers 11 = .ok (.istore_n 1, 1) := by decide +kernel
theorem dX9_remembers_12 : decode cX9_remembers 12 = .ok (.iload_n 1, 1) := by decide +kernel
theorem dX9_remembers_13 : decode cX9_remembers 13 = .ok (.bipush 80, 2) := by decide +kernel
theorem dX9_remembers_15 : decode cX9_remembers 15 = .ok (.if_icmp .ge 24, 3) := by decide +kernel
theorem dX9_remembers_18 : decode cX9_remembers 18 = .ok (.aload_n 0, 1) := by decide +kernel
theorem dX9_remembers_19 : decode cX9_remembers 19 = .ok (.getfield 19, 3) := by decide +kernel
theorem dX9_remembers_22 : decode cX9_remembers 22 = .ok (.iload_n 1, 1) := by decide +kernel
theorem dX9_remembers_23 : decode cX9_remembers 23 = .ok (.bipush 8, 2) := by decide +kernel
theorem dX9_remembers_25 : decode cX9_remembers 25 = .ok (.isub, 1) := by decide +kernel
theorem dX9_remembers_26 : decode cX9_remembers 26 = .ok (.aload_n 0, 1) := by decide +kernel
theorem dX9_remembers_27 : decode cX9_remembers 27 = .ok (.getfield 19, 3) := by decide +kernel
theorem dX9_remembers_30 : decode cX9_remembers 30 = .ok (.iload_n 1, 1) := by decide +kernel
theorem dX9_remembers_31 : decode cX9_remembers 31 = .ok (.iaload, 1) := by decide +kernel
theorem dX9_remembers_32 : decode cX9_remembers 32 = .ok (.iastore, 1) := by decide +kernel
theorem dX9_remembers_33 : decode cX9_remembers 33 = .ok (.iinc 1 1, 3) := by decide +kernel
theorem dX9_remembers_36 : decode cX9_remembers 36 = .ok (.goto (-24), 3) := by decide +kernel
theorem dX9_remembers_39 : decode cX9_remembers 39 = .ok (.aload_n 0, 1) := by decide +kernel
theorem dX9_remembers_40 : decode cX9_remembers 40 = .ok (.dup, 1) := by decide +kernel
theorem dX9_remembers_41 : decode cX9_remembers 41 = .ok (.getfield 66, 3) := by decide +kernel
theorem dX9_remembers_44 : decode cX9_remembers 44 = .ok (.iconst 1, 1) := by decide +kernel
theorem dX9_remembers_45 : decode cX9_remembers 45 = .ok (.isub, 1) := by decide +kernel
theorem dX9_remembers_46 : decode cX9_remembers 46 = .ok (.putfield 66, 3) := by decide +kernel
theorem dX9_remembers_49 : decode cX9_remembers 49 = .ok (.iconst 0, 1) := by decide +kernel
theorem dX9_remembers_50 : decode cX9_remembers 50 = .ok (.istore_n 1, 1) := by decide +kernel
theorem dX9_remembers_51 : decode cX9_remembers 51 = .ok (.iload_n 1, 1) := by decide +kernel
theorem dX9_remembers_52 : decode cX9_remembers 52 = .ok (.bipush 8, 2) := by decide +kernel
theorem dX9_remembers_54 : decode cX9_remembers 54 = .ok (.if_icmp .ge 29, 3) := by decide +kernel
theorem dX9_remembers_57 : decode cX9_remembers 57 = .ok (.aload_n 0, 1) := by decide +kernel
theorem dX9_remembers_58 : decode cX9_remembers 58 = .ok (.getfield 19, 3) := by decide +kernel
theorem dX9_remembers_61 : decode cX9_remembers 61 = .ok (.bipush 8, 2) := by decide +kernel
theorem dX9_remembers_63 : decode cX9_remembers 63 = .ok (.aload_n 0, 1) := by decide +kernel
theorem dX9_remembers_64 : decode cX9_remembers 64 = .ok (.getfield 66, 3) := by decide +kernel
theorem dX9_remembers_67 : decode cX9_remembers 67 = .ok (.imul, 1) := by decide +kernel
theorem dX9_remembers_68 : decode cX9_remembers 68 = .ok (.iload_n 1, 1) := by decide +kernel
theorem dX9_remembers_69 : decode cX9_remembers 69 = .ok (.iadd, 1) := by decide +kernel
theorem dX9_remembers_70 : decode cX9_remembers 70 = .ok (.aload_n 0, 1) := by decide +kernel
theorem dX9_remembers_71 : decode cX9_remembers 71 = .ok (.getfield 15, 3) := by decide +kernel
theorem dX9_remembers_74 : decode cX9_remembers 74 = .ok (.iload_n 1, 1) := by decide +kernel
theorem dX9_remembers_75 : decode cX9_remembers 75 = .ok (.iaload, 1) := by decide +kernel
theorem dX9_remembers_76 : decode cX9_remembers 76 = .ok (.iastore, 1) := by decide +kernel
theorem dX9_remembers_77 : decode cX9_remembers 77 = .ok (.iinc 1 1, 3) := by decide +kernel
theorem dX9_remembers_80 : decode cX9_remembers 80 = .ok (.goto (-29), 3) := by decide +kernel
theorem dX9_remembers_83 : decode cX9_remembers 83 = .ok (.aload_n 0, 1) := by decide +kernel
theorem dX9_remembers_84 : decode cX9_remembers 84 = .ok (.dup, 1) := by decide +kernel
theorem dX9_remembers_85 : decode cX9_remembers 85 = .ok (.getfield 66, 3) := by decide +kernel
theorem dX9_remembers_88 : decode cX9_remembers 88 = .ok (.iconst 1, 1) := by decide +kernel
theorem dX9_remembers_89 : decode cX9_remembers 89 = .ok (.iadd, 1) := by decide +kernel
theorem dX9_remembers_90 : decode cX9_remembers 90 = .ok (.putfield 66, 3) := by decide +kernel
theorem dX9_remembers_93 : decode cX9_remembers 93 = .ok (.return_, 1) := by decide +kernel
theorem dX9_back_0 : decode cX9_back 0 = .ok (.aload_n 0, 1) := by decide +kernel
theorem dX9_back_1 : decode cX9_back 1 = .ok (.getfield 66, 3) := by decide +kernel
theorem dX9_back_4 : decode cX9_back 4 = .ok (.ifCond .ne 6, 3) := by decide +kernel
theorem dX9_back_7 : decode cX9_back 7 = .ok (.bipush (-3), 2) := by decide +kernel
theorem dX9_back_9 : decode cX9_back 9 = .ok (.ireturn, 1) := by decide +kernel
theorem dX9_back_10 : decode cX9_back 10 = .ok (.aload_n 0, 1) := by decide +kernel
theorem dX9_back_11 : decode cX9_back 11 = .ok (.dup, 1) := by decide +kernel
theorem dX9_back_12 : decode cX9_back 12 = .ok (.getfield 66, 3) := by decide +kernel
theorem dX9_back_15 : decode cX9_back 15 = .ok (.iconst 1, 1) := by decide +kernel
theorem dX9_back_16 : decode cX9_back 16 = .ok (.isub, 1) := by decide +kernel
theorem dX9_back_17 : decode cX9_back 17 = .ok (.putfield 66, 3) := by decide +kernel
theorem dX9_back_20 : decode cX9_back 20 = .ok (.iconst 0, 1) := by decide +kernel
theorem dX9_back_21 : decode cX9_back 21 = .ok (.istore_n 1, 1) := by decide +kernel
theorem dX9_back_22 : decode cX9_back 22 = .ok (.iload_n 1, 1) := by decide +kernel
theorem dX9_back_23 : decode cX9_back 23 = .ok (.bipush 8, 2) := by decide +kernel
theorem dX9_back_25 : decode cX9_back 25 = .ok (.if_icmp .ge 29, 3) := by decide +kernel
theorem dX9_back_28 : decode cX9_back 28 = .ok (.aload_n 0, 1) := by decide +kernel
theorem dX9_back_29 : decode cX9_back 29 = .ok (.getfield 15, 3) := by decide +kernel
theorem dX9_back_32 : decode cX9_back 32 = .ok (.iload_n 1, 1) := by decide +kernel
theorem dX9_back_33 : decode cX9_back 33 = .ok (.aload_n 0, 1) := by decide +kernel
theorem dX9_back_34 : decode cX9_back 34 = .ok (.getfield 19, 3) := by decide +kernel
theorem dX9_back_37 : decode cX9_back 37 = .ok (.bipush 8, 2) := by decide +kernel
theorem dX9_back_39 : decode cX9_back 39 = .ok (.aload_n 0, 1) := by decide +kernel
theorem dX9_back_40 : decode cX9_back 40 = .ok (.getfield 66, 3) := by decide +kernel
theorem dX9_back_43 : decode cX9_back 43 = .ok (.imul, 1) := by decide +kernel
theorem dX9_back_44 : decode cX9_back 44 = .ok (.iload_n 1, 1) := by decide +kernel
theorem dX9_back_45 : decode cX9_back 45 = .ok (.iadd, 1) := by decide +kernel
theorem dX9_back_46 : decode cX9_back 46 = .ok (.iaload, 1) := by decide +kernel
theorem dX9_back_47 : decode cX9_back 47 = .ok (.iastore, 1) := by decide +kernel
theorem dX9_back_48 : decode cX9_back 48 = .ok (.iinc 1 1, 3) := by decide +kernel
theorem dX9_back_51 : decode cX9_back 51 = .ok (.goto (-29), 3) := by decide +kernel
theorem dX9_back_54 : decode cX9_back 54 = .ok (.aload_n 0, 1) := by decide +kernel
theorem dX9_back_55 : decode cX9_back 55 = .ok (.getfield 66, 3) := by decide +kernel
theorem dX9_back_58 : decode cX9_back 58 = .ok (.ireturn, 1) := by decide +kernel
set_option maxRecDepth 20000 in
theorem ggX9_points_X9_in : GoodIn wsX9_points wsX9_in := goodIn_r _ [9] (by decide +kernel) (by decide +kernel)
set_option maxRecDepth 20000 in
theorem gX9_points_X9_in : GoodIn wsX9_points (va_wsS RX9 62 yX9_in wsX9_in) := goodIn_app (goodIn_of _ (by decide +kernel)) ggX9_points_X9_in
theorem dX9_points_0 : decode cX9_points 0 = .ok (.iload_n 1, 1) := by decide +kernel
theorem dX9_points_1 : decode cX9_points 1 = .ok (.i2l, 1) := by decide +kernel
theorem dX9_points_2 : decode cX9_points 2 = .ok (.ldc2_w 69, 3) := by decide +kernel
theorem dX9_points_5 : decode cX9_points 5 = .ok (.ldc2_w 71, 3) := by decide +kernel
theorem dX9_points_8 : decode cX9_points 8 = .ok (.invokestatic 62, 3) := by decide +kernel
theorem dX9_points_11 : decode cX9_points 11 = .ok (.ifCond .ne 6, 3) := by decide +kernel
theorem dX9_points_14 : decode cX9_points 14 = .ok (.bipush (-2), 2) := by decide +kernel
theorem dX9_points_16 : decode cX9_points 16 = .ok (.ireturn, 1) := by decide +kernel
theorem dX9_points_17 : decode cX9_points 17 = .ok (.aload_n 0, 1) := by decide +kernel
theorem dX9_points_18 : decode cX9_points 18 = .ok (.getfield 9, 3) := by decide +kernel
theorem dX9_points_21 : decode cX9_points 21 = .ok (.istore_n 2, 1) := by decide +kernel
theorem dX9_points_22 : decode cX9_points 22 = .ok (.aload_n 0, 1) := by decide +kernel
theorem dX9_points_23 : decode cX9_points 23 = .ok (.iload_n 1, 1) := by decide +kernel
theorem dX9_points_24 : decode cX9_points 24 = .ok (.putfield 9, 3) := by decide +kernel
theorem dX9_points_27 : decode cX9_points 27 = .ok (.iconst 0, 1) := by decide +kernel
theorem dX9_points_28 : decode cX9_points 28 = .ok (.istore_n 3, 1) := by decide +kernel
theorem dX9_points_29 : decode cX9_points 29 = .ok (.iload_n 3, 1) := by decide +kernel
theorem dX9_points_30 : decode cX9_points 30 = .ok (.bipush 8, 2) := by decide +kernel
theorem dX9_points_32 : decode cX9_points 32 = .ok (.if_icmp .ge 16, 3) := by decide +kernel
theorem dX9_points_35 : decode cX9_points 35 = .ok (.aload_n 0, 1) := by decide +kernel
theorem dX9_points_36 : decode cX9_points 36 = .ok (.getfield 15, 3) := by decide +kernel
theorem dX9_points_39 : decode cX9_points 39 = .ok (.iload_n 3, 1) := by decide +kernel
theorem dX9_points_40 : decode cX9_points 40 = .ok (.iload_n 3, 1) := by decide +kernel
theorem dX9_points_41 : decode cX9_points 41 = .ok (.iastore, 1) := by decide +kernel
theorem dX9_points_42 : decode cX9_points 42 = .ok (.iinc 3 1, 3) := by decide +kernel
theorem dX9_points_45 : decode cX9_points 45 = .ok (.goto (-16), 3) := by decide +kernel
theorem dX9_points_48 : decode cX9_points 48 = .ok (.aload_n 0, 1) := by decide +kernel
theorem dX9_points_49 : decode cX9_points 49 = .ok (.iconst 0, 1) := by decide +kernel
theorem dX9_points_50 : decode cX9_points 50 = .ok (.putfield 66, 3) := by decide +kernel
theorem dX9_points_53 : decode cX9_points 53 = .ok (.iload_n 2, 1) := by decide +kernel
theorem dX9_points_54 : decode cX9_points 54 = .ok (.ireturn, 1) := by decide +kernel
set_option maxRecDepth 20000 in
theorem ggX9_way_X9_in : GoodIn wsX9_way wsX9_in := goodIn_r _ [6] (by decide +kernel) (by decide +kernel)
set_option maxRecDepth 20000 in
theorem gX9_way_X9_in : GoodIn wsX9_way (va_wsS RX9 62 yX9_in wsX9_in) := goodIn_app (goodIn_of _ (by decide +kernel)) ggX9_way_X9_in

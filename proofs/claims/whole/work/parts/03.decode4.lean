theorem dX9_comes_79 : decode cX9_comes 79 = .ok (.iload_n 2, 1) := by decide +kernel
theorem dX9_comes_80 : decode cX9_comes 80 = .ok (.iload_n 1, 1) := by decide +kernel
theorem dX9_comes_81 : decode cX9_comes 81 = .ok (.iastore, 1) := by decide +kernel
theorem dX9_comes_82 : decode cX9_comes 82 = .ok (.aload_n 0, 1) := by decide +kernel
theorem dX9_comes_83 : decode cX9_comes 83 = .ok (.dup, 1) := by decide +kernel
theorem dX9_comes_84 : decode cX9_comes 84 = .ok (.getfield 168, 3) := by decide +kernel
theorem dX9_comes_87 : decode cX9_comes 87 = .ok (.iconst 1, 1) := by decide +kernel
theorem dX9_comes_88 : decode cX9_comes 88 = .ok (.iadd, 1) := by decide +kernel
theorem dX9_comes_89 : decode cX9_comes 89 = .ok (.putfield 168, 3) := by decide +kernel
theorem dX9_comes_92 : decode cX9_comes 92 = .ok (.return_, 1) := by decide +kernel
set_option maxRecDepth 20000 in
theorem ggX9_comesBy_X9_comes : GoodIn wsX9_comesBy wsX9_comes := goodIn_r _ [6, 7, 8, 9, 10, 11, 12, 13, 14, 15, 16, 17, 18, 19, 20, 21, 22, 23, 24, 25, 26, 27, 28, 29, 30, 31, 32] (by decide +kernel) (by decide +kernel)
set_option maxRecDepth 20000 in
theorem gX9_comesBy_X9_comes : GoodIn wsX9_comesBy (wsV RX9 171 RX9 yX9_comes wsX9_comes) := goodIn_app (goodIn_of _ (by decide +kernel)) ggX9_comesBy_X9_comes
theorem dX9_comesBy_0 : decode cX9_comesBy 0 = .ok (.iconst 0, 1) := by decide +kernel
theorem dX9_comesBy_1 : decode cX9_comesBy 1 = .ok (.istore_n 2, 1) := by decide +kernel
theorem dX9_comesBy_2 : decode cX9_comesBy 2 = .ok (.iconst 0, 1) := by decide +kernel
theorem dX9_comesBy_3 : decode cX9_comesBy 3 = .ok (.istore_n 3, 1) := by decide +kernel
theorem dX9_comesBy_4 : decode cX9_comesBy 4 = .ok (.iload_n 3, 1) := by decide +kernel
theorem dX9_comesBy_5 : decode cX9_comesBy 5 = .ok (.iload_n 1, 1) := by decide +kernel
theorem dX9_comesBy_6 : decode cX9_comesBy 6 = .ok (.if_icmp .ge 56, 3) := by decide +kernel
theorem dX9_comesBy_9 : decode cX9_comesBy 9 = .ok (.iconst 0, 1) := by decide +kernel
theorem dX9_comesBy_10 : decode cX9_comesBy 10 = .ok (.istore 4, 2) := by decide +kernel
theorem dX9_comesBy_12 : decode cX9_comesBy 12 = .ok (.iload 4, 2) := by decide +kernel
theorem dX9_comesBy_14 : decode cX9_comesBy 14 = .ok (.iload_n 1, 1) := by decide +kernel
theorem dX9_comesBy_15 : decode cX9_comesBy 15 = .ok (.if_icmp .ge 41, 3) := by decide +kernel
theorem dX9_comesBy_18 : decode cX9_comesBy 18 = .ok (.aload_n 0, 1) := by decide +kernel
theorem dX9_comesBy_19 : decode cX9_comesBy 19 = .ok (.getfield 35, 3) := by decide +kernel
theorem dX9_comesBy_22 : decode cX9_comesBy 22 = .ok (.iload 4, 2) := by decide +kernel
theorem dX9_comesBy_24 : decode cX9_comesBy 24 = .ok (.iaload, 1) := by decide +kernel
theorem dX9_comesBy_25 : decode cX9_comesBy 25 = .ok (.iload_n 3, 1) := by decide +kernel
theorem dX9_comesBy_26 : decode cX9_comesBy 26 = .ok (.if_icmp .ne 22, 3) := by decide +kernel
theorem dX9_comesBy_29 : decode cX9_comesBy 29 = .ok (.bipush 10, 2) := by decide +kernel
theorem dX9_comesBy_31 : decode cX9_comesBy 31 = .ok (.iload_n 2, 1) := by decide +kernel
theorem dX9_comesBy_32 : decode cX9_comesBy 32 = .ok (.imul, 1) := by decide +kernel
theorem dX9_comesBy_33 : decode cX9_comesBy 33 = .ok (.aload_n 0, 1) := by decide +kernel
theorem dX9_comesBy_34 : decode cX9_comesBy 34 = .ok (.getfield 35, 3) := by decide +kernel
theorem dX9_comesBy_37 : decode cX9_comesBy 37 = .ok (.iload 4, 2) := by decide +kernel
theorem dX9_comesBy_39 : decode cX9_comesBy 39 = .ok (.iconst 1, 1) := by decide +kernel
theorem dX9_comesBy_40 : decode cX9_comesBy 40 = .ok (.iadd, 1) := by decide +kernel
theorem dX9_comesBy_41 : decode cX9_comesBy 41 = .ok (.iload_n 1, 1) := by decide +kernel
theorem dX9_comesBy_42 : decode cX9_comesBy 42 = .ok (.irem, 1) := by decide +kernel
theorem dX9_comesBy_43 : decode cX9_comesBy 43 = .ok (.iaload, 1) := by decide +kernel
theorem dX9_comesBy_44 : decode cX9_comesBy 44 = .ok (.iadd, 1) := by decide +kernel
theorem dX9_comesBy_45 : decode cX9_comesBy 45 = .ok (.goto 4, 3) := by decide +kernel
theorem dX9_comesBy_48 : decode cX9_comesBy 48 = .ok (.iload_n 2, 1) := by decide +kernel
theorem dX9_comesBy_49 : decode cX9_comesBy 49 = .ok (.istore_n 2, 1) := by decide +kernel
theorem dX9_comesBy_50 : decode cX9_comesBy 50 = .ok (.iinc 4 1, 3) := by decide +kernel
theorem dX9_comesBy_53 : decode cX9_comesBy 53 = .ok (.goto (-41), 3) := by decide +kernel
theorem dX9_comesBy_56 : decode cX9_comesBy 56 = .ok (.iinc 3 1, 3) := by decide +kernel
theorem dX9_comesBy_59 : decode cX9_comesBy 59 = .ok (.goto (-55), 3) := by decide +kernel
theorem dX9_comesBy_62 : decode cX9_comesBy 62 = .ok (.aload_n 0, 1) := by decide +kernel
theorem dX9_comesBy_63 : decode cX9_comesBy 63 = .ok (.iload_n 2, 1) := by decide +kernel
theorem dX9_comesBy_64 : decode cX9_comesBy 64 = .ok (.invokevirtual 171, 3) := by decide +kernel
theorem dX9_comesBy_67 : decode cX9_comesBy 67 = .ok (.return_, 1) := by decide +kernel
theorem dX9_isSimple_0 : decode cX9_isSimple 0 = .ok (.iconst 1, 1) := by decide +kernel
theorem dX9_isSimple_1 : decode cX9_isSimple 1 = .ok (.istore_n 2, 1) := by decide +kernel
theorem dX9_isSimple_2 : decode cX9_isSimple 2 = .ok (.iload_n 2, 1) := by decide +kernel
theorem dX9_isSimple_3 : decode cX9_isSimple 3 = .ok (.iload_n 1, 1) := by decide +kernel
theorem dX9_isSimple_4 : decode cX9_isSimple 4 = .ok (.if_icmp .ge 61, 3) := by decide +kernel
theorem dX9_isSimple_7 : decode cX9_isSimple 7 = .ok (.iconst 1, 1) := by decide +kernel
theorem dX9_isSimple_8 : decode cX9_isSimple 8 = .ok (.istore_n 3, 1) := by decide +kernel
theorem dX9_isSimple_9 : decode cX9_isSimple 9 = .ok (.iconst 0, 1) := by decide +kernel
theorem dX9_isSimple_10 : decode cX9_isSimple 10 = .ok (.istore 4, 2) := by decide +kernel
theorem dX9_isSimple_12 : decode cX9_isSimple 12 = .ok (.iload 4, 2) := by decide +kernel
theorem dX9_isSimple_14 : decode cX9_isSimple 14 = .ok (.iload_n 1, 1) := by decide +kernel
theorem dX9_isSimple_15 : decode cX9_isSimple 15 = .ok (.if_icmp .ge 38, 3) := by decide +kernel
theorem dX9_isSimple_18 : decode cX9_isSimple 18 = .ok (.iload_n 3, 1) := by decide +kernel
theorem dX9_isSimple_19 : decode cX9_isSimple 19 = .ok (.aload_n 0, 1) := by decide +kernel
theorem dX9_isSimple_20 : decode cX9_isSimple 20 = .ok (.getfield 32, 3) := by decide +kernel
theorem dX9_isSimple_23 : decode cX9_isSimple 23 = .ok (.iload 4, 2) := by decide +kernel
theorem dX9_isSimple_25 : decode cX9_isSimple 25 = .ok (.iaload, 1) := by decide +kernel
theorem dX9_isSimple_26 : decode cX9_isSimple 26 = .ok (.aload_n 0, 1) := by decide +kernel
theorem dX9_isSimple_27 : decode cX9_isSimple 27 = .ok (.getfield 32, 3) := by decide +kernel
theorem dX9_isSimple_30 : decode cX9_isSimple 30 = .ok (.iload 4, 2) := by decide +kernel
theorem dX9_isSimple_32 : decode cX9_isSimple 32 = .ok (.iload_n 2, 1) := by decide +kernel
theorem dX9_isSimple_33 : decode cX9_isSimple 33 = .ok (.iadd, 1) := by decide +kernel
theorem dX9_isSimple_34 : decode cX9_isSimple 34 = .ok (.iload_n 1, 1) := by decide +kernel
theorem dX9_isSimple_35 : decode cX9_isSimple 35 = .ok (.irem, 1) := by decide +kernel
theorem dX9_isSimple_36 : decode cX9_isSimple 36 = .ok (.iaload, 1) := by decide +kernel
theorem dX9_isSimple_37 : decode cX9_isSimple 37 = .ok (.if_icmp .ne 7, 3) := by decide +kernel
theorem dX9_isSimple_40 : decode cX9_isSimple 40 = .ok (.iconst 1, 1) := by decide +kernel
theorem dX9_isSimple_41 : decode cX9_isSimple 41 = .ok (.goto 4, 3) := by decide +kernel
theorem dX9_isSimple_44 : decode cX9_isSimple 44 = .ok (.iconst 0, 1) := by decide +kernel
theorem dX9_isSimple_45 : decode cX9_isSimple 45 = .ok (.iand, 1) := by decide +kernel
theorem dX9_isSimple_46 : decode cX9_isSimple 46 = .ok (.istore_n 3, 1) := by decide +kernel
theorem dX9_isSimple_47 : decode cX9_isSimple 47 = .ok (.iinc 4 1, 3) := by decide +kernel
theorem dX9_isSimple_50 : decode cX9_isSimple 50 = .ok (.goto (-38), 3) := by decide +kernel
theorem dX9_isSimple_53 : decode cX9_isSimple 53 = .ok (.iload_n 3, 1) := by decide +kernel
theorem dX9_isSimple_54 : decode cX9_isSimple 54 = .ok (.ifCond .eq 5, 3) := by decide +kernel
theorem dX9_isSimple_57 : decode cX9_isSimple 57 = .ok (.iconst 0, 1) := by decide +kernel
theorem dX9_isSimple_58 : decode cX9_isSimple 58 = .ok (.ireturn, 1) := by decide +kernel
theorem dX9_isSimple_59 : decode cX9_isSimple 59 = .ok (.iinc 2 1, 3) := by decide +kernel
theorem dX9_isSimple_62 : decode cX9_isSimple 62 = .ok (.goto (-60), 3) := by decide +kernel
theorem dX9_isSimple_65 : decode cX9_isSimple 65 = .ok (.iconst 1, 1) := by decide +kernel
theorem dX9_isSimple_66 : decode cX9_isSimple 66 = .ok (.ireturn, 1) := by decide +kernel
set_option maxRecDepth 20000 in
theorem ggX9_isLess_X9_falls : GoodIn wsX9_isLess wsX9_falls := goodIn_r _ [6, 7, 8, 9, 10, 11, 12, 13, 14, 15, 16, 17, 18, 19, 20, 21, 22, 23, 24, 25, 26, 27, 28, 29, 30, 31, 32] (by decide +kernel) (by decide +kernel)
set_option maxRecDepth 20000 in
theorem gX9_isLess_X9_falls : GoodIn wsX9_isLess (wsV RX9 136 RX9 yX9_falls wsX9_falls) := goodIn_app (goodIn_of _ (by decide +kernel)) ggX9_isLess_X9_falls
theorem dX9_isLess_0 : decode cX9_isLess 0 = .ok (.iconst 1, 1) := by decide +kernel
theorem dX9_isLess_1 : decode cX9_isLess 1 = .ok (.istore 4, 2) := by decide +kernel
theorem dX9_isLess_3 : decode cX9_isLess 3 = .ok (.iconst 0, 1) := by decide +kernel
theorem dX9_isLess_4 : decode cX9_isLess 4 = .ok (.istore 5, 2) := by decide +kernel
theorem dX9_isLess_6 : decode cX9_isLess 6 = .ok (.aload_n 0, 1) := by decide +kernel
theorem dX9_isLess_7 : decode cX9_isLess 7 = .ok (.getfield 32, 3) := by decide +kernel
theorem dX9_isLess_10 : decode cX9_isLess 10 = .ok (.iload_n 1, 1) := by decide +kernel
theorem dX9_isLess_11 : decode cX9_isLess 11 = .ok (.iload 5, 2) := by decide +kernel
theorem dX9_isLess_13 : decode cX9_isLess 13 = .ok (.iadd, 1) := by decide +kernel
theorem dX9_isLess_14 : decode cX9_isLess 14 = .ok (.iload_n 3, 1) := by decide +kernel
theorem dX9_isLess_15 : decode cX9_isLess 15 = .ok (.irem, 1) := by decide +kernel
theorem dX9_isLess_16 : decode cX9_isLess 16 = .ok (.iaload, 1) := by decide +kernel
theorem dX9_isLess_17 : decode cX9_isLess 17 = .ok (.aload_n 0, 1) := by decide +kernel
theorem dX9_isLess_18 : decode cX9_isLess 18 = .ok (.getfield 32, 3) := by decide +kernel
theorem dX9_isLess_21 : decode cX9_isLess 21 = .ok (.iload_n 2, 1) := by decide +kernel
theorem dX9_isLess_22 : decode cX9_isLess 22 = .ok (.iload 5, 2) := by decide +kernel
theorem dX9_isLess_24 : decode cX9_isLess 24 = .ok (.iadd, 1) := by decide +kernel
theorem dX9_isLess_25 : decode cX9_isLess 25 = .ok (.iload_n 3, 1) := by decide +kernel
theorem dX9_isLess_26 : decode cX9_isLess 26 = .ok (.irem, 1) := by decide +kernel
theorem dX9_isLess_27 : decode cX9_isLess 27 = .ok (.iaload, 1) := by decide +kernel
theorem dX9_isLess_28 : decode cX9_isLess 28 = .ok (.if_icmp .ne 29, 3) := by decide +kernel
theorem dX9_isLess_31 : decode cX9_isLess 31 = .ok (.iload 4, 2) := by decide +kernel
theorem dX9_isLess_33 : decode cX9_isLess 33 = .ok (.aload_n 0, 1) := by decide +kernel
theorem dX9_isLess_34 : decode cX9_isLess 34 = .ok (.aload_n 0, 1) := by decide +kernel
theorem dX9_isLess_35 : decode cX9_isLess 35 = .ok (.getfield 32, 3) := by decide +kernel
theorem dX9_isLess_38 : decode cX9_isLess 38 = .ok (.iload_n 1, 1) := by decide +kernel
theorem dX9_isLess_39 : decode cX9_isLess 39 = .ok (.iload 5, 2) := by decide +kernel
theorem dX9_isLess_41 : decode cX9_isLess 41 = .ok (.iadd, 1) := by decide +kernel
theorem dX9_isLess_42 : decode cX9_isLess 42 = .ok (.iload_n 3, 1) := by decide +kernel
theorem dX9_isLess_43 : decode cX9_isLess 43 = .ok (.irem, 1) := by decide +kernel
theorem dX9_isLess_44 : decode cX9_isLess 44 = .ok (.iaload, 1) := by decide +kernel
theorem dX9_isLess_45 : decode cX9_isLess 45 = .ok (.invokevirtual 136, 3) := by decide +kernel
theorem dX9_isLess_48 : decode cX9_isLess 48 = .ok (.ixor, 1) := by decide +kernel
theorem dX9_isLess_49 : decode cX9_isLess 49 = .ok (.istore 4, 2) := by decide +kernel
theorem dX9_isLess_51 : decode cX9_isLess 51 = .ok (.iinc 5 1, 3) := by decide +kernel
theorem dX9_isLess_54 : decode cX9_isLess 54 = .ok (.goto (-48), 3) := by decide +kernel
theorem dX9_isLess_57 : decode cX9_isLess 57 = .ok (.aload_n 0, 1) := by decide +kernel
theorem dX9_isLess_58 : decode cX9_isLess 58 = .ok (.getfield 32, 3) := by decide +kernel
theorem dX9_isLess_61 : decode cX9_isLess 61 = .ok (.iload_n 1, 1) := by decide +kernel
theorem dX9_isLess_62 : decode cX9_isLess 62 = .ok (.iload 5, 2) := by decide +kernel
theorem dX9_isLess_64 : decode cX9_isLess 64 = .ok (.iadd, 1) := by decide +kernel
theorem dX9_isLess_65 : decode cX9_isLess 65 = .ok (.iload_n 3, 1) := by decide +kernel
theorem dX9_isLess_66 : decode cX9_isLess 66 = .ok (.irem, 1) := by decide +kernel
theorem dX9_isLess_67 : decode cX9_isLess 67 = .ok (.iaload, 1) := by decide +kernel
theorem dX9_isLess_68 : decode cX9_isLess 68 = .ok (.aload_n 0, 1) := by decide +kernel
theorem dX9_isLess_69 : decode cX9_isLess 69 = .ok (.getfield 32, 3) := by decide +kernel
theorem dX9_isLess_72 : decode cX9_isLess 72 = .ok (.iload_n 2, 1) := by decide +kernel
theorem dX9_isLess_73 : decode cX9_isLess 73 = .ok (.iload 5, 2) := by decide +kernel
theorem dX9_isLess_75 : decode cX9_isLess 75 = .ok (.iadd, 1) := by decide +kernel
theorem dX9_isLess_76 : decode cX9_isLess 76 = .ok (.iload_n 3, 1) := by decide +kernel
theorem dX9_isLess_77 : decode cX9_isLess 77 = .ok (.irem, 1) := by decide +kernel
theorem dX9_isLess_78 : decode cX9_isLess 78 = .ok (.iaload, 1) := by decide +kernel
theorem dX9_isLess_79 : decode cX9_isLess 79 = .ok (.if_icmp .ge 7, 3) := by decide +kernel
theorem dX9_isLess_82 : decode cX9_isLess 82 = .ok (.iconst 1, 1) := by decide +kernel
theorem dX9_isLess_83 : decode cX9_isLess 83 = .ok (.goto 4, 3) := by decide +kernel
theorem dX9_isLess_86 : decode cX9_isLess 86 = .ok (.iconst 0, 1) := by decide +kernel
theorem dX9_isLess_87 : decode cX9_isLess 87 = .ok (.iload 4, 2) := by decide +kernel
theorem dX9_isLess_89 : decode cX9_isLess 89 = .ok (.if_icmp .ne 7, 3) := by decide +kernel
theorem dX9_isLess_92 : decode cX9_isLess 92 = .ok (.iconst 1, 1) := by decide +kernel
theorem dX9_isLess_93 : decode cX9_isLess 93 = .ok (.goto 4, 3) := by decide +kernel
theorem dX9_isLess_96 : decode cX9_isLess 96 = .ok (.iconst 0, 1) := by decide +kernel
theorem dX9_isLess_97 : decode cX9_isLess 97 = .ok (.ireturn, 1) := by decide +kernel
set_option maxRecDepth 20000 in
theorem ggX9_goes_X9_pieces : GoodIn wsX9_goes wsX9_pieces := goodIn_r _ [7, 8, 9, 47, 48, 49, 50, 51, 52, 53, 54, 55, 56, 57, 58, 59, 60, 61, 62, 63, 64, 65, 66, 67, 68, 69, 70] (by decide +kernel) (by decide +kernel)
set_option maxRecDepth 20000 in
theorem gX9_goes_X9_pieces : GoodIn wsX9_goes (wsV RX9 120 RX9 yX9_pieces wsX9_pieces) := goodIn_app (goodIn_of _ (by decide +kernel)) ggX9_goes_X9_pieces
set_option maxRecDepth 20000 in
theorem ggX9_goes_X9_coversOf : GoodIn wsX9_goes wsX9_coversOf := goodIn_r _ [13, 14, 9, 8, 15, 16, 17, 18, 19, 20, 21, 47, 48, 49, 50, 51, 52, 53, 54, 55, 56, 57, 58, 59, 60, 61, 62, 63, 64, 65, 66, 67, 68, 69, 70] (by decide +kernel) (by decide +kernel)
set_option maxRecDepth 20000 in
theorem gX9_goes_X9_coversOf : GoodIn wsX9_goes (wsV RX9 127 RX9 yX9_coversOf wsX9_coversOf) := goodIn_app (goodIn_of _ (by decide +kernel)) ggX9_goes_X9_coversOf
set_option maxRecDepth 20000 in
theorem ggX9_goes_X9_goes : GoodIn wsX9_goes wsX9_goes := goodIn_r _ [0, 1, 2, 3, 4, 5, 6, 7, 8, 9, 10, 11, 12, 13, 14, 15, 16, 17, 18, 19, 20, 21, 22, 23, 24, 25, 26, 27, 28, 29, 30, 31, 32, 33, 34, 35, 36, 37, 38, 39, 40, 41, 42, 43, 44, 45, 46, 47, 48, 49, 50, 51, 52, 53, 54, 55, 56, 57, 58, 59, 60, 61, 62, 63, 64, 65, 66, 67, 68, 69, 70] (by decide +kernel) (by decide +kernel)
set_option maxRecDepth 20000 in
theorem gX9_goes_X9_goes : GoodIn wsX9_goes (wsV RX9 174 RX9 yX9_goes wsX9_goes) := goodIn_app (goodIn_of _ (by decide +kernel)) ggX9_goes_X9_goes
set_option maxRecDepth 20000 in
theorem ggX9_goes_X9_isSimple : GoodIn wsX9_goes wsX9_isSimple := goodIn_r _ [28, 1, 47, 48, 49, 50, 51, 52, 53, 54, 55, 56, 57, 58, 59, 60, 61, 62, 63, 64, 65, 66, 67, 68, 69, 70] (by decide +kernel) (by decide +kernel)
set_option maxRecDepth 20000 in
theorem gX9_goes_X9_isSimple : GoodIn wsX9_goes (wsV RX9 178 RX9 yX9_isSimple wsX9_isSimple) := goodIn_app (goodIn_of _ (by decide +kernel)) ggX9_goes_X9_isSimple
set_option maxRecDepth 20000 in
theorem ggX9_goes_X9_isLess : GoodIn wsX9_goes wsX9_isLess := goodIn_r _ [32, 1, 33, 34, 35, 6, 36, 8, 14, 47, 48, 49, 50, 51, 52, 53, 54, 55, 56, 57, 58, 59, 60, 61, 62, 63, 64, 65, 66, 67, 68, 69, 70] (by decide +kernel) (by decide +kernel)
set_option maxRecDepth 20000 in
theorem gX9_goes_X9_isLess : GoodIn wsX9_goes (wsV RX9 181 RX9 yX9_isLess wsX9_isLess) := goodIn_app (goodIn_of _ (by decide +kernel)) ggX9_goes_X9_isLess
set_option maxRecDepth 20000 in
theorem ggX9_goes_X9_comesBy : GoodIn wsX9_goes wsX9_comesBy := goodIn_r _ [40, 2, 41, 42, 43, 6, 44, 45, 46, 47, 48, 49, 50, 51, 52, 53, 54, 55, 56, 57, 58, 59, 60, 61, 62, 63, 64, 65, 66, 67, 68, 69, 70] (by decide +kernel) (by decide +kernel)
set_option maxRecDepth 20000 in
theorem gX9_goes_X9_comesBy : GoodIn wsX9_goes (wsV RX9 185 RX9 yX9_comesBy wsX9_comesBy) := goodIn_app (goodIn_of _ (by decide +kernel)) ggX9_goes_X9_comesBy
theorem dX9_goes_0 : decode cX9_goes 0 = .ok (.iload_n 1, 1) := by decide +kernel
theorem dX9_goes_1 : decode cX9_goes 1 = .ok (.iload_n 2, 1) := by decide +kernel
theorem dX9_goes_2 : decode cX9_goes 2 = .ok (.if_icmp .ge 58, 3) := by decide +kernel
theorem dX9_goes_5 : decode cX9_goes 5 = .ok (.iconst 0, 1) := by decide +kernel
theorem dX9_goes_6 : decode cX9_goes 6 = .ok (.istore_n 3, 1) := by decide +kernel
theorem dX9_goes_7 : decode cX9_goes 7 = .ok (.iload_n 3, 1) := by decide +kernel
theorem dX9_goes_8 : decode cX9_goes 8 = .ok (.aload_n 0, 1) := by decide +kernel
theorem dX9_goes_9 : decode cX9_goes 9 = .ok (.invokevirtual 120, 3) := by decide +kernel
theorem dX9_goes_12 : decode cX9_goes 12 = .ok (.if_icmp .ge 47, 3) := by decide +kernel
theorem dX9_goes_15 : decode cX9_goes 15 = .ok (.iload_n 1, 1) := by decide +kernel
theorem dX9_goes_16 : decode cX9_goes 16 = .ok (.ifCond .eq 22, 3) := by decide +kernel
theorem dX9_goes_19 : decode cX9_goes 19 = .ok (.aload_n 0, 1) := by decide +kernel
theorem dX9_goes_20 : decode cX9_goes 20 = .ok (.aload_n 0, 1) := by decide +kernel
theorem dX9_goes_21 : decode cX9_goes 21 = .ok (.getfield 32, 3) := by decide +kernel
theorem dX9_goes_24 : decode cX9_goes 24 = .ok (.iload_n 1, 1) := by decide +kernel
theorem dX9_goes_25 : decode cX9_goes 25 = .ok (.iconst 1, 1) := by decide +kernel
theorem dX9_goes_26 : decode cX9_goes 26 = .ok (.isub, 1) := by decide +kernel
theorem dX9_goes_27 : decode cX9_goes 27 = .ok (.iaload, 1) := by decide +kernel
theorem dX9_goes_28 : decode cX9_goes 28 = .ok (.invokevirtual 127, 3) := by decide +kernel
theorem dX9_goes_31 : decode cX9_goes 31 = .ok (.iload_n 3, 1) := by decide +kernel
theorem dX9_goes_32 : decode cX9_goes 32 = .ok (.ishr, 1) := by decide +kernel
theorem dX9_goes_33 : decode cX9_goes 33 = .ok (.iconst 1, 1) := by decide +kernel
theorem dX9_goes_34 : decode cX9_goes 34 = .ok (.iand, 1) := by decide +kernel
theorem dX9_goes_35 : decode cX9_goes 35 = .ok (.ifCond .eq 18, 3) := by decide +kernel
theorem dX9_goes_38 : decode cX9_goes 38 = .ok (.aload_n 0, 1) := by decide +kernel
theorem dX9_goes_39 : decode cX9_goes 39 = .ok (.getfield 32, 3) := by decide +kernel
theorem dX9_goes_42 : decode cX9_goes 42 = .ok (.iload_n 1, 1) := by decide +kernel
theorem dX9_goes_43 : decode cX9_goes 43 = .ok (.iload_n 3, 1) := by decide +kernel
theorem dX9_goes_44 : decode cX9_goes 44 = .ok (.iastore, 1) := by decide +kernel
theorem dX9_goes_45 : decode cX9_goes 45 = .ok (.aload_n 0, 1) := by decide +kernel
theorem dX9_goes_46 : decode cX9_goes 46 = .ok (.iload_n 1, 1) := by decide +kernel
theorem dX9_goes_47 : decode cX9_goes 47 = .ok (.iconst 1, 1) := by decide +kernel
theorem dX9_goes_48 : decode cX9_goes 48 = .ok (.iadd, 1) := by decide +kernel
theorem dX9_goes_49 : decode cX9_goes 49 = .ok (.iload_n 2, 1) := by decide +kernel
theorem dX9_goes_50 : decode cX9_goes 50 = .ok (.invokevirtual 174, 3) := by decide +kernel
theorem dX9_goes_53 : decode cX9_goes 53 = .ok (.iinc 3 1, 3) := by decide +kernel
theorem dX9_goes_56 : decode cX9_goes 56 = .ok (.goto (-49), 3) := by decide +kernel
theorem dX9_goes_59 : decode cX9_goes 59 = .ok (.return_, 1) := by decide +kernel
theorem dX9_goes_60 : decode cX9_goes 60 = .ok (.aload_n 0, 1) := by decide +kernel
theorem dX9_goes_61 : decode cX9_goes 61 = .ok (.aload_n 0, 1) := by decide +kernel
theorem dX9_goes_62 : decode cX9_goes 62 = .ok (.getfield 32, 3) := by decide +kernel
theorem dX9_goes_65 : decode cX9_goes 65 = .ok (.iload_n 2, 1) := by decide +kernel
theorem dX9_goes_66 : decode cX9_goes 66 = .ok (.iconst 1, 1) := by decide +kernel
theorem dX9_goes_67 : decode cX9_goes 67 = .ok (.isub, 1) := by decide +kernel
theorem dX9_goes_68 : decode cX9_goes 68 = .ok (.iaload, 1) := by decide +kernel
theorem dX9_goes_69 : decode cX9_goes 69 = .ok (.invokevirtual 127, 3) := by decide +kernel
theorem dX9_goes_72 : decode cX9_goes 72 = .ok (.aload_n 0, 1) := by decide +kernel
theorem dX9_goes_73 : decode cX9_goes 73 = .ok (.getfield 32, 3) := by decide +kernel
theorem dX9_goes_76 : decode cX9_goes 76 = .ok (.iconst 0, 1) := by decide +kernel
theorem dX9_goes_77 : decode cX9_goes 77 = .ok (.iaload, 1) := by decide +kernel
theorem dX9_goes_78 : decode cX9_goes 78 = .ok (.ishr, 1) := by decide +kernel
theorem dX9_goes_79 : decode cX9_goes 79 = .ok (.iconst 1, 1) := by decide +kernel
theorem dX9_goes_80 : decode cX9_goes 80 = .ok (.iand, 1) := by decide +kernel
theorem dX9_goes_81 : decode cX9_goes 81 = .ok (.ifCond .eq 11, 3) := by decide +kernel
theorem dX9_goes_84 : decode cX9_goes 84 = .ok (.aload_n 0, 1) := by decide +kernel
theorem dX9_goes_85 : decode cX9_goes 85 = .ok (.iload_n 2, 1) := by decide +kernel
theorem dX9_goes_86 : decode cX9_goes 86 = .ok (.invokevirtual 178, 3) := by decide +kernel
theorem dX9_goes_89 : decode cX9_goes 89 = .ok (.ifCond .ne 4, 3) := by decide +kernel
theorem dX9_goes_92 : decode cX9_goes 92 = .ok (.return_, 1) := by decide +kernel
theorem dX9_goes_93 : decode cX9_goes 93 = .ok (.iconst 0, 1) := by decide +kernel
theorem dX9_goes_94 : decode cX9_goes 94 = .ok (.istore_n 3, 1) := by decide +kernel
theorem dX9_goes_95 : decode cX9_goes 95 = .ok (.iload_n 3, 1) := by decide +kernel
theorem dX9_goes_96 : decode cX9_goes 96 = .ok (.iload_n 2, 1) := by decide +kernel
theorem dX9_goes_97 : decode cX9_goes 97 = .ok (.if_icmp .ge 62, 3) := by decide +kernel
theorem dX9_goes_100 : decode cX9_goes 100 = .ok (.aload_n 0, 1) := by decide +kernel
theorem dX9_goes_101 : decode cX9_goes 101 = .ok (.getfield 35, 3) := by decide +kernel
theorem dX9_goes_104 : decode cX9_goes 104 = .ok (.iload_n 3, 1) := by decide +kernel
theorem dX9_goes_105 : decode cX9_goes 105 = .ok (.iconst 0, 1) := by decide +kernel
theorem dX9_goes_106 : decode cX9_goes 106 = .ok (.iastore, 1) := by decide +kernel
theorem dX9_goes_107 : decode cX9_goes 107 = .ok (.iconst 0, 1) := by decide +kernel
theorem dX9_goes_108 : decode cX9_goes 108 = .ok (.istore 4, 2) := by decide +kernel
theorem dX9_goes_110 : decode cX9_goes 110 = .ok (.iload 4, 2) := by decide +kernel
theorem dX9_goes_112 : decode cX9_goes 112 = .ok (.iload_n 2, 1) := by decide +kernel
theorem dX9_goes_113 : decode cX9_goes 113 = .ok (.if_icmp .ge 40, 3) := by decide +kernel
theorem dX9_goes_116 : decode cX9_goes 116 = .ok (.aload_n 0, 1) := by decide +kernel
theorem dX9_goes_117 : decode cX9_goes 117 = .ok (.getfield 35, 3) := by decide +kernel
theorem dX9_goes_120 : decode cX9_goes 120 = .ok (.iload_n 3, 1) := by decide +kernel
theorem dX9_goes_121 : decode cX9_goes 121 = .ok (.dup2, 1) := by decide +kernel
theorem dX9_goes_122 : decode cX9_goes 122 = .ok (.iaload, 1) := by decide +kernel
theorem dX9_goes_123 : decode cX9_goes 123 = .ok (.iload 4, 2) := by decide +kernel
theorem dX9_goes_125 : decode cX9_goes 125 = .ok (.iload_n 3, 1) := by decide +kernel
theorem dX9_goes_126 : decode cX9_goes 126 = .ok (.if_icmp .eq 18, 3) := by decide +kernel
theorem dX9_goes_129 : decode cX9_goes 129 = .ok (.aload_n 0, 1) := by decide +kernel
theorem dX9_goes_130 : decode cX9_goes 130 = .ok (.iload 4, 2) := by decide +kernel
theorem dX9_goes_132 : decode cX9_goes 132 = .ok (.iload_n 3, 1) := by decide +kernel
theorem dX9_goes_133 : decode cX9_goes 133 = .ok (.iload_n 2, 1) := by decide +kernel
theorem dX9_goes_134 : decode cX9_goes 134 = .ok (.invokevirtual 181, 3) := by decide +kernel
theorem dX9_goes_137 : decode cX9_goes 137 = .ok (.ifCond .eq 7, 3) := by decide +kernel
theorem dX9_goes_140 : decode cX9_goes 140 = .ok (.iconst 1, 1) := by decide +kernel
theorem dX9_goes_141 : decode cX9_goes 141 = .ok (.goto 4, 3) := by decide +kernel
theorem dX9_goes_144 : decode cX9_goes 144 = .ok (.iconst 0, 1) := by decide +kernel
theorem dX9_goes_145 : decode cX9_goes 145 = .ok (.iadd, 1) := by decide +kernel
theorem dX9_goes_146 : decode cX9_goes 146 = .ok (.iastore, 1) := by decide +kernel
theorem dX9_goes_147 : decode cX9_goes 147 = .ok (.iinc 4 1, 3) := by decide +kernel
theorem dX9_goes_150 : decode cX9_goes 150 = .ok (.goto (-40), 3) := by decide +kernel
theorem dX9_goes_153 : decode cX9_goes 153 = .ok (.iinc 3 1, 3) := by decide +kernel
theorem dX9_goes_156 : decode cX9_goes 156 = .ok (.goto (-61), 3) := by decide +kernel
theorem dX9_goes_159 : decode cX9_goes 159 = .ok (.aload_n 0, 1) := by decide +kernel
theorem dX9_goes_160 : decode cX9_goes 160 = .ok (.iload_n 2, 1) := by decide +kernel
theorem dX9_goes_161 : decode cX9_goes 161 = .ok (.invokevirtual 185, 3) := by decide +kernel
theorem dX9_goes_164 : decode cX9_goes 164 = .ok (.return_, 1) := by decide +kernel
set_option maxRecDepth 20000 in
theorem ggX9_tellsPatterns_X9_goes : GoodIn wsX9_tellsPatterns wsX9_goes := goodIn_r _ [8, 9, 2, 10, 11, 12, 7, 13, 14, 15, 16, 17, 18, 19, 3, 20, 21, 22, 23, 24, 25, 26, 4, 5, 6, 27, 28, 29, 30, 31, 32, 33, 34, 35, 36, 37, 38, 39, 40, 41, 42, 43, 44, 45, 46, 1, 47, 71, 72, 73, 74, 75, 76, 77, 78, 79, 80, 81, 82, 83, 84, 85, 86, 87, 88, 89, 90, 91, 92, 93, 94] (by decide +kernel) (by decide +kernel)
set_option maxRecDepth 20000 in
theorem gX9_tellsPatterns_X9_goes : GoodIn wsX9_tellsPatterns (wsV RX9 174 RX9 yX9_goes wsX9_goes) := goodIn_app (goodIn_of _ (by decide +kernel)) ggX9_tellsPatterns_X9_goes
set_option maxRecDepth 20000 in
theorem ggX9_tellsPatterns_X9_ringAt : GoodIn wsX9_tellsPatterns wsX9_ringAt := goodIn_r _ [51, 15, 52, 53, 54, 7, 55, 3, 56, 57, 58, 59, 60, 61, 62, 63, 64, 71, 72, 73, 74, 75, 76, 77, 78, 79, 80, 81, 82, 83, 84, 85, 86, 87, 88, 89, 90, 91, 92, 93, 94] (by decide +kernel) (by decide +kernel)
set_option maxRecDepth 20000 in
theorem gX9_tellsPatterns_X9_ringAt : GoodIn wsX9_tellsPatterns (wsV RX9 103 RX9 yX9_ringAt wsX9_ringAt) := goodIn_app (goodIn_of _ (by decide +kernel)) ggX9_tellsPatterns_X9_ringAt
set_option maxRecDepth 20000 in
theorem ggX9_tellsPatterns_J6_bitCount_0f7a4 : GoodIn wsX9_tellsPatterns wsJ6_bitCount_0f7a4 := goodIn_r _ [67, 68, 69, 70] (by decide +kernel) (by decide +kernel)
set_option maxRecDepth 20000 in
theorem gX9_tellsPatterns_J6_bitCount_0f7a4 : GoodIn wsX9_tellsPatterns (va_wsS RX9 95 yJ6_bitCount_0f7a4 wsJ6_bitCount_0f7a4) := goodIn_app (goodIn_of _ (by decide +kernel)) ggX9_tellsPatterns_J6_bitCount_0f7a4
set_option maxRecDepth 20000 in
theorem ggX9_tellsPatterns_J6_numberOfTrailingZeros_0f7a4 : GoodIn wsX9_tellsPatterns wsJ6_numberOfTrailingZeros_0f7a4 := goodIn_r _ [63, 64] (by decide +kernel) (by decide +kernel)
set_option maxRecDepth 20000 in
theorem gX9_tellsPatterns_J6_numberOfTrailingZeros_0f7a4 : GoodIn wsX9_tellsPatterns (va_wsS RX9 100 yJ6_numberOfTrailingZeros_0f7a4 wsJ6_numberOfTrailingZeros_0f7a4) := goodIn_app (goodIn_of _ (by decide +kernel)) ggX9_tellsPatterns_J6_numberOfTrailingZeros_0f7a4
set_option maxRecDepth 20000 in
theorem ggX9_tellsPatterns_X9_comesBy : GoodIn wsX9_tellsPatterns wsX9_comesBy := goodIn_r _ [42, 2, 43, 44, 45, 7, 46, 1, 47, 71, 72, 73, 74, 75, 76, 77, 78, 79, 80, 81, 82, 83, 84, 85, 86, 87, 88, 89, 90, 91, 92, 93, 94] (by decide +kernel) (by decide +kernel)
set_option maxRecDepth 20000 in
theorem gX9_tellsPatterns_X9_comesBy : GoodIn wsX9_tellsPatterns (wsV RX9 185 RX9 yX9_comesBy wsX9_comesBy) := goodIn_app (goodIn_of _ (by decide +kernel)) ggX9_tellsPatterns_X9_comesBy
theorem dX9_tellsPatterns_0 : decode cX9_tellsPatterns 0 = .ok (.aload_n 0, 1) := by decide +kernel
theorem dX9_tellsPatterns_1 : decode cX9_tellsPatterns 1 = .ok (.iconst 0, 1) := by decide +kernel
theorem dX9_tellsPatterns_2 : decode cX9_tellsPatterns 2 = .ok (.putfield 168, 3) := by decide +kernel
theorem dX9_tellsPatterns_5 : decode cX9_tellsPatterns 5 = .ok (.aload_n 0, 1) := by decide +kernel
theorem dX9_tellsPatterns_6 : decode cX9_tellsPatterns 6 = .ok (.iconst 0, 1) := by decide +kernel
theorem dX9_tellsPatterns_7 : decode cX9_tellsPatterns 7 = .ok (.iload_n 1, 1) := by decide +kernel
theorem dX9_tellsPatterns_8 : decode cX9_tellsPatterns 8 = .ok (.invokevirtual 174, 3) := by decide +kernel
theorem dX9_tellsPatterns_11 : decode cX9_tellsPatterns 11 = .ok (.iconst 0, 1) := by decide +kernel
theorem dX9_tellsPatterns_12 : decode cX9_tellsPatterns 12 = .ok (.istore_n 2, 1) := by decide +kernel
theorem dX9_tellsPatterns_13 : decode cX9_tellsPatterns 13 = .ok (.aload_n 0, 1) := by decide +kernel
theorem dX9_tellsPatterns_14 : decode cX9_tellsPatterns 14 = .ok (.iload_n 2, 1) := by decide +kernel
theorem dX9_tellsPatterns_15 : decode cX9_tellsPatterns 15 = .ok (.invokevirtual 103, 3) := by decide +kernel
theorem dX9_tellsPatterns_18 : decode cX9_tellsPatterns 18 = .ok (.ifCond .eq 76, 3) := by decide +kernel
theorem dX9_tellsPatterns_21 : decode cX9_tellsPatterns 21 = .ok (.aload_n 0, 1) := by decide +kernel
theorem dX9_tellsPatterns_22 : decode cX9_tellsPatterns 22 = .ok (.iload_n 2, 1) := by decide +kernel
theorem dX9_tellsPatterns_23 : decode cX9_tellsPatterns 23 = .ok (.invokevirtual 103, 3) := by decide +kernel
theorem dX9_tellsPatterns_26 : decode cX9_tellsPatterns 26 = .ok (.istore_n 3, 1) := by decide +kernel
theorem dX9_tellsPatterns_27 : decode cX9_tellsPatterns 27 = .ok (.iload_n 3, 1) := by decide +kernel
theorem dX9_tellsPatterns_28 : decode cX9_tellsPatterns 28 = .ok (.invokestatic 95, 3) := by decide +kernel
theorem dX9_tellsPatterns_31 : decode cX9_tellsPatterns 31 = .ok (.iload_n 1, 1) := by decide +kernel
theorem dX9_tellsPatterns_32 : decode cX9_tellsPatterns 32 = .ok (.if_icmp .ne 56, 3) := by decide +kernel
theorem dX9_tellsPatterns_35 : decode cX9_tellsPatterns 35 = .ok (.iload_n 3, 1) := by decide +kernel
theorem dX9_tellsPatterns_36 : decode cX9_tellsPatterns 36 = .ok (.invokestatic 100, 3) := by decide +kernel
theorem dX9_tellsPatterns_39 : decode cX9_tellsPatterns 39 = .ok (.istore 4, 2) := by decide +kernel
theorem dX9_tellsPatterns_41 : decode cX9_tellsPatterns 41 = .ok (.iconst 0, 1) := by decide +kernel
theorem dX9_tellsPatterns_42 : decode cX9_tellsPatterns 42 = .ok (.istore 5, 2) := by decide +kernel
theorem dX9_tellsPatterns_44 : decode cX9_tellsPatterns 44 = .ok (.iload 5, 2) := by decide +kernel
theorem dX9_tellsPatterns_46 : decode cX9_tellsPatterns 46 = .ok (.iload_n 1, 1) := by decide +kernel
theorem dX9_tellsPatterns_47 : decode cX9_tellsPatterns 47 = .ok (.if_icmp .ge 36, 3) := by decide +kernel
theorem dX9_tellsPatterns_50 : decode cX9_tellsPatterns 50 = .ok (.aload_n 0, 1) := by decide +kernel
theorem dX9_tellsPatterns_51 : decode cX9_tellsPatterns 51 = .ok (.getfield 35, 3) := by decide +kernel
theorem dX9_tellsPatterns_54 : decode cX9_tellsPatterns 54 = .ok (.iload 5, 2) := by decide +kernel
theorem dX9_tellsPatterns_56 : decode cX9_tellsPatterns 56 = .ok (.iload_n 3, 1) := by decide +kernel
theorem dX9_tellsPatterns_57 : decode cX9_tellsPatterns 57 = .ok (.iconst 1, 1) := by decide +kernel
theorem dX9_tellsPatterns_58 : decode cX9_tellsPatterns 58 = .ok (.iload 4, 2) := by decide +kernel
theorem dX9_tellsPatterns_60 : decode cX9_tellsPatterns 60 = .ok (.ishl, 1) := by decide +kernel
theorem dX9_tellsPatterns_61 : decode cX9_tellsPatterns 61 = .ok (.iconst 1, 1) := by decide +kernel
theorem dX9_tellsPatterns_62 : decode cX9_tellsPatterns 62 = .ok (.isub, 1) := by decide +kernel
theorem dX9_tellsPatterns_63 : decode cX9_tellsPatterns 63 = .ok (.iand, 1) := by decide +kernel
theorem dX9_tellsPatterns_64 : decode cX9_tellsPatterns 64 = .ok (.invokestatic 95, 3) := by decide +kernel
theorem dX9_tellsPatterns_67 : decode cX9_tellsPatterns 67 = .ok (.iastore, 1) := by decide +kernel
theorem dX9_tellsPatterns_68 : decode cX9_tellsPatterns 68 = .ok (.aload_n 0, 1) := by decide +kernel
theorem dX9_tellsPatterns_69 : decode cX9_tellsPatterns 69 = .ok (.getfield 15, 3) := by decide +kernel
theorem dX9_tellsPatterns_72 : decode cX9_tellsPatterns 72 = .ok (.iload 4, 2) := by decide +kernel
theorem dX9_tellsPatterns_74 : decode cX9_tellsPatterns 74 = .ok (.iaload, 1) := by decide +kernel
theorem dX9_tellsPatterns_75 : decode cX9_tellsPatterns 75 = .ok (.istore 4, 2) := by decide +kernel
theorem dX9_tellsPatterns_77 : decode cX9_tellsPatterns 77 = .ok (.iinc 5 1, 3) := by decide +kernel
theorem dX9_tellsPatterns_80 : decode cX9_tellsPatterns 80 = .ok (.goto (-36), 3) := by decide +kernel
theorem dX9_tellsPatterns_83 : decode cX9_tellsPatterns 83 = .ok (.aload_n 0, 1) := by decide +kernel
theorem dX9_tellsPatterns_84 : decode cX9_tellsPatterns 84 = .ok (.iload_n 1, 1) := by decide +kernel
theorem dX9_tellsPatterns_85 : decode cX9_tellsPatterns 85 = .ok (.invokevirtual 185, 3) := by decide +kernel
theorem dX9_tellsPatterns_88 : decode cX9_tellsPatterns 88 = .ok (.iinc 2 1, 3) := by decide +kernel
theorem dX9_tellsPatterns_91 : decode cX9_tellsPatterns 91 = .ok (.goto (-78), 3) := by decide +kernel
theorem dX9_tellsPatterns_94 : decode cX9_tellsPatterns 94 = .ok (.return_, 1) := by decide +kernel
set_option maxRecDepth 20000 in
theorem ggX9_pattern_X9_in : GoodIn wsX9_pattern wsX9_in := goodIn_r _ [9] (by decide +kernel) (by decide +kernel)
set_option maxRecDepth 20000 in
theorem gX9_pattern_X9_in : GoodIn wsX9_pattern (va_wsS RX9 62 yX9_in wsX9_in) := goodIn_app (goodIn_of _ (by decide +kernel)) ggX9_pattern_X9_in
set_option maxRecDepth 20000 in
theorem ggX9_pattern_X9_tellsPatterns : GoodIn wsX9_pattern wsX9_tellsPatterns := goodIn_r _ [13, 4, 14, 15, 16, 17, 18, 8, 19, 20, 21, 22, 23, 24, 3, 25, 26, 27, 28, 29, 30, 31, 32, 33, 34, 35, 36, 37, 38, 39, 40, 41, 42, 43, 44, 45, 46, 47, 48, 49, 50, 51, 52, 53, 54, 55, 56, 5, 57, 58, 59, 60, 61, 62, 63, 64, 65, 66, 67, 68, 69, 70, 71, 72, 73, 74, 75, 76, 77, 78, 79, 80, 81, 82, 83, 84, 85, 86, 87, 88, 89, 90, 91, 92, 93, 94, 95, 96, 97, 98, 99, 100, 101, 102, 103] (by decide +kernel) (by decide +kernel)
set_option maxRecDepth 20000 in
theorem gX9_pattern_X9_tellsPatterns : GoodIn wsX9_pattern (wsV RX9 190 RX9 yX9_tellsPatterns wsX9_tellsPatterns) := goodIn_app (goodIn_of _ (by decide +kernel)) ggX9_pattern_X9_tellsPatterns
theorem dX9_pattern_0 : decode cX9_pattern 0 = .ok (.iload_n 1, 1) := by decide +kernel
theorem dX9_pattern_1 : decode cX9_pattern 1 = .ok (.i2l, 1) := by decide +kernel
theorem dX9_pattern_2 : decode cX9_pattern 2 = .ok (.ldc2_w 69, 3) := by decide +kernel
theorem dX9_pattern_5 : decode cX9_pattern 5 = .ok (.ldc2_w 188, 3) := by decide +kernel
theorem dX9_pattern_8 : decode cX9_pattern 8 = .ok (.invokestatic 62, 3) := by decide +kernel
theorem dX9_pattern_11 : decode cX9_pattern 11 = .ok (.ifCond .eq 8, 3) := by decide +kernel
theorem dX9_pattern_14 : decode cX9_pattern 14 = .ok (.iload_n 2, 1) := by decide +kernel
theorem dX9_pattern_15 : decode cX9_pattern 15 = .ok (.iconst (-1), 1) := by decide +kernel
theorem dX9_pattern_16 : decode cX9_pattern 16 = .ok (.if_icmp .ge 6, 3) := by decide +kernel
theorem dX9_pattern_19 : decode cX9_pattern 19 = .ok (.bipush (-2), 2) := by decide +kernel
theorem dX9_pattern_21 : decode cX9_pattern 21 = .ok (.ireturn, 1) := by decide +kernel
theorem dX9_pattern_22 : decode cX9_pattern 22 = .ok (.aload_n 0, 1) := by decide +kernel
theorem dX9_pattern_23 : decode cX9_pattern 23 = .ok (.getfield 73, 3) := by decide +kernel
theorem dX9_pattern_26 : decode cX9_pattern 26 = .ok (.iconst 1, 1) := by decide +kernel
theorem dX9_pattern_27 : decode cX9_pattern 27 = .ok (.if_icmp .ne 6, 3) := by decide +kernel
theorem dX9_pattern_30 : decode cX9_pattern 30 = .ok (.bipush (-3), 2) := by decide +kernel
theorem dX9_pattern_32 : decode cX9_pattern 32 = .ok (.ireturn, 1) := by decide +kernel
theorem dX9_pattern_33 : decode cX9_pattern 33 = .ok (.aload_n 0, 1) := by decide +kernel
theorem dX9_pattern_34 : decode cX9_pattern 34 = .ok (.iload_n 1, 1) := by decide +kernel
theorem dX9_pattern_35 : decode cX9_pattern 35 = .ok (.invokevirtual 190, 3) := by decide +kernel
theorem dX9_pattern_38 : decode cX9_pattern 38 = .ok (.iload_n 2, 1) := by decide +kernel
theorem dX9_pattern_39 : decode cX9_pattern 39 = .ok (.iconst (-1), 1) := by decide +kernel
theorem dX9_pattern_40 : decode cX9_pattern 40 = .ok (.if_icmp .ne 10, 3) := by decide +kernel
theorem dX9_pattern_43 : decode cX9_pattern 43 = .ok (.aload_n 0, 1) := by decide +kernel
theorem dX9_pattern_44 : decode cX9_pattern 44 = .ok (.getfield 168, 3) := by decide +kernel
theorem dX9_pattern_47 : decode cX9_pattern 47 = .ok (.goto 21, 3) := by decide +kernel
theorem dX9_pattern_50 : decode cX9_pattern 50 = .ok (.iload_n 2, 1) := by decide +kernel
theorem dX9_pattern_51 : decode cX9_pattern 51 = .ok (.aload_n 0, 1) := by decide +kernel
theorem dX9_pattern_52 : decode cX9_pattern 52 = .ok (.getfield 168, 3) := by decide +kernel
theorem dX9_pattern_55 : decode cX9_pattern 55 = .ok (.if_icmp .ge 12, 3) := by decide +kernel
theorem dX9_pattern_58 : decode cX9_pattern 58 = .ok (.aload_n 0, 1) := by decide +kernel
theorem dX9_pattern_59 : decode cX9_pattern 59 = .ok (.getfield 29, 3) := by decide +kernel
theorem dX9_pattern_62 : decode cX9_pattern 62 = .ok (.iload_n 2, 1) := by decide +kernel
theorem dX9_pattern_63 : decode cX9_pattern 63 = .ok (.iaload, 1) := by decide +kernel
theorem dX9_pattern_64 : decode cX9_pattern 64 = .ok (.goto 4, 3) := by decide +kernel
theorem dX9_pattern_67 : decode cX9_pattern 67 = .ok (.iconst (-1), 1) := by decide +kernel
theorem dX9_pattern_68 : decode cX9_pattern 68 = .ok (.ireturn, 1) := by decide +kernel
set_option maxRecDepth 20000 in
theorem ggX9_has_X9_in : GoodIn wsX9_has wsX9_in := goodIn_r _ [9] (by decide +kernel) (by decide +kernel)
set_option maxRecDepth 20000 in
theorem gX9_has_X9_in : GoodIn wsX9_has (va_wsS RX9 62 yX9_in wsX9_in) := goodIn_app (goodIn_of _ (by decide +kernel)) ggX9_has_X9_in
set_option maxRecDepth 20000 in
theorem ggX9_has_X9_tellsPatterns : GoodIn wsX9_has wsX9_tellsPatterns := goodIn_r _ [13, 4, 14, 15, 16, 17, 18, 8, 19, 20, 21, 22, 23, 24, 3, 25, 26, 27, 28, 29, 30, 31, 32, 33, 34, 35, 36, 37, 38, 39, 40, 41, 42, 43, 44, 45, 46, 47, 48, 49, 50, 51, 52, 53, 54, 55, 56, 5, 57, 58, 59, 60, 61, 62, 63, 64, 65, 66, 67, 68, 69, 70, 71, 72, 73, 74, 75, 76, 77, 78, 79, 80, 81, 82, 83, 84, 85, 86, 87, 88, 89, 90, 91, 92, 93, 94, 95, 96, 97, 98, 99, 100, 101, 102, 103] (by decide +kernel) (by decide +kernel)
set_option maxRecDepth 20000 in
theorem gX9_has_X9_tellsPatterns : GoodIn wsX9_has (wsV RX9 190 RX9 yX9_tellsPatterns wsX9_tellsPatterns) := goodIn_app (goodIn_of _ (by decide +kernel)) ggX9_has_X9_tellsPatterns
theorem dX9_has_0 : decode cX9_has 0 = .ok (.iload_n 1, 1) := by decide +kernel
theorem dX9_has_1 : decode cX9_has 1 = .ok (.i2l, 1) := by decide +kernel
theorem dX9_has_2 : decode cX9_has 2 = .ok (.ldc2_w 69, 3) := by decide +kernel
theorem dX9_has_5 : decode cX9_has 5 = .ok (.ldc2_w 188, 3) := by decide +kernel
theorem dX9_has_8 : decode cX9_has 8 = .ok (.invokestatic 62, 3) := by decide +kernel
theorem dX9_has_11 : decode cX9_has 11 = .ok (.ifCond .ne 6, 3) := by decide +kernel
theorem dX9_has_14 : decode cX9_has 14 = .ok (.bipush (-2), 2) := by decide +kernel
theorem dX9_has_16 : decode cX9_has 16 = .ok (.ireturn, 1) := by decide +kernel
theorem dX9_has_17 : decode cX9_has 17 = .ok (.aload_n 0, 1) := by decide +kernel
theorem dX9_has_18 : decode cX9_has 18 = .ok (.getfield 73, 3) := by decide +kernel
theorem dX9_has_21 : decode cX9_has 21 = .ok (.iconst 1, 1) := by decide +kernel
theorem dX9_has_22 : decode cX9_has 22 = .ok (.if_icmp .ne 6, 3) := by decide +kernel
theorem dX9_has_25 : decode cX9_has 25 = .ok (.bipush (-3), 2) := by decide +kernel
theorem dX9_has_27 : decode cX9_has 27 = .ok (.ireturn, 1) := by decide +kernel
theorem dX9_has_28 : decode cX9_has 28 = .ok (.aload_n 0, 1) := by decide +kernel
theorem dX9_has_29 : decode cX9_has 29 = .ok (.iload_n 1, 1) := by decide +kernel
theorem dX9_has_30 : decode cX9_has 30 = .ok (.invokevirtual 190, 3) := by decide +kernel
theorem dX9_has_33 : decode cX9_has 33 = .ok (.iconst 0, 1) := by decide +kernel
theorem dX9_has_34 : decode cX9_has 34 = .ok (.istore_n 3, 1) := by decide +kernel
theorem dX9_has_35 : decode cX9_has 35 = .ok (.iconst 0, 1) := by decide +kernel
theorem dX9_has_36 : decode cX9_has 36 = .ok (.istore 4, 2) := by decide +kernel
theorem dX9_has_38 : decode cX9_has 38 = .ok (.iload 4, 2) := by decide +kernel
theorem dX9_has_40 : decode cX9_has 40 = .ok (.aload_n 0, 1) := by decide +kernel
theorem dX9_has_41 : decode cX9_has 41 = .ok (.getfield 168, 3) := by decide +kernel
theorem dX9_has_44 : decode cX9_has 44 = .ok (.if_icmp .ge 26, 3) := by decide +kernel
theorem dX9_has_47 : decode cX9_has 47 = .ok (.aload_n 0, 1) := by decide +kernel
theorem dX9_has_48 : decode cX9_has 48 = .ok (.getfield 29, 3) := by decide +kernel
theorem dX9_has_51 : decode cX9_has 51 = .ok (.iload 4, 2) := by decide +kernel
theorem dX9_has_53 : decode cX9_has 53 = .ok (.iaload, 1) := by decide +kernel
theorem dX9_has_54 : decode cX9_has 54 = .ok (.iload_n 2, 1) := by decide +kernel
theorem dX9_has_55 : decode cX9_has 55 = .ok (.if_icmp .ne 7, 3) := by decide +kernel
theorem dX9_has_58 : decode cX9_has 58 = .ok (.iconst 1, 1) := by decide +kernel
theorem dX9_has_59 : decode cX9_has 59 = .ok (.goto 4, 3) := by decide +kernel
theorem dX9_has_62 : decode cX9_has 62 = .ok (.iload_n 3, 1) := by decide +kernel
theorem dX9_has_63 : decode cX9_has 63 = .ok (.istore_n 3, 1) := by decide +kernel
theorem dX9_has_64 : decode cX9_has 64 = .ok (.iinc 4 1, 3) := by decide +kernel
theorem dX9_has_67 : decode cX9_has 67 = .ok (.goto (-29), 3) := by decide +kernel
theorem dX9_has_70 : decode cX9_has 70 = .ok (.iload_n 3, 1) := by decide +kernel
theorem dX9_has_71 : decode cX9_has 71 = .ok (.ireturn, 1) := by decide +kernel
theorem dX9_lowest_0 : decode cX9_lowest 0 = .ok (.lload_n 0, 1) := by decide +kernel
theorem dX9_lowest_1 : decode cX9_lowest 1 = .ok (.lstore 5, 2) := by decide +kernel
theorem dX9_lowest_3 : decode cX9_lowest 3 = .ok (.lload_n 2, 1) := by decide +kernel
theorem dX9_lowest_4 : decode cX9_lowest 4 = .ok (.lstore 7, 2) := by decide +kernel
theorem dX9_lowest_6 : decode cX9_lowest 6 = .ok (.lload 7, 2) := by decide +kernel
theorem dX9_lowest_8 : decode cX9_lowest 8 = .ok (.lconst 0, 1) := by decide +kernel
theorem dX9_lowest_9 : decode cX9_lowest 9 = .ok (.lcmp, 1) := by decide +kernel
theorem dX9_lowest_10 : decode cX9_lowest 10 = .ok (.ifCond .eq 21, 3) := by decide +kernel
theorem dX9_lowest_13 : decode cX9_lowest 13 = .ok (.lload 5, 2) := by decide +kernel
theorem dX9_lowest_15 : decode cX9_lowest 15 = .ok (.lload 7, 2) := by decide +kernel
theorem dX9_lowest_17 : decode cX9_lowest 17 = .ok (.lrem, 1) := by decide +kernel
theorem dX9_lowest_18 : decode cX9_lowest 18 = .ok (.lstore 9, 2) := by decide +kernel
theorem dX9_lowest_20 : decode cX9_lowest 20 = .ok (.lload 7, 2) := by decide +kernel
theorem dX9_lowest_22 : decode cX9_lowest 22 = .ok (.lstore 5, 2) := by decide +kernel
theorem dX9_lowest_24 : decode cX9_lowest 24 = .ok (.lload 9, 2) := by decide +kernel
theorem dX9_lowest_26 : decode cX9_lowest 26 = .ok (.lstore 7, 2) := by decide +kernel
theorem dX9_lowest_28 : decode cX9_lowest 28 = .ok (.goto (-22), 3) := by decide +kernel
theorem dX9_lowest_31 : decode cX9_lowest 31 = .ok (.iload 4, 2) := by decide +kernel
theorem dX9_lowest_33 : decode cX9_lowest 33 = .ok (.ifCond .ne 7, 3) := by decide +kernel
theorem dX9_lowest_36 : decode cX9_lowest 36 = .ok (.lload_n 0, 1) := by decide +kernel
theorem dX9_lowest_37 : decode cX9_lowest 37 = .ok (.goto 4, 3) := by decide +kernel
theorem dX9_lowest_40 : decode cX9_lowest 40 = .ok (.lload_n 2, 1) := by decide +kernel
theorem dX9_lowest_41 : decode cX9_lowest 41 = .ok (.lload 5, 2) := by decide +kernel
theorem dX9_lowest_43 : decode cX9_lowest 43 = .ok (.ldiv, 1) := by decide +kernel
theorem dX9_lowest_44 : decode cX9_lowest 44 = .ok (.lreturn, 1) := by decide +kernel
set_option maxRecDepth 20000 in
theorem ggX9_counted_X9_pieces : GoodIn wsX9_counted wsX9_pieces := goodIn_r _ [7, 8, 9, 22, 23, 24, 25, 26, 27, 28, 29, 30, 31, 32, 33, 34, 35, 36, 37, 38, 39, 40, 41, 42, 43, 44, 45] (by decide +kernel) (by decide +kernel)
set_option maxRecDepth 20000 in
theorem gX9_counted_X9_pieces : GoodIn wsX9_counted (wsV RX9 120 RX9 yX9_pieces wsX9_pieces) := goodIn_app (goodIn_of _ (by decide +kernel)) ggX9_counted_X9_pieces
set_option maxRecDepth 20000 in
theorem ggX9_counted_X9_coversOf : GoodIn wsX9_counted wsX9_coversOf := goodIn_r _ [13, 14, 9, 8, 15, 16, 17, 18, 19, 20, 21, 22, 23, 24, 25, 26, 27, 28, 29, 30, 31, 32, 33, 34, 35, 36, 37, 38, 39, 40, 41, 42, 43, 44, 45] (by decide +kernel) (by decide +kernel)
set_option maxRecDepth 20000 in
theorem gX9_counted_X9_coversOf : GoodIn wsX9_counted (wsV RX9 127 RX9 yX9_coversOf wsX9_coversOf) := goodIn_app (goodIn_of _ (by decide +kernel)) ggX9_counted_X9_coversOf
theorem dX9_counted_0 : decode cX9_counted 0 = .ok (.iconst 0, 1) := by decide +kernel
theorem dX9_counted_1 : decode cX9_counted 1 = .ok (.istore_n 1, 1) := by decide +kernel
theorem dX9_counted_2 : decode cX9_counted 2 = .ok (.iload_n 1, 1) := by decide +kernel
theorem dX9_counted_3 : decode cX9_counted 3 = .ok (.aload_n 0, 1) := by decide +kernel
theorem dX9_counted_4 : decode cX9_counted 4 = .ok (.invokevirtual 120, 3) := by decide +kernel
theorem dX9_counted_7 : decode cX9_counted 7 = .ok (.if_icmp .ge 65, 3) := by decide +kernel
theorem dX9_counted_10 : decode cX9_counted 10 = .ok (.aload_n 0, 1) := by decide +kernel
theorem dX9_counted_11 : decode cX9_counted 11 = .ok (.iload_n 1, 1) := by decide +kernel
theorem dX9_counted_12 : decode cX9_counted 12 = .ok (.invokevirtual 127, 3) := by decide +kernel
theorem dX9_counted_15 : decode cX9_counted 15 = .ok (.istore_n 2, 1) := by decide +kernel
theorem dX9_counted_16 : decode cX9_counted 16 = .ok (.aload_n 0, 1) := by decide +kernel
theorem dX9_counted_17 : decode cX9_counted 17 = .ok (.getfield 41, 3) := by decide +kernel
theorem dX9_counted_20 : decode cX9_counted 20 = .ok (.iload_n 1, 1) := by decide +kernel
theorem dX9_counted_21 : decode cX9_counted 21 = .ok (.lconst 0, 1) := by decide +kernel
theorem dX9_counted_22 : decode cX9_counted 22 = .ok (.lastore, 1) := by decide +kernel
theorem dX9_counted_23 : decode cX9_counted 23 = .ok (.iconst 0, 1) := by decide +kernel
theorem dX9_counted_24 : decode cX9_counted 24 = .ok (.istore_n 3, 1) := by decide +kernel
theorem dX9_counted_25 : decode cX9_counted 25 = .ok (.iload_n 3, 1) := by decide +kernel
theorem dX9_counted_26 : decode cX9_counted 26 = .ok (.aload_n 0, 1) := by decide +kernel
theorem dX9_counted_27 : decode cX9_counted 27 = .ok (.invokevirtual 120, 3) := by decide +kernel
theorem dX9_counted_30 : decode cX9_counted 30 = .ok (.if_icmp .ge 36, 3) := by decide +kernel
theorem dX9_counted_33 : decode cX9_counted 33 = .ok (.aload_n 0, 1) := by decide +kernel
theorem dX9_counted_34 : decode cX9_counted 34 = .ok (.getfield 41, 3) := by decide +kernel
theorem dX9_counted_37 : decode cX9_counted 37 = .ok (.iload_n 1, 1) := by decide +kernel
theorem dX9_counted_38 : decode cX9_counted 38 = .ok (.dup2, 1) := by decide +kernel
theorem dX9_counted_39 : decode cX9_counted 39 = .ok (.laload, 1) := by decide +kernel
theorem dX9_counted_40 : decode cX9_counted 40 = .ok (.iload_n 2, 1) := by decide +kernel
theorem dX9_counted_41 : decode cX9_counted 41 = .ok (.iload_n 3, 1) := by decide +kernel
theorem dX9_counted_42 : decode cX9_counted 42 = .ok (.ishr, 1) := by decide +kernel
theorem dX9_counted_43 : decode cX9_counted 43 = .ok (.iconst 1, 1) := by decide +kernel
theorem dX9_counted_44 : decode cX9_counted 44 = .ok (.iand, 1) := by decide +kernel
theorem dX9_counted_45 : decode cX9_counted 45 = .ok (.ifCond .eq 12, 3) := by decide +kernel
theorem dX9_counted_48 : decode cX9_counted 48 = .ok (.aload_n 0, 1) := by decide +kernel
theorem dX9_counted_49 : decode cX9_counted 49 = .ok (.getfield 38, 3) := by decide +kernel
theorem dX9_counted_52 : decode cX9_counted 52 = .ok (.iload_n 3, 1) := by decide +kernel
theorem dX9_counted_53 : decode cX9_counted 53 = .ok (.laload, 1) := by decide +kernel
theorem dX9_counted_54 : decode cX9_counted 54 = .ok (.goto 4, 3) := by decide +kernel
theorem dX9_counted_57 : decode cX9_counted 57 = .ok (.lconst 0, 1) := by decide +kernel
theorem dX9_counted_58 : decode cX9_counted 58 = .ok (.ladd, 1) := by decide +kernel
theorem dX9_counted_59 : decode cX9_counted 59 = .ok (.lastore, 1) := by decide +kernel
theorem dX9_counted_60 : decode cX9_counted 60 = .ok (.iinc 3 1, 3) := by decide +kernel
theorem dX9_counted_63 : decode cX9_counted 63 = .ok (.goto (-38), 3) := by decide +kernel
theorem dX9_counted_66 : decode cX9_counted 66 = .ok (.iinc 1 1, 3) := by decide +kernel
theorem dX9_counted_69 : decode cX9_counted 69 = .ok (.goto (-67), 3) := by decide +kernel
theorem dX9_counted_72 : decode cX9_counted 72 = .ok (.return_, 1) := by decide +kernel
set_option maxRecDepth 20000 in
theorem ggX9_growth_X9_in : GoodIn wsX9_growth wsX9_in := goodIn_r _ [8] (by decide +kernel) (by decide +kernel)
set_option maxRecDepth 20000 in
theorem gX9_growth_X9_in : GoodIn wsX9_growth (va_wsS RX9 62 yX9_in wsX9_in) := goodIn_app (goodIn_of _ (by decide +kernel)) ggX9_growth_X9_in
set_option maxRecDepth 20000 in
theorem ggX9_growth_X9_counted : GoodIn wsX9_growth wsX9_counted := goodIn_r _ [12, 4, 3, 13, 14, 15, 7, 16, 17, 18, 19, 20, 21, 22, 23, 24, 25, 26, 27, 28, 29, 30, 34, 35, 36, 37, 38, 39, 40, 41, 42, 43, 44, 45, 46, 47, 48, 49, 50, 51, 52, 53, 54, 55, 56, 57] (by decide +kernel) (by decide +kernel)
set_option maxRecDepth 20000 in
theorem gX9_growth_X9_counted : GoodIn wsX9_growth (wsV RX9 195 RX9 yX9_counted wsX9_counted) := goodIn_app (goodIn_of _ (by decide +kernel)) ggX9_growth_X9_counted
set_option maxRecDepth 20000 in
theorem ggX9_growth_X9_pieces : GoodIn wsX9_growth wsX9_pieces := goodIn_r _ [16, 17, 18, 34, 35, 36, 37, 38, 39, 40, 41, 42, 43, 44, 45, 46, 47, 48, 49, 50, 51, 52, 53, 54, 55, 56, 57] (by decide +kernel) (by decide +kernel)
set_option maxRecDepth 20000 in
theorem gX9_growth_X9_pieces : GoodIn wsX9_growth (wsV RX9 120 RX9 yX9_pieces wsX9_pieces) := goodIn_app (goodIn_of _ (by decide +kernel)) ggX9_growth_X9_pieces
set_option maxRecDepth 20000 in
theorem ggX9_growth_X9_lowest : GoodIn wsX9_growth wsX9_lowest := goodIn_r _ [33] (by decide +kernel) (by decide +kernel)
set_option maxRecDepth 20000 in
theorem gX9_growth_X9_lowest : GoodIn wsX9_growth (va_wsS RX9 198 yX9_lowest wsX9_lowest) := goodIn_app (goodIn_of _ (by decide +kernel)) ggX9_growth_X9_lowest
theorem dX9_growth_0 : decode cX9_growth 0 = .ok (.iload_n 1, 1) := by decide +kernel
theorem dX9_growth_1 : decode cX9_growth 1 = .ok (.i2l, 1) := by decide +kernel
theorem dX9_growth_2 : decode cX9_growth 2 = .ok (.lconst 0, 1) := by decide +kernel
theorem dX9_growth_3 : decode cX9_growth 3 = .ok (.ldc2_w 193, 3) := by decide +kernel
theorem dX9_growth_6 : decode cX9_growth 6 = .ok (.invokestatic 62, 3) := by decide +kernel
theorem dX9_growth_9 : decode cX9_growth 9 = .ok (.ifCond .eq 23, 3) := by decide +kernel
theorem dX9_growth_12 : decode cX9_growth 12 = .ok (.iload_n 2, 1) := by decide +kernel
theorem dX9_growth_13 : decode cX9_growth 13 = .ok (.i2l, 1) := by decide +kernel
theorem dX9_growth_14 : decode cX9_growth 14 = .ok (.lconst 0, 1) := by decide +kernel
theorem dX9_growth_15 : decode cX9_growth 15 = .ok (.lconst 1, 1) := by decide +kernel
theorem dX9_growth_16 : decode cX9_growth 16 = .ok (.invokestatic 62, 3) := by decide +kernel
theorem dX9_growth_19 : decode cX9_growth 19 = .ok (.ifCond .eq 13, 3) := by decide +kernel
theorem dX9_growth_22 : decode cX9_growth 22 = .ok (.iload_n 3, 1) := by decide +kernel
theorem dX9_growth_23 : decode cX9_growth 23 = .ok (.i2l, 1) := by decide +kernel
theorem dX9_growth_24 : decode cX9_growth 24 = .ok (.lconst 0, 1) := by decide +kernel
theorem dX9_growth_25 : decode cX9_growth 25 = .ok (.lconst 1, 1) := by decide +kernel
theorem dX9_growth_26 : decode cX9_growth 26 = .ok (.invokestatic 62, 3) := by decide +kernel
theorem dX9_growth_29 : decode cX9_growth 29 = .ok (.ifCond .ne 7, 3) := by decide +kernel
theorem dX9_growth_32 : decode cX9_growth 32 = .ok (.ldc2_w 141, 3) := by decide +kernel
theorem dX9_growth_35 : decode cX9_growth 35 = .ok (.lreturn, 1) := by decide +kernel
theorem dX9_growth_36 : decode cX9_growth 36 = .ok (.iconst 0, 1) := by decide +kernel
theorem dX9_growth_37 : decode cX9_growth 37 = .ok (.istore 4, 2) := by decide +kernel
theorem dX9_growth_39 : decode cX9_growth 39 = .ok (.iload 4, 2) := by decide +kernel
theorem dX9_growth_41 : decode cX9_growth 41 = .ok (.bipush 8, 2) := by decide +kernel
theorem dX9_growth_43 : decode cX9_growth 43 = .ok (.if_icmp .ge 17, 3) := by decide +kernel
theorem dX9_growth_46 : decode cX9_growth 46 = .ok (.aload_n 0, 1) := by decide +kernel
theorem dX9_growth_47 : decode cX9_growth 47 = .ok (.getfield 38, 3) := by decide +kernel
theorem dX9_growth_50 : decode cX9_growth 50 = .ok (.iload 4, 2) := by decide +kernel
theorem dX9_growth_52 : decode cX9_growth 52 = .ok (.lconst 1, 1) := by decide +kernel
theorem dX9_growth_53 : decode cX9_growth 53 = .ok (.lastore, 1) := by decide +kernel
theorem dX9_growth_54 : decode cX9_growth 54 = .ok (.iinc 4 1, 3) := by decide +kernel
theorem dX9_growth_57 : decode cX9_growth 57 = .ok (.goto (-18), 3) := by decide +kernel
theorem dX9_growth_60 : decode cX9_growth 60 = .ok (.iconst 0, 1) := by decide +kernel
theorem dX9_growth_61 : decode cX9_growth 61 = .ok (.istore 4, 2) := by decide +kernel
theorem dX9_growth_63 : decode cX9_growth 63 = .ok (.iload 4, 2) := by decide +kernel
theorem dX9_growth_65 : decode cX9_growth 65 = .ok (.iload_n 1, 1) := by decide +kernel
theorem dX9_growth_66 : decode cX9_growth 66 = .ok (.if_icmp .ge 45, 3) := by decide +kernel
theorem dX9_growth_69 : decode cX9_growth 69 = .ok (.aload_n 0, 1) := by decide +kernel
theorem dX9_growth_70 : decode cX9_growth 70 = .ok (.invokevirtual 195, 3) := by decide +kernel
theorem dX9_growth_73 : decode cX9_growth 73 = .ok (.iconst 0, 1) := by decide +kernel
theorem dX9_growth_74 : decode cX9_growth 74 = .ok (.istore 5, 2) := by decide +kernel
theorem dX9_growth_76 : decode cX9_growth 76 = .ok (.iload 5, 2) := by decide +kernel
theorem dX9_growth_78 : decode cX9_growth 78 = .ok (.aload_n 0, 1) := by decide +kernel
theorem dX9_growth_79 : decode cX9_growth 79 = .ok (.invokevirtual 120, 3) := by decide +kernel
theorem dX9_growth_82 : decode cX9_growth 82 = .ok (.if_icmp .ge 23, 3) := by decide +kernel
theorem dX9_growth_85 : decode cX9_growth 85 = .ok (.aload_n 0, 1) := by decide +kernel
theorem dX9_growth_86 : decode cX9_growth 86 = .ok (.getfield 38, 3) := by decide +kernel
theorem dX9_growth_89 : decode cX9_growth 89 = .ok (.iload 5, 2) := by decide +kernel
theorem dX9_growth_91 : decode cX9_growth 91 = .ok (.aload_n 0, 1) := by decide +kernel
theorem dX9_growth_92 : decode cX9_growth 92 = .ok (.getfield 41, 3) := by decide +kernel
theorem dX9_growth_95 : decode cX9_growth 95 = .ok (.iload 5, 2) := by decide +kernel
theorem dX9_growth_97 : decode cX9_growth 97 = .ok (.laload, 1) := by decide +kernel
theorem dX9_growth_98 : decode cX9_growth 98 = .ok (.lastore, 1) := by decide +kernel
theorem dX9_growth_99 : decode cX9_growth 99 = .ok (.iinc 5 1, 3) := by decide +kernel
theorem dX9_growth_102 : decode cX9_growth 102 = .ok (.goto (-26), 3) := by decide +kernel
theorem dX9_growth_105 : decode cX9_growth 105 = .ok (.iinc 4 1, 3) := by decide +kernel
theorem dX9_growth_108 : decode cX9_growth 108 = .ok (.goto (-45), 3) := by decide +kernel
theorem dX9_growth_111 : decode cX9_growth 111 = .ok (.aload_n 0, 1) := by decide +kernel
theorem dX9_growth_112 : decode cX9_growth 112 = .ok (.invokevirtual 195, 3) := by decide +kernel
theorem dX9_growth_115 : decode cX9_growth 115 = .ok (.iconst (-1), 1) := by decide +kernel
theorem dX9_growth_116 : decode cX9_growth 116 = .ok (.istore 4, 2) := by decide +kernel
theorem dX9_growth_118 : decode cX9_growth 118 = .ok (.iconst 0, 1) := by decide +kernel
theorem dX9_growth_119 : decode cX9_growth 119 = .ok (.istore 5, 2) := by decide +kernel
theorem dX9_growth_121 : decode cX9_growth 121 = .ok (.iload 5, 2) := by decide +kernel
theorem dX9_growth_123 : decode cX9_growth 123 = .ok (.aload_n 0, 1) := by decide +kernel
theorem dX9_growth_124 : decode cX9_growth 124 = .ok (.invokevirtual 120, 3) := by decide +kernel
theorem dX9_growth_127 : decode cX9_growth 127 = .ok (.if_icmp .ge 102, 3) := by decide +kernel
theorem dX9_growth_130 : decode cX9_growth 130 = .ok (.aload_n 0, 1) := by decide +kernel
theorem dX9_growth_131 : decode cX9_growth 131 = .ok (.getfield 38, 3) := by decide +kernel
theorem dX9_growth_134 : decode cX9_growth 134 = .ok (.iload 5, 2) := by decide +kernel
theorem dX9_growth_136 : decode cX9_growth 136 = .ok (.laload, 1) := by decide +kernel
theorem dX9_growth_137 : decode cX9_growth 137 = .ok (.lconst 0, 1) := by decide +kernel
theorem dX9_growth_138 : decode cX9_growth 138 = .ok (.lcmp, 1) := by decide +kernel
theorem dX9_growth_139 : decode cX9_growth 139 = .ok (.ifCond .le 84, 3) := by decide +kernel
theorem dX9_growth_142 : decode cX9_growth 142 = .ok (.iload 4, 2) := by decide +kernel
theorem dX9_growth_144 : decode cX9_growth 144 = .ok (.iconst (-1), 1) := by decide +kernel
theorem dX9_growth_145 : decode cX9_growth 145 = .ok (.if_icmp .ne 7, 3) := by decide +kernel
theorem dX9_growth_148 : decode cX9_growth 148 = .ok (.lconst 0, 1) := by decide +kernel
theorem dX9_growth_149 : decode cX9_growth 149 = .ok (.goto 34, 3) := by decide +kernel
theorem dX9_growth_152 : decode cX9_growth 152 = .ok (.aload_n 0, 1) := by decide +kernel
theorem dX9_growth_153 : decode cX9_growth 153 = .ok (.getfield 41, 3) := by decide +kernel
theorem dX9_growth_156 : decode cX9_growth 156 = .ok (.iload 5, 2) := by decide +kernel
theorem dX9_growth_158 : decode cX9_growth 158 = .ok (.laload, 1) := by decide +kernel
theorem dX9_growth_159 : decode cX9_growth 159 = .ok (.aload_n 0, 1) := by decide +kernel
theorem dX9_growth_160 : decode cX9_growth 160 = .ok (.getfield 38, 3) := by decide +kernel
theorem dX9_growth_163 : decode cX9_growth 163 = .ok (.iload 4, 2) := by decide +kernel
theorem dX9_growth_165 : decode cX9_growth 165 = .ok (.laload, 1) := by decide +kernel
theorem dX9_growth_166 : decode cX9_growth 166 = .ok (.lmul, 1) := by decide +kernel
theorem dX9_growth_167 : decode cX9_growth 167 = .ok (.aload_n 0, 1) := by decide +kernel
theorem dX9_growth_168 : decode cX9_growth 168 = .ok (.getfield 41, 3) := by decide +kernel
theorem dX9_growth_171 : decode cX9_growth 171 = .ok (.iload 4, 2) := by decide +kernel
theorem dX9_growth_173 : decode cX9_growth 173 = .ok (.laload, 1) := by decide +kernel
theorem dX9_growth_174 : decode cX9_growth 174 = .ok (.aload_n 0, 1) := by decide +kernel
theorem dX9_growth_175 : decode cX9_growth 175 = .ok (.getfield 38, 3) := by decide +kernel
theorem dX9_growth_178 : decode cX9_growth 178 = .ok (.iload 5, 2) := by decide +kernel
theorem dX9_growth_180 : decode cX9_growth 180 = .ok (.laload, 1) := by decide +kernel
theorem dX9_growth_181 : decode cX9_growth 181 = .ok (.lmul, 1) := by decide +kernel
theorem dX9_growth_182 : decode cX9_growth 182 = .ok (.lsub, 1) := by decide +kernel
theorem dX9_growth_183 : decode cX9_growth 183 = .ok (.lstore 6, 2) := by decide +kernel
theorem dX9_growth_185 : decode cX9_growth 185 = .ok (.iload 4, 2) := by decide +kernel
theorem dX9_growth_187 : decode cX9_growth 187 = .ok (.iconst (-1), 1) := by decide +kernel
theorem dX9_growth_188 : decode cX9_growth 188 = .ok (.if_icmp .eq 26, 3) := by decide +kernel
theorem dX9_growth_191 : decode cX9_growth 191 = .ok (.iload_n 2, 1) := by decide +kernel
theorem dX9_growth_192 : decode cX9_growth 192 = .ok (.ifCond .ne 10, 3) := by decide +kernel
theorem dX9_growth_195 : decode cX9_growth 195 = .ok (.lload 6, 2) := by decide +kernel
theorem dX9_growth_197 : decode cX9_growth 197 = .ok (.lconst 0, 1) := by decide +kernel
theorem dX9_growth_198 : decode cX9_growth 198 = .ok (.lcmp, 1) := by decide +kernel
theorem dX9_growth_199 : decode cX9_growth 199 = .ok (.ifCond .lt 15, 3) := by decide +kernel
theorem dX9_growth_202 : decode cX9_growth 202 = .ok (.iload_n 2, 1) := by decide +kernel
theorem dX9_growth_203 : decode cX9_growth 203 = .ok (.iconst 1, 1) := by decide +kernel
theorem dX9_growth_204 : decode cX9_growth 204 = .ok (.if_icmp .ne 15, 3) := by decide +kernel
theorem dX9_growth_207 : decode cX9_growth 207 = .ok (.lload 6, 2) := by decide +kernel
theorem dX9_growth_209 : decode cX9_growth 209 = .ok (.lconst 0, 1) := by decide +kernel
theorem dX9_growth_210 : decode cX9_growth 210 = .ok (.lcmp, 1) := by decide +kernel
theorem dX9_growth_211 : decode cX9_growth 211 = .ok (.ifCond .le 8, 3) := by decide +kernel
theorem dX9_growth_214 : decode cX9_growth 214 = .ok (.iload 5, 2) := by decide +kernel
theorem dX9_growth_216 : decode cX9_growth 216 = .ok (.goto 5, 3) := by decide +kernel
theorem dX9_growth_219 : decode cX9_growth 219 = .ok (.iload 4, 2) := by decide +kernel
theorem dX9_growth_221 : decode cX9_growth 221 = .ok (.istore 4, 2) := by decide +kernel
theorem dX9_growth_223 : decode cX9_growth 223 = .ok (.iinc 5 1, 3) := by decide +kernel
theorem dX9_growth_226 : decode cX9_growth 226 = .ok (.goto (-105), 3) := by decide +kernel
theorem dX9_growth_229 : decode cX9_growth 229 = .ok (.iload 4, 2) := by decide +kernel
theorem dX9_growth_231 : decode cX9_growth 231 = .ok (.iconst (-1), 1) := by decide +kernel
theorem dX9_growth_232 : decode cX9_growth 232 = .ok (.if_icmp .ne 9, 3) := by decide +kernel
theorem dX9_growth_235 : decode cX9_growth 235 = .ok (.ldc2_w 141, 3) := by decide +kernel
theorem dX9_growth_238 : decode cX9_growth 238 = .ok (.goto 21, 3) := by decide +kernel
theorem dX9_growth_241 : decode cX9_growth 241 = .ok (.aload_n 0, 1) := by decide +kernel
theorem dX9_growth_242 : decode cX9_growth 242 = .ok (.getfield 41, 3) := by decide +kernel
theorem dX9_growth_245 : decode cX9_growth 245 = .ok (.iload 4, 2) := by decide +kernel
theorem dX9_growth_247 : decode cX9_growth 247 = .ok (.laload, 1) := by decide +kernel
theorem dX9_growth_248 : decode cX9_growth 248 = .ok (.aload_n 0, 1) := by decide +kernel
theorem dX9_growth_249 : decode cX9_growth 249 = .ok (.getfield 38, 3) := by decide +kernel
theorem dX9_growth_252 : decode cX9_growth 252 = .ok (.iload 4, 2) := by decide +kernel
theorem dX9_growth_254 : decode cX9_growth 254 = .ok (.laload, 1) := by decide +kernel
theorem dX9_growth_255 : decode cX9_growth 255 = .ok (.iload_n 3, 1) := by decide +kernel
theorem dX9_growth_256 : decode cX9_growth 256 = .ok (.invokestatic 198, 3) := by decide +kernel
theorem dX9_growth_259 : decode cX9_growth 259 = .ok (.lreturn, 1) := by decide +kernel
set_option maxRecDepth 20000 in
theorem ggX9_polynomial_X9_pieces : GoodIn wsX9_polynomial wsX9_pieces := goodIn_r _ [8, 9, 10, 26, 27, 28, 29, 30, 31, 32, 33, 34, 35, 36, 37, 38, 39, 40, 41, 42, 43, 44, 45, 46, 47, 48, 49] (by decide +kernel) (by decide +kernel)
set_option maxRecDepth 20000 in
theorem gX9_polynomial_X9_pieces : GoodIn wsX9_polynomial (wsV RX9 120 RX9 yX9_pieces wsX9_pieces) := goodIn_app (goodIn_of _ (by decide +kernel)) ggX9_polynomial_X9_pieces
set_option maxRecDepth 20000 in
theorem ggX9_polynomial_X9_in : GoodIn wsX9_polynomial wsX9_in := goodIn_r _ [13] (by decide +kernel) (by decide +kernel)
set_option maxRecDepth 20000 in
theorem gX9_polynomial_X9_in : GoodIn wsX9_polynomial (va_wsS RX9 62 yX9_in wsX9_in) := goodIn_app (goodIn_of _ (by decide +kernel)) ggX9_polynomial_X9_in
set_option maxRecDepth 20000 in
theorem ggX9_polynomial_X9_coversOf : GoodIn wsX9_polynomial wsX9_coversOf := goodIn_r _ [17, 18, 10, 9, 19, 20, 21, 22, 23, 24, 25, 26, 27, 28, 29, 30, 31, 32, 33, 34, 35, 36, 37, 38, 39, 40, 41, 42, 43, 44, 45, 46, 47, 48, 49] (by decide +kernel) (by decide +kernel)
set_option maxRecDepth 20000 in
theorem gX9_polynomial_X9_coversOf : GoodIn wsX9_polynomial (wsV RX9 127 RX9 yX9_coversOf wsX9_coversOf) := goodIn_app (goodIn_of _ (by decide +kernel)) ggX9_polynomial_X9_coversOf
theorem dX9_polynomial_0 : decode cX9_polynomial 0 = .ok (.aload_n 0, 1) := by decide +kernel
theorem dX9_polynomial_1 : decode cX9_polynomial 1 = .ok (.invokevirtual 120, 3) := by decide +kernel
theorem dX9_polynomial_4 : decode cX9_polynomial 4 = .ok (.istore_n 2, 1) := by decide +kernel
theorem dX9_polynomial_5 : decode cX9_polynomial 5 = .ok (.iload_n 1, 1) := by decide +kernel
theorem dX9_polynomial_6 : decode cX9_polynomial 6 = .ok (.i2l, 1) := by decide +kernel
theorem dX9_polynomial_7 : decode cX9_polynomial 7 = .ok (.lconst 0, 1) := by decide +kernel
theorem dX9_polynomial_8 : decode cX9_polynomial 8 = .ok (.iload_n 2, 1) := by decide +kernel
theorem dX9_polynomial_9 : decode cX9_polynomial 9 = .ok (.i2l, 1) := by decide +kernel
theorem dX9_polynomial_10 : decode cX9_polynomial 10 = .ok (.invokestatic 62, 3) := by decide +kernel
theorem dX9_polynomial_13 : decode cX9_polynomial 13 = .ok (.ifCond .ne 7, 3) := by decide +kernel
theorem dX9_polynomial_16 : decode cX9_polynomial 16 = .ok (.ldc2_w 141, 3) := by decide +kernel
theorem dX9_polynomial_19 : decode cX9_polynomial 19 = .ok (.lreturn, 1) := by decide +kernel
theorem dX9_polynomial_20 : decode cX9_polynomial 20 = .ok (.lconst 1, 1) := by decide +kernel
theorem dX9_polynomial_21 : decode cX9_polynomial 21 = .ok (.lstore_n 3, 1) := by decide +kernel
theorem dX9_polynomial_22 : decode cX9_polynomial 22 = .ok (.iconst 0, 1) := by decide +kernel
theorem dX9_polynomial_23 : decode cX9_polynomial 23 = .ok (.istore 5, 2) := by decide +kernel
theorem dX9_polynomial_25 : decode cX9_polynomial 25 = .ok (.iload 5, 2) := by decide +kernel
theorem dX9_polynomial_27 : decode cX9_polynomial 27 = .ok (.bipush 64, 2) := by decide +kernel
theorem dX9_polynomial_29 : decode cX9_polynomial 29 = .ok (.if_icmp .ge 34, 3) := by decide +kernel
theorem dX9_polynomial_32 : decode cX9_polynomial 32 = .ok (.aload_n 0, 1) := by decide +kernel
theorem dX9_polynomial_33 : decode cX9_polynomial 33 = .ok (.getfield 44, 3) := by decide +kernel
theorem dX9_polynomial_36 : decode cX9_polynomial 36 = .ok (.iload 5, 2) := by decide +kernel
theorem dX9_polynomial_38 : decode cX9_polynomial 38 = .ok (.iload 5, 2) := by decide +kernel
theorem dX9_polynomial_40 : decode cX9_polynomial 40 = .ok (.bipush 8, 2) := by decide +kernel
theorem dX9_polynomial_42 : decode cX9_polynomial 42 = .ok (.idiv, 1) := by decide +kernel
theorem dX9_polynomial_43 : decode cX9_polynomial 43 = .ok (.iload 5, 2) := by decide +kernel
theorem dX9_polynomial_45 : decode cX9_polynomial 45 = .ok (.bipush 8, 2) := by decide +kernel
theorem dX9_polynomial_47 : decode cX9_polynomial 47 = .ok (.irem, 1) := by decide +kernel
theorem dX9_polynomial_48 : decode cX9_polynomial 48 = .ok (.if_icmp .ne 7, 3) := by decide +kernel
theorem dX9_polynomial_51 : decode cX9_polynomial 51 = .ok (.lconst 1, 1) := by decide +kernel
theorem dX9_polynomial_52 : decode cX9_polynomial 52 = .ok (.goto 4, 3) := by decide +kernel
theorem dX9_polynomial_55 : decode cX9_polynomial 55 = .ok (.lconst 0, 1) := by decide +kernel
theorem dX9_polynomial_56 : decode cX9_polynomial 56 = .ok (.lastore, 1) := by decide +kernel
theorem dX9_polynomial_57 : decode cX9_polynomial 57 = .ok (.iinc 5 1, 3) := by decide +kernel
theorem dX9_polynomial_60 : decode cX9_polynomial 60 = .ok (.goto (-35), 3) := by decide +kernel
theorem dX9_polynomial_63 : decode cX9_polynomial 63 = .ok (.iconst 1, 1) := by decide +kernel
theorem dX9_polynomial_64 : decode cX9_polynomial 64 = .ok (.istore 5, 2) := by decide +kernel
theorem dX9_polynomial_66 : decode cX9_polynomial 66 = .ok (.iload 5, 2) := by decide +kernel
theorem dX9_polynomial_68 : decode cX9_polynomial 68 = .ok (.iload_n 2, 1) := by decide +kernel
theorem dX9_polynomial_69 : decode cX9_polynomial 69 = .ok (.iload_n 1, 1) := by decide +kernel
theorem dX9_polynomial_70 : decode cX9_polynomial 70 = .ok (.isub, 1) := by decide +kernel
theorem dX9_polynomial_71 : decode cX9_polynomial 71 = .ok (.if_icmp .gt 210, 3) := by decide +kernel
theorem dX9_polynomial_74 : decode cX9_polynomial 74 = .ok (.lconst 0, 1) := by decide +kernel
theorem dX9_polynomial_75 : decode cX9_polynomial 75 = .ok (.lstore 6, 2) := by decide +kernel
theorem dX9_polynomial_77 : decode cX9_polynomial 77 = .ok (.iconst 0, 1) := by decide +kernel
theorem dX9_polynomial_78 : decode cX9_polynomial 78 = .ok (.istore 8, 2) := by decide +kernel
theorem dX9_polynomial_80 : decode cX9_polynomial 80 = .ok (.iload 8, 2) := by decide +kernel
theorem dX9_polynomial_82 : decode cX9_polynomial 82 = .ok (.iload_n 2, 1) := by decide +kernel
theorem dX9_polynomial_83 : decode cX9_polynomial 83 = .ok (.if_icmp .ge 115, 3) := by decide +kernel
theorem dX9_polynomial_86 : decode cX9_polynomial 86 = .ok (.aload_n 0, 1) := by decide +kernel
theorem dX9_polynomial_87 : decode cX9_polynomial 87 = .ok (.iload 8, 2) := by decide +kernel
theorem dX9_polynomial_89 : decode cX9_polynomial 89 = .ok (.invokevirtual 127, 3) := by decide +kernel
theorem dX9_polynomial_92 : decode cX9_polynomial 92 = .ok (.istore 9, 2) := by decide +kernel
theorem dX9_polynomial_94 : decode cX9_polynomial 94 = .ok (.iconst 0, 1) := by decide +kernel
theorem dX9_polynomial_95 : decode cX9_polynomial 95 = .ok (.istore 10, 2) := by decide +kernel
theorem dX9_polynomial_97 : decode cX9_polynomial 97 = .ok (.iload 10, 2) := by decide +kernel
theorem dX9_polynomial_99 : decode cX9_polynomial 99 = .ok (.iload_n 2, 1) := by decide +kernel
theorem dX9_polynomial_100 : decode cX9_polynomial 100 = .ok (.if_icmp .ge 92, 3) := by decide +kernel
theorem dX9_polynomial_103 : decode cX9_polynomial 103 = .ok (.lconst 0, 1) := by decide +kernel
theorem dX9_polynomial_104 : decode cX9_polynomial 104 = .ok (.lstore 11, 2) := by decide +kernel
theorem dX9_polynomial_106 : decode cX9_polynomial 106 = .ok (.iconst 0, 1) := by decide +kernel
theorem dX9_polynomial_107 : decode cX9_polynomial 107 = .ok (.istore 13, 2) := by decide +kernel
theorem dX9_polynomial_109 : decode cX9_polynomial 109 = .ok (.iload 13, 2) := by decide +kernel
theorem dX9_polynomial_111 : decode cX9_polynomial 111 = .ok (.iload_n 2, 1) := by decide +kernel
theorem dX9_polynomial_112 : decode cX9_polynomial 112 = .ok (.if_icmp .ge 41, 3) := by decide +kernel
theorem dX9_polynomial_115 : decode cX9_polynomial 115 = .ok (.lload 11, 2) := by decide +kernel
theorem dX9_polynomial_117 : decode cX9_polynomial 117 = .ok (.iload 9, 2) := by decide +kernel
theorem dX9_polynomial_119 : decode cX9_polynomial 119 = .ok (.iload 13, 2) := by decide +kernel
theorem dX9_polynomial_121 : decode cX9_polynomial 121 = .ok (.ishr, 1) := by decide +kernel
theorem dX9_polynomial_122 : decode cX9_polynomial 122 = .ok (.iconst 1, 1) := by decide +kernel
theorem dX9_polynomial_123 : decode cX9_polynomial 123 = .ok (.iand, 1) := by decide +kernel
theorem dX9_polynomial_124 : decode cX9_polynomial 124 = .ok (.ifCond .eq 19, 3) := by decide +kernel
theorem dX9_polynomial_127 : decode cX9_polynomial 127 = .ok (.aload_n 0, 1) := by decide +kernel
theorem dX9_polynomial_128 : decode cX9_polynomial 128 = .ok (.getfield 44, 3) := by decide +kernel
theorem dX9_polynomial_131 : decode cX9_polynomial 131 = .ok (.bipush 8, 2) := by decide +kernel
theorem dX9_polynomial_133 : decode cX9_polynomial 133 = .ok (.iload 13, 2) := by decide +kernel
theorem dX9_polynomial_135 : decode cX9_polynomial 135 = .ok (.imul, 1) := by decide +kernel
theorem dX9_polynomial_136 : decode cX9_polynomial 136 = .ok (.iload 10, 2) := by decide +kernel
theorem dX9_polynomial_138 : decode cX9_polynomial 138 = .ok (.iadd, 1) := by decide +kernel
theorem dX9_polynomial_139 : decode cX9_polynomial 139 = .ok (.laload, 1) := by decide +kernel
theorem dX9_polynomial_140 : decode cX9_polynomial 140 = .ok (.goto 4, 3) := by decide +kernel
theorem dX9_polynomial_143 : decode cX9_polynomial 143 = .ok (.lconst 0, 1) := by decide +kernel
theorem dX9_polynomial_144 : decode cX9_polynomial 144 = .ok (.ladd, 1) := by decide +kernel
theorem dX9_polynomial_145 : decode cX9_polynomial 145 = .ok (.lstore 11, 2) := by decide +kernel
theorem dX9_polynomial_147 : decode cX9_polynomial 147 = .ok (.iinc 13 1, 3) := by decide +kernel
theorem dX9_polynomial_150 : decode cX9_polynomial 150 = .ok (.goto (-41), 3) := by decide +kernel
theorem dX9_polynomial_153 : decode cX9_polynomial 153 = .ok (.aload_n 0, 1) := by decide +kernel
theorem dX9_polynomial_154 : decode cX9_polynomial 154 = .ok (.getfield 47, 3) := by decide +kernel
theorem dX9_polynomial_157 : decode cX9_polynomial 157 = .ok (.bipush 8, 2) := by decide +kernel
theorem dX9_polynomial_159 : decode cX9_polynomial 159 = .ok (.iload 8, 2) := by decide +kernel
theorem dX9_polynomial_161 : decode cX9_polynomial 161 = .ok (.imul, 1) := by decide +kernel
theorem dX9_polynomial_162 : decode cX9_polynomial 162 = .ok (.iload 10, 2) := by decide +kernel
theorem dX9_polynomial_164 : decode cX9_polynomial 164 = .ok (.iadd, 1) := by decide +kernel
theorem dX9_polynomial_165 : decode cX9_polynomial 165 = .ok (.lload 11, 2) := by decide +kernel
theorem dX9_polynomial_167 : decode cX9_polynomial 167 = .ok (.lastore, 1) := by decide +kernel
theorem dX9_polynomial_168 : decode cX9_polynomial 168 = .ok (.lload 6, 2) := by decide +kernel
theorem dX9_polynomial_170 : decode cX9_polynomial 170 = .ok (.iload 8, 2) := by decide +kernel
theorem dX9_polynomial_172 : decode cX9_polynomial 172 = .ok (.iload 10, 2) := by decide +kernel
theorem dX9_polynomial_174 : decode cX9_polynomial 174 = .ok (.if_icmp .ne 8, 3) := by decide +kernel
theorem dX9_polynomial_177 : decode cX9_polynomial 177 = .ok (.lload 11, 2) := by decide +kernel
theorem dX9_polynomial_179 : decode cX9_polynomial 179 = .ok (.goto 4, 3) := by decide +kernel
theorem dX9_polynomial_182 : decode cX9_polynomial 182 = .ok (.lconst 0, 1) := by decide +kernel
theorem dX9_polynomial_183 : decode cX9_polynomial 183 = .ok (.ladd, 1) := by decide +kernel
theorem dX9_polynomial_184 : decode cX9_polynomial 184 = .ok (.lstore 6, 2) := by decide +kernel
theorem dX9_polynomial_186 : decode cX9_polynomial 186 = .ok (.iinc 10 1, 3) := by decide +kernel
theorem dX9_polynomial_189 : decode cX9_polynomial 189 = .ok (.goto (-92), 3) := by decide +kernel
theorem dX9_polynomial_192 : decode cX9_polynomial 192 = .ok (.iinc 8 1, 3) := by decide +kernel
theorem dX9_polynomial_195 : decode cX9_polynomial 195 = .ok (.goto (-115), 3) := by decide +kernel
theorem dX9_polynomial_198 : decode cX9_polynomial 198 = .ok (.lload 6, 2) := by decide +kernel
theorem dX9_polynomial_200 : decode cX9_polynomial 200 = .ok (.lneg, 1) := by decide +kernel
theorem dX9_polynomial_201 : decode cX9_polynomial 201 = .ok (.iload 5, 2) := by decide +kernel
theorem dX9_polynomial_203 : decode cX9_polynomial 203 = .ok (.i2l, 1) := by decide +kernel
theorem dX9_polynomial_204 : decode cX9_polynomial 204 = .ok (.ldiv, 1) := by decide +kernel
theorem dX9_polynomial_205 : decode cX9_polynomial 205 = .ok (.lstore_n 3, 1) := by decide +kernel
theorem dX9_polynomial_206 : decode cX9_polynomial 206 = .ok (.iconst 0, 1) := by decide +kernel
theorem dX9_polynomial_207 : decode cX9_polynomial 207 = .ok (.istore 8, 2) := by decide +kernel
theorem dX9_polynomial_209 : decode cX9_polynomial 209 = .ok (.iload 8, 2) := by decide +kernel
theorem dX9_polynomial_211 : decode cX9_polynomial 211 = .ok (.iload_n 2, 1) := by decide +kernel
theorem dX9_polynomial_212 : decode cX9_polynomial 212 = .ok (.if_icmp .ge 63, 3) := by decide +kernel
theorem dX9_polynomial_215 : decode cX9_polynomial 215 = .ok (.iconst 0, 1) := by decide +kernel
theorem dX9_polynomial_216 : decode cX9_polynomial 216 = .ok (.istore 9, 2) := by decide +kernel
theorem dX9_polynomial_218 : decode cX9_polynomial 218 = .ok (.iload 9, 2) := by decide +kernel
theorem dX9_polynomial_220 : decode cX9_polynomial 220 = .ok (.iload_n 2, 1) := by decide +kernel
theorem dX9_polynomial_221 : decode cX9_polynomial 221 = .ok (.if_icmp .ge 48, 3) := by decide +kernel
theorem dX9_polynomial_224 : decode cX9_polynomial 224 = .ok (.aload_n 0, 1) := by decide +kernel
theorem dX9_polynomial_225 : decode cX9_polynomial 225 = .ok (.getfield 44, 3) := by decide +kernel
theorem dX9_polynomial_228 : decode cX9_polynomial 228 = .ok (.bipush 8, 2) := by decide +kernel
theorem dX9_polynomial_230 : decode cX9_polynomial 230 = .ok (.iload 8, 2) := by decide +kernel
theorem dX9_polynomial_232 : decode cX9_polynomial 232 = .ok (.imul, 1) := by decide +kernel
theorem dX9_polynomial_233 : decode cX9_polynomial 233 = .ok (.iload 9, 2) := by decide +kernel
theorem dX9_polynomial_235 : decode cX9_polynomial 235 = .ok (.iadd, 1) := by decide +kernel
theorem dX9_polynomial_236 : decode cX9_polynomial 236 = .ok (.aload_n 0, 1) := by decide +kernel
theorem dX9_polynomial_237 : decode cX9_polynomial 237 = .ok (.getfield 47, 3) := by decide +kernel
theorem dX9_polynomial_240 : decode cX9_polynomial 240 = .ok (.bipush 8, 2) := by decide +kernel
theorem dX9_polynomial_242 : decode cX9_polynomial 242 = .ok (.iload 8, 2) := by decide +kernel
theorem dX9_polynomial_244 : decode cX9_polynomial 244 = .ok (.imul, 1) := by decide +kernel
theorem dX9_polynomial_245 : decode cX9_polynomial 245 = .ok (.iload 9, 2) := by decide +kernel
theorem dX9_polynomial_247 : decode cX9_polynomial 247 = .ok (.iadd, 1) := by decide +kernel
theorem dX9_polynomial_248 : decode cX9_polynomial 248 = .ok (.laload, 1) := by decide +kernel
theorem dX9_polynomial_249 : decode cX9_polynomial 249 = .ok (.iload 8, 2) := by decide +kernel
theorem dX9_polynomial_251 : decode cX9_polynomial 251 = .ok (.iload 9, 2) := by decide +kernel
theorem dX9_polynomial_253 : decode cX9_polynomial 253 = .ok (.if_icmp .ne 7, 3) := by decide +kernel
theorem dX9_polynomial_256 : decode cX9_polynomial 256 = .ok (.lload_n 3, 1) := by decide +kernel
theorem dX9_polynomial_257 : decode cX9_polynomial 257 = .ok (.goto 4, 3) := by decide +kernel
theorem dX9_polynomial_260 : decode cX9_polynomial 260 = .ok (.lconst 0, 1) := by decide +kernel
theorem dX9_polynomial_261 : decode cX9_polynomial 261 = .ok (.ladd, 1) := by decide +kernel
theorem dX9_polynomial_262 : decode cX9_polynomial 262 = .ok (.lastore, 1) := by decide +kernel
theorem dX9_polynomial_263 : decode cX9_polynomial 263 = .ok (.iinc 9 1, 3) := by decide +kernel
theorem dX9_polynomial_266 : decode cX9_polynomial 266 = .ok (.goto (-48), 3) := by decide +kernel
theorem dX9_polynomial_269 : decode cX9_polynomial 269 = .ok (.iinc 8 1, 3) := by decide +kernel
theorem dX9_polynomial_272 : decode cX9_polynomial 272 = .ok (.goto (-63), 3) := by decide +kernel
theorem dX9_polynomial_275 : decode cX9_polynomial 275 = .ok (.iinc 5 1, 3) := by decide +kernel
theorem dX9_polynomial_278 : decode cX9_polynomial 278 = .ok (.goto (-212), 3) := by decide +kernel
theorem dX9_polynomial_281 : decode cX9_polynomial 281 = .ok (.lload_n 3, 1) := by decide +kernel
theorem dX9_polynomial_282 : decode cX9_polynomial 282 = .ok (.lreturn, 1) := by decide +kernel
theorem dX9_canTurn_0 : decode cX9_canTurn 0 = .ok (.iconst 0, 1) := by decide +kernel
theorem dX9_canTurn_1 : decode cX9_canTurn 1 = .ok (.istore_n 2, 1) := by decide +kernel
theorem dX9_canTurn_2 : decode cX9_canTurn 2 = .ok (.iconst 0, 1) := by decide +kernel
theorem dX9_canTurn_3 : decode cX9_canTurn 3 = .ok (.istore_n 3, 1) := by decide +kernel
theorem dX9_canTurn_4 : decode cX9_canTurn 4 = .ok (.iload_n 3, 1) := by decide +kernel
theorem dX9_canTurn_5 : decode cX9_canTurn 5 = .ok (.aload_n 0, 1) := by decide +kernel
theorem dX9_canTurn_6 : decode cX9_canTurn 6 = .ok (.getfield 9, 3) := by decide +kernel
theorem dX9_canTurn_9 : decode cX9_canTurn 9 = .ok (.if_icmp .ge 20, 3) := by decide +kernel
theorem dX9_canTurn_12 : decode cX9_canTurn 12 = .ok (.iload_n 2, 1) := by decide +kernel
theorem dX9_canTurn_13 : decode cX9_canTurn 13 = .ok (.iconst 1, 1) := by decide +kernel
theorem dX9_canTurn_14 : decode cX9_canTurn 14 = .ok (.aload_n 0, 1) := by decide +kernel
theorem dX9_canTurn_15 : decode cX9_canTurn 15 = .ok (.getfield 15, 3) := by decide +kernel
theorem dX9_canTurn_18 : decode cX9_canTurn 18 = .ok (.iload_n 3, 1) := by decide +kernel
theorem dX9_canTurn_19 : decode cX9_canTurn 19 = .ok (.iaload, 1) := by decide +kernel
theorem dX9_canTurn_20 : decode cX9_canTurn 20 = .ok (.ishl, 1) := by decide +kernel
theorem dX9_canTurn_21 : decode cX9_canTurn 21 = .ok (.ior, 1) := by decide +kernel
theorem dX9_canTurn_22 : decode cX9_canTurn 22 = .ok (.istore_n 2, 1) := by decide +kernel
theorem dX9_canTurn_23 : decode cX9_canTurn 23 = .ok (.iinc 3 1, 3) := by decide +kernel
theorem dX9_canTurn_26 : decode cX9_canTurn 26 = .ok (.goto (-22), 3) := by decide +kernel
theorem dX9_canTurn_29 : decode cX9_canTurn 29 = .ok (.iload_n 1, 1) := by decide +kernel
theorem dX9_canTurn_30 : decode cX9_canTurn 30 = .ok (.iconst 3, 1) := by decide +kernel
theorem dX9_canTurn_31 : decode cX9_canTurn 31 = .ok (.if_icmp .ne 15, 3) := by decide +kernel
theorem dX9_canTurn_34 : decode cX9_canTurn 34 = .ok (.iload_n 2, 1) := by decide +kernel
theorem dX9_canTurn_35 : decode cX9_canTurn 35 = .ok (.iconst 1, 1) := by decide +kernel
theorem dX9_canTurn_36 : decode cX9_canTurn 36 = .ok (.aload_n 0, 1) := by decide +kernel
theorem dX9_canTurn_37 : decode cX9_canTurn 37 = .ok (.getfield 9, 3) := by decide +kernel
theorem dX9_canTurn_40 : decode cX9_canTurn 40 = .ok (.ishl, 1) := by decide +kernel
theorem dX9_canTurn_41 : decode cX9_canTurn 41 = .ok (.iconst 1, 1) := by decide +kernel
theorem dX9_canTurn_42 : decode cX9_canTurn 42 = .ok (.isub, 1) := by decide +kernel
theorem dX9_canTurn_43 : decode cX9_canTurn 43 = .ok (.if_icmp .ne 7, 3) := by decide +kernel
theorem dX9_canTurn_46 : decode cX9_canTurn 46 = .ok (.iconst 1, 1) := by decide +kernel
theorem dX9_canTurn_47 : decode cX9_canTurn 47 = .ok (.goto 4, 3) := by decide +kernel
theorem dX9_canTurn_50 : decode cX9_canTurn 50 = .ok (.iconst 0, 1) := by decide +kernel
theorem dX9_canTurn_51 : decode cX9_canTurn 51 = .ok (.ireturn, 1) := by decide +kernel
theorem dX9_turns_0 : decode cX9_turns 0 = .ok (.iconst 0, 1) := by decide +kernel
theorem dX9_turns_1 : decode cX9_turns 1 = .ok (.istore_n 3, 1) := by decide +kernel
theorem dX9_turns_2 : decode cX9_turns 2 = .ok (.iload_n 3, 1) := by decide +kernel
theorem dX9_turns_3 : decode cX9_turns 3 = .ok (.aload_n 0, 1) := by decide +kernel
theorem dX9_turns_4 : decode cX9_turns 4 = .ok (.getfield 9, 3) := by decide +kernel
theorem dX9_turns_7 : decode cX9_turns 7 = .ok (.if_icmp .ge 151, 3) := by decide +kernel
theorem dX9_turns_10 : decode cX9_turns 10 = .ok (.iload_n 1, 1) := by decide +kernel
theorem dX9_turns_11 : decode cX9_turns 11 = .ok (.tableswitch 122 0 3 #[29, 58, 78, 107], 29) := by decide +kernel
theorem dX9_turns_40 : decode cX9_turns 40 = .ok (.aload_n 0, 1) := by decide +kernel
theorem dX9_turns_41 : decode cX9_turns 41 = .ok (.getfield 50, 3) := by decide +kernel
theorem dX9_turns_44 : decode cX9_turns 44 = .ok (.aload_n 0, 1) := by decide +kernel
theorem dX9_turns_45 : decode cX9_turns 45 = .ok (.getfield 9, 3) := by decide +kernel
theorem dX9_turns_48 : decode cX9_turns 48 = .ok (.iconst 1, 1) := by decide +kernel
theorem dX9_turns_49 : decode cX9_turns 49 = .ok (.isub, 1) := by decide +kernel
theorem dX9_turns_50 : decode cX9_turns 50 = .ok (.iload_n 3, 1) := by decide +kernel
theorem dX9_turns_51 : decode cX9_turns 51 = .ok (.isub, 1) := by decide +kernel
theorem dX9_turns_52 : decode cX9_turns 52 = .ok (.aload_n 0, 1) := by decide +kernel
theorem dX9_turns_53 : decode cX9_turns 53 = .ok (.getfield 9, 3) := by decide +kernel
theorem dX9_turns_56 : decode cX9_turns 56 = .ok (.iconst 1, 1) := by decide +kernel
theorem dX9_turns_57 : decode cX9_turns 57 = .ok (.isub, 1) := by decide +kernel
theorem dX9_turns_58 : decode cX9_turns 58 = .ok (.aload_n 0, 1) := by decide +kernel
theorem dX9_turns_59 : decode cX9_turns 59 = .ok (.getfield 15, 3) := by decide +kernel
theorem dX9_turns_62 : decode cX9_turns 62 = .ok (.iload_n 3, 1) := by decide +kernel
theorem dX9_turns_63 : decode cX9_turns 63 = .ok (.iaload, 1) := by decide +kernel
theorem dX9_turns_64 : decode cX9_turns 64 = .ok (.isub, 1) := by decide +kernel
theorem dX9_turns_65 : decode cX9_turns 65 = .ok (.iastore, 1) := by decide +kernel
theorem dX9_turns_66 : decode cX9_turns 66 = .ok (.goto 86, 3) := by decide +kernel
theorem dX9_turns_69 : decode cX9_turns 69 = .ok (.aload_n 0, 1) := by decide +kernel
theorem dX9_turns_70 : decode cX9_turns 70 = .ok (.getfield 50, 3) := by decide +kernel
theorem dX9_turns_73 : decode cX9_turns 73 = .ok (.iload_n 3, 1) := by decide +kernel
theorem dX9_turns_74 : decode cX9_turns 74 = .ok (.aload_n 0, 1) := by decide +kernel
theorem dX9_turns_75 : decode cX9_turns 75 = .ok (.getfield 15, 3) := by decide +kernel
theorem dX9_turns_78 : decode cX9_turns 78 = .ok (.aload_n 0, 1) := by decide +kernel
theorem dX9_turns_79 : decode cX9_turns 79 = .ok (.getfield 15, 3) := by decide +kernel
theorem dX9_turns_82 : decode cX9_turns 82 = .ok (.iload_n 3, 1) := by decide +kernel
theorem dX9_turns_83 : decode cX9_turns 83 = .ok (.iaload, 1) := by decide +kernel
theorem dX9_turns_84 : decode cX9_turns 84 = .ok (.iaload, 1) := by decide +kernel
theorem dX9_turns_85 : decode cX9_turns 85 = .ok (.iastore, 1) := by decide +kernel
theorem dX9_turns_86 : decode cX9_turns 86 = .ok (.goto 66, 3) := by decide +kernel
theorem dX9_turns_89 : decode cX9_turns 89 = .ok (.aload_n 0, 1) := by decide +kernel
theorem dX9_turns_90 : decode cX9_turns 90 = .ok (.getfield 50, 3) := by decide +kernel
theorem dX9_turns_93 : decode cX9_turns 93 = .ok (.iload_n 3, 1) := by decide +kernel
theorem dX9_turns_94 : decode cX9_turns 94 = .ok (.iconst 1, 1) := by decide +kernel
theorem dX9_turns_95 : decode cX9_turns 95 = .ok (.iadd, 1) := by decide +kernel
theorem dX9_turns_96 : decode cX9_turns 96 = .ok (.aload_n 0, 1) := by decide +kernel
theorem dX9_turns_97 : decode cX9_turns 97 = .ok (.getfield 9, 3) := by decide +kernel
theorem dX9_turns_100 : decode cX9_turns 100 = .ok (.irem, 1) := by decide +kernel
theorem dX9_turns_101 : decode cX9_turns 101 = .ok (.aload_n 0, 1) := by decide +kernel
theorem dX9_turns_102 : decode cX9_turns 102 = .ok (.getfield 15, 3) := by decide +kernel
theorem dX9_turns_105 : decode cX9_turns 105 = .ok (.iload_n 3, 1) := by decide +kernel
theorem dX9_turns_106 : decode cX9_turns 106 = .ok (.iaload, 1) := by decide +kernel
theorem dX9_turns_107 : decode cX9_turns 107 = .ok (.iconst 1, 1) := by decide +kernel
theorem dX9_turns_108 : decode cX9_turns 108 = .ok (.iadd, 1) := by decide +kernel
theorem dX9_turns_109 : decode cX9_turns 109 = .ok (.aload_n 0, 1) := by decide +kernel
theorem dX9_turns_110 : decode cX9_turns 110 = .ok (.getfield 9, 3) := by decide +kernel
theorem dX9_turns_113 : decode cX9_turns 113 = .ok (.irem, 1) := by decide +kernel
theorem dX9_turns_114 : decode cX9_turns 114 = .ok (.iastore, 1) := by decide +kernel
theorem dX9_turns_115 : decode cX9_turns 115 = .ok (.goto 37, 3) := by decide +kernel
theorem dX9_turns_118 : decode cX9_turns 118 = .ok (.aload_n 0, 1) := by decide +kernel
theorem dX9_turns_119 : decode cX9_turns 119 = .ok (.getfield 50, 3) := by decide +kernel
theorem dX9_turns_122 : decode cX9_turns 122 = .ok (.aload_n 0, 1) := by decide +kernel
theorem dX9_turns_123 : decode cX9_turns 123 = .ok (.getfield 15, 3) := by decide +kernel
theorem dX9_turns_126 : decode cX9_turns 126 = .ok (.iload_n 3, 1) := by decide +kernel
theorem dX9_turns_127 : decode cX9_turns 127 = .ok (.iaload, 1) := by decide +kernel
theorem dX9_turns_128 : decode cX9_turns 128 = .ok (.iload_n 3, 1) := by decide +kernel
theorem dX9_turns_129 : decode cX9_turns 129 = .ok (.iastore, 1) := by decide +kernel
theorem dX9_turns_130 : decode cX9_turns 130 = .ok (.goto 22, 3) := by decide +kernel
theorem dX9_turns_133 : decode cX9_turns 133 = .ok (.aload_n 0, 1) := by decide +kernel
theorem dX9_turns_134 : decode cX9_turns 134 = .ok (.getfield 50, 3) := by decide +kernel
theorem dX9_turns_137 : decode cX9_turns 137 = .ok (.iload_n 3, 1) := by decide +kernel
theorem dX9_turns_138 : decode cX9_turns 138 = .ok (.aload_n 0, 1) := by decide +kernel
theorem dX9_turns_139 : decode cX9_turns 139 = .ok (.getfield 15, 3) := by decide +kernel
theorem dX9_turns_142 : decode cX9_turns 142 = .ok (.iload_n 3, 1) := by decide +kernel
theorem dX9_turns_143 : decode cX9_turns 143 = .ok (.iaload, 1) := by decide +kernel
theorem dX9_turns_144 : decode cX9_turns 144 = .ok (.iload_n 2, 1) := by decide +kernel
theorem dX9_turns_145 : decode cX9_turns 145 = .ok (.iadd, 1) := by decide +kernel
theorem dX9_turns_146 : decode cX9_turns 146 = .ok (.aload_n 0, 1) := by decide +kernel
theorem dX9_turns_147 : decode cX9_turns 147 = .ok (.getfield 9, 3) := by decide +kernel
theorem dX9_turns_150 : decode cX9_turns 150 = .ok (.irem, 1) := by decide +kernel
theorem dX9_turns_151 : decode cX9_turns 151 = .ok (.iastore, 1) := by decide +kernel
theorem dX9_turns_152 : decode cX9_turns 152 = .ok (.iinc 3 1, 3) := by decide +kernel
theorem dX9_turns_155 : decode cX9_turns 155 = .ok (.goto (-153), 3) := by decide +kernel
theorem dX9_turns_158 : decode cX9_turns 158 = .ok (.iconst 0, 1) := by decide +kernel
theorem dX9_turns_159 : decode cX9_turns 159 = .ok (.istore_n 3, 1) := by decide +kernel
theorem dX9_turns_160 : decode cX9_turns 160 = .ok (.iload_n 3, 1) := by decide +kernel
theorem dX9_turns_161 : decode cX9_turns 161 = .ok (.aload_n 0, 1) := by decide +kernel
theorem dX9_turns_162 : decode cX9_turns 162 = .ok (.getfield 9, 3) := by decide +kernel
theorem dX9_turns_165 : decode cX9_turns 165 = .ok (.if_icmp .ge 21, 3) := by decide +kernel
theorem dX9_turns_168 : decode cX9_turns 168 = .ok (.aload_n 0, 1) := by decide +kernel
theorem dX9_turns_169 : decode cX9_turns 169 = .ok (.getfield 15, 3) := by decide +kernel
theorem dX9_turns_172 : decode cX9_turns 172 = .ok (.iload_n 3, 1) := by decide +kernel
theorem dX9_turns_173 : decode cX9_turns 173 = .ok (.aload_n 0, 1) := by decide +kernel
theorem dX9_turns_174 : decode cX9_turns 174 = .ok (.getfield 50, 3) := by decide +kernel
theorem dX9_turns_177 : decode cX9_turns 177 = .ok (.iload_n 3, 1) := by decide +kernel
theorem dX9_turns_178 : decode cX9_turns 178 = .ok (.iaload, 1) := by decide +kernel
theorem dX9_turns_179 : decode cX9_turns 179 = .ok (.iastore, 1) := by decide +kernel
theorem dX9_turns_180 : decode cX9_turns 180 = .ok (.iinc 3 1, 3) := by decide +kernel
theorem dX9_turns_183 : decode cX9_turns 183 = .ok (.goto (-23), 3) := by decide +kernel
theorem dX9_turns_186 : decode cX9_turns 186 = .ok (.return_, 1) := by decide +kernel
set_option maxRecDepth 20000 in
theorem ggX9_turn_X9_in : GoodIn wsX9_turn wsX9_in := goodIn_r _ [6] (by decide +kernel) (by decide +kernel)
set_option maxRecDepth 20000 in
theorem gX9_turn_X9_in : GoodIn wsX9_turn (va_wsS RX9 62 yX9_in wsX9_in) := goodIn_app (goodIn_of _ (by decide +kernel)) ggX9_turn_X9_in
set_option maxRecDepth 20000 in
theorem ggX9_turn_X9_remembers : GoodIn wsX9_turn wsX9_remembers := goodIn_r _ [10, 11, 12, 13, 24, 25, 26, 27, 28, 29, 30, 31, 32, 33, 34, 35, 36, 37, 38, 39, 40, 41, 42, 43, 44, 45, 46, 47] (by decide +kernel) (by decide +kernel)
set_option maxRecDepth 20000 in
theorem gX9_turn_X9_remembers : GoodIn wsX9_turn (wsV RX9 80 RX9 yX9_remembers wsX9_remembers) := goodIn_app (goodIn_of _ (by decide +kernel)) ggX9_turn_X9_remembers
set_option maxRecDepth 20000 in
theorem ggX9_turn_X9_canTurn : GoodIn wsX9_turn wsX9_canTurn := goodIn_r _ [17, 18, 13, 24, 25, 26, 27, 28, 29, 30, 31, 32, 33, 34, 35, 36, 37, 38, 39, 40, 41, 42, 43, 44, 45, 46, 47] (by decide +kernel) (by decide +kernel)
set_option maxRecDepth 20000 in
theorem gX9_turn_X9_canTurn : GoodIn wsX9_turn (wsV RX9 204 RX9 yX9_canTurn wsX9_canTurn) := goodIn_app (goodIn_of _ (by decide +kernel)) ggX9_turn_X9_canTurn
set_option maxRecDepth 20000 in
theorem ggX9_turn_X9_turns : GoodIn wsX9_turn wsX9_turns := goodIn_r _ [22, 18, 23, 13, 24, 25, 26, 27, 28, 29, 30, 31, 32, 33, 34, 35, 36, 37, 38, 39, 40, 41, 42, 43, 44, 45, 46, 47] (by decide +kernel) (by decide +kernel)
set_option maxRecDepth 20000 in
theorem gX9_turn_X9_turns : GoodIn wsX9_turn (wsV RX9 207 RX9 yX9_turns wsX9_turns) := goodIn_app (goodIn_of _ (by decide +kernel)) ggX9_turn_X9_turns
theorem dX9_turn_0 : decode cX9_turn 0 = .ok (.iload_n 1, 1) := by decide +kernel
theorem dX9_turn_1 : decode cX9_turn 1 = .ok (.i2l, 1) := by decide +kernel
theorem dX9_turn_2 : decode cX9_turn 2 = .ok (.lconst 1, 1) := by decide +kernel
theorem dX9_turn_3 : decode cX9_turn 3 = .ok (.ldc2_w 188, 3) := by decide +kernel
theorem dX9_turn_6 : decode cX9_turn 6 = .ok (.invokestatic 62, 3) := by decide +kernel
theorem dX9_turn_9 : decode cX9_turn 9 = .ok (.ifCond .eq 19, 3) := by decide +kernel
theorem dX9_turn_12 : decode cX9_turn 12 = .ok (.iload_n 2, 1) := by decide +kernel
theorem dX9_turn_13 : decode cX9_turn 13 = .ok (.ifCond .lt 15, 3) := by decide +kernel
theorem dX9_turn_16 : decode cX9_turn 16 = .ok (.iload_n 3, 1) := by decide +kernel
theorem dX9_turn_17 : decode cX9_turn 17 = .ok (.i2l, 1) := by decide +kernel
theorem dX9_turn_18 : decode cX9_turn 18 = .ok (.lconst 0, 1) := by decide +kernel
theorem dX9_turn_19 : decode cX9_turn 19 = .ok (.ldc2_w 202, 3) := by decide +kernel
theorem dX9_turn_22 : decode cX9_turn 22 = .ok (.invokestatic 62, 3) := by decide +kernel
theorem dX9_turn_25 : decode cX9_turn 25 = .ok (.ifCond .ne 6, 3) := by decide +kernel
theorem dX9_turn_28 : decode cX9_turn 28 = .ok (.bipush (-2), 2) := by decide +kernel
theorem dX9_turn_30 : decode cX9_turn 30 = .ok (.ireturn, 1) := by decide +kernel
theorem dX9_turn_31 : decode cX9_turn 31 = .ok (.iload_n 2, 1) := by decide +kernel
theorem dX9_turn_32 : decode cX9_turn 32 = .ok (.istore 4, 2) := by decide +kernel
theorem dX9_turn_34 : decode cX9_turn 34 = .ok (.iconst 1, 1) := by decide +kernel
theorem dX9_turn_35 : decode cX9_turn 35 = .ok (.istore 5, 2) := by decide +kernel
theorem dX9_turn_37 : decode cX9_turn 37 = .ok (.iconst 1, 1) := by decide +kernel
theorem dX9_turn_38 : decode cX9_turn 38 = .ok (.istore 6, 2) := by decide +kernel
theorem dX9_turn_40 : decode cX9_turn 40 = .ok (.iconst 0, 1) := by decide +kernel
theorem dX9_turn_41 : decode cX9_turn 41 = .ok (.istore 7, 2) := by decide +kernel
theorem dX9_turn_43 : decode cX9_turn 43 = .ok (.iload 7, 2) := by decide +kernel
theorem dX9_turn_45 : decode cX9_turn 45 = .ok (.iload_n 1, 1) := by decide +kernel
theorem dX9_turn_46 : decode cX9_turn 46 = .ok (.if_icmp .ge 42, 3) := by decide +kernel
theorem dX9_turn_49 : decode cX9_turn 49 = .ok (.iload 6, 2) := by decide +kernel
theorem dX9_turn_51 : decode cX9_turn 51 = .ok (.iload 4, 2) := by decide +kernel
theorem dX9_turn_53 : decode cX9_turn 53 = .ok (.bipush 10, 2) := by decide +kernel
theorem dX9_turn_55 : decode cX9_turn 55 = .ok (.irem, 1) := by decide +kernel
theorem dX9_turn_56 : decode cX9_turn 56 = .ok (.iconst 4, 1) := by decide +kernel
theorem dX9_turn_57 : decode cX9_turn 57 = .ok (.if_icmp .gt 7, 3) := by decide +kernel
theorem dX9_turn_60 : decode cX9_turn 60 = .ok (.iconst 1, 1) := by decide +kernel
theorem dX9_turn_61 : decode cX9_turn 61 = .ok (.goto 4, 3) := by decide +kernel
theorem dX9_turn_64 : decode cX9_turn 64 = .ok (.iconst 0, 1) := by decide +kernel
theorem dX9_turn_65 : decode cX9_turn 65 = .ok (.iand, 1) := by decide +kernel
theorem dX9_turn_66 : decode cX9_turn 66 = .ok (.istore 6, 2) := by decide +kernel
theorem dX9_turn_68 : decode cX9_turn 68 = .ok (.iload 4, 2) := by decide +kernel
theorem dX9_turn_70 : decode cX9_turn 70 = .ok (.bipush 10, 2) := by decide +kernel
theorem dX9_turn_72 : decode cX9_turn 72 = .ok (.idiv, 1) := by decide +kernel
theorem dX9_turn_73 : decode cX9_turn 73 = .ok (.istore 4, 2) := by decide +kernel
theorem dX9_turn_75 : decode cX9_turn 75 = .ok (.iload 5, 2) := by decide +kernel
theorem dX9_turn_77 : decode cX9_turn 77 = .ok (.bipush 10, 2) := by decide +kernel
theorem dX9_turn_79 : decode cX9_turn 79 = .ok (.imul, 1) := by decide +kernel
theorem dX9_turn_80 : decode cX9_turn 80 = .ok (.istore 5, 2) := by decide +kernel
theorem dX9_turn_82 : decode cX9_turn 82 = .ok (.iinc 7 1, 3) := by decide +kernel
theorem dX9_turn_85 : decode cX9_turn 85 = .ok (.goto (-42), 3) := by decide +kernel
theorem dX9_turn_88 : decode cX9_turn 88 = .ok (.iload 6, 2) := by decide +kernel
theorem dX9_turn_90 : decode cX9_turn 90 = .ok (.ifCond .eq 8, 3) := by decide +kernel
theorem dX9_turn_93 : decode cX9_turn 93 = .ok (.iload 4, 2) := by decide +kernel
theorem dX9_turn_95 : decode cX9_turn 95 = .ok (.ifCond .le 6, 3) := by decide +kernel
theorem dX9_turn_98 : decode cX9_turn 98 = .ok (.bipush (-2), 2) := by decide +kernel
theorem dX9_turn_100 : decode cX9_turn 100 = .ok (.ireturn, 1) := by decide +kernel
theorem dX9_turn_101 : decode cX9_turn 101 = .ok (.aload_n 0, 1) := by decide +kernel
theorem dX9_turn_102 : decode cX9_turn 102 = .ok (.invokevirtual 80, 3) := by decide +kernel
theorem dX9_turn_105 : decode cX9_turn 105 = .ok (.iconst 0, 1) := by decide +kernel
theorem dX9_turn_106 : decode cX9_turn 106 = .ok (.istore 7, 2) := by decide +kernel
theorem dX9_turn_108 : decode cX9_turn 108 = .ok (.iconst 0, 1) := by decide +kernel
theorem dX9_turn_109 : decode cX9_turn 109 = .ok (.istore 8, 2) := by decide +kernel
theorem dX9_turn_111 : decode cX9_turn 111 = .ok (.iload 8, 2) := by decide +kernel
theorem dX9_turn_113 : decode cX9_turn 113 = .ok (.iload_n 1, 1) := by decide +kernel
theorem dX9_turn_114 : decode cX9_turn 114 = .ok (.if_icmp .ge 44, 3) := by decide +kernel
theorem dX9_turn_117 : decode cX9_turn 117 = .ok (.iload 5, 2) := by decide +kernel
theorem dX9_turn_119 : decode cX9_turn 119 = .ok (.bipush 10, 2) := by decide +kernel
theorem dX9_turn_121 : decode cX9_turn 121 = .ok (.idiv, 1) := by decide +kernel
theorem dX9_turn_122 : decode cX9_turn 122 = .ok (.istore 5, 2) := by decide +kernel
theorem dX9_turn_124 : decode cX9_turn 124 = .ok (.iload_n 2, 1) := by decide +kernel
theorem dX9_turn_125 : decode cX9_turn 125 = .ok (.iload 5, 2) := by decide +kernel
theorem dX9_turn_127 : decode cX9_turn 127 = .ok (.idiv, 1) := by decide +kernel
theorem dX9_turn_128 : decode cX9_turn 128 = .ok (.bipush 10, 2) := by decide +kernel
theorem dX9_turn_130 : decode cX9_turn 130 = .ok (.irem, 1) := by decide +kernel
theorem dX9_turn_131 : decode cX9_turn 131 = .ok (.istore 9, 2) := by decide +kernel
theorem dX9_turn_133 : decode cX9_turn 133 = .ok (.aload_n 0, 1) := by decide +kernel
theorem dX9_turn_134 : decode cX9_turn 134 = .ok (.iload 9, 2) := by decide +kernel
theorem dX9_turn_136 : decode cX9_turn 136 = .ok (.invokevirtual 204, 3) := by decide +kernel
theorem dX9_turn_139 : decode cX9_turn 139 = .ok (.ifCond .eq 13, 3) := by decide +kernel
theorem dX9_turn_142 : decode cX9_turn 142 = .ok (.aload_n 0, 1) := by decide +kernel
theorem dX9_turn_143 : decode cX9_turn 143 = .ok (.iload 9, 2) := by decide +kernel
theorem dX9_turn_145 : decode cX9_turn 145 = .ok (.iload_n 3, 1) := by decide +kernel
theorem dX9_turn_146 : decode cX9_turn 146 = .ok (.invokevirtual 207, 3) := by decide +kernel
theorem dX9_turn_149 : decode cX9_turn 149 = .ok (.iinc 7 1, 3) := by decide +kernel
theorem dX9_turn_152 : decode cX9_turn 152 = .ok (.iinc 8 1, 3) := by decide +kernel
theorem dX9_turn_155 : decode cX9_turn 155 = .ok (.goto (-44), 3) := by decide +kernel
theorem dX9_turn_158 : decode cX9_turn 158 = .ok (.iload 7, 2) := by decide +kernel
theorem dX9_turn_160 : decode cX9_turn 160 = .ok (.ireturn, 1) := by decide +kernel
set_option maxRecDepth 20000 in
theorem ggX9_feed_X9_in : GoodIn wsX9_feed wsX9_in := goodIn_r _ [7] (by decide +kernel) (by decide +kernel)
set_option maxRecDepth 20000 in
theorem gX9_feed_X9_in : GoodIn wsX9_feed (va_wsS RX9 62 yX9_in wsX9_in) := goodIn_app (goodIn_of _ (by decide +kernel)) ggX9_feed_X9_in
theorem dX9_feed_0 : decode cX9_feed 0 = .ok (.iload_n 1, 1) := by decide +kernel
theorem dX9_feed_1 : decode cX9_feed 1 = .ok (.i2l, 1) := by decide +kernel
theorem dX9_feed_2 : decode cX9_feed 2 = .ok (.lconst 0, 1) := by decide +kernel
theorem dX9_feed_3 : decode cX9_feed 3 = .ok (.ldc2_w 210, 3) := by decide +kernel
theorem dX9_feed_6 : decode cX9_feed 6 = .ok (.invokestatic 62, 3) := by decide +kernel
theorem dX9_feed_9 : decode cX9_feed 9 = .ok (.ifCond .ne 6, 3) := by decide +kernel
theorem dX9_feed_12 : decode cX9_feed 12 = .ok (.bipush (-2), 2) := by decide +kernel
theorem dX9_feed_14 : decode cX9_feed 14 = .ok (.ireturn, 1) := by decide +kernel
theorem dX9_feed_15 : decode cX9_feed 15 = .ok (.aload_n 0, 1) := by decide +kernel
theorem dX9_feed_16 : decode cX9_feed 16 = .ok (.getfield 212, 3) := by decide +kernel
theorem dX9_feed_19 : decode cX9_feed 19 = .ok (.bipush 60, 2) := by decide +kernel
theorem dX9_feed_21 : decode cX9_feed 21 = .ok (.if_icmp .ne 6, 3) := by decide +kernel
theorem dX9_feed_24 : decode cX9_feed 24 = .ok (.bipush (-4), 2) := by decide +kernel
theorem dX9_feed_26 : decode cX9_feed 26 = .ok (.ireturn, 1) := by decide +kernel
theorem dX9_feed_27 : decode cX9_feed 27 = .ok (.aload_n 0, 1) := by decide +kernel
theorem dX9_feed_28 : decode cX9_feed 28 = .ok (.getfield 53, 3) := by decide +kernel
theorem dX9_feed_31 : decode cX9_feed 31 = .ok (.aload_n 0, 1) := by decide +kernel
theorem dX9_feed_32 : decode cX9_feed 32 = .ok (.getfield 212, 3) := by decide +kernel
theorem dX9_feed_35 : decode cX9_feed 35 = .ok (.iload_n 1, 1) := by decide +kernel
theorem dX9_feed_36 : decode cX9_feed 36 = .ok (.iastore, 1) := by decide +kernel
theorem dX9_feed_37 : decode cX9_feed 37 = .ok (.aload_n 0, 1) := by decide +kernel
theorem dX9_feed_38 : decode cX9_feed 38 = .ok (.dup, 1) := by decide +kernel
theorem dX9_feed_39 : decode cX9_feed 39 = .ok (.getfield 212, 3) := by decide +kernel
theorem dX9_feed_42 : decode cX9_feed 42 = .ok (.iconst 1, 1) := by decide +kernel
theorem dX9_feed_43 : decode cX9_feed 43 = .ok (.iadd, 1) := by decide +kernel
theorem dX9_feed_44 : decode cX9_feed 44 = .ok (.putfield 212, 3) := by decide +kernel
theorem dX9_feed_47 : decode cX9_feed 47 = .ok (.aload_n 0, 1) := by decide +kernel
theorem dX9_feed_48 : decode cX9_feed 48 = .ok (.getfield 212, 3) := by decide +kernel
theorem dX9_feed_51 : decode cX9_feed 51 = .ok (.ireturn, 1) := by decide +kernel
theorem dX9_byteAt_0 : decode cX9_byteAt 0 = .ok (.iload_n 1, 1) := by decide +kernel
theorem dX9_byteAt_1 : decode cX9_byteAt 1 = .ok (.aload_n 0, 1) := by decide +kernel
theorem dX9_byteAt_2 : decode cX9_byteAt 2 = .ok (.getfield 212, 3) := by decide +kernel
theorem dX9_byteAt_5 : decode cX9_byteAt 5 = .ok (.if_icmp .ge 12, 3) := by decide +kernel
theorem dX9_byteAt_8 : decode cX9_byteAt 8 = .ok (.aload_n 0, 1) := by decide +kernel
theorem dX9_byteAt_9 : decode cX9_byteAt 9 = .ok (.getfield 53, 3) := by decide +kernel
theorem dX9_byteAt_12 : decode cX9_byteAt 12 = .ok (.iload_n 1, 1) := by decide +kernel
theorem dX9_byteAt_13 : decode cX9_byteAt 13 = .ok (.iaload, 1) := by decide +kernel
theorem dX9_byteAt_14 : decode cX9_byteAt 14 = .ok (.goto 4, 3) := by decide +kernel
theorem dX9_byteAt_17 : decode cX9_byteAt 17 = .ok (.iconst (-1), 1) := by decide +kernel
theorem dX9_byteAt_18 : decode cX9_byteAt 18 = .ok (.ireturn, 1) := by decide +kernel
set_option maxRecDepth 20000 in
theorem ggX9_read_X9_byteAt : GoodIn wsX9_read wsX9_byteAt := goodIn_r _ [11, 2, 12, 29, 30, 31, 32, 33, 34, 35, 36, 37, 38, 39, 40, 41, 42, 43, 44, 45, 46, 47, 48, 49, 50, 51, 52] (by decide +kernel) (by decide +kernel)
set_option maxRecDepth 20000 in
theorem gX9_read_X9_byteAt : GoodIn wsX9_read (wsV RX9 215 RX9 yX9_byteAt wsX9_byteAt) := goodIn_app (goodIn_of _ (by decide +kernel)) ggX9_read_X9_byteAt
set_option maxRecDepth 20000 in
theorem ggX9_read_X9_in : GoodIn wsX9_read wsX9_in := goodIn_r _ [15] (by decide +kernel) (by decide +kernel)
set_option maxRecDepth 20000 in
theorem gX9_read_X9_in : GoodIn wsX9_read (va_wsS RX9 62 yX9_in wsX9_in) := goodIn_app (goodIn_of _ (by decide +kernel)) ggX9_read_X9_in
set_option maxRecDepth 20000 in
theorem ggX9_read_J6_bitCount_0f7a4 : GoodIn wsX9_read wsJ6_bitCount_0f7a4 := goodIn_r _ [19, 20, 21, 22] (by decide +kernel) (by decide +kernel)
set_option maxRecDepth 20000 in
theorem gX9_read_J6_bitCount_0f7a4 : GoodIn wsX9_read (va_wsS RX9 95 yJ6_bitCount_0f7a4 wsJ6_bitCount_0f7a4) := goodIn_app (goodIn_of _ (by decide +kernel)) ggX9_read_J6_bitCount_0f7a4
set_option maxRecDepth 20000 in
theorem ggX9_read_X9_remembers : GoodIn wsX9_read wsX9_remembers := goodIn_r _ [26, 27, 28, 6, 29, 30, 31, 32, 33, 34, 35, 36, 37, 38, 39, 40, 41, 42, 43, 44, 45, 46, 47, 48, 49, 50, 51, 52] (by decide +kernel) (by decide +kernel)
set_option maxRecDepth 20000 in
theorem gX9_read_X9_remembers : GoodIn wsX9_read (wsV RX9 80 RX9 yX9_remembers wsX9_remembers) := goodIn_app (goodIn_of _ (by decide +kernel)) ggX9_read_X9_remembers
theorem dX9_read_0 : decode cX9_read 0 = .ok (.iconst 0, 1) := by decide +kernel
theorem dX9_read_1 : decode cX9_read 1 = .ok (.istore_n 1, 1) := by decide +kernel
theorem dX9_read_2 : decode cX9_read 2 = .ok (.iconst 0, 1) := by decide +kernel
theorem dX9_read_3 : decode cX9_read 3 = .ok (.istore_n 2, 1) := by decide +kernel
theorem dX9_read_4 : decode cX9_read 4 = .ok (.iconst 0, 1) := by decide +kernel
theorem dX9_read_5 : decode cX9_read 5 = .ok (.istore_n 3, 1) := by decide +kernel
theorem dX9_read_6 : decode cX9_read 6 = .ok (.iconst 0, 1) := by decide +kernel
theorem dX9_read_7 : decode cX9_read 7 = .ok (.istore 4, 2) := by decide +kernel
theorem dX9_read_9 : decode cX9_read 9 = .ok (.iconst 0, 1) := by decide +kernel
theorem dX9_read_10 : decode cX9_read 10 = .ok (.istore 5, 2) := by decide +kernel
theorem dX9_read_12 : decode cX9_read 12 = .ok (.iconst 0, 1) := by decide +kernel
theorem dX9_read_13 : decode cX9_read 13 = .ok (.istore 6, 2) := by decide +kernel
theorem dX9_read_15 : decode cX9_read 15 = .ok (.iconst 1, 1) := by decide +kernel
theorem dX9_read_16 : decode cX9_read 16 = .ok (.istore 7, 2) := by decide +kernel
theorem dX9_read_18 : decode cX9_read 18 = .ok (.iconst 0, 1) := by decide +kernel
theorem dX9_read_19 : decode cX9_read 19 = .ok (.istore 8, 2) := by decide +kernel
theorem dX9_read_21 : decode cX9_read 21 = .ok (.iload 8, 2) := by decide +kernel
theorem dX9_read_23 : decode cX9_read 23 = .ok (.bipush 8, 2) := by decide +kernel
theorem dX9_read_25 : decode cX9_read 25 = .ok (.if_icmp .ge 18, 3) := by decide +kernel
theorem dX9_read_28 : decode cX9_read 28 = .ok (.aload_n 0, 1) := by decide +kernel
theorem dX9_read_29 : decode cX9_read 29 = .ok (.getfield 50, 3) := by decide +kernel
theorem dX9_read_32 : decode cX9_read 32 = .ok (.iload 8, 2) := by decide +kernel
theorem dX9_read_34 : decode cX9_read 34 = .ok (.iload 8, 2) := by decide +kernel
theorem dX9_read_36 : decode cX9_read 36 = .ok (.iastore, 1) := by decide +kernel
theorem dX9_read_37 : decode cX9_read 37 = .ok (.iinc 8 1, 3) := by decide +kernel
theorem dX9_read_40 : decode cX9_read 40 = .ok (.goto (-19), 3) := by decide +kernel
theorem dX9_read_43 : decode cX9_read 43 = .ok (.iload 7, 2) := by decide +kernel
theorem dX9_read_45 : decode cX9_read 45 = .ok (.ifCond .eq 217, 3) := by decide +kernel
theorem dX9_read_48 : decode cX9_read 48 = .ok (.iload_n 3, 1) := by decide +kernel
theorem dX9_read_49 : decode cX9_read 49 = .ok (.aload_n 0, 1) := by decide +kernel
theorem dX9_read_50 : decode cX9_read 50 = .ok (.getfield 212, 3) := by decide +kernel
theorem dX9_read_53 : decode cX9_read 53 = .ok (.if_icmp .ge 209, 3) := by decide +kernel
theorem dX9_read_56 : decode cX9_read 56 = .ok (.aload_n 0, 1) := by decide +kernel
theorem dX9_read_57 : decode cX9_read 57 = .ok (.iload_n 3, 1) := by decide +kernel
theorem dX9_read_58 : decode cX9_read 58 = .ok (.invokevirtual 215, 3) := by decide +kernel
theorem dX9_read_61 : decode cX9_read 61 = .ok (.istore 8, 2) := by decide +kernel
theorem dX9_read_63 : decode cX9_read 63 = .ok (.iload 6, 2) := by decide +kernel
theorem dX9_read_65 : decode cX9_read 65 = .ok (.ifCond .ne 26, 3) := by decide +kernel
theorem dX9_read_68 : decode cX9_read 68 = .ok (.iload 8, 2) := by decide +kernel
theorem dX9_read_70 : decode cX9_read 70 = .ok (.bipush 40, 2) := by decide +kernel
theorem dX9_read_72 : decode cX9_read 72 = .ok (.if_icmp .ne 7, 3) := by decide +kernel
theorem dX9_read_75 : decode cX9_read 75 = .ok (.iconst 1, 1) := by decide +kernel
theorem dX9_read_76 : decode cX9_read 76 = .ok (.goto 4, 3) := by decide +kernel
theorem dX9_read_79 : decode cX9_read 79 = .ok (.iconst 0, 1) := by decide +kernel
theorem dX9_read_80 : decode cX9_read 80 = .ok (.istore 7, 2) := by decide +kernel
theorem dX9_read_82 : decode cX9_read 82 = .ok (.iconst 1, 1) := by decide +kernel
theorem dX9_read_83 : decode cX9_read 83 = .ok (.istore 6, 2) := by decide +kernel
theorem dX9_read_85 : decode cX9_read 85 = .ok (.iconst (-1), 1) := by decide +kernel
theorem dX9_read_86 : decode cX9_read 86 = .ok (.istore 4, 2) := by decide +kernel
theorem dX9_read_88 : decode cX9_read 88 = .ok (.goto 158, 3) := by decide +kernel
theorem dX9_read_91 : decode cX9_read 91 = .ok (.iload 6, 2) := by decide +kernel
theorem dX9_read_93 : decode cX9_read 93 = .ok (.iconst 1, 1) := by decide +kernel
theorem dX9_read_94 : decode cX9_read 94 = .ok (.if_icmp .ne 98, 3) := by decide +kernel
theorem dX9_read_97 : decode cX9_read 97 = .ok (.iload 8, 2) := by decide +kernel
theorem dX9_read_99 : decode cX9_read 99 = .ok (.bipush 48, 2) := by decide +kernel
theorem dX9_read_101 : decode cX9_read 101 = .ok (.isub, 1) := by decide +kernel
theorem dX9_read_102 : decode cX9_read 102 = .ok (.istore 9, 2) := by decide +kernel
theorem dX9_read_104 : decode cX9_read 104 = .ok (.iload 9, 2) := by decide +kernel
theorem dX9_read_106 : decode cX9_read 106 = .ok (.i2l, 1) := by decide +kernel
theorem dX9_read_107 : decode cX9_read 107 = .ok (.lconst 0, 1) := by decide +kernel
theorem dX9_read_108 : decode cX9_read 108 = .ok (.aload_n 0, 1) := by decide +kernel
theorem dX9_read_109 : decode cX9_read 109 = .ok (.getfield 9, 3) := by decide +kernel
theorem dX9_read_112 : decode cX9_read 112 = .ok (.iconst 1, 1) := by decide +kernel
theorem dX9_read_113 : decode cX9_read 113 = .ok (.isub, 1) := by decide +kernel
theorem dX9_read_114 : decode cX9_read 114 = .ok (.i2l, 1) := by decide +kernel
theorem dX9_read_115 : decode cX9_read 115 = .ok (.invokestatic 62, 3) := by decide +kernel
theorem dX9_read_118 : decode cX9_read 118 = .ok (.ifCond .eq 16, 3) := by decide +kernel
theorem dX9_read_121 : decode cX9_read 121 = .ok (.iload_n 1, 1) := by decide +kernel
theorem dX9_read_122 : decode cX9_read 122 = .ok (.iload 9, 2) := by decide +kernel
theorem dX9_read_124 : decode cX9_read 124 = .ok (.ishr, 1) := by decide +kernel
theorem dX9_read_125 : decode cX9_read 125 = .ok (.iconst 1, 1) := by decide +kernel
theorem dX9_read_126 : decode cX9_read 126 = .ok (.iand, 1) := by decide +kernel
theorem dX9_read_127 : decode cX9_read 127 = .ok (.ifCond .ne 7, 3) := by decide +kernel
theorem dX9_read_130 : decode cX9_read 130 = .ok (.iconst 1, 1) := by decide +kernel
theorem dX9_read_131 : decode cX9_read 131 = .ok (.goto 4, 3) := by decide +kernel
theorem dX9_read_134 : decode cX9_read 134 = .ok (.iconst 0, 1) := by decide +kernel
theorem dX9_read_135 : decode cX9_read 135 = .ok (.istore 7, 2) := by decide +kernel
theorem dX9_read_137 : decode cX9_read 137 = .ok (.iload 7, 2) := by decide +kernel
theorem dX9_read_139 : decode cX9_read 139 = .ok (.ifCond .eq 47, 3) := by decide +kernel
theorem dX9_read_142 : decode cX9_read 142 = .ok (.iload_n 1, 1) := by decide +kernel
theorem dX9_read_143 : decode cX9_read 143 = .ok (.iconst 1, 1) := by decide +kernel
theorem dX9_read_144 : decode cX9_read 144 = .ok (.iload 9, 2) := by decide +kernel
theorem dX9_read_146 : decode cX9_read 146 = .ok (.ishl, 1) := by decide +kernel
theorem dX9_read_147 : decode cX9_read 147 = .ok (.ior, 1) := by decide +kernel
theorem dX9_read_148 : decode cX9_read 148 = .ok (.istore_n 1, 1) := by decide +kernel
theorem dX9_read_149 : decode cX9_read 149 = .ok (.aload_n 0, 1) := by decide +kernel
theorem dX9_read_150 : decode cX9_read 150 = .ok (.getfield 50, 3) := by decide +kernel
theorem dX9_read_153 : decode cX9_read 153 = .ok (.iload 4, 2) := by decide +kernel
theorem dX9_read_155 : decode cX9_read 155 = .ok (.ifCond .ge 8, 3) := by decide +kernel
theorem dX9_read_158 : decode cX9_read 158 = .ok (.iload 9, 2) := by decide +kernel
theorem dX9_read_160 : decode cX9_read 160 = .ok (.goto 5, 3) := by decide +kernel
theorem dX9_read_163 : decode cX9_read 163 = .ok (.iload 5, 2) := by decide +kernel
theorem dX9_read_165 : decode cX9_read 165 = .ok (.iload 9, 2) := by decide +kernel
theorem dX9_read_167 : decode cX9_read 167 = .ok (.iastore, 1) := by decide +kernel
theorem dX9_read_168 : decode cX9_read 168 = .ok (.iload 4, 2) := by decide +kernel
theorem dX9_read_170 : decode cX9_read 170 = .ok (.ifCond .ge 8, 3) := by decide +kernel
theorem dX9_read_173 : decode cX9_read 173 = .ok (.iload 9, 2) := by decide +kernel
theorem dX9_read_175 : decode cX9_read 175 = .ok (.goto 5, 3) := by decide +kernel
theorem dX9_read_178 : decode cX9_read 178 = .ok (.iload 4, 2) := by decide +kernel
theorem dX9_read_180 : decode cX9_read 180 = .ok (.istore 4, 2) := by decide +kernel
theorem dX9_read_182 : decode cX9_read 182 = .ok (.iload 9, 2) := by decide +kernel
theorem dX9_read_184 : decode cX9_read 184 = .ok (.istore 5, 2) := by decide +kernel
theorem dX9_read_186 : decode cX9_read 186 = .ok (.iconst 2, 1) := by decide +kernel
theorem dX9_read_187 : decode cX9_read 187 = .ok (.istore 6, 2) := by decide +kernel

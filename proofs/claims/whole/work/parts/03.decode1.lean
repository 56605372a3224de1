theorem dX4_numberRows_22 : decode cX4_numberRows 22 = .ok (.iload_n 2, 1) := by decide +kernel
theorem dX4_numberRows_23 : decode cX4_numberRows 23 = .ok (.iload_n 1, 1) := by decide +kernel
theorem dX4_numberRows_24 : decode cX4_numberRows 24 = .ok (.if_icmp .ge 66, 3) := by decide +kernel
theorem dX4_numberRows_27 : decode cX4_numberRows 27 = .ok (.iload_n 2, 1) := by decide +kernel
theorem dX4_numberRows_28 : decode cX4_numberRows 28 = .ok (.iconst 1, 1) := by decide +kernel
theorem dX4_numberRows_29 : decode cX4_numberRows 29 = .ok (.iadd, 1) := by decide +kernel
theorem dX4_numberRows_30 : decode cX4_numberRows 30 = .ok (.istore_n 3, 1) := by decide +kernel
theorem dX4_numberRows_31 : decode cX4_numberRows 31 = .ok (.iload_n 3, 1) := by decide +kernel
theorem dX4_numberRows_32 : decode cX4_numberRows 32 = .ok (.iload_n 1, 1) := by decide +kernel
theorem dX4_numberRows_33 : decode cX4_numberRows 33 = .ok (.if_icmp .ge 51, 3) := by decide +kernel
theorem dX4_numberRows_36 : decode cX4_numberRows 36 = .ok (.aload_n 0, 1) := by decide +kernel
theorem dX4_numberRows_37 : decode cX4_numberRows 37 = .ok (.iload_n 1, 1) := by decide +kernel
theorem dX4_numberRows_38 : decode cX4_numberRows 38 = .ok (.iload_n 2, 1) := by decide +kernel
theorem dX4_numberRows_39 : decode cX4_numberRows 39 = .ok (.iload_n 3, 1) := by decide +kernel
theorem dX4_numberRows_40 : decode cX4_numberRows 40 = .ok (.invokevirtual 123, 3) := by decide +kernel
theorem dX4_numberRows_43 : decode cX4_numberRows 43 = .ok (.istore 4, 2) := by decide +kernel
theorem dX4_numberRows_45 : decode cX4_numberRows 45 = .ok (.iload 4, 2) := by decide +kernel
theorem dX4_numberRows_47 : decode cX4_numberRows 47 = .ok (.iload_n 1, 1) := by decide +kernel
theorem dX4_numberRows_48 : decode cX4_numberRows 48 = .ok (.if_icmp .ne 5, 3) := by decide +kernel
theorem dX4_numberRows_51 : decode cX4_numberRows 51 = .ok (.iconst 0, 1) := by decide +kernel
theorem dX4_numberRows_52 : decode cX4_numberRows 52 = .ok (.ireturn, 1) := by decide +kernel
theorem dX4_numberRows_53 : decode cX4_numberRows 53 = .ok (.aload_n 0, 1) := by decide +kernel
theorem dX4_numberRows_54 : decode cX4_numberRows 54 = .ok (.getfield 26, 3) := by decide +kernel
theorem dX4_numberRows_57 : decode cX4_numberRows 57 = .ok (.aload_n 0, 1) := by decide +kernel
theorem dX4_numberRows_58 : decode cX4_numberRows 58 = .ok (.iload_n 2, 1) := by decide +kernel
theorem dX4_numberRows_59 : decode cX4_numberRows 59 = .ok (.iload_n 3, 1) := by decide +kernel
theorem dX4_numberRows_60 : decode cX4_numberRows 60 = .ok (.iload 4, 2) := by decide +kernel
theorem dX4_numberRows_62 : decode cX4_numberRows 62 = .ok (.invokevirtual 127, 3) := by decide +kernel
theorem dX4_numberRows_65 : decode cX4_numberRows 65 = .ok (.ifCond .eq 7, 3) := by decide +kernel
theorem dX4_numberRows_68 : decode cX4_numberRows 68 = .ok (.iload_n 3, 1) := by decide +kernel
theorem dX4_numberRows_69 : decode cX4_numberRows 69 = .ok (.goto 4, 3) := by decide +kernel
theorem dX4_numberRows_72 : decode cX4_numberRows 72 = .ok (.iload_n 2, 1) := by decide +kernel
theorem dX4_numberRows_73 : decode cX4_numberRows 73 = .ok (.dup2, 1) := by decide +kernel
theorem dX4_numberRows_74 : decode cX4_numberRows 74 = .ok (.iaload, 1) := by decide +kernel
theorem dX4_numberRows_75 : decode cX4_numberRows 75 = .ok (.iconst 1, 1) := by decide +kernel
theorem dX4_numberRows_76 : decode cX4_numberRows 76 = .ok (.iadd, 1) := by decide +kernel
theorem dX4_numberRows_77 : decode cX4_numberRows 77 = .ok (.iastore, 1) := by decide +kernel
theorem dX4_numberRows_78 : decode cX4_numberRows 78 = .ok (.iinc 3 1, 3) := by decide +kernel
theorem dX4_numberRows_81 : decode cX4_numberRows 81 = .ok (.goto (-50), 3) := by decide +kernel
theorem dX4_numberRows_84 : decode cX4_numberRows 84 = .ok (.iinc 2 1, 3) := by decide +kernel
theorem dX4_numberRows_87 : decode cX4_numberRows 87 = .ok (.goto (-65), 3) := by decide +kernel
theorem dX4_numberRows_90 : decode cX4_numberRows 90 = .ok (.iconst 1, 1) := by decide +kernel
theorem dX4_numberRows_91 : decode cX4_numberRows 91 = .ok (.ireturn, 1) := by decide +kernel
theorem dX4_firstOther_0 : decode cX4_firstOther 0 = .ok (.iconst 0, 1) := by decide +kernel
theorem dX4_firstOther_1 : decode cX4_firstOther 1 = .ok (.istore 4, 2) := by decide +kernel
theorem dX4_firstOther_3 : decode cX4_firstOther 3 = .ok (.iload 4, 2) := by decide +kernel
theorem dX4_firstOther_5 : decode cX4_firstOther 5 = .ok (.iload_n 1, 1) := by decide +kernel
theorem dX4_firstOther_6 : decode cX4_firstOther 6 = .ok (.if_icmp .ge 30, 3) := by decide +kernel
theorem dX4_firstOther_9 : decode cX4_firstOther 9 = .ok (.aload_n 0, 1) := by decide +kernel
theorem dX4_firstOther_10 : decode cX4_firstOther 10 = .ok (.getfield 23, 3) := by decide +kernel
theorem dX4_firstOther_13 : decode cX4_firstOther 13 = .ok (.iload_n 2, 1) := by decide +kernel
theorem dX4_firstOther_14 : decode cX4_firstOther 14 = .ok (.iload 4, 2) := by decide +kernel
theorem dX4_firstOther_16 : decode cX4_firstOther 16 = .ok (.iadd, 1) := by decide +kernel
theorem dX4_firstOther_17 : decode cX4_firstOther 17 = .ok (.iaload, 1) := by decide +kernel
theorem dX4_firstOther_18 : decode cX4_firstOther 18 = .ok (.aload_n 0, 1) := by decide +kernel
theorem dX4_firstOther_19 : decode cX4_firstOther 19 = .ok (.getfield 23, 3) := by decide +kernel
theorem dX4_firstOther_22 : decode cX4_firstOther 22 = .ok (.iload_n 3, 1) := by decide +kernel
theorem dX4_firstOther_23 : decode cX4_firstOther 23 = .ok (.iload 4, 2) := by decide +kernel
theorem dX4_firstOther_25 : decode cX4_firstOther 25 = .ok (.iadd, 1) := by decide +kernel
theorem dX4_firstOther_26 : decode cX4_firstOther 26 = .ok (.iaload, 1) := by decide +kernel
theorem dX4_firstOther_27 : decode cX4_firstOther 27 = .ok (.if_icmp .ne 9, 3) := by decide +kernel
theorem dX4_firstOther_30 : decode cX4_firstOther 30 = .ok (.iinc 4 1, 3) := by decide +kernel
theorem dX4_firstOther_33 : decode cX4_firstOther 33 = .ok (.goto (-30), 3) := by decide +kernel
theorem dX4_firstOther_36 : decode cX4_firstOther 36 = .ok (.iload 4, 2) := by decide +kernel
theorem dX4_firstOther_38 : decode cX4_firstOther 38 = .ok (.ireturn, 1) := by decide +kernel
set_option maxRecDepth 20000 in
theorem ggX4_isLess_X5_falls : GoodIn wsX4_isLess wsX5_falls := goodIn_r _ [7, 8, 17, 18, 19, 20, 21, 22, 23, 24] (by decide +kernel) (by decide +kernel)
set_option maxRecDepth 20000 in
theorem gX4_isLess_X5_falls : GoodIn wsX4_isLess (wsV RX4 131 RX5 yX5_falls wsX5_falls) := goodIn_app (goodIn_of _ (by decide +kernel)) ggX4_isLess_X5_falls
theorem dX4_isLess_0 : decode cX4_isLess 0 = .ok (.iconst 1, 1) := by decide +kernel
theorem dX4_isLess_1 : decode cX4_isLess 1 = .ok (.istore 4, 2) := by decide +kernel
theorem dX4_isLess_3 : decode cX4_isLess 3 = .ok (.iconst 0, 1) := by decide +kernel
theorem dX4_isLess_4 : decode cX4_isLess 4 = .ok (.istore 5, 2) := by decide +kernel
theorem dX4_isLess_6 : decode cX4_isLess 6 = .ok (.iload 5, 2) := by decide +kernel
theorem dX4_isLess_8 : decode cX4_isLess 8 = .ok (.iload_n 3, 1) := by decide +kernel
theorem dX4_isLess_9 : decode cX4_isLess 9 = .ok (.if_icmp .ge 40, 3) := by decide +kernel
theorem dX4_isLess_12 : decode cX4_isLess 12 = .ok (.aload_n 0, 1) := by decide +kernel
theorem dX4_isLess_13 : decode cX4_isLess 13 = .ok (.getfield 10, 3) := by decide +kernel
theorem dX4_isLess_16 : decode cX4_isLess 16 = .ok (.aload_n 0, 1) := by decide +kernel
theorem dX4_isLess_17 : decode cX4_isLess 17 = .ok (.getfield 23, 3) := by decide +kernel
theorem dX4_isLess_20 : decode cX4_isLess 20 = .ok (.iload_n 1, 1) := by decide +kernel
theorem dX4_isLess_21 : decode cX4_isLess 21 = .ok (.iload 5, 2) := by decide +kernel
theorem dX4_isLess_23 : decode cX4_isLess 23 = .ok (.iadd, 1) := by decide +kernel
theorem dX4_isLess_24 : decode cX4_isLess 24 = .ok (.iaload, 1) := by decide +kernel
theorem dX4_isLess_25 : decode cX4_isLess 25 = .ok (.invokevirtual 131, 3) := by decide +kernel
theorem dX4_isLess_28 : decode cX4_isLess 28 = .ok (.ifCond .eq 15, 3) := by decide +kernel
theorem dX4_isLess_31 : decode cX4_isLess 31 = .ok (.iload 4, 2) := by decide +kernel
theorem dX4_isLess_33 : decode cX4_isLess 33 = .ok (.ifCond .ne 7, 3) := by decide +kernel
theorem dX4_isLess_36 : decode cX4_isLess 36 = .ok (.iconst 1, 1) := by decide +kernel
theorem dX4_isLess_37 : decode cX4_isLess 37 = .ok (.goto 4, 3) := by decide +kernel
theorem dX4_isLess_40 : decode cX4_isLess 40 = .ok (.iconst 0, 1) := by decide +kernel
theorem dX4_isLess_41 : decode cX4_isLess 41 = .ok (.istore 4, 2) := by decide +kernel
theorem dX4_isLess_43 : decode cX4_isLess 43 = .ok (.iinc 5 1, 3) := by decide +kernel
theorem dX4_isLess_46 : decode cX4_isLess 46 = .ok (.goto (-40), 3) := by decide +kernel
theorem dX4_isLess_49 : decode cX4_isLess 49 = .ok (.iload 4, 2) := by decide +kernel
theorem dX4_isLess_51 : decode cX4_isLess 51 = .ok (.aload_n 0, 1) := by decide +kernel
theorem dX4_isLess_52 : decode cX4_isLess 52 = .ok (.getfield 23, 3) := by decide +kernel
theorem dX4_isLess_55 : decode cX4_isLess 55 = .ok (.iload_n 1, 1) := by decide +kernel
theorem dX4_isLess_56 : decode cX4_isLess 56 = .ok (.iload_n 3, 1) := by decide +kernel
theorem dX4_isLess_57 : decode cX4_isLess 57 = .ok (.iadd, 1) := by decide +kernel
theorem dX4_isLess_58 : decode cX4_isLess 58 = .ok (.iaload, 1) := by decide +kernel
theorem dX4_isLess_59 : decode cX4_isLess 59 = .ok (.aload_n 0, 1) := by decide +kernel
theorem dX4_isLess_60 : decode cX4_isLess 60 = .ok (.getfield 23, 3) := by decide +kernel
theorem dX4_isLess_63 : decode cX4_isLess 63 = .ok (.iload_n 2, 1) := by decide +kernel
theorem dX4_isLess_64 : decode cX4_isLess 64 = .ok (.iload_n 3, 1) := by decide +kernel
theorem dX4_isLess_65 : decode cX4_isLess 65 = .ok (.iadd, 1) := by decide +kernel
theorem dX4_isLess_66 : decode cX4_isLess 66 = .ok (.iaload, 1) := by decide +kernel
theorem dX4_isLess_67 : decode cX4_isLess 67 = .ok (.if_icmp .ge 7, 3) := by decide +kernel
theorem dX4_isLess_70 : decode cX4_isLess 70 = .ok (.iconst 1, 1) := by decide +kernel
theorem dX4_isLess_71 : decode cX4_isLess 71 = .ok (.goto 4, 3) := by decide +kernel
theorem dX4_isLess_74 : decode cX4_isLess 74 = .ok (.iconst 0, 1) := by decide +kernel
theorem dX4_isLess_75 : decode cX4_isLess 75 = .ok (.if_icmp .ne 7, 3) := by decide +kernel
theorem dX4_isLess_78 : decode cX4_isLess 78 = .ok (.iconst 1, 1) := by decide +kernel
theorem dX4_isLess_79 : decode cX4_isLess 79 = .ok (.goto 4, 3) := by decide +kernel
theorem dX4_isLess_82 : decode cX4_isLess 82 = .ok (.iconst 0, 1) := by decide +kernel
theorem dX4_isLess_83 : decode cX4_isLess 83 = .ok (.ireturn, 1) := by decide +kernel
theorem dX4_loopFigures_0 : decode cX4_loopFigures 0 = .ok (.iconst 0, 1) := by decide +kernel
theorem dX4_loopFigures_1 : decode cX4_loopFigures 1 = .ok (.istore_n 2, 1) := by decide +kernel
theorem dX4_loopFigures_2 : decode cX4_loopFigures 2 = .ok (.iload_n 2, 1) := by decide +kernel
theorem dX4_loopFigures_3 : decode cX4_loopFigures 3 = .ok (.iload_n 1, 1) := by decide +kernel
theorem dX4_loopFigures_4 : decode cX4_loopFigures 4 = .ok (.if_icmp .ge 39, 3) := by decide +kernel
theorem dX4_loopFigures_7 : decode cX4_loopFigures 7 = .ok (.aload_n 0, 1) := by decide +kernel
theorem dX4_loopFigures_8 : decode cX4_loopFigures 8 = .ok (.getfield 29, 3) := by decide +kernel
theorem dX4_loopFigures_11 : decode cX4_loopFigures 11 = .ok (.aload_n 0, 1) := by decide +kernel
theorem dX4_loopFigures_12 : decode cX4_loopFigures 12 = .ok (.getfield 26, 3) := by decide +kernel
theorem dX4_loopFigures_15 : decode cX4_loopFigures 15 = .ok (.iload_n 2, 1) := by decide +kernel
theorem dX4_loopFigures_16 : decode cX4_loopFigures 16 = .ok (.iaload, 1) := by decide +kernel
theorem dX4_loopFigures_17 : decode cX4_loopFigures 17 = .ok (.aload_n 0, 1) := by decide +kernel
theorem dX4_loopFigures_18 : decode cX4_loopFigures 18 = .ok (.getfield 26, 3) := by decide +kernel
theorem dX4_loopFigures_21 : decode cX4_loopFigures 21 = .ok (.iload_n 2, 1) := by decide +kernel
theorem dX4_loopFigures_22 : decode cX4_loopFigures 22 = .ok (.iconst 1, 1) := by decide +kernel
theorem dX4_loopFigures_23 : decode cX4_loopFigures 23 = .ok (.iadd, 1) := by decide +kernel
theorem dX4_loopFigures_24 : decode cX4_loopFigures 24 = .ok (.iload_n 1, 1) := by decide +kernel
theorem dX4_loopFigures_25 : decode cX4_loopFigures 25 = .ok (.if_icmp .ge 9, 3) := by decide +kernel
theorem dX4_loopFigures_28 : decode cX4_loopFigures 28 = .ok (.iload_n 2, 1) := by decide +kernel
theorem dX4_loopFigures_29 : decode cX4_loopFigures 29 = .ok (.iconst 1, 1) := by decide +kernel
theorem dX4_loopFigures_30 : decode cX4_loopFigures 30 = .ok (.iadd, 1) := by decide +kernel
theorem dX4_loopFigures_31 : decode cX4_loopFigures 31 = .ok (.goto 4, 3) := by decide +kernel
theorem dX4_loopFigures_34 : decode cX4_loopFigures 34 = .ok (.iconst 0, 1) := by decide +kernel
theorem dX4_loopFigures_35 : decode cX4_loopFigures 35 = .ok (.iaload, 1) := by decide +kernel
theorem dX4_loopFigures_36 : decode cX4_loopFigures 36 = .ok (.iastore, 1) := by decide +kernel
theorem dX4_loopFigures_37 : decode cX4_loopFigures 37 = .ok (.iinc 2 1, 3) := by decide +kernel
theorem dX4_loopFigures_40 : decode cX4_loopFigures 40 = .ok (.goto (-38), 3) := by decide +kernel
theorem dX4_loopFigures_43 : decode cX4_loopFigures 43 = .ok (.iconst 0, 1) := by decide +kernel
theorem dX4_loopFigures_44 : decode cX4_loopFigures 44 = .ok (.istore_n 2, 1) := by decide +kernel
theorem dX4_loopFigures_45 : decode cX4_loopFigures 45 = .ok (.iconst 0, 1) := by decide +kernel
theorem dX4_loopFigures_46 : decode cX4_loopFigures 46 = .ok (.istore_n 3, 1) := by decide +kernel
theorem dX4_loopFigures_47 : decode cX4_loopFigures 47 = .ok (.iload_n 3, 1) := by decide +kernel
theorem dX4_loopFigures_48 : decode cX4_loopFigures 48 = .ok (.iload_n 1, 1) := by decide +kernel
theorem dX4_loopFigures_49 : decode cX4_loopFigures 49 = .ok (.if_icmp .ge 21, 3) := by decide +kernel
theorem dX4_loopFigures_52 : decode cX4_loopFigures 52 = .ok (.iload_n 2, 1) := by decide +kernel
theorem dX4_loopFigures_53 : decode cX4_loopFigures 53 = .ok (.bipush 10, 2) := by decide +kernel
theorem dX4_loopFigures_55 : decode cX4_loopFigures 55 = .ok (.imul, 1) := by decide +kernel
theorem dX4_loopFigures_56 : decode cX4_loopFigures 56 = .ok (.aload_n 0, 1) := by decide +kernel
theorem dX4_loopFigures_57 : decode cX4_loopFigures 57 = .ok (.getfield 29, 3) := by decide +kernel
theorem dX4_loopFigures_60 : decode cX4_loopFigures 60 = .ok (.iload_n 3, 1) := by decide +kernel
theorem dX4_loopFigures_61 : decode cX4_loopFigures 61 = .ok (.iaload, 1) := by decide +kernel
theorem dX4_loopFigures_62 : decode cX4_loopFigures 62 = .ok (.iadd, 1) := by decide +kernel
theorem dX4_loopFigures_63 : decode cX4_loopFigures 63 = .ok (.istore_n 2, 1) := by decide +kernel
theorem dX4_loopFigures_64 : decode cX4_loopFigures 64 = .ok (.iinc 3 1, 3) := by decide +kernel
theorem dX4_loopFigures_67 : decode cX4_loopFigures 67 = .ok (.goto (-20), 3) := by decide +kernel
theorem dX4_loopFigures_70 : decode cX4_loopFigures 70 = .ok (.iload_n 2, 1) := by decide +kernel
theorem dX4_loopFigures_71 : decode cX4_loopFigures 71 = .ok (.ireturn, 1) := by decide +kernel
set_option maxRecDepth 20000 in
theorem ggX4_add_X4_placeFor : GoodIn wsX4_add wsX4_placeFor := goodIn_r _ [9, 1, 10, 11, 12, 8, 13, 4, 3, 14, 15, 16, 17, 18, 19, 20, 21] (by decide +kernel) (by decide +kernel)
set_option maxRecDepth 20000 in
theorem gX4_add_X4_placeFor : GoodIn wsX4_add (wsV RX4 35 RX4 yX4_placeFor wsX4_placeFor) := goodIn_app (goodIn_of _ (by decide +kernel)) ggX4_add_X4_placeFor
set_option maxRecDepth 20000 in
theorem ggX4_add_X4_at : GoodIn wsX4_add wsX4_at := goodIn_r _ [13, 4, 3, 14, 15, 16, 17, 18, 19, 20, 21] (by decide +kernel) (by decide +kernel)
set_option maxRecDepth 20000 in
theorem gX4_add_X4_at : GoodIn wsX4_add (wsV RX4 39 RX4 yX4_at wsX4_at) := goodIn_app (goodIn_of _ (by decide +kernel)) ggX4_add_X4_at
theorem dX4_add_0 : decode cX4_add 0 = .ok (.aload_n 0, 1) := by decide +kernel
theorem dX4_add_1 : decode cX4_add 1 = .ok (.iload_n 1, 1) := by decide +kernel
theorem dX4_add_2 : decode cX4_add 2 = .ok (.iload_n 2, 1) := by decide +kernel
theorem dX4_add_3 : decode cX4_add 3 = .ok (.invokevirtual 35, 3) := by decide +kernel
theorem dX4_add_6 : decode cX4_add 6 = .ok (.istore_n 3, 1) := by decide +kernel
theorem dX4_add_7 : decode cX4_add 7 = .ok (.aload_n 0, 1) := by decide +kernel
theorem dX4_add_8 : decode cX4_add 8 = .ok (.getfield 16, 3) := by decide +kernel
theorem dX4_add_11 : decode cX4_add 11 = .ok (.iload_n 1, 1) := by decide +kernel
theorem dX4_add_12 : decode cX4_add 12 = .ok (.iaload, 1) := by decide +kernel
theorem dX4_add_13 : decode cX4_add 13 = .ok (.getstatic 100, 3) := by decide +kernel
theorem dX4_add_16 : decode cX4_add 16 = .ok (.iload_n 1, 1) := by decide +kernel
theorem dX4_add_17 : decode cX4_add 17 = .ok (.iaload, 1) := by decide +kernel
theorem dX4_add_18 : decode cX4_add 18 = .ok (.if_icmp .ge 23, 3) := by decide +kernel
theorem dX4_add_21 : decode cX4_add 21 = .ok (.iload_n 3, 1) := by decide +kernel
theorem dX4_add_22 : decode cX4_add 22 = .ok (.aload_n 0, 1) := by decide +kernel
theorem dX4_add_23 : decode cX4_add 23 = .ok (.getfield 16, 3) := by decide +kernel
theorem dX4_add_26 : decode cX4_add 26 = .ok (.iload_n 1, 1) := by decide +kernel
theorem dX4_add_27 : decode cX4_add 27 = .ok (.iaload, 1) := by decide +kernel
theorem dX4_add_28 : decode cX4_add 28 = .ok (.if_icmp .ge 14, 3) := by decide +kernel
theorem dX4_add_31 : decode cX4_add 31 = .ok (.aload_n 0, 1) := by decide +kernel
theorem dX4_add_32 : decode cX4_add 32 = .ok (.iload_n 1, 1) := by decide +kernel
theorem dX4_add_33 : decode cX4_add 33 = .ok (.iload_n 3, 1) := by decide +kernel
theorem dX4_add_34 : decode cX4_add 34 = .ok (.invokevirtual 39, 3) := by decide +kernel
theorem dX4_add_37 : decode cX4_add 37 = .ok (.iload_n 2, 1) := by decide +kernel
theorem dX4_add_38 : decode cX4_add 38 = .ok (.if_icmp .ne 4, 3) := by decide +kernel
theorem dX4_add_41 : decode cX4_add 41 = .ok (.return_, 1) := by decide +kernel
theorem dX4_add_42 : decode cX4_add 42 = .ok (.getstatic 32, 3) := by decide +kernel
theorem dX4_add_45 : decode cX4_add 45 = .ok (.iload_n 1, 1) := by decide +kernel
theorem dX4_add_46 : decode cX4_add 46 = .ok (.iaload, 1) := by decide +kernel
theorem dX4_add_47 : decode cX4_add 47 = .ok (.aload_n 0, 1) := by decide +kernel
theorem dX4_add_48 : decode cX4_add 48 = .ok (.getfield 16, 3) := by decide +kernel
theorem dX4_add_51 : decode cX4_add 51 = .ok (.iload_n 1, 1) := by decide +kernel
theorem dX4_add_52 : decode cX4_add 52 = .ok (.iaload, 1) := by decide +kernel
theorem dX4_add_53 : decode cX4_add 53 = .ok (.iadd, 1) := by decide +kernel
theorem dX4_add_54 : decode cX4_add 54 = .ok (.istore 4, 2) := by decide +kernel
theorem dX4_add_56 : decode cX4_add 56 = .ok (.iload 4, 2) := by decide +kernel
theorem dX4_add_58 : decode cX4_add 58 = .ok (.getstatic 32, 3) := by decide +kernel
theorem dX4_add_61 : decode cX4_add 61 = .ok (.iload_n 1, 1) := by decide +kernel
theorem dX4_add_62 : decode cX4_add 62 = .ok (.iaload, 1) := by decide +kernel
theorem dX4_add_63 : decode cX4_add 63 = .ok (.iload_n 3, 1) := by decide +kernel
theorem dX4_add_64 : decode cX4_add 64 = .ok (.iadd, 1) := by decide +kernel
theorem dX4_add_65 : decode cX4_add 65 = .ok (.if_icmp .le 25, 3) := by decide +kernel
theorem dX4_add_68 : decode cX4_add 68 = .ok (.aload_n 0, 1) := by decide +kernel
theorem dX4_add_69 : decode cX4_add 69 = .ok (.getfield 20, 3) := by decide +kernel
theorem dX4_add_72 : decode cX4_add 72 = .ok (.iload 4, 2) := by decide +kernel
theorem dX4_add_74 : decode cX4_add 74 = .ok (.aload_n 0, 1) := by decide +kernel
theorem dX4_add_75 : decode cX4_add 75 = .ok (.getfield 20, 3) := by decide +kernel
theorem dX4_add_78 : decode cX4_add 78 = .ok (.iload 4, 2) := by decide +kernel
theorem dX4_add_80 : decode cX4_add 80 = .ok (.iconst 1, 1) := by decide +kernel
theorem dX4_add_81 : decode cX4_add 81 = .ok (.isub, 1) := by decide +kernel
theorem dX4_add_82 : decode cX4_add 82 = .ok (.iaload, 1) := by decide +kernel
theorem dX4_add_83 : decode cX4_add 83 = .ok (.iastore, 1) := by decide +kernel
theorem dX4_add_84 : decode cX4_add 84 = .ok (.iinc 4 (-1), 3) := by decide +kernel
theorem dX4_add_87 : decode cX4_add 87 = .ok (.goto (-31), 3) := by decide +kernel
theorem dX4_add_90 : decode cX4_add 90 = .ok (.aload_n 0, 1) := by decide +kernel
theorem dX4_add_91 : decode cX4_add 91 = .ok (.getfield 20, 3) := by decide +kernel
theorem dX4_add_94 : decode cX4_add 94 = .ok (.getstatic 32, 3) := by decide +kernel
theorem dX4_add_97 : decode cX4_add 97 = .ok (.iload_n 1, 1) := by decide +kernel
theorem dX4_add_98 : decode cX4_add 98 = .ok (.iaload, 1) := by decide +kernel
theorem dX4_add_99 : decode cX4_add 99 = .ok (.iload_n 3, 1) := by decide +kernel
theorem dX4_add_100 : decode cX4_add 100 = .ok (.iadd, 1) := by decide +kernel
theorem dX4_add_101 : decode cX4_add 101 = .ok (.iload_n 2, 1) := by decide +kernel
theorem dX4_add_102 : decode cX4_add 102 = .ok (.iastore, 1) := by decide +kernel
theorem dX4_add_103 : decode cX4_add 103 = .ok (.aload_n 0, 1) := by decide +kernel
theorem dX4_add_104 : decode cX4_add 104 = .ok (.getfield 16, 3) := by decide +kernel
theorem dX4_add_107 : decode cX4_add 107 = .ok (.iload_n 1, 1) := by decide +kernel
theorem dX4_add_108 : decode cX4_add 108 = .ok (.dup2, 1) := by decide +kernel
theorem dX4_add_109 : decode cX4_add 109 = .ok (.iaload, 1) := by decide +kernel
theorem dX4_add_110 : decode cX4_add 110 = .ok (.iconst 1, 1) := by decide +kernel
theorem dX4_add_111 : decode cX4_add 111 = .ok (.iadd, 1) := by decide +kernel
theorem dX4_add_112 : decode cX4_add 112 = .ok (.iastore, 1) := by decide +kernel
theorem dX4_add_113 : decode cX4_add 113 = .ok (.return_, 1) := by decide +kernel
theorem dX5_init_0 : decode cX5_init 0 = .ok (.aload_n 0, 1) := by decide +kernel
theorem dX5_init_1 : decode cX5_init 1 = .ok (.invokespecial 3, 3) := by decide +kernel
theorem dX5_init_4 : decode cX5_init 4 = .ok (.aload_n 0, 1) := by decide +kernel
theorem dX5_init_5 : decode cX5_init 5 = .ok (.bipush 8, 2) := by decide +kernel
theorem dX5_init_7 : decode cX5_init 7 = .ok (.newarray .int, 2) := by decide +kernel
theorem dX5_init_9 : decode cX5_init 9 = .ok (.putfield 9, 3) := by decide +kernel
theorem dX5_init_12 : decode cX5_init 12 = .ok (.aload_n 0, 1) := by decide +kernel
theorem dX5_init_13 : decode cX5_init 13 = .ok (.bipush 8, 2) := by decide +kernel
theorem dX5_init_15 : decode cX5_init 15 = .ok (.newarray .long, 2) := by decide +kernel
theorem dX5_init_17 : decode cX5_init 17 = .ok (.putfield 15, 3) := by decide +kernel
theorem dX5_init_20 : decode cX5_init 20 = .ok (.aload_n 0, 1) := by decide +kernel
theorem dX5_init_21 : decode cX5_init 21 = .ok (.bipush 8, 2) := by decide +kernel
theorem dX5_init_23 : decode cX5_init 23 = .ok (.newarray .long, 2) := by decide +kernel
theorem dX5_init_25 : decode cX5_init 25 = .ok (.putfield 19, 3) := by decide +kernel
theorem dX5_init_28 : decode cX5_init 28 = .ok (.aload_n 0, 1) := by decide +kernel
theorem dX5_init_29 : decode cX5_init 29 = .ok (.bipush 31, 2) := by decide +kernel
theorem dX5_init_31 : decode cX5_init 31 = .ok (.newarray .long, 2) := by decide +kernel
theorem dX5_init_33 : decode cX5_init 33 = .ok (.putfield 22, 3) := by decide +kernel
theorem dX5_init_36 : decode cX5_init 36 = .ok (.aload_n 0, 1) := by decide +kernel
theorem dX5_init_37 : decode cX5_init 37 = .ok (.bipush 31, 2) := by decide +kernel
theorem dX5_init_39 : decode cX5_init 39 = .ok (.newarray .long, 2) := by decide +kernel
theorem dX5_init_41 : decode cX5_init 41 = .ok (.putfield 25, 3) := by decide +kernel
theorem dX5_init_44 : decode cX5_init 44 = .ok (.aload_n 0, 1) := by decide +kernel
theorem dX5_init_45 : decode cX5_init 45 = .ok (.bipush 9, 2) := by decide +kernel
theorem dX5_init_47 : decode cX5_init 47 = .ok (.newarray .long, 2) := by decide +kernel
theorem dX5_init_49 : decode cX5_init 49 = .ok (.putfield 28, 3) := by decide +kernel
theorem dX5_init_52 : decode cX5_init 52 = .ok (.return_, 1) := by decide +kernel
set_option maxRecDepth 20000 in
theorem ggX5_learn_X0_pieceNumber : GoodIn wsX5_learn wsX0_pieceNumber := goodIn_r _ [18, 19, 20, 36, 37, 38, 39] (by decide +kernel) (by decide +kernel)
set_option maxRecDepth 20000 in
theorem gX5_learn_X0_pieceNumber : GoodIn wsX5_learn (wsV RX5 31 RX0 yX0_pieceNumber wsX0_pieceNumber) := goodIn_app (goodIn_of _ (by decide +kernel)) ggX5_learn_X0_pieceNumber
set_option maxRecDepth 20000 in
theorem ggX5_learn_X5_forward : GoodIn wsX5_learn wsX5_forward := goodIn_r _ [24, 25, 26, 23, 27] (by decide +kernel) (by decide +kernel)
set_option maxRecDepth 20000 in
theorem gX5_learn_X5_forward : GoodIn wsX5_learn (va_wsS RX5 53 yX5_forward wsX5_forward) := goodIn_app (goodIn_of _ (by decide +kernel)) ggX5_learn_X5_forward
set_option maxRecDepth 20000 in
theorem ggX5_learn_X5_between : GoodIn wsX5_learn wsX5_between := goodIn_r _ [27] (by decide +kernel) (by decide +kernel)
set_option maxRecDepth 20000 in
theorem gX5_learn_X5_between : GoodIn wsX5_learn (va_wsS RX5 66 yX5_between wsX5_between) := goodIn_app (goodIn_of _ (by decide +kernel)) ggX5_learn_X5_between
theorem dX5_learn_0 : decode cX5_learn 0 = .ok (.aload_n 0, 1) := by decide +kernel
theorem dX5_learn_1 : decode cX5_learn 1 = .ok (.aload_n 1, 1) := by decide +kernel
theorem dX5_learn_2 : decode cX5_learn 2 = .ok (.invokevirtual 31, 3) := by decide +kernel
theorem dX5_learn_5 : decode cX5_learn 5 = .ok (.putfield 37, 3) := by decide +kernel
theorem dX5_learn_8 : decode cX5_learn 8 = .ok (.aload_n 0, 1) := by decide +kernel
theorem dX5_learn_9 : decode cX5_learn 9 = .ok (.iconst 0, 1) := by decide +kernel
theorem dX5_learn_10 : decode cX5_learn 10 = .ok (.putfield 41, 3) := by decide +kernel
theorem dX5_learn_13 : decode cX5_learn 13 = .ok (.iconst 0, 1) := by decide +kernel
theorem dX5_learn_14 : decode cX5_learn 14 = .ok (.istore_n 2, 1) := by decide +kernel
theorem dX5_learn_15 : decode cX5_learn 15 = .ok (.iload_n 2, 1) := by decide +kernel
theorem dX5_learn_16 : decode cX5_learn 16 = .ok (.aload_n 0, 1) := by decide +kernel
theorem dX5_learn_17 : decode cX5_learn 17 = .ok (.getfield 37, 3) := by decide +kernel
theorem dX5_learn_20 : decode cX5_learn 20 = .ok (.if_icmp .ge 110, 3) := by decide +kernel
theorem dX5_learn_23 : decode cX5_learn 23 = .ok (.aload_n 1, 1) := by decide +kernel
theorem dX5_learn_24 : decode cX5_learn 24 = .ok (.getfield 44, 3) := by decide +kernel
theorem dX5_learn_27 : decode cX5_learn 27 = .ok (.iload_n 2, 1) := by decide +kernel
theorem dX5_learn_28 : decode cX5_learn 28 = .ok (.iaload, 1) := by decide +kernel
theorem dX5_learn_29 : decode cX5_learn 29 = .ok (.istore_n 3, 1) := by decide +kernel
theorem dX5_learn_30 : decode cX5_learn 30 = .ok (.aload_n 1, 1) := by decide +kernel
theorem dX5_learn_31 : decode cX5_learn 31 = .ok (.getfield 44, 3) := by decide +kernel
theorem dX5_learn_34 : decode cX5_learn 34 = .ok (.iload_n 2, 1) := by decide +kernel
theorem dX5_learn_35 : decode cX5_learn 35 = .ok (.iconst 1, 1) := by decide +kernel
theorem dX5_learn_36 : decode cX5_learn 36 = .ok (.iadd, 1) := by decide +kernel
theorem dX5_learn_37 : decode cX5_learn 37 = .ok (.aload_n 1, 1) := by decide +kernel
theorem dX5_learn_38 : decode cX5_learn 38 = .ok (.getfield 47, 3) := by decide +kernel
theorem dX5_learn_41 : decode cX5_learn 41 = .ok (.if_icmp .ge 9, 3) := by decide +kernel
theorem dX5_learn_44 : decode cX5_learn 44 = .ok (.iload_n 2, 1) := by decide +kernel
theorem dX5_learn_45 : decode cX5_learn 45 = .ok (.iconst 1, 1) := by decide +kernel
theorem dX5_learn_46 : decode cX5_learn 46 = .ok (.iadd, 1) := by decide +kernel
theorem dX5_learn_47 : decode cX5_learn 47 = .ok (.goto 4, 3) := by decide +kernel
theorem dX5_learn_50 : decode cX5_learn 50 = .ok (.iconst 0, 1) := by decide +kernel
theorem dX5_learn_51 : decode cX5_learn 51 = .ok (.iaload, 1) := by decide +kernel
theorem dX5_learn_52 : decode cX5_learn 52 = .ok (.istore 4, 2) := by decide +kernel
theorem dX5_learn_54 : decode cX5_learn 54 = .ok (.aload_n 1, 1) := by decide +kernel
theorem dX5_learn_55 : decode cX5_learn 55 = .ok (.getfield 50, 3) := by decide +kernel
theorem dX5_learn_58 : decode cX5_learn 58 = .ok (.iconst 1, 1) := by decide +kernel
theorem dX5_learn_59 : decode cX5_learn 59 = .ok (.if_icmp .ne 22, 3) := by decide +kernel
theorem dX5_learn_62 : decode cX5_learn 62 = .ok (.aload_n 0, 1) := by decide +kernel
theorem dX5_learn_63 : decode cX5_learn 63 = .ok (.getfield 9, 3) := by decide +kernel
theorem dX5_learn_66 : decode cX5_learn 66 = .ok (.iload_n 2, 1) := by decide +kernel
theorem dX5_learn_67 : decode cX5_learn 67 = .ok (.iload_n 3, 1) := by decide +kernel
theorem dX5_learn_68 : decode cX5_learn 68 = .ok (.iload 4, 2) := by decide +kernel
theorem dX5_learn_70 : decode cX5_learn 70 = .ok (.aload_n 1, 1) := by decide +kernel
theorem dX5_learn_71 : decode cX5_learn 71 = .ok (.getfield 47, 3) := by decide +kernel
theorem dX5_learn_74 : decode cX5_learn 74 = .ok (.invokestatic 53, 3) := by decide +kernel
theorem dX5_learn_77 : decode cX5_learn 77 = .ok (.iastore, 1) := by decide +kernel
theorem dX5_learn_78 : decode cX5_learn 78 = .ok (.goto 46, 3) := by decide +kernel
theorem dX5_learn_81 : decode cX5_learn 81 = .ok (.aload_n 0, 1) := by decide +kernel
theorem dX5_learn_82 : decode cX5_learn 82 = .ok (.getfield 9, 3) := by decide +kernel
theorem dX5_learn_85 : decode cX5_learn 85 = .ok (.iload_n 2, 1) := by decide +kernel
theorem dX5_learn_86 : decode cX5_learn 86 = .ok (.iload_n 3, 1) := by decide +kernel
theorem dX5_learn_87 : decode cX5_learn 87 = .ok (.iload 4, 2) := by decide +kernel
theorem dX5_learn_89 : decode cX5_learn 89 = .ok (.invokestatic 57, 3) := by decide +kernel
theorem dX5_learn_92 : decode cX5_learn 92 = .ok (.iload_n 3, 1) := by decide +kernel
theorem dX5_learn_93 : decode cX5_learn 93 = .ok (.iload 4, 2) := by decide +kernel
theorem dX5_learn_95 : decode cX5_learn 95 = .ok (.invokestatic 63, 3) := by decide +kernel
theorem dX5_learn_98 : decode cX5_learn 98 = .ok (.invokestatic 66, 3) := by decide +kernel
theorem dX5_learn_101 : decode cX5_learn 101 = .ok (.iastore, 1) := by decide +kernel
theorem dX5_learn_102 : decode cX5_learn 102 = .ok (.aload_n 0, 1) := by decide +kernel
theorem dX5_learn_103 : decode cX5_learn 103 = .ok (.dup, 1) := by decide +kernel
theorem dX5_learn_104 : decode cX5_learn 104 = .ok (.getfield 41, 3) := by decide +kernel
theorem dX5_learn_107 : decode cX5_learn 107 = .ok (.iload_n 3, 1) := by decide +kernel
theorem dX5_learn_108 : decode cX5_learn 108 = .ok (.iload 4, 2) := by decide +kernel
theorem dX5_learn_110 : decode cX5_learn 110 = .ok (.if_icmp .le 9, 3) := by decide +kernel
theorem dX5_learn_113 : decode cX5_learn 113 = .ok (.iconst 1, 1) := by decide +kernel
theorem dX5_learn_114 : decode cX5_learn 114 = .ok (.iload_n 2, 1) := by decide +kernel
theorem dX5_learn_115 : decode cX5_learn 115 = .ok (.ishl, 1) := by decide +kernel
theorem dX5_learn_116 : decode cX5_learn 116 = .ok (.goto 4, 3) := by decide +kernel
theorem dX5_learn_119 : decode cX5_learn 119 = .ok (.iconst 0, 1) := by decide +kernel
theorem dX5_learn_120 : decode cX5_learn 120 = .ok (.ior, 1) := by decide +kernel
theorem dX5_learn_121 : decode cX5_learn 121 = .ok (.putfield 41, 3) := by decide +kernel
theorem dX5_learn_124 : decode cX5_learn 124 = .ok (.iinc 2 1, 3) := by decide +kernel
theorem dX5_learn_127 : decode cX5_learn 127 = .ok (.goto (-112), 3) := by decide +kernel
theorem dX5_learn_130 : decode cX5_learn 130 = .ok (.return_, 1) := by decide +kernel
theorem dX5_between_0 : decode cX5_between 0 = .ok (.iconst 1, 1) := by decide +kernel
theorem dX5_between_1 : decode cX5_between 1 = .ok (.iload_n 1, 1) := by decide +kernel
theorem dX5_between_2 : decode cX5_between 2 = .ok (.ishl, 1) := by decide +kernel
theorem dX5_between_3 : decode cX5_between 3 = .ok (.iconst 1, 1) := by decide +kernel
theorem dX5_between_4 : decode cX5_between 4 = .ok (.iload_n 0, 1) := by decide +kernel
theorem dX5_between_5 : decode cX5_between 5 = .ok (.ishl, 1) := by decide +kernel
theorem dX5_between_6 : decode cX5_between 6 = .ok (.isub, 1) := by decide +kernel
theorem dX5_between_7 : decode cX5_between 7 = .ok (.ireturn, 1) := by decide +kernel
set_option maxRecDepth 20000 in
theorem ggX5_forward_X5_between : GoodIn wsX5_forward wsX5_between := goodIn_r _ [4] (by decide +kernel) (by decide +kernel)
set_option maxRecDepth 20000 in
theorem gX5_forward_X5_between : GoodIn wsX5_forward (va_wsS RX5 66 yX5_between wsX5_between) := goodIn_app (goodIn_of _ (by decide +kernel)) ggX5_forward_X5_between
theorem dX5_forward_0 : decode cX5_forward 0 = .ok (.iload_n 0, 1) := by decide +kernel
theorem dX5_forward_1 : decode cX5_forward 1 = .ok (.iload_n 1, 1) := by decide +kernel
theorem dX5_forward_2 : decode cX5_forward 2 = .ok (.if_icmp .gt 11, 3) := by decide +kernel
theorem dX5_forward_5 : decode cX5_forward 5 = .ok (.iload_n 0, 1) := by decide +kernel
theorem dX5_forward_6 : decode cX5_forward 6 = .ok (.iload_n 1, 1) := by decide +kernel
theorem dX5_forward_7 : decode cX5_forward 7 = .ok (.invokestatic 66, 3) := by decide +kernel
theorem dX5_forward_10 : decode cX5_forward 10 = .ok (.goto 14, 3) := by decide +kernel
theorem dX5_forward_13 : decode cX5_forward 13 = .ok (.iload_n 0, 1) := by decide +kernel
theorem dX5_forward_14 : decode cX5_forward 14 = .ok (.iload_n 2, 1) := by decide +kernel
theorem dX5_forward_15 : decode cX5_forward 15 = .ok (.invokestatic 66, 3) := by decide +kernel
theorem dX5_forward_18 : decode cX5_forward 18 = .ok (.iconst 0, 1) := by decide +kernel
theorem dX5_forward_19 : decode cX5_forward 19 = .ok (.iload_n 1, 1) := by decide +kernel
theorem dX5_forward_20 : decode cX5_forward 20 = .ok (.invokestatic 66, 3) := by decide +kernel
theorem dX5_forward_23 : decode cX5_forward 23 = .ok (.ior, 1) := by decide +kernel
theorem dX5_forward_24 : decode cX5_forward 24 = .ok (.ireturn, 1) := by decide +kernel
theorem dX5_holds_0 : decode cX5_holds 0 = .ok (.iload_n 1, 1) := by decide +kernel
theorem dX5_holds_1 : decode cX5_holds 1 = .ok (.ifCond .lt 15, 3) := by decide +kernel
theorem dX5_holds_4 : decode cX5_holds 4 = .ok (.iload_n 1, 1) := by decide +kernel
theorem dX5_holds_5 : decode cX5_holds 5 = .ok (.aload_n 0, 1) := by decide +kernel
theorem dX5_holds_6 : decode cX5_holds 6 = .ok (.getfield 37, 3) := by decide +kernel
theorem dX5_holds_9 : decode cX5_holds 9 = .ok (.if_icmp .ge 7, 3) := by decide +kernel
theorem dX5_holds_12 : decode cX5_holds 12 = .ok (.iconst 1, 1) := by decide +kernel
theorem dX5_holds_13 : decode cX5_holds 13 = .ok (.goto 4, 3) := by decide +kernel
theorem dX5_holds_16 : decode cX5_holds 16 = .ok (.iconst 0, 1) := by decide +kernel
theorem dX5_holds_17 : decode cX5_holds 17 = .ok (.ireturn, 1) := by decide +kernel
theorem dX5_falls_0 : decode cX5_falls 0 = .ok (.aload_n 0, 1) := by decide +kernel
theorem dX5_falls_1 : decode cX5_falls 1 = .ok (.getfield 41, 3) := by decide +kernel
theorem dX5_falls_4 : decode cX5_falls 4 = .ok (.iload_n 1, 1) := by decide +kernel
theorem dX5_falls_5 : decode cX5_falls 5 = .ok (.ishr, 1) := by decide +kernel
theorem dX5_falls_6 : decode cX5_falls 6 = .ok (.iconst 1, 1) := by decide +kernel
theorem dX5_falls_7 : decode cX5_falls 7 = .ok (.iand, 1) := by decide +kernel
theorem dX5_falls_8 : decode cX5_falls 8 = .ok (.iconst 1, 1) := by decide +kernel
theorem dX5_falls_9 : decode cX5_falls 9 = .ok (.if_icmp .ne 7, 3) := by decide +kernel
theorem dX5_falls_12 : decode cX5_falls 12 = .ok (.iconst 1, 1) := by decide +kernel
theorem dX5_falls_13 : decode cX5_falls 13 = .ok (.goto 4, 3) := by decide +kernel
theorem dX5_falls_16 : decode cX5_falls 16 = .ok (.iconst 0, 1) := by decide +kernel
theorem dX5_falls_17 : decode cX5_falls 17 = .ok (.ireturn, 1) := by decide +kernel
theorem dX5_isCovered_0 : decode cX5_isCovered 0 = .ok (.aload_n 0, 1) := by decide +kernel
theorem dX5_isCovered_1 : decode cX5_isCovered 1 = .ok (.getfield 9, 3) := by decide +kernel
theorem dX5_isCovered_4 : decode cX5_isCovered 4 = .ok (.iload_n 2, 1) := by decide +kernel
theorem dX5_isCovered_5 : decode cX5_isCovered 5 = .ok (.iaload, 1) := by decide +kernel
theorem dX5_isCovered_6 : decode cX5_isCovered 6 = .ok (.iload_n 1, 1) := by decide +kernel
theorem dX5_isCovered_7 : decode cX5_isCovered 7 = .ok (.ishr, 1) := by decide +kernel
theorem dX5_isCovered_8 : decode cX5_isCovered 8 = .ok (.iconst 1, 1) := by decide +kernel
theorem dX5_isCovered_9 : decode cX5_isCovered 9 = .ok (.iand, 1) := by decide +kernel
theorem dX5_isCovered_10 : decode cX5_isCovered 10 = .ok (.iconst 1, 1) := by decide +kernel
theorem dX5_isCovered_11 : decode cX5_isCovered 11 = .ok (.if_icmp .ne 7, 3) := by decide +kernel
theorem dX5_isCovered_14 : decode cX5_isCovered 14 = .ok (.iconst 1, 1) := by decide +kernel
theorem dX5_isCovered_15 : decode cX5_isCovered 15 = .ok (.goto 4, 3) := by decide +kernel
theorem dX5_isCovered_18 : decode cX5_isCovered 18 = .ok (.iconst 0, 1) := by decide +kernel
theorem dX5_isCovered_19 : decode cX5_isCovered 19 = .ok (.ireturn, 1) := by decide +kernel
theorem dX5_reachedFrom_0 : decode cX5_reachedFrom 0 = .ok (.aload_n 0, 1) := by decide +kernel
theorem dX5_reachedFrom_1 : decode cX5_reachedFrom 1 = .ok (.getfield 9, 3) := by decide +kernel
theorem dX5_reachedFrom_4 : decode cX5_reachedFrom 4 = .ok (.iload_n 1, 1) := by decide +kernel
theorem dX5_reachedFrom_5 : decode cX5_reachedFrom 5 = .ok (.iaload, 1) := by decide +kernel
theorem dX5_reachedFrom_6 : decode cX5_reachedFrom 6 = .ok (.istore_n 2, 1) := by decide +kernel
theorem dX5_reachedFrom_7 : decode cX5_reachedFrom 7 = .ok (.iconst 0, 1) := by decide +kernel
theorem dX5_reachedFrom_8 : decode cX5_reachedFrom 8 = .ok (.istore_n 3, 1) := by decide +kernel
theorem dX5_reachedFrom_9 : decode cX5_reachedFrom 9 = .ok (.iload_n 3, 1) := by decide +kernel
theorem dX5_reachedFrom_10 : decode cX5_reachedFrom 10 = .ok (.aload_n 0, 1) := by decide +kernel
theorem dX5_reachedFrom_11 : decode cX5_reachedFrom 11 = .ok (.getfield 37, 3) := by decide +kernel
theorem dX5_reachedFrom_14 : decode cX5_reachedFrom 14 = .ok (.if_icmp .ge 51, 3) := by decide +kernel
theorem dX5_reachedFrom_17 : decode cX5_reachedFrom 17 = .ok (.iconst 0, 1) := by decide +kernel
theorem dX5_reachedFrom_18 : decode cX5_reachedFrom 18 = .ok (.istore 4, 2) := by decide +kernel
theorem dX5_reachedFrom_20 : decode cX5_reachedFrom 20 = .ok (.iload 4, 2) := by decide +kernel
theorem dX5_reachedFrom_22 : decode cX5_reachedFrom 22 = .ok (.aload_n 0, 1) := by decide +kernel
theorem dX5_reachedFrom_23 : decode cX5_reachedFrom 23 = .ok (.getfield 37, 3) := by decide +kernel
theorem dX5_reachedFrom_26 : decode cX5_reachedFrom 26 = .ok (.if_icmp .ge 33, 3) := by decide +kernel
theorem dX5_reachedFrom_29 : decode cX5_reachedFrom 29 = .ok (.iload_n 2, 1) := by decide +kernel
theorem dX5_reachedFrom_30 : decode cX5_reachedFrom 30 = .ok (.iload_n 2, 1) := by decide +kernel
theorem dX5_reachedFrom_31 : decode cX5_reachedFrom 31 = .ok (.iload 4, 2) := by decide +kernel
theorem dX5_reachedFrom_33 : decode cX5_reachedFrom 33 = .ok (.ishr, 1) := by decide +kernel
theorem dX5_reachedFrom_34 : decode cX5_reachedFrom 34 = .ok (.iconst 1, 1) := by decide +kernel
theorem dX5_reachedFrom_35 : decode cX5_reachedFrom 35 = .ok (.iand, 1) := by decide +kernel
theorem dX5_reachedFrom_36 : decode cX5_reachedFrom 36 = .ok (.iconst 1, 1) := by decide +kernel
theorem dX5_reachedFrom_37 : decode cX5_reachedFrom 37 = .ok (.if_icmp .ne 13, 3) := by decide +kernel
theorem dX5_reachedFrom_40 : decode cX5_reachedFrom 40 = .ok (.aload_n 0, 1) := by decide +kernel
theorem dX5_reachedFrom_41 : decode cX5_reachedFrom 41 = .ok (.getfield 9, 3) := by decide +kernel
theorem dX5_reachedFrom_44 : decode cX5_reachedFrom 44 = .ok (.iload 4, 2) := by decide +kernel
theorem dX5_reachedFrom_46 : decode cX5_reachedFrom 46 = .ok (.iaload, 1) := by decide +kernel
theorem dX5_reachedFrom_47 : decode cX5_reachedFrom 47 = .ok (.goto 4, 3) := by decide +kernel
theorem dX5_reachedFrom_50 : decode cX5_reachedFrom 50 = .ok (.iconst 0, 1) := by decide +kernel
theorem dX5_reachedFrom_51 : decode cX5_reachedFrom 51 = .ok (.ior, 1) := by decide +kernel
theorem dX5_reachedFrom_52 : decode cX5_reachedFrom 52 = .ok (.istore_n 2, 1) := by decide +kernel
theorem dX5_reachedFrom_53 : decode cX5_reachedFrom 53 = .ok (.iinc 4 1, 3) := by decide +kernel
theorem dX5_reachedFrom_56 : decode cX5_reachedFrom 56 = .ok (.goto (-36), 3) := by decide +kernel
theorem dX5_reachedFrom_59 : decode cX5_reachedFrom 59 = .ok (.iinc 3 1, 3) := by decide +kernel
theorem dX5_reachedFrom_62 : decode cX5_reachedFrom 62 = .ok (.goto (-53), 3) := by decide +kernel
theorem dX5_reachedFrom_65 : decode cX5_reachedFrom 65 = .ok (.iload_n 2, 1) := by decide +kernel
theorem dX5_reachedFrom_66 : decode cX5_reachedFrom 66 = .ok (.ireturn, 1) := by decide +kernel
set_option maxRecDepth 20000 in
theorem ggX5_countOn_X5_isCovered : GoodIn wsX5_countOn wsX5_isCovered := goodIn_r _ [12, 13, 14, 15, 16, 17, 18, 19, 20, 21] (by decide +kernel) (by decide +kernel)
set_option maxRecDepth 20000 in
theorem gX5_countOn_X5_isCovered : GoodIn wsX5_countOn (wsV RX5 75 RX5 yX5_isCovered wsX5_isCovered) := goodIn_app (goodIn_of _ (by decide +kernel)) ggX5_countOn_X5_isCovered
theorem dX5_countOn_0 : decode cX5_countOn 0 = .ok (.aload_n 0, 1) := by decide +kernel
theorem dX5_countOn_1 : decode cX5_countOn 1 = .ok (.getfield 15, 3) := by decide +kernel
theorem dX5_countOn_4 : decode cX5_countOn 4 = .ok (.iconst 0, 1) := by decide +kernel
theorem dX5_countOn_5 : decode cX5_countOn 5 = .ok (.aload_n 0, 1) := by decide +kernel
theorem dX5_countOn_6 : decode cX5_countOn 6 = .ok (.getfield 19, 3) := by decide +kernel
theorem dX5_countOn_9 : decode cX5_countOn 9 = .ok (.iconst 0, 1) := by decide +kernel
theorem dX5_countOn_10 : decode cX5_countOn 10 = .ok (.bipush 8, 2) := by decide +kernel
theorem dX5_countOn_12 : decode cX5_countOn 12 = .ok (.invokestatic 69, 3) := by decide +kernel
theorem dX5_countOn_15 : decode cX5_countOn 15 = .ok (.iconst 0, 1) := by decide +kernel
theorem dX5_countOn_16 : decode cX5_countOn 16 = .ok (.istore_n 1, 1) := by decide +kernel
theorem dX5_countOn_17 : decode cX5_countOn 17 = .ok (.iload_n 1, 1) := by decide +kernel
theorem dX5_countOn_18 : decode cX5_countOn 18 = .ok (.aload_n 0, 1) := by decide +kernel
theorem dX5_countOn_19 : decode cX5_countOn 19 = .ok (.getfield 37, 3) := by decide +kernel
theorem dX5_countOn_22 : decode cX5_countOn 22 = .ok (.if_icmp .ge 60, 3) := by decide +kernel
theorem dX5_countOn_25 : decode cX5_countOn 25 = .ok (.lconst 0, 1) := by decide +kernel
theorem dX5_countOn_26 : decode cX5_countOn 26 = .ok (.lstore_n 2, 1) := by decide +kernel
theorem dX5_countOn_27 : decode cX5_countOn 27 = .ok (.iconst 0, 1) := by decide +kernel
theorem dX5_countOn_28 : decode cX5_countOn 28 = .ok (.istore 4, 2) := by decide +kernel
theorem dX5_countOn_30 : decode cX5_countOn 30 = .ok (.iload 4, 2) := by decide +kernel
theorem dX5_countOn_32 : decode cX5_countOn 32 = .ok (.aload_n 0, 1) := by decide +kernel
theorem dX5_countOn_33 : decode cX5_countOn 33 = .ok (.getfield 37, 3) := by decide +kernel
theorem dX5_countOn_36 : decode cX5_countOn 36 = .ok (.if_icmp .ge 33, 3) := by decide +kernel
theorem dX5_countOn_39 : decode cX5_countOn 39 = .ok (.lload_n 2, 1) := by decide +kernel
theorem dX5_countOn_40 : decode cX5_countOn 40 = .ok (.aload_n 0, 1) := by decide +kernel
theorem dX5_countOn_41 : decode cX5_countOn 41 = .ok (.iload 4, 2) := by decide +kernel
theorem dX5_countOn_43 : decode cX5_countOn 43 = .ok (.iload_n 1, 1) := by decide +kernel
theorem dX5_countOn_44 : decode cX5_countOn 44 = .ok (.invokevirtual 75, 3) := by decide +kernel
theorem dX5_countOn_47 : decode cX5_countOn 47 = .ok (.ifCond .eq 13, 3) := by decide +kernel
theorem dX5_countOn_50 : decode cX5_countOn 50 = .ok (.aload_n 0, 1) := by decide +kernel
theorem dX5_countOn_51 : decode cX5_countOn 51 = .ok (.getfield 19, 3) := by decide +kernel
theorem dX5_countOn_54 : decode cX5_countOn 54 = .ok (.iload 4, 2) := by decide +kernel
theorem dX5_countOn_56 : decode cX5_countOn 56 = .ok (.laload, 1) := by decide +kernel
theorem dX5_countOn_57 : decode cX5_countOn 57 = .ok (.goto 4, 3) := by decide +kernel
theorem dX5_countOn_60 : decode cX5_countOn 60 = .ok (.lconst 0, 1) := by decide +kernel
theorem dX5_countOn_61 : decode cX5_countOn 61 = .ok (.ladd, 1) := by decide +kernel
theorem dX5_countOn_62 : decode cX5_countOn 62 = .ok (.lstore_n 2, 1) := by decide +kernel
theorem dX5_countOn_63 : decode cX5_countOn 63 = .ok (.iinc 4 1, 3) := by decide +kernel
theorem dX5_countOn_66 : decode cX5_countOn 66 = .ok (.goto (-36), 3) := by decide +kernel
theorem dX5_countOn_69 : decode cX5_countOn 69 = .ok (.aload_n 0, 1) := by decide +kernel
theorem dX5_countOn_70 : decode cX5_countOn 70 = .ok (.getfield 15, 3) := by decide +kernel
theorem dX5_countOn_73 : decode cX5_countOn 73 = .ok (.iload_n 1, 1) := by decide +kernel
theorem dX5_countOn_74 : decode cX5_countOn 74 = .ok (.lload_n 2, 1) := by decide +kernel
theorem dX5_countOn_75 : decode cX5_countOn 75 = .ok (.lastore, 1) := by decide +kernel
theorem dX5_countOn_76 : decode cX5_countOn 76 = .ok (.iinc 1 1, 3) := by decide +kernel
theorem dX5_countOn_79 : decode cX5_countOn 79 = .ok (.goto (-62), 3) := by decide +kernel
theorem dX5_countOn_82 : decode cX5_countOn 82 = .ok (.return_, 1) := by decide +kernel
theorem dX5_startAt_0 : decode cX5_startAt 0 = .ok (.iconst 0, 1) := by decide +kernel
theorem dX5_startAt_1 : decode cX5_startAt 1 = .ok (.istore_n 2, 1) := by decide +kernel
theorem dX5_startAt_2 : decode cX5_startAt 2 = .ok (.iload_n 2, 1) := by decide +kernel
theorem dX5_startAt_3 : decode cX5_startAt 3 = .ok (.bipush 8, 2) := by decide +kernel
theorem dX5_startAt_5 : decode cX5_startAt 5 = .ok (.if_icmp .ge 25, 3) := by decide +kernel
theorem dX5_startAt_8 : decode cX5_startAt 8 = .ok (.aload_n 0, 1) := by decide +kernel
theorem dX5_startAt_9 : decode cX5_startAt 9 = .ok (.getfield 15, 3) := by decide +kernel
theorem dX5_startAt_12 : decode cX5_startAt 12 = .ok (.iload_n 2, 1) := by decide +kernel
theorem dX5_startAt_13 : decode cX5_startAt 13 = .ok (.iload_n 2, 1) := by decide +kernel
theorem dX5_startAt_14 : decode cX5_startAt 14 = .ok (.iload_n 1, 1) := by decide +kernel
theorem dX5_startAt_15 : decode cX5_startAt 15 = .ok (.if_icmp .ne 7, 3) := by decide +kernel
theorem dX5_startAt_18 : decode cX5_startAt 18 = .ok (.lconst 1, 1) := by decide +kernel
theorem dX5_startAt_19 : decode cX5_startAt 19 = .ok (.goto 4, 3) := by decide +kernel
theorem dX5_startAt_22 : decode cX5_startAt 22 = .ok (.lconst 0, 1) := by decide +kernel
theorem dX5_startAt_23 : decode cX5_startAt 23 = .ok (.lastore, 1) := by decide +kernel
theorem dX5_startAt_24 : decode cX5_startAt 24 = .ok (.iinc 2 1, 3) := by decide +kernel
theorem dX5_startAt_27 : decode cX5_startAt 27 = .ok (.goto (-25), 3) := by decide +kernel
theorem dX5_startAt_30 : decode cX5_startAt 30 = .ok (.return_, 1) := by decide +kernel
set_option maxRecDepth 20000 in
theorem ggX5_pathNumber_X5_startAt : GoodIn wsX5_pathNumber wsX5_startAt := goodIn_r _ [6, 1, 22, 23, 24, 25, 26, 27, 28, 29] (by decide +kernel) (by decide +kernel)
set_option maxRecDepth 20000 in
theorem gX5_pathNumber_X5_startAt : GoodIn wsX5_pathNumber (wsV RX5 79 RX5 yX5_startAt wsX5_startAt) := goodIn_app (goodIn_of _ (by decide +kernel)) ggX5_pathNumber_X5_startAt
set_option maxRecDepth 20000 in
theorem ggX5_pathNumber_X5_countOn : GoodIn wsX5_pathNumber wsX5_countOn := goodIn_r _ [10, 1, 11, 12, 13, 14, 15, 16, 17, 18, 19, 5, 20, 21, 22, 23, 24, 25, 26, 27, 28, 29] (by decide +kernel) (by decide +kernel)
set_option maxRecDepth 20000 in
theorem gX5_pathNumber_X5_countOn : GoodIn wsX5_pathNumber (wsV RX5 83 RX5 yX5_countOn wsX5_countOn) := goodIn_app (goodIn_of _ (by decide +kernel)) ggX5_pathNumber_X5_countOn
theorem dX5_pathNumber_0 : decode cX5_pathNumber 0 = .ok (.aload_n 0, 1) := by decide +kernel
theorem dX5_pathNumber_1 : decode cX5_pathNumber 1 = .ok (.iload_n 2, 1) := by decide +kernel
theorem dX5_pathNumber_2 : decode cX5_pathNumber 2 = .ok (.invokevirtual 79, 3) := by decide +kernel
theorem dX5_pathNumber_5 : decode cX5_pathNumber 5 = .ok (.iconst 0, 1) := by decide +kernel
theorem dX5_pathNumber_6 : decode cX5_pathNumber 6 = .ok (.istore 4, 2) := by decide +kernel
theorem dX5_pathNumber_8 : decode cX5_pathNumber 8 = .ok (.iload 4, 2) := by decide +kernel
theorem dX5_pathNumber_10 : decode cX5_pathNumber 10 = .ok (.iload_n 3, 1) := by decide +kernel
theorem dX5_pathNumber_11 : decode cX5_pathNumber 11 = .ok (.if_icmp .ge 13, 3) := by decide +kernel
theorem dX5_pathNumber_14 : decode cX5_pathNumber 14 = .ok (.aload_n 0, 1) := by decide +kernel
theorem dX5_pathNumber_15 : decode cX5_pathNumber 15 = .ok (.invokevirtual 83, 3) := by decide +kernel
theorem dX5_pathNumber_18 : decode cX5_pathNumber 18 = .ok (.iinc 4 1, 3) := by decide +kernel
theorem dX5_pathNumber_21 : decode cX5_pathNumber 21 = .ok (.goto (-13), 3) := by decide +kernel
theorem dX5_pathNumber_24 : decode cX5_pathNumber 24 = .ok (.aload_n 0, 1) := by decide +kernel
theorem dX5_pathNumber_25 : decode cX5_pathNumber 25 = .ok (.getfield 15, 3) := by decide +kernel
theorem dX5_pathNumber_28 : decode cX5_pathNumber 28 = .ok (.iload_n 1, 1) := by decide +kernel
theorem dX5_pathNumber_29 : decode cX5_pathNumber 29 = .ok (.laload, 1) := by decide +kernel
theorem dX5_pathNumber_30 : decode cX5_pathNumber 30 = .ok (.lreturn, 1) := by decide +kernel
set_option maxRecDepth 20000 in
theorem ggX5_measureLoops_X5_startAt : GoodIn wsX5_measureLoops wsX5_startAt := goodIn_r _ [9, 3, 28, 29, 30, 31, 32, 33, 34, 35] (by decide +kernel) (by decide +kernel)
set_option maxRecDepth 20000 in
theorem gX5_measureLoops_X5_startAt : GoodIn wsX5_measureLoops (wsV RX5 79 RX5 yX5_startAt wsX5_startAt) := goodIn_app (goodIn_of _ (by decide +kernel)) ggX5_measureLoops_X5_startAt
set_option maxRecDepth 20000 in
theorem ggX5_measureLoops_X5_countOn : GoodIn wsX5_measureLoops wsX5_countOn := goodIn_r _ [13, 3, 14, 15, 16, 17, 18, 2, 19, 20, 21, 8, 22, 23, 28, 29, 30, 31, 32, 33, 34, 35] (by decide +kernel) (by decide +kernel)
set_option maxRecDepth 20000 in
theorem gX5_measureLoops_X5_countOn : GoodIn wsX5_measureLoops (wsV RX5 83 RX5 yX5_countOn wsX5_countOn) := goodIn_app (goodIn_of _ (by decide +kernel)) ggX5_measureLoops_X5_countOn
set_option maxRecDepth 20000 in
theorem ggX5_measureLoops_X5_repeatedLoops : GoodIn wsX5_measureLoops wsX5_repeatedLoops := goodIn_r _ [27, 4, 28, 29, 30, 31, 32, 33, 34, 35] (by decide +kernel) (by decide +kernel)
set_option maxRecDepth 20000 in
theorem gX5_measureLoops_X5_repeatedLoops : GoodIn wsX5_measureLoops (wsV RX5 86 RX5 yX5_repeatedLoops wsX5_repeatedLoops) := goodIn_app (goodIn_of _ (by decide +kernel)) ggX5_measureLoops_X5_repeatedLoops
theorem dX5_measureLoops_0 : decode cX5_measureLoops 0 = .ok (.iconst 1, 1) := by decide +kernel
theorem dX5_measureLoops_1 : decode cX5_measureLoops 1 = .ok (.istore_n 2, 1) := by decide +kernel
theorem dX5_measureLoops_2 : decode cX5_measureLoops 2 = .ok (.iload_n 2, 1) := by decide +kernel
theorem dX5_measureLoops_3 : decode cX5_measureLoops 3 = .ok (.iload_n 1, 1) := by decide +kernel
theorem dX5_measureLoops_4 : decode cX5_measureLoops 4 = .ok (.if_icmp .gt 16, 3) := by decide +kernel
theorem dX5_measureLoops_7 : decode cX5_measureLoops 7 = .ok (.aload_n 0, 1) := by decide +kernel
theorem dX5_measureLoops_8 : decode cX5_measureLoops 8 = .ok (.getfield 22, 3) := by decide +kernel
theorem dX5_measureLoops_11 : decode cX5_measureLoops 11 = .ok (.iload_n 2, 1) := by decide +kernel
theorem dX5_measureLoops_12 : decode cX5_measureLoops 12 = .ok (.lconst 0, 1) := by decide +kernel
theorem dX5_measureLoops_13 : decode cX5_measureLoops 13 = .ok (.lastore, 1) := by decide +kernel
theorem dX5_measureLoops_14 : decode cX5_measureLoops 14 = .ok (.iinc 2 1, 3) := by decide +kernel
theorem dX5_measureLoops_17 : decode cX5_measureLoops 17 = .ok (.goto (-15), 3) := by decide +kernel
theorem dX5_measureLoops_20 : decode cX5_measureLoops 20 = .ok (.iconst 0, 1) := by decide +kernel
theorem dX5_measureLoops_21 : decode cX5_measureLoops 21 = .ok (.istore_n 2, 1) := by decide +kernel
theorem dX5_measureLoops_22 : decode cX5_measureLoops 22 = .ok (.iload_n 2, 1) := by decide +kernel
theorem dX5_measureLoops_23 : decode cX5_measureLoops 23 = .ok (.aload_n 0, 1) := by decide +kernel
theorem dX5_measureLoops_24 : decode cX5_measureLoops 24 = .ok (.getfield 37, 3) := by decide +kernel
theorem dX5_measureLoops_27 : decode cX5_measureLoops 27 = .ok (.if_icmp .ge 46, 3) := by decide +kernel
theorem dX5_measureLoops_30 : decode cX5_measureLoops 30 = .ok (.aload_n 0, 1) := by decide +kernel
theorem dX5_measureLoops_31 : decode cX5_measureLoops 31 = .ok (.iload_n 2, 1) := by decide +kernel
theorem dX5_measureLoops_32 : decode cX5_measureLoops 32 = .ok (.invokevirtual 79, 3) := by decide +kernel
theorem dX5_measureLoops_35 : decode cX5_measureLoops 35 = .ok (.iconst 1, 1) := by decide +kernel
theorem dX5_measureLoops_36 : decode cX5_measureLoops 36 = .ok (.istore_n 3, 1) := by decide +kernel
theorem dX5_measureLoops_37 : decode cX5_measureLoops 37 = .ok (.iload_n 3, 1) := by decide +kernel
theorem dX5_measureLoops_38 : decode cX5_measureLoops 38 = .ok (.iload_n 1, 1) := by decide +kernel
theorem dX5_measureLoops_39 : decode cX5_measureLoops 39 = .ok (.if_icmp .gt 28, 3) := by decide +kernel
theorem dX5_measureLoops_42 : decode cX5_measureLoops 42 = .ok (.aload_n 0, 1) := by decide +kernel
theorem dX5_measureLoops_43 : decode cX5_measureLoops 43 = .ok (.invokevirtual 83, 3) := by decide +kernel
theorem dX5_measureLoops_46 : decode cX5_measureLoops 46 = .ok (.aload_n 0, 1) := by decide +kernel
theorem dX5_measureLoops_47 : decode cX5_measureLoops 47 = .ok (.getfield 22, 3) := by decide +kernel
theorem dX5_measureLoops_50 : decode cX5_measureLoops 50 = .ok (.iload_n 3, 1) := by decide +kernel
theorem dX5_measureLoops_51 : decode cX5_measureLoops 51 = .ok (.dup2, 1) := by decide +kernel
theorem dX5_measureLoops_52 : decode cX5_measureLoops 52 = .ok (.laload, 1) := by decide +kernel
theorem dX5_measureLoops_53 : decode cX5_measureLoops 53 = .ok (.aload_n 0, 1) := by decide +kernel
theorem dX5_measureLoops_54 : decode cX5_measureLoops 54 = .ok (.getfield 15, 3) := by decide +kernel
theorem dX5_measureLoops_57 : decode cX5_measureLoops 57 = .ok (.iload_n 2, 1) := by decide +kernel
theorem dX5_measureLoops_58 : decode cX5_measureLoops 58 = .ok (.laload, 1) := by decide +kernel
theorem dX5_measureLoops_59 : decode cX5_measureLoops 59 = .ok (.ladd, 1) := by decide +kernel
theorem dX5_measureLoops_60 : decode cX5_measureLoops 60 = .ok (.lastore, 1) := by decide +kernel
theorem dX5_measureLoops_61 : decode cX5_measureLoops 61 = .ok (.iinc 3 1, 3) := by decide +kernel
theorem dX5_measureLoops_64 : decode cX5_measureLoops 64 = .ok (.goto (-27), 3) := by decide +kernel
theorem dX5_measureLoops_67 : decode cX5_measureLoops 67 = .ok (.iinc 2 1, 3) := by decide +kernel
theorem dX5_measureLoops_70 : decode cX5_measureLoops 70 = .ok (.goto (-48), 3) := by decide +kernel
theorem dX5_measureLoops_73 : decode cX5_measureLoops 73 = .ok (.iconst 1, 1) := by decide +kernel
theorem dX5_measureLoops_74 : decode cX5_measureLoops 74 = .ok (.istore_n 2, 1) := by decide +kernel
theorem dX5_measureLoops_75 : decode cX5_measureLoops 75 = .ok (.iload_n 2, 1) := by decide +kernel
theorem dX5_measureLoops_76 : decode cX5_measureLoops 76 = .ok (.iload_n 1, 1) := by decide +kernel
theorem dX5_measureLoops_77 : decode cX5_measureLoops 77 = .ok (.if_icmp .gt 27, 3) := by decide +kernel
theorem dX5_measureLoops_80 : decode cX5_measureLoops 80 = .ok (.aload_n 0, 1) := by decide +kernel
theorem dX5_measureLoops_81 : decode cX5_measureLoops 81 = .ok (.getfield 25, 3) := by decide +kernel
theorem dX5_measureLoops_84 : decode cX5_measureLoops 84 = .ok (.iload_n 2, 1) := by decide +kernel
theorem dX5_measureLoops_85 : decode cX5_measureLoops 85 = .ok (.aload_n 0, 1) := by decide +kernel
theorem dX5_measureLoops_86 : decode cX5_measureLoops 86 = .ok (.getfield 22, 3) := by decide +kernel
theorem dX5_measureLoops_89 : decode cX5_measureLoops 89 = .ok (.iload_n 2, 1) := by decide +kernel
theorem dX5_measureLoops_90 : decode cX5_measureLoops 90 = .ok (.laload, 1) := by decide +kernel
theorem dX5_measureLoops_91 : decode cX5_measureLoops 91 = .ok (.aload_n 0, 1) := by decide +kernel
theorem dX5_measureLoops_92 : decode cX5_measureLoops 92 = .ok (.iload_n 2, 1) := by decide +kernel
theorem dX5_measureLoops_93 : decode cX5_measureLoops 93 = .ok (.invokevirtual 86, 3) := by decide +kernel
theorem dX5_measureLoops_96 : decode cX5_measureLoops 96 = .ok (.lsub, 1) := by decide +kernel
theorem dX5_measureLoops_97 : decode cX5_measureLoops 97 = .ok (.lastore, 1) := by decide +kernel
theorem dX5_measureLoops_98 : decode cX5_measureLoops 98 = .ok (.iinc 2 1, 3) := by decide +kernel
theorem dX5_measureLoops_101 : decode cX5_measureLoops 101 = .ok (.goto (-26), 3) := by decide +kernel
theorem dX5_measureLoops_104 : decode cX5_measureLoops 104 = .ok (.return_, 1) := by decide +kernel
theorem dX5_repeatedLoops_0 : decode cX5_repeatedLoops 0 = .ok (.lconst 0, 1) := by decide +kernel
theorem dX5_repeatedLoops_1 : decode cX5_repeatedLoops 1 = .ok (.lstore_n 2, 1) := by decide +kernel
theorem dX5_repeatedLoops_2 : decode cX5_repeatedLoops 2 = .ok (.iconst 1, 1) := by decide +kernel
theorem dX5_repeatedLoops_3 : decode cX5_repeatedLoops 3 = .ok (.istore 4, 2) := by decide +kernel
theorem dX5_repeatedLoops_5 : decode cX5_repeatedLoops 5 = .ok (.iload 4, 2) := by decide +kernel
theorem dX5_repeatedLoops_7 : decode cX5_repeatedLoops 7 = .ok (.iload_n 1, 1) := by decide +kernel
theorem dX5_repeatedLoops_8 : decode cX5_repeatedLoops 8 = .ok (.if_icmp .ge 30, 3) := by decide +kernel
theorem dX5_repeatedLoops_11 : decode cX5_repeatedLoops 11 = .ok (.lload_n 2, 1) := by decide +kernel
theorem dX5_repeatedLoops_12 : decode cX5_repeatedLoops 12 = .ok (.iload_n 1, 1) := by decide +kernel
theorem dX5_repeatedLoops_13 : decode cX5_repeatedLoops 13 = .ok (.iload 4, 2) := by decide +kernel
theorem dX5_repeatedLoops_15 : decode cX5_repeatedLoops 15 = .ok (.irem, 1) := by decide +kernel
theorem dX5_repeatedLoops_16 : decode cX5_repeatedLoops 16 = .ok (.ifCond .ne 13, 3) := by decide +kernel
theorem dX5_repeatedLoops_19 : decode cX5_repeatedLoops 19 = .ok (.aload_n 0, 1) := by decide +kernel
theorem dX5_repeatedLoops_20 : decode cX5_repeatedLoops 20 = .ok (.getfield 25, 3) := by decide +kernel
theorem dX5_repeatedLoops_23 : decode cX5_repeatedLoops 23 = .ok (.iload 4, 2) := by decide +kernel
theorem dX5_repeatedLoops_25 : decode cX5_repeatedLoops 25 = .ok (.laload, 1) := by decide +kernel
theorem dX5_repeatedLoops_26 : decode cX5_repeatedLoops 26 = .ok (.goto 4, 3) := by decide +kernel
theorem dX5_repeatedLoops_29 : decode cX5_repeatedLoops 29 = .ok (.lconst 0, 1) := by decide +kernel
theorem dX5_repeatedLoops_30 : decode cX5_repeatedLoops 30 = .ok (.ladd, 1) := by decide +kernel
theorem dX5_repeatedLoops_31 : decode cX5_repeatedLoops 31 = .ok (.lstore_n 2, 1) := by decide +kernel
theorem dX5_repeatedLoops_32 : decode cX5_repeatedLoops 32 = .ok (.iinc 4 1, 3) := by decide +kernel
theorem dX5_repeatedLoops_35 : decode cX5_repeatedLoops 35 = .ok (.goto (-30), 3) := by decide +kernel
theorem dX5_repeatedLoops_38 : decode cX5_repeatedLoops 38 = .ok (.lload_n 2, 1) := by decide +kernel
theorem dX5_repeatedLoops_39 : decode cX5_repeatedLoops 39 = .ok (.lreturn, 1) := by decide +kernel
set_option maxRecDepth 20000 in
theorem ggX5_countTwice_X5_countOn : GoodIn wsX5_countTwice wsX5_countOn := goodIn_r _ [6, 1, 7, 8, 9, 10, 11, 12, 13, 14, 15, 5, 16, 17, 18, 19, 20, 21, 22, 23, 24, 25] (by decide +kernel) (by decide +kernel)
set_option maxRecDepth 20000 in
theorem gX5_countTwice_X5_countOn : GoodIn wsX5_countTwice (wsV RX5 83 RX5 yX5_countOn wsX5_countOn) := goodIn_app (goodIn_of _ (by decide +kernel)) ggX5_countTwice_X5_countOn
theorem dX5_countTwice_0 : decode cX5_countTwice 0 = .ok (.iconst 0, 1) := by decide +kernel
theorem dX5_countTwice_1 : decode cX5_countTwice 1 = .ok (.istore_n 2, 1) := by decide +kernel
theorem dX5_countTwice_2 : decode cX5_countTwice 2 = .ok (.iload_n 2, 1) := by decide +kernel
theorem dX5_countTwice_3 : decode cX5_countTwice 3 = .ok (.bipush 8, 2) := by decide +kernel
theorem dX5_countTwice_5 : decode cX5_countTwice 5 = .ok (.if_icmp .ge 16, 3) := by decide +kernel
theorem dX5_countTwice_8 : decode cX5_countTwice 8 = .ok (.aload_n 0, 1) := by decide +kernel
theorem dX5_countTwice_9 : decode cX5_countTwice 9 = .ok (.getfield 15, 3) := by decide +kernel
theorem dX5_countTwice_12 : decode cX5_countTwice 12 = .ok (.iload_n 2, 1) := by decide +kernel
theorem dX5_countTwice_13 : decode cX5_countTwice 13 = .ok (.lconst 1, 1) := by decide +kernel
theorem dX5_countTwice_14 : decode cX5_countTwice 14 = .ok (.lastore, 1) := by decide +kernel
theorem dX5_countTwice_15 : decode cX5_countTwice 15 = .ok (.iinc 2 1, 3) := by decide +kernel
theorem dX5_countTwice_18 : decode cX5_countTwice 18 = .ok (.goto (-16), 3) := by decide +kernel
theorem dX5_countTwice_21 : decode cX5_countTwice 21 = .ok (.iconst 0, 1) := by decide +kernel
theorem dX5_countTwice_22 : decode cX5_countTwice 22 = .ok (.istore_n 2, 1) := by decide +kernel
theorem dX5_countTwice_23 : decode cX5_countTwice 23 = .ok (.iload_n 2, 1) := by decide +kernel
theorem dX5_countTwice_24 : decode cX5_countTwice 24 = .ok (.iload_n 1, 1) := by decide +kernel
theorem dX5_countTwice_25 : decode cX5_countTwice 25 = .ok (.if_icmp .gt 13, 3) := by decide +kernel
theorem dX5_countTwice_28 : decode cX5_countTwice 28 = .ok (.aload_n 0, 1) := by decide +kernel
theorem dX5_countTwice_29 : decode cX5_countTwice 29 = .ok (.invokevirtual 83, 3) := by decide +kernel
theorem dX5_countTwice_32 : decode cX5_countTwice 32 = .ok (.iinc 2 1, 3) := by decide +kernel
theorem dX5_countTwice_35 : decode cX5_countTwice 35 = .ok (.goto (-12), 3) := by decide +kernel
theorem dX5_countTwice_38 : decode cX5_countTwice 38 = .ok (.return_, 1) := by decide +kernel
set_option maxRecDepth 20000 in
theorem ggX5_steepest_X5_isBeyond : GoodIn wsX5_steepest wsX5_isBeyond := goodIn_r _ [7, 8, 2, 9, 10, 11, 12, 13, 14, 15, 16] (by decide +kernel) (by decide +kernel)
set_option maxRecDepth 20000 in
theorem gX5_steepest_X5_isBeyond : GoodIn wsX5_steepest (wsV RX5 90 RX5 yX5_isBeyond wsX5_isBeyond) := goodIn_app (goodIn_of _ (by decide +kernel)) ggX5_steepest_X5_isBeyond
theorem dX5_steepest_0 : decode cX5_steepest 0 = .ok (.iconst (-1), 1) := by decide +kernel
theorem dX5_steepest_1 : decode cX5_steepest 1 = .ok (.istore_n 2, 1) := by decide +kernel
theorem dX5_steepest_2 : decode cX5_steepest 2 = .ok (.iconst 0, 1) := by decide +kernel
theorem dX5_steepest_3 : decode cX5_steepest 3 = .ok (.istore_n 3, 1) := by decide +kernel
theorem dX5_steepest_4 : decode cX5_steepest 4 = .ok (.iload_n 3, 1) := by decide +kernel
theorem dX5_steepest_5 : decode cX5_steepest 5 = .ok (.aload_n 0, 1) := by decide +kernel
theorem dX5_steepest_6 : decode cX5_steepest 6 = .ok (.getfield 37, 3) := by decide +kernel
theorem dX5_steepest_9 : decode cX5_steepest 9 = .ok (.if_icmp .ge 36, 3) := by decide +kernel
theorem dX5_steepest_12 : decode cX5_steepest 12 = .ok (.aload_n 0, 1) := by decide +kernel
theorem dX5_steepest_13 : decode cX5_steepest 13 = .ok (.getfield 19, 3) := by decide +kernel
theorem dX5_steepest_16 : decode cX5_steepest 16 = .ok (.iload_n 3, 1) := by decide +kernel
theorem dX5_steepest_17 : decode cX5_steepest 17 = .ok (.laload, 1) := by decide +kernel
theorem dX5_steepest_18 : decode cX5_steepest 18 = .ok (.lconst 0, 1) := by decide +kernel
theorem dX5_steepest_19 : decode cX5_steepest 19 = .ok (.lcmp, 1) := by decide +kernel
theorem dX5_steepest_20 : decode cX5_steepest 20 = .ok (.ifCond .le 19, 3) := by decide +kernel
theorem dX5_steepest_23 : decode cX5_steepest 23 = .ok (.iload_n 2, 1) := by decide +kernel
theorem dX5_steepest_24 : decode cX5_steepest 24 = .ok (.ifCond .lt 13, 3) := by decide +kernel
theorem dX5_steepest_27 : decode cX5_steepest 27 = .ok (.aload_n 0, 1) := by decide +kernel
theorem dX5_steepest_28 : decode cX5_steepest 28 = .ok (.iload_n 3, 1) := by decide +kernel
theorem dX5_steepest_29 : decode cX5_steepest 29 = .ok (.iload_n 2, 1) := by decide +kernel
theorem dX5_steepest_30 : decode cX5_steepest 30 = .ok (.iload_n 1, 1) := by decide +kernel
theorem dX5_steepest_31 : decode cX5_steepest 31 = .ok (.invokevirtual 90, 3) := by decide +kernel
theorem dX5_steepest_34 : decode cX5_steepest 34 = .ok (.ifCond .eq 5, 3) := by decide +kernel
theorem dX5_steepest_37 : decode cX5_steepest 37 = .ok (.iload_n 3, 1) := by decide +kernel
theorem dX5_steepest_38 : decode cX5_steepest 38 = .ok (.istore_n 2, 1) := by decide +kernel
theorem dX5_steepest_39 : decode cX5_steepest 39 = .ok (.iinc 3 1, 3) := by decide +kernel
theorem dX5_steepest_42 : decode cX5_steepest 42 = .ok (.goto (-38), 3) := by decide +kernel
theorem dX5_steepest_45 : decode cX5_steepest 45 = .ok (.iload_n 2, 1) := by decide +kernel
theorem dX5_steepest_46 : decode cX5_steepest 46 = .ok (.ireturn, 1) := by decide +kernel
theorem dX5_isBeyond_0 : decode cX5_isBeyond 0 = .ok (.aload_n 0, 1) := by decide +kernel
theorem dX5_isBeyond_1 : decode cX5_isBeyond 1 = .ok (.getfield 15, 3) := by decide +kernel
theorem dX5_isBeyond_4 : decode cX5_isBeyond 4 = .ok (.iload_n 1, 1) := by decide +kernel
theorem dX5_isBeyond_5 : decode cX5_isBeyond 5 = .ok (.laload, 1) := by decide +kernel
theorem dX5_isBeyond_6 : decode cX5_isBeyond 6 = .ok (.aload_n 0, 1) := by decide +kernel
theorem dX5_isBeyond_7 : decode cX5_isBeyond 7 = .ok (.getfield 19, 3) := by decide +kernel
theorem dX5_isBeyond_10 : decode cX5_isBeyond 10 = .ok (.iload_n 2, 1) := by decide +kernel
theorem dX5_isBeyond_11 : decode cX5_isBeyond 11 = .ok (.laload, 1) := by decide +kernel
theorem dX5_isBeyond_12 : decode cX5_isBeyond 12 = .ok (.lmul, 1) := by decide +kernel
theorem dX5_isBeyond_13 : decode cX5_isBeyond 13 = .ok (.lstore 4, 2) := by decide +kernel
theorem dX5_isBeyond_15 : decode cX5_isBeyond 15 = .ok (.aload_n 0, 1) := by decide +kernel
theorem dX5_isBeyond_16 : decode cX5_isBeyond 16 = .ok (.getfield 15, 3) := by decide +kernel
theorem dX5_isBeyond_19 : decode cX5_isBeyond 19 = .ok (.iload_n 2, 1) := by decide +kernel
theorem dX5_isBeyond_20 : decode cX5_isBeyond 20 = .ok (.laload, 1) := by decide +kernel
theorem dX5_isBeyond_21 : decode cX5_isBeyond 21 = .ok (.aload_n 0, 1) := by decide +kernel
theorem dX5_isBeyond_22 : decode cX5_isBeyond 22 = .ok (.getfield 19, 3) := by decide +kernel
theorem dX5_isBeyond_25 : decode cX5_isBeyond 25 = .ok (.iload_n 1, 1) := by decide +kernel
theorem dX5_isBeyond_26 : decode cX5_isBeyond 26 = .ok (.laload, 1) := by decide +kernel
theorem dX5_isBeyond_27 : decode cX5_isBeyond 27 = .ok (.lmul, 1) := by decide +kernel
theorem dX5_isBeyond_28 : decode cX5_isBeyond 28 = .ok (.lstore 6, 2) := by decide +kernel
theorem dX5_isBeyond_30 : decode cX5_isBeyond 30 = .ok (.iload_n 3, 1) := by decide +kernel
theorem dX5_isBeyond_31 : decode cX5_isBeyond 31 = .ok (.ifCond .eq 19, 3) := by decide +kernel
theorem dX5_isBeyond_34 : decode cX5_isBeyond 34 = .ok (.lload 4, 2) := by decide +kernel
theorem dX5_isBeyond_36 : decode cX5_isBeyond 36 = .ok (.lload 6, 2) := by decide +kernel
theorem dX5_isBeyond_38 : decode cX5_isBeyond 38 = .ok (.lcmp, 1) := by decide +kernel
theorem dX5_isBeyond_39 : decode cX5_isBeyond 39 = .ok (.ifCond .le 7, 3) := by decide +kernel
theorem dX5_isBeyond_42 : decode cX5_isBeyond 42 = .ok (.iconst 1, 1) := by decide +kernel
theorem dX5_isBeyond_43 : decode cX5_isBeyond 43 = .ok (.goto 20, 3) := by decide +kernel
theorem dX5_isBeyond_46 : decode cX5_isBeyond 46 = .ok (.iconst 0, 1) := by decide +kernel
theorem dX5_isBeyond_47 : decode cX5_isBeyond 47 = .ok (.goto 16, 3) := by decide +kernel
theorem dX5_isBeyond_50 : decode cX5_isBeyond 50 = .ok (.lload 4, 2) := by decide +kernel
theorem dX5_isBeyond_52 : decode cX5_isBeyond 52 = .ok (.lload 6, 2) := by decide +kernel
theorem dX5_isBeyond_54 : decode cX5_isBeyond 54 = .ok (.lcmp, 1) := by decide +kernel
theorem dX5_isBeyond_55 : decode cX5_isBeyond 55 = .ok (.ifCond .ge 7, 3) := by decide +kernel
theorem dX5_isBeyond_58 : decode cX5_isBeyond 58 = .ok (.iconst 1, 1) := by decide +kernel
theorem dX5_isBeyond_59 : decode cX5_isBeyond 59 = .ok (.goto 4, 3) := by decide +kernel
theorem dX5_isBeyond_62 : decode cX5_isBeyond 62 = .ok (.iconst 0, 1) := by decide +kernel
theorem dX5_isBeyond_63 : decode cX5_isBeyond 63 = .ok (.ireturn, 1) := by decide +kernel
set_option maxRecDepth 20000 in
theorem ggX5_fractionPart_X5_commonDivisor : GoodIn wsX5_fractionPart wsX5_commonDivisor := goodIn_r _ [6] (by decide +kernel) (by decide +kernel)
set_option maxRecDepth 20000 in
theorem gX5_fractionPart_X5_commonDivisor : GoodIn wsX5_fractionPart (va_wsS RX5 94 yX5_commonDivisor wsX5_commonDivisor) := goodIn_app (goodIn_of _ (by decide +kernel)) ggX5_fractionPart_X5_commonDivisor
theorem dX5_fractionPart_0 : decode cX5_fractionPart 0 = .ok (.iload_n 2, 1) := by decide +kernel
theorem dX5_fractionPart_1 : decode cX5_fractionPart 1 = .ok (.ifCond .ne 12, 3) := by decide +kernel
theorem dX5_fractionPart_4 : decode cX5_fractionPart 4 = .ok (.aload_n 0, 1) := by decide +kernel
theorem dX5_fractionPart_5 : decode cX5_fractionPart 5 = .ok (.getfield 15, 3) := by decide +kernel
theorem dX5_fractionPart_8 : decode cX5_fractionPart 8 = .ok (.iload_n 1, 1) := by decide +kernel
theorem dX5_fractionPart_9 : decode cX5_fractionPart 9 = .ok (.laload, 1) := by decide +kernel
theorem dX5_fractionPart_10 : decode cX5_fractionPart 10 = .ok (.goto 9, 3) := by decide +kernel
theorem dX5_fractionPart_13 : decode cX5_fractionPart 13 = .ok (.aload_n 0, 1) := by decide +kernel
theorem dX5_fractionPart_14 : decode cX5_fractionPart 14 = .ok (.getfield 19, 3) := by decide +kernel
theorem dX5_fractionPart_17 : decode cX5_fractionPart 17 = .ok (.iload_n 1, 1) := by decide +kernel
theorem dX5_fractionPart_18 : decode cX5_fractionPart 18 = .ok (.laload, 1) := by decide +kernel
theorem dX5_fractionPart_19 : decode cX5_fractionPart 19 = .ok (.lstore_n 3, 1) := by decide +kernel
theorem dX5_fractionPart_20 : decode cX5_fractionPart 20 = .ok (.aload_n 0, 1) := by decide +kernel
theorem dX5_fractionPart_21 : decode cX5_fractionPart 21 = .ok (.getfield 15, 3) := by decide +kernel
theorem dX5_fractionPart_24 : decode cX5_fractionPart 24 = .ok (.iload_n 1, 1) := by decide +kernel
theorem dX5_fractionPart_25 : decode cX5_fractionPart 25 = .ok (.laload, 1) := by decide +kernel
theorem dX5_fractionPart_26 : decode cX5_fractionPart 26 = .ok (.aload_n 0, 1) := by decide +kernel
theorem dX5_fractionPart_27 : decode cX5_fractionPart 27 = .ok (.getfield 19, 3) := by decide +kernel
theorem dX5_fractionPart_30 : decode cX5_fractionPart 30 = .ok (.iload_n 1, 1) := by decide +kernel
theorem dX5_fractionPart_31 : decode cX5_fractionPart 31 = .ok (.laload, 1) := by decide +kernel
theorem dX5_fractionPart_32 : decode cX5_fractionPart 32 = .ok (.invokestatic 94, 3) := by decide +kernel
theorem dX5_fractionPart_35 : decode cX5_fractionPart 35 = .ok (.lstore 5, 2) := by decide +kernel
theorem dX5_fractionPart_37 : decode cX5_fractionPart 37 = .ok (.lload 5, 2) := by decide +kernel
theorem dX5_fractionPart_39 : decode cX5_fractionPart 39 = .ok (.lconst 0, 1) := by decide +kernel
theorem dX5_fractionPart_40 : decode cX5_fractionPart 40 = .ok (.lcmp, 1) := by decide +kernel
theorem dX5_fractionPart_41 : decode cX5_fractionPart 41 = .ok (.ifCond .le 10, 3) := by decide +kernel
theorem dX5_fractionPart_44 : decode cX5_fractionPart 44 = .ok (.lload_n 3, 1) := by decide +kernel
theorem dX5_fractionPart_45 : decode cX5_fractionPart 45 = .ok (.lload 5, 2) := by decide +kernel
theorem dX5_fractionPart_47 : decode cX5_fractionPart 47 = .ok (.ldiv, 1) := by decide +kernel
theorem dX5_fractionPart_48 : decode cX5_fractionPart 48 = .ok (.goto 4, 3) := by decide +kernel
theorem dX5_fractionPart_51 : decode cX5_fractionPart 51 = .ok (.lload_n 3, 1) := by decide +kernel
theorem dX5_fractionPart_52 : decode cX5_fractionPart 52 = .ok (.lreturn, 1) := by decide +kernel
theorem dX5_commonDivisor_0 : decode cX5_commonDivisor 0 = .ok (.lload_n 0, 1) := by decide +kernel
theorem dX5_commonDivisor_1 : decode cX5_commonDivisor 1 = .ok (.lstore 4, 2) := by decide +kernel
theorem dX5_commonDivisor_3 : decode cX5_commonDivisor 3 = .ok (.lload_n 2, 1) := by decide +kernel
theorem dX5_commonDivisor_4 : decode cX5_commonDivisor 4 = .ok (.lstore 6, 2) := by decide +kernel
theorem dX5_commonDivisor_6 : decode cX5_commonDivisor 6 = .ok (.iconst 0, 1) := by decide +kernel
theorem dX5_commonDivisor_7 : decode cX5_commonDivisor 7 = .ok (.istore 8, 2) := by decide +kernel
theorem dX5_commonDivisor_9 : decode cX5_commonDivisor 9 = .ok (.iload 8, 2) := by decide +kernel
theorem dX5_commonDivisor_11 : decode cX5_commonDivisor 11 = .ok (.sipush 200, 3) := by decide +kernel
theorem dX5_commonDivisor_14 : decode cX5_commonDivisor 14 = .ok (.if_icmp .ge 31, 3) := by decide +kernel
theorem dX5_commonDivisor_17 : decode cX5_commonDivisor 17 = .ok (.lload 6, 2) := by decide +kernel
theorem dX5_commonDivisor_19 : decode cX5_commonDivisor 19 = .ok (.lconst 0, 1) := by decide +kernel
theorem dX5_commonDivisor_20 : decode cX5_commonDivisor 20 = .ok (.lcmp, 1) := by decide +kernel
theorem dX5_commonDivisor_21 : decode cX5_commonDivisor 21 = .ok (.ifCond .eq 24, 3) := by decide +kernel
theorem dX5_commonDivisor_24 : decode cX5_commonDivisor 24 = .ok (.lload 4, 2) := by decide +kernel
theorem dX5_commonDivisor_26 : decode cX5_commonDivisor 26 = .ok (.lload 6, 2) := by decide +kernel
theorem dX5_commonDivisor_28 : decode cX5_commonDivisor 28 = .ok (.lrem, 1) := by decide +kernel
theorem dX5_commonDivisor_29 : decode cX5_commonDivisor 29 = .ok (.lstore 9, 2) := by decide +kernel
theorem dX5_commonDivisor_31 : decode cX5_commonDivisor 31 = .ok (.lload 6, 2) := by decide +kernel
theorem dX5_commonDivisor_33 : decode cX5_commonDivisor 33 = .ok (.lstore 4, 2) := by decide +kernel
theorem dX5_commonDivisor_35 : decode cX5_commonDivisor 35 = .ok (.lload 9, 2) := by decide +kernel
theorem dX5_commonDivisor_37 : decode cX5_commonDivisor 37 = .ok (.lstore 6, 2) := by decide +kernel
theorem dX5_commonDivisor_39 : decode cX5_commonDivisor 39 = .ok (.iinc 8 1, 3) := by decide +kernel
theorem dX5_commonDivisor_42 : decode cX5_commonDivisor 42 = .ok (.goto (-33), 3) := by decide +kernel
theorem dX5_commonDivisor_45 : decode cX5_commonDivisor 45 = .ok (.lload 4, 2) := by decide +kernel
theorem dX5_commonDivisor_47 : decode cX5_commonDivisor 47 = .ok (.lreturn, 1) := by decide +kernel
set_option maxRecDepth 20000 in
theorem ggX5_coefficient_X5_measureLoops : GoodIn wsX5_coefficient wsX5_measureLoops := goodIn_r _ [8, 3, 1, 9, 10, 11, 12, 13, 7, 14, 15, 16, 17, 18, 19, 20, 21, 22, 23, 24, 25, 26, 27, 28, 29, 30, 31, 32, 33, 34, 35, 36, 37, 38, 39, 40] (by decide +kernel) (by decide +kernel)
set_option maxRecDepth 20000 in
theorem gX5_coefficient_X5_measureLoops : GoodIn wsX5_coefficient (wsV RX5 98 RX5 yX5_measureLoops wsX5_measureLoops) := goodIn_app (goodIn_of _ (by decide +kernel)) ggX5_coefficient_X5_measureLoops
theorem dX5_coefficient_0 : decode cX5_coefficient 0 = .ok (.aload_n 0, 1) := by decide +kernel
theorem dX5_coefficient_1 : decode cX5_coefficient 1 = .ok (.aload_n 0, 1) := by decide +kernel
theorem dX5_coefficient_2 : decode cX5_coefficient 2 = .ok (.getfield 37, 3) := by decide +kernel
theorem dX5_coefficient_5 : decode cX5_coefficient 5 = .ok (.invokevirtual 98, 3) := by decide +kernel
theorem dX5_coefficient_8 : decode cX5_coefficient 8 = .ok (.aload_n 0, 1) := by decide +kernel
theorem dX5_coefficient_9 : decode cX5_coefficient 9 = .ok (.getfield 28, 3) := by decide +kernel
theorem dX5_coefficient_12 : decode cX5_coefficient 12 = .ok (.iconst 0, 1) := by decide +kernel
theorem dX5_coefficient_13 : decode cX5_coefficient 13 = .ok (.lconst 1, 1) := by decide +kernel
theorem dX5_coefficient_14 : decode cX5_coefficient 14 = .ok (.lastore, 1) := by decide +kernel
theorem dX5_coefficient_15 : decode cX5_coefficient 15 = .ok (.iconst 1, 1) := by decide +kernel
theorem dX5_coefficient_16 : decode cX5_coefficient 16 = .ok (.istore_n 2, 1) := by decide +kernel
theorem dX5_coefficient_17 : decode cX5_coefficient 17 = .ok (.iload_n 2, 1) := by decide +kernel
theorem dX5_coefficient_18 : decode cX5_coefficient 18 = .ok (.aload_n 0, 1) := by decide +kernel
theorem dX5_coefficient_19 : decode cX5_coefficient 19 = .ok (.getfield 37, 3) := by decide +kernel
theorem dX5_coefficient_22 : decode cX5_coefficient 22 = .ok (.if_icmp .gt 57, 3) := by decide +kernel
theorem dX5_coefficient_25 : decode cX5_coefficient 25 = .ok (.lconst 0, 1) := by decide +kernel
theorem dX5_coefficient_26 : decode cX5_coefficient 26 = .ok (.lstore_n 3, 1) := by decide +kernel
theorem dX5_coefficient_27 : decode cX5_coefficient 27 = .ok (.iconst 1, 1) := by decide +kernel
theorem dX5_coefficient_28 : decode cX5_coefficient 28 = .ok (.istore 5, 2) := by decide +kernel
theorem dX5_coefficient_30 : decode cX5_coefficient 30 = .ok (.iload 5, 2) := by decide +kernel
theorem dX5_coefficient_32 : decode cX5_coefficient 32 = .ok (.iload_n 2, 1) := by decide +kernel
theorem dX5_coefficient_33 : decode cX5_coefficient 33 = .ok (.if_icmp .gt 29, 3) := by decide +kernel
theorem dX5_coefficient_36 : decode cX5_coefficient 36 = .ok (.lload_n 3, 1) := by decide +kernel
theorem dX5_coefficient_37 : decode cX5_coefficient 37 = .ok (.aload_n 0, 1) := by decide +kernel
theorem dX5_coefficient_38 : decode cX5_coefficient 38 = .ok (.getfield 28, 3) := by decide +kernel
theorem dX5_coefficient_41 : decode cX5_coefficient 41 = .ok (.iload_n 2, 1) := by decide +kernel
theorem dX5_coefficient_42 : decode cX5_coefficient 42 = .ok (.iload 5, 2) := by decide +kernel
theorem dX5_coefficient_44 : decode cX5_coefficient 44 = .ok (.isub, 1) := by decide +kernel
theorem dX5_coefficient_45 : decode cX5_coefficient 45 = .ok (.laload, 1) := by decide +kernel
theorem dX5_coefficient_46 : decode cX5_coefficient 46 = .ok (.aload_n 0, 1) := by decide +kernel
theorem dX5_coefficient_47 : decode cX5_coefficient 47 = .ok (.getfield 22, 3) := by decide +kernel
theorem dX5_coefficient_50 : decode cX5_coefficient 50 = .ok (.iload 5, 2) := by decide +kernel
theorem dX5_coefficient_52 : decode cX5_coefficient 52 = .ok (.laload, 1) := by decide +kernel
theorem dX5_coefficient_53 : decode cX5_coefficient 53 = .ok (.lmul, 1) := by decide +kernel
theorem dX5_coefficient_54 : decode cX5_coefficient 54 = .ok (.ladd, 1) := by decide +kernel
theorem dX5_coefficient_55 : decode cX5_coefficient 55 = .ok (.lstore_n 3, 1) := by decide +kernel
theorem dX5_coefficient_56 : decode cX5_coefficient 56 = .ok (.iinc 5 1, 3) := by decide +kernel
theorem dX5_coefficient_59 : decode cX5_coefficient 59 = .ok (.goto (-29), 3) := by decide +kernel
theorem dX5_coefficient_62 : decode cX5_coefficient 62 = .ok (.aload_n 0, 1) := by decide +kernel
theorem dX5_coefficient_63 : decode cX5_coefficient 63 = .ok (.getfield 28, 3) := by decide +kernel
theorem dX5_coefficient_66 : decode cX5_coefficient 66 = .ok (.iload_n 2, 1) := by decide +kernel
theorem dX5_coefficient_67 : decode cX5_coefficient 67 = .ok (.lload_n 3, 1) := by decide +kernel
theorem dX5_coefficient_68 : decode cX5_coefficient 68 = .ok (.lneg, 1) := by decide +kernel
theorem dX5_coefficient_69 : decode cX5_coefficient 69 = .ok (.iload_n 2, 1) := by decide +kernel
theorem dX5_coefficient_70 : decode cX5_coefficient 70 = .ok (.i2l, 1) := by decide +kernel
theorem dX5_coefficient_71 : decode cX5_coefficient 71 = .ok (.ldiv, 1) := by decide +kernel
theorem dX5_coefficient_72 : decode cX5_coefficient 72 = .ok (.lastore, 1) := by decide +kernel
theorem dX5_coefficient_73 : decode cX5_coefficient 73 = .ok (.iinc 2 1, 3) := by decide +kernel
theorem dX5_coefficient_76 : decode cX5_coefficient 76 = .ok (.goto (-59), 3) := by decide +kernel
theorem dX5_coefficient_79 : decode cX5_coefficient 79 = .ok (.aload_n 0, 1) := by decide +kernel
theorem dX5_coefficient_80 : decode cX5_coefficient 80 = .ok (.getfield 28, 3) := by decide +kernel
theorem dX5_coefficient_83 : decode cX5_coefficient 83 = .ok (.aload_n 0, 1) := by decide +kernel
theorem dX5_coefficient_84 : decode cX5_coefficient 84 = .ok (.getfield 37, 3) := by decide +kernel
theorem dX5_coefficient_87 : decode cX5_coefficient 87 = .ok (.iload_n 1, 1) := by decide +kernel
theorem dX5_coefficient_88 : decode cX5_coefficient 88 = .ok (.isub, 1) := by decide +kernel
theorem dX5_coefficient_89 : decode cX5_coefficient 89 = .ok (.laload, 1) := by decide +kernel
theorem dX5_coefficient_90 : decode cX5_coefficient 90 = .ok (.lreturn, 1) := by decide +kernel
theorem dX6_init_0 : decode cX6_init 0 = .ok (.aload_n 0, 1) := by decide +kernel
theorem dX6_init_1 : decode cX6_init 1 = .ok (.invokespecial 1, 3) := by decide +kernel
theorem dX6_init_4 : decode cX6_init 4 = .ok (.aload_n 0, 1) := by decide +kernel
theorem dX6_init_5 : decode cX6_init 5 = .ok (.bipush 60, 2) := by decide +kernel
theorem dX6_init_7 : decode cX6_init 7 = .ok (.newarray .byte, 2) := by decide +kernel
theorem dX6_init_9 : decode cX6_init 9 = .ok (.putfield 9, 3) := by decide +kernel
theorem dX6_init_12 : decode cX6_init 12 = .ok (.return_, 1) := by decide +kernel
theorem dX6_put_0 : decode cX6_put 0 = .ok (.aload_n 0, 1) := by decide +kernel
theorem dX6_put_1 : decode cX6_put 1 = .ok (.getfield 13, 3) := by decide +kernel
theorem dX6_put_4 : decode cX6_put 4 = .ok (.bipush 60, 2) := by decide +kernel
theorem dX6_put_6 : decode cX6_put 6 = .ok (.if_icmp .ge 24, 3) := by decide +kernel
theorem dX6_put_9 : decode cX6_put 9 = .ok (.aload_n 0, 1) := by decide +kernel
theorem dX6_put_10 : decode cX6_put 10 = .ok (.getfield 9, 3) := by decide +kernel
theorem dX6_put_13 : decode cX6_put 13 = .ok (.aload_n 0, 1) := by decide +kernel
theorem dX6_put_14 : decode cX6_put 14 = .ok (.getfield 13, 3) := by decide +kernel
theorem dX6_put_17 : decode cX6_put 17 = .ok (.iload_n 1, 1) := by decide +kernel
theorem dX6_put_18 : decode cX6_put 18 = .ok (.i2b, 1) := by decide +kernel
theorem dX6_put_19 : decode cX6_put 19 = .ok (.bastore, 1) := by decide +kernel
theorem dX6_put_20 : decode cX6_put 20 = .ok (.aload_n 0, 1) := by decide +kernel
theorem dX6_put_21 : decode cX6_put 21 = .ok (.dup, 1) := by decide +kernel
theorem dX6_put_22 : decode cX6_put 22 = .ok (.getfield 13, 3) := by decide +kernel
theorem dX6_put_25 : decode cX6_put 25 = .ok (.iconst 1, 1) := by decide +kernel
theorem dX6_put_26 : decode cX6_put 26 = .ok (.iadd, 1) := by decide +kernel
theorem dX6_put_27 : decode cX6_put 27 = .ok (.putfield 13, 3) := by decide +kernel
theorem dX6_put_30 : decode cX6_put 30 = .ok (.return_, 1) := by decide +kernel
theorem dX7_init_0 : decode cX7_init 0 = .ok (.aload_n 0, 1) := by decide +kernel
theorem dX7_init_1 : decode cX7_init 1 = .ok (.invokespecial 3, 3) := by decide +kernel
theorem dX7_init_4 : decode cX7_init 4 = .ok (.aload_n 0, 1) := by decide +kernel
theorem dX7_init_5 : decode cX7_init 5 = .ok (.bipush 8, 2) := by decide +kernel
theorem dX7_init_7 : decode cX7_init 7 = .ok (.newarray .int, 2) := by decide +kernel
theorem dX7_init_9 : decode cX7_init 9 = .ok (.putfield 9, 3) := by decide +kernel
theorem dX7_init_12 : decode cX7_init 12 = .ok (.aload_n 0, 1) := by decide +kernel
theorem dX7_init_13 : decode cX7_init 13 = .ok (.iconst 3, 1) := by decide +kernel
theorem dX7_init_14 : decode cX7_init 14 = .ok (.newarray .long, 2) := by decide +kernel
theorem dX7_init_16 : decode cX7_init 16 = .ok (.putfield 15, 3) := by decide +kernel
theorem dX7_init_19 : decode cX7_init 19 = .ok (.return_, 1) := by decide +kernel
set_option maxRecDepth 20000 in
theorem ggX7_faultIn_X7_begin : GoodIn wsX7_faultIn wsX7_begin := goodIn_r _ [8, 3, 9, 10, 11, 12, 33, 34, 35, 36, 37, 38, 39, 40, 41] (by decide +kernel) (by decide +kernel)
set_option maxRecDepth 20000 in
theorem gX7_faultIn_X7_begin : GoodIn wsX7_faultIn (wsV RX7 19 RX7 yX7_begin wsX7_begin) := goodIn_app (goodIn_of _ (by decide +kernel)) ggX7_faultIn_X7_begin
set_option maxRecDepth 20000 in
theorem ggX7_faultIn_X7_canTake : GoodIn wsX7_faultIn wsX7_canTake := goodIn_r _ [16, 3, 17, 18, 19, 7, 20, 9, 10, 21, 12, 22, 23, 24, 25, 26, 11, 27, 28, 29, 30, 33, 34, 35, 36, 37, 38, 39, 40, 41] (by decide +kernel) (by decide +kernel)
set_option maxRecDepth 20000 in
theorem gX7_faultIn_X7_canTake : GoodIn wsX7_faultIn (wsV RX7 33 RX7 yX7_canTake wsX7_canTake) := goodIn_app (goodIn_of _ (by decide +kernel)) ggX7_faultIn_X7_canTake
theorem dX7_faultIn_0 : decode cX7_faultIn 0 = .ok (.aload_n 0, 1) := by decide +kernel
theorem dX7_faultIn_1 : decode cX7_faultIn 1 = .ok (.iload_n 2, 1) := by decide +kernel
theorem dX7_faultIn_2 : decode cX7_faultIn 2 = .ok (.invokevirtual 19, 3) := by decide +kernel
theorem dX7_faultIn_5 : decode cX7_faultIn 5 = .ok (.iconst 0, 1) := by decide +kernel
theorem dX7_faultIn_6 : decode cX7_faultIn 6 = .ok (.istore_n 3, 1) := by decide +kernel
theorem dX7_faultIn_7 : decode cX7_faultIn 7 = .ok (.iload_n 3, 1) := by decide +kernel
theorem dX7_faultIn_8 : decode cX7_faultIn 8 = .ok (.aload_n 1, 1) := by decide +kernel
theorem dX7_faultIn_9 : decode cX7_faultIn 9 = .ok (.getfield 23, 3) := by decide +kernel
theorem dX7_faultIn_12 : decode cX7_faultIn 12 = .ok (.if_icmp .ge 24, 3) := by decide +kernel
theorem dX7_faultIn_15 : decode cX7_faultIn 15 = .ok (.aload_n 0, 1) := by decide +kernel
theorem dX7_faultIn_16 : decode cX7_faultIn 16 = .ok (.aload_n 1, 1) := by decide +kernel
theorem dX7_faultIn_17 : decode cX7_faultIn 17 = .ok (.getfield 29, 3) := by decide +kernel
theorem dX7_faultIn_20 : decode cX7_faultIn 20 = .ok (.iload_n 3, 1) := by decide +kernel
theorem dX7_faultIn_21 : decode cX7_faultIn 21 = .ok (.baload, 1) := by decide +kernel
theorem dX7_faultIn_22 : decode cX7_faultIn 22 = .ok (.invokevirtual 33, 3) := by decide +kernel
theorem dX7_faultIn_25 : decode cX7_faultIn 25 = .ok (.ifCond .ne 5, 3) := by decide +kernel
theorem dX7_faultIn_28 : decode cX7_faultIn 28 = .ok (.iload_n 3, 1) := by decide +kernel
theorem dX7_faultIn_29 : decode cX7_faultIn 29 = .ok (.ireturn, 1) := by decide +kernel
theorem dX7_faultIn_30 : decode cX7_faultIn 30 = .ok (.iinc 3 1, 3) := by decide +kernel
theorem dX7_faultIn_33 : decode cX7_faultIn 33 = .ok (.goto (-26), 3) := by decide +kernel
theorem dX7_faultIn_36 : decode cX7_faultIn 36 = .ok (.aload_n 0, 1) := by decide +kernel
theorem dX7_faultIn_37 : decode cX7_faultIn 37 = .ok (.getfield 37, 3) := by decide +kernel
theorem dX7_faultIn_40 : decode cX7_faultIn 40 = .ok (.iconst 3, 1) := by decide +kernel
theorem dX7_faultIn_41 : decode cX7_faultIn 41 = .ok (.if_icmp .ne 7, 3) := by decide +kernel
theorem dX7_faultIn_44 : decode cX7_faultIn 44 = .ok (.iconst (-1), 1) := by decide +kernel
theorem dX7_faultIn_45 : decode cX7_faultIn 45 = .ok (.goto 7, 3) := by decide +kernel
theorem dX7_faultIn_48 : decode cX7_faultIn 48 = .ok (.aload_n 1, 1) := by decide +kernel
theorem dX7_faultIn_49 : decode cX7_faultIn 49 = .ok (.getfield 23, 3) := by decide +kernel
theorem dX7_faultIn_52 : decode cX7_faultIn 52 = .ok (.ireturn, 1) := by decide +kernel
set_option maxRecDepth 20000 in
theorem ggX7_keepReasons_J6_bitCount_0f7a4 : GoodIn wsX7_keepReasons wsJ6_bitCount_0f7a4 := goodIn_r _ [8, 9, 10, 11] (by decide +kernel) (by decide +kernel)
set_option maxRecDepth 20000 in
theorem gX7_keepReasons_J6_bitCount_0f7a4 : GoodIn wsX7_keepReasons (va_wsS RX7 50 yJ6_bitCount_0f7a4 wsJ6_bitCount_0f7a4) := goodIn_app (goodIn_of _ (by decide +kernel)) ggX7_keepReasons_J6_bitCount_0f7a4
theorem dX7_keepReasons_0 : decode cX7_keepReasons 0 = .ok (.aload_n 0, 1) := by decide +kernel
theorem dX7_keepReasons_1 : decode cX7_keepReasons 1 = .ok (.iconst 1, 1) := by decide +kernel
theorem dX7_keepReasons_2 : decode cX7_keepReasons 2 = .ok (.putfield 40, 3) := by decide +kernel
theorem dX7_keepReasons_5 : decode cX7_keepReasons 5 = .ok (.aload_n 0, 1) := by decide +kernel
theorem dX7_keepReasons_6 : decode cX7_keepReasons 6 = .ok (.getfield 15, 3) := by decide +kernel
theorem dX7_keepReasons_9 : decode cX7_keepReasons 9 = .ok (.iconst 0, 1) := by decide +kernel
theorem dX7_keepReasons_10 : decode cX7_keepReasons 10 = .ok (.aload_n 0, 1) := by decide +kernel
theorem dX7_keepReasons_11 : decode cX7_keepReasons 11 = .ok (.getfield 44, 3) := by decide +kernel
theorem dX7_keepReasons_14 : decode cX7_keepReasons 14 = .ok (.i2l, 1) := by decide +kernel
theorem dX7_keepReasons_15 : decode cX7_keepReasons 15 = .ok (.lastore, 1) := by decide +kernel
theorem dX7_keepReasons_16 : decode cX7_keepReasons 16 = .ok (.aload_n 0, 1) := by decide +kernel
theorem dX7_keepReasons_17 : decode cX7_keepReasons 17 = .ok (.getfield 15, 3) := by decide +kernel
theorem dX7_keepReasons_20 : decode cX7_keepReasons 20 = .ok (.iconst 1, 1) := by decide +kernel
theorem dX7_keepReasons_21 : decode cX7_keepReasons 21 = .ok (.aload_n 0, 1) := by decide +kernel
theorem dX7_keepReasons_22 : decode cX7_keepReasons 22 = .ok (.getfield 47, 3) := by decide +kernel
theorem dX7_keepReasons_25 : decode cX7_keepReasons 25 = .ok (.invokestatic 50, 3) := by decide +kernel
theorem dX7_keepReasons_28 : decode cX7_keepReasons 28 = .ok (.i2l, 1) := by decide +kernel
theorem dX7_keepReasons_29 : decode cX7_keepReasons 29 = .ok (.lastore, 1) := by decide +kernel
theorem dX7_keepReasons_30 : decode cX7_keepReasons 30 = .ok (.aload_n 0, 1) := by decide +kernel
theorem dX7_keepReasons_31 : decode cX7_keepReasons 31 = .ok (.getfield 15, 3) := by decide +kernel
theorem dX7_keepReasons_34 : decode cX7_keepReasons 34 = .ok (.iconst 2, 1) := by decide +kernel
theorem dX7_keepReasons_35 : decode cX7_keepReasons 35 = .ok (.iload_n 1, 1) := by decide +kernel
theorem dX7_keepReasons_36 : decode cX7_keepReasons 36 = .ok (.i2l, 1) := by decide +kernel
theorem dX7_keepReasons_37 : decode cX7_keepReasons 37 = .ok (.lastore, 1) := by decide +kernel
theorem dX7_keepReasons_38 : decode cX7_keepReasons 38 = .ok (.return_, 1) := by decide +kernel
theorem dX7_begin_0 : decode cX7_begin 0 = .ok (.aload_n 0, 1) := by decide +kernel
theorem dX7_begin_1 : decode cX7_begin 1 = .ok (.iconst 0, 1) := by decide +kernel
theorem dX7_begin_2 : decode cX7_begin 2 = .ok (.putfield 37, 3) := by decide +kernel
theorem dX7_begin_5 : decode cX7_begin 5 = .ok (.aload_n 0, 1) := by decide +kernel
theorem dX7_begin_6 : decode cX7_begin 6 = .ok (.iload_n 1, 1) := by decide +kernel
theorem dX7_begin_7 : decode cX7_begin 7 = .ok (.putfield 56, 3) := by decide +kernel
theorem dX7_begin_10 : decode cX7_begin 10 = .ok (.aload_n 0, 1) := by decide +kernel
theorem dX7_begin_11 : decode cX7_begin 11 = .ok (.iconst 0, 1) := by decide +kernel
theorem dX7_begin_12 : decode cX7_begin 12 = .ok (.putfield 47, 3) := by decide +kernel
theorem dX7_begin_15 : decode cX7_begin 15 = .ok (.aload_n 0, 1) := by decide +kernel
theorem dX7_begin_16 : decode cX7_begin 16 = .ok (.iconst 0, 1) := by decide +kernel
theorem dX7_begin_17 : decode cX7_begin 17 = .ok (.putfield 44, 3) := by decide +kernel
theorem dX7_begin_20 : decode cX7_begin 20 = .ok (.iconst 0, 1) := by decide +kernel
theorem dX7_begin_21 : decode cX7_begin 21 = .ok (.istore_n 2, 1) := by decide +kernel
theorem dX7_begin_22 : decode cX7_begin 22 = .ok (.iload_n 2, 1) := by decide +kernel
theorem dX7_begin_23 : decode cX7_begin 23 = .ok (.bipush 8, 2) := by decide +kernel
theorem dX7_begin_25 : decode cX7_begin 25 = .ok (.if_icmp .ge 16, 3) := by decide +kernel
theorem dX7_begin_28 : decode cX7_begin 28 = .ok (.aload_n 0, 1) := by decide +kernel
theorem dX7_begin_29 : decode cX7_begin 29 = .ok (.getfield 9, 3) := by decide +kernel
theorem dX7_begin_32 : decode cX7_begin 32 = .ok (.iload_n 2, 1) := by decide +kernel
theorem dX7_begin_33 : decode cX7_begin 33 = .ok (.iload_n 2, 1) := by decide +kernel
theorem dX7_begin_34 : decode cX7_begin 34 = .ok (.iastore, 1) := by decide +kernel
theorem dX7_begin_35 : decode cX7_begin 35 = .ok (.iinc 2 1, 3) := by decide +kernel
theorem dX7_begin_38 : decode cX7_begin 38 = .ok (.goto (-16), 3) := by decide +kernel
theorem dX7_begin_41 : decode cX7_begin 41 = .ok (.return_, 1) := by decide +kernel
set_option maxRecDepth 20000 in
theorem ggX7_canTake_X7_tellPoint : GoodIn wsX7_canTake wsX7_tellPoint := goodIn_r _ [6, 7, 8, 9, 10, 11, 1, 21, 22, 23, 24, 25, 26, 27, 28, 29] (by decide +kernel) (by decide +kernel)
set_option maxRecDepth 20000 in
theorem gX7_canTake_X7_tellPoint : GoodIn wsX7_canTake (wsV RX7 59 RX7 yX7_tellPoint wsX7_tellPoint) := goodIn_app (goodIn_of _ (by decide +kernel)) ggX7_canTake_X7_tellPoint
set_option maxRecDepth 20000 in
theorem ggX7_canTake_X7_goOnBehindPoint : GoodIn wsX7_canTake wsX7_goOnBehindPoint := goodIn_r _ [15, 1, 10, 11, 9, 16, 21, 22, 23, 24, 25, 26, 27, 28, 29] (by decide +kernel) (by decide +kernel)
set_option maxRecDepth 20000 in
theorem gX7_canTake_X7_goOnBehindPoint : GoodIn wsX7_canTake (wsV RX7 62 RX7 yX7_goOnBehindPoint wsX7_goOnBehindPoint) := goodIn_app (goodIn_of _ (by decide +kernel)) ggX7_canTake_X7_goOnBehindPoint
set_option maxRecDepth 20000 in
theorem ggX7_canTake_X7_openRing : GoodIn wsX7_canTake wsX7_openRing := goodIn_r _ [20, 9, 1, 21, 22, 23, 24, 25, 26, 27, 28, 29] (by decide +kernel) (by decide +kernel)
set_option maxRecDepth 20000 in
theorem gX7_canTake_X7_openRing : GoodIn wsX7_canTake (wsV RX7 65 RX7 yX7_openRing wsX7_openRing) := goodIn_app (goodIn_of _ (by decide +kernel)) ggX7_canTake_X7_openRing
theorem dX7_canTake_0 : decode cX7_canTake 0 = .ok (.aload_n 0, 1) := by decide +kernel
theorem dX7_canTake_1 : decode cX7_canTake 1 = .ok (.getfield 37, 3) := by decide +kernel
theorem dX7_canTake_4 : decode cX7_canTake 4 = .ok (.lookupswitch 43 #[(1, 28), (2, 37)], 28) := by decide +kernel
theorem dX7_canTake_32 : decode cX7_canTake 32 = .ok (.aload_n 0, 1) := by decide +kernel
theorem dX7_canTake_33 : decode cX7_canTake 33 = .ok (.iload_n 1, 1) := by decide +kernel
theorem dX7_canTake_34 : decode cX7_canTake 34 = .ok (.bipush 48, 2) := by decide +kernel
theorem dX7_canTake_36 : decode cX7_canTake 36 = .ok (.isub, 1) := by decide +kernel
theorem dX7_canTake_37 : decode cX7_canTake 37 = .ok (.invokevirtual 59, 3) := by decide +kernel
theorem dX7_canTake_40 : decode cX7_canTake 40 = .ok (.ireturn, 1) := by decide +kernel
theorem dX7_canTake_41 : decode cX7_canTake 41 = .ok (.aload_n 0, 1) := by decide +kernel
theorem dX7_canTake_42 : decode cX7_canTake 42 = .ok (.iload_n 1, 1) := by decide +kernel
theorem dX7_canTake_43 : decode cX7_canTake 43 = .ok (.invokevirtual 62, 3) := by decide +kernel
theorem dX7_canTake_46 : decode cX7_canTake 46 = .ok (.ireturn, 1) := by decide +kernel
theorem dX7_canTake_47 : decode cX7_canTake 47 = .ok (.aload_n 0, 1) := by decide +kernel
theorem dX7_canTake_48 : decode cX7_canTake 48 = .ok (.iload_n 1, 1) := by decide +kernel
theorem dX7_canTake_49 : decode cX7_canTake 49 = .ok (.invokevirtual 65, 3) := by decide +kernel
theorem dX7_canTake_52 : decode cX7_canTake 52 = .ok (.ireturn, 1) := by decide +kernel
theorem dX7_openRing_0 : decode cX7_openRing 0 = .ok (.iload_n 1, 1) := by decide +kernel
theorem dX7_openRing_1 : decode cX7_openRing 1 = .ok (.bipush 40, 2) := by decide +kernel
theorem dX7_openRing_3 : decode cX7_openRing 3 = .ok (.if_icmp .eq 5, 3) := by decide +kernel
theorem dX7_openRing_6 : decode cX7_openRing 6 = .ok (.iconst 0, 1) := by decide +kernel
theorem dX7_openRing_7 : decode cX7_openRing 7 = .ok (.ireturn, 1) := by decide +kernel
theorem dX7_openRing_8 : decode cX7_openRing 8 = .ok (.aload_n 0, 1) := by decide +kernel
theorem dX7_openRing_9 : decode cX7_openRing 9 = .ok (.iconst (-1), 1) := by decide +kernel
theorem dX7_openRing_10 : decode cX7_openRing 10 = .ok (.putfield 68, 3) := by decide +kernel
theorem dX7_openRing_13 : decode cX7_openRing 13 = .ok (.aload_n 0, 1) := by decide +kernel
theorem dX7_openRing_14 : decode cX7_openRing 14 = .ok (.iconst 1, 1) := by decide +kernel
theorem dX7_openRing_15 : decode cX7_openRing 15 = .ok (.putfield 37, 3) := by decide +kernel
theorem dX7_openRing_18 : decode cX7_openRing 18 = .ok (.iconst 1, 1) := by decide +kernel
theorem dX7_openRing_19 : decode cX7_openRing 19 = .ok (.ireturn, 1) := by decide +kernel
theorem dX7_tellPoint_0 : decode cX7_tellPoint 0 = .ok (.iload_n 1, 1) := by decide +kernel
theorem dX7_tellPoint_1 : decode cX7_tellPoint 1 = .ok (.ifCond .lt 23, 3) := by decide +kernel
theorem dX7_tellPoint_4 : decode cX7_tellPoint 4 = .ok (.iload_n 1, 1) := by decide +kernel
theorem dX7_tellPoint_5 : decode cX7_tellPoint 5 = .ok (.aload_n 0, 1) := by decide +kernel
theorem dX7_tellPoint_6 : decode cX7_tellPoint 6 = .ok (.getfield 56, 3) := by decide +kernel
theorem dX7_tellPoint_9 : decode cX7_tellPoint 9 = .ok (.if_icmp .ge 15, 3) := by decide +kernel
theorem dX7_tellPoint_12 : decode cX7_tellPoint 12 = .ok (.aload_n 0, 1) := by decide +kernel
theorem dX7_tellPoint_13 : decode cX7_tellPoint 13 = .ok (.getfield 47, 3) := by decide +kernel
theorem dX7_tellPoint_16 : decode cX7_tellPoint 16 = .ok (.iload_n 1, 1) := by decide +kernel
theorem dX7_tellPoint_17 : decode cX7_tellPoint 17 = .ok (.ishr, 1) := by decide +kernel
theorem dX7_tellPoint_18 : decode cX7_tellPoint 18 = .ok (.iconst 1, 1) := by decide +kernel
theorem dX7_tellPoint_19 : decode cX7_tellPoint 19 = .ok (.iand, 1) := by decide +kernel
theorem dX7_tellPoint_20 : decode cX7_tellPoint 20 = .ok (.iconst 1, 1) := by decide +kernel
theorem dX7_tellPoint_21 : decode cX7_tellPoint 21 = .ok (.if_icmp .ne 5, 3) := by decide +kernel
theorem dX7_tellPoint_24 : decode cX7_tellPoint 24 = .ok (.iconst 0, 1) := by decide +kernel
theorem dX7_tellPoint_25 : decode cX7_tellPoint 25 = .ok (.ireturn, 1) := by decide +kernel
theorem dX7_tellPoint_26 : decode cX7_tellPoint 26 = .ok (.aload_n 0, 1) := by decide +kernel
theorem dX7_tellPoint_27 : decode cX7_tellPoint 27 = .ok (.getfield 68, 3) := by decide +kernel
theorem dX7_tellPoint_30 : decode cX7_tellPoint 30 = .ok (.ifCond .ge 11, 3) := by decide +kernel
theorem dX7_tellPoint_33 : decode cX7_tellPoint 33 = .ok (.aload_n 0, 1) := by decide +kernel
theorem dX7_tellPoint_34 : decode cX7_tellPoint 34 = .ok (.iload_n 1, 1) := by decide +kernel
theorem dX7_tellPoint_35 : decode cX7_tellPoint 35 = .ok (.putfield 68, 3) := by decide +kernel
theorem dX7_tellPoint_38 : decode cX7_tellPoint 38 = .ok (.goto 13, 3) := by decide +kernel
theorem dX7_tellPoint_41 : decode cX7_tellPoint 41 = .ok (.aload_n 0, 1) := by decide +kernel
theorem dX7_tellPoint_42 : decode cX7_tellPoint 42 = .ok (.getfield 9, 3) := by decide +kernel
theorem dX7_tellPoint_45 : decode cX7_tellPoint 45 = .ok (.aload_n 0, 1) := by decide +kernel
theorem dX7_tellPoint_46 : decode cX7_tellPoint 46 = .ok (.getfield 71, 3) := by decide +kernel
theorem dX7_tellPoint_49 : decode cX7_tellPoint 49 = .ok (.iload_n 1, 1) := by decide +kernel
theorem dX7_tellPoint_50 : decode cX7_tellPoint 50 = .ok (.iastore, 1) := by decide +kernel
theorem dX7_tellPoint_51 : decode cX7_tellPoint 51 = .ok (.aload_n 0, 1) := by decide +kernel
theorem dX7_tellPoint_52 : decode cX7_tellPoint 52 = .ok (.dup, 1) := by decide +kernel
theorem dX7_tellPoint_53 : decode cX7_tellPoint 53 = .ok (.getfield 47, 3) := by decide +kernel
theorem dX7_tellPoint_56 : decode cX7_tellPoint 56 = .ok (.iconst 1, 1) := by decide +kernel
theorem dX7_tellPoint_57 : decode cX7_tellPoint 57 = .ok (.iload_n 1, 1) := by decide +kernel
theorem dX7_tellPoint_58 : decode cX7_tellPoint 58 = .ok (.ishl, 1) := by decide +kernel
theorem dX7_tellPoint_59 : decode cX7_tellPoint 59 = .ok (.ior, 1) := by decide +kernel
theorem dX7_tellPoint_60 : decode cX7_tellPoint 60 = .ok (.putfield 47, 3) := by decide +kernel
theorem dX7_tellPoint_63 : decode cX7_tellPoint 63 = .ok (.aload_n 0, 1) := by decide +kernel
theorem dX7_tellPoint_64 : decode cX7_tellPoint 64 = .ok (.iload_n 1, 1) := by decide +kernel
theorem dX7_tellPoint_65 : decode cX7_tellPoint 65 = .ok (.putfield 71, 3) := by decide +kernel
theorem dX7_tellPoint_68 : decode cX7_tellPoint 68 = .ok (.aload_n 0, 1) := by decide +kernel
theorem dX7_tellPoint_69 : decode cX7_tellPoint 69 = .ok (.iconst 2, 1) := by decide +kernel
theorem dX7_tellPoint_70 : decode cX7_tellPoint 70 = .ok (.putfield 37, 3) := by decide +kernel
theorem dX7_tellPoint_73 : decode cX7_tellPoint 73 = .ok (.iconst 1, 1) := by decide +kernel
theorem dX7_tellPoint_74 : decode cX7_tellPoint 74 = .ok (.ireturn, 1) := by decide +kernel
theorem dX7_goOnBehindPoint_0 : decode cX7_goOnBehindPoint 0 = .ok (.iload_n 1, 1) := by decide +kernel
theorem dX7_goOnBehindPoint_1 : decode cX7_goOnBehindPoint 1 = .ok (.bipush 32, 2) := by decide +kernel
theorem dX7_goOnBehindPoint_3 : decode cX7_goOnBehindPoint 3 = .ok (.if_icmp .ne 10, 3) := by decide +kernel
theorem dX7_goOnBehindPoint_6 : decode cX7_goOnBehindPoint 6 = .ok (.aload_n 0, 1) := by decide +kernel
theorem dX7_goOnBehindPoint_7 : decode cX7_goOnBehindPoint 7 = .ok (.iconst 1, 1) := by decide +kernel
theorem dX7_goOnBehindPoint_8 : decode cX7_goOnBehindPoint 8 = .ok (.putfield 37, 3) := by decide +kernel
theorem dX7_goOnBehindPoint_11 : decode cX7_goOnBehindPoint 11 = .ok (.iconst 1, 1) := by decide +kernel
theorem dX7_goOnBehindPoint_12 : decode cX7_goOnBehindPoint 12 = .ok (.ireturn, 1) := by decide +kernel
theorem dX7_goOnBehindPoint_13 : decode cX7_goOnBehindPoint 13 = .ok (.iload_n 1, 1) := by decide +kernel
theorem dX7_goOnBehindPoint_14 : decode cX7_goOnBehindPoint 14 = .ok (.bipush 41, 2) := by decide +kernel
theorem dX7_goOnBehindPoint_16 : decode cX7_goOnBehindPoint 16 = .ok (.if_icmp .eq 5, 3) := by decide +kernel
theorem dX7_goOnBehindPoint_19 : decode cX7_goOnBehindPoint 19 = .ok (.iconst 0, 1) := by decide +kernel
theorem dX7_goOnBehindPoint_20 : decode cX7_goOnBehindPoint 20 = .ok (.ireturn, 1) := by decide +kernel
theorem dX7_goOnBehindPoint_21 : decode cX7_goOnBehindPoint 21 = .ok (.aload_n 0, 1) := by decide +kernel
theorem dX7_goOnBehindPoint_22 : decode cX7_goOnBehindPoint 22 = .ok (.getfield 9, 3) := by decide +kernel
theorem dX7_goOnBehindPoint_25 : decode cX7_goOnBehindPoint 25 = .ok (.aload_n 0, 1) := by decide +kernel
theorem dX7_goOnBehindPoint_26 : decode cX7_goOnBehindPoint 26 = .ok (.getfield 71, 3) := by decide +kernel
theorem dX7_goOnBehindPoint_29 : decode cX7_goOnBehindPoint 29 = .ok (.aload_n 0, 1) := by decide +kernel
theorem dX7_goOnBehindPoint_30 : decode cX7_goOnBehindPoint 30 = .ok (.getfield 68, 3) := by decide +kernel
theorem dX7_goOnBehindPoint_33 : decode cX7_goOnBehindPoint 33 = .ok (.iastore, 1) := by decide +kernel
theorem dX7_goOnBehindPoint_34 : decode cX7_goOnBehindPoint 34 = .ok (.aload_n 0, 1) := by decide +kernel
theorem dX7_goOnBehindPoint_35 : decode cX7_goOnBehindPoint 35 = .ok (.dup, 1) := by decide +kernel
theorem dX7_goOnBehindPoint_36 : decode cX7_goOnBehindPoint 36 = .ok (.getfield 44, 3) := by decide +kernel
theorem dX7_goOnBehindPoint_39 : decode cX7_goOnBehindPoint 39 = .ok (.iconst 1, 1) := by decide +kernel
theorem dX7_goOnBehindPoint_40 : decode cX7_goOnBehindPoint 40 = .ok (.iadd, 1) := by decide +kernel
theorem dX7_goOnBehindPoint_41 : decode cX7_goOnBehindPoint 41 = .ok (.putfield 44, 3) := by decide +kernel
theorem dX7_goOnBehindPoint_44 : decode cX7_goOnBehindPoint 44 = .ok (.aload_n 0, 1) := by decide +kernel
theorem dX7_goOnBehindPoint_45 : decode cX7_goOnBehindPoint 45 = .ok (.iconst 3, 1) := by decide +kernel
theorem dX7_goOnBehindPoint_46 : decode cX7_goOnBehindPoint 46 = .ok (.putfield 37, 3) := by decide +kernel
theorem dX7_goOnBehindPoint_49 : decode cX7_goOnBehindPoint 49 = .ok (.iconst 1, 1) := by decide +kernel
theorem dX7_goOnBehindPoint_50 : decode cX7_goOnBehindPoint 50 = .ok (.ireturn, 1) := by decide +kernel
set_option maxRecDepth 20000 in
theorem ggX8_init_X0_init : GoodIn wsX8_init wsX0_init := goodIn_r _ [32, 33, 2, 3, 34, 35, 36, 37, 38, 82, 83, 84, 85] (by decide +kernel) (by decide +kernel)
set_option maxRecDepth 20000 in
theorem gX8_init_X0_init : GoodIn wsX8_init (wsX0_init) := ggX8_init_X0_init
set_option maxRecDepth 20000 in
theorem ggX8_init_X1_init : GoodIn wsX8_init wsX1_init := goodIn_r _ [40, 41, 2, 3, 36, 42, 86, 87] (by decide +kernel) (by decide +kernel)
set_option maxRecDepth 20000 in
theorem gX8_init_X1_init_n27 : GoodIn wsX8_init (wsX1_init) := ggX8_init_X1_init
set_option maxRecDepth 20000 in
theorem ggX8_init_X6_init : GoodIn wsX8_init wsX6_init := goodIn_r _ [44, 45, 2, 3, 46, 47, 88, 89] (by decide +kernel) (by decide +kernel)
set_option maxRecDepth 20000 in
theorem gX8_init_X6_init_n34 : GoodIn wsX8_init (wsX6_init) := ggX8_init_X6_init
set_option maxRecDepth 20000 in
theorem ggX8_init_X7_init : GoodIn wsX8_init wsX7_init := goodIn_r _ [49, 50, 2, 3, 36, 51, 52, 53, 90, 91, 92, 93, 94, 95, 96, 97, 98] (by decide +kernel) (by decide +kernel)
set_option maxRecDepth 20000 in
theorem gX8_init_X7_init_n41 : GoodIn wsX8_init (wsX7_init) := ggX8_init_X7_init
set_option maxRecDepth 20000 in
theorem ggX8_init_X5_init : GoodIn wsX8_init wsX5_init := goodIn_r _ [55, 56, 2, 3, 36, 57, 52, 58, 59, 60, 61, 62, 99, 100, 101, 102, 103, 104, 105, 106] (by decide +kernel) (by decide +kernel)
set_option maxRecDepth 20000 in
theorem gX8_init_X5_init_n48 : GoodIn wsX8_init (wsX5_init) := ggX8_init_X5_init
set_option maxRecDepth 20000 in
theorem ggX8_init_X4_init : GoodIn wsX8_init wsX4_init := goodIn_r _ [64, 65, 2, 3, 66, 23, 24, 67, 36, 68, 69, 70, 71, 72, 54, 55, 56, 57, 52, 58, 59, 60, 61, 62, 99, 100, 101, 102, 103, 104, 105, 106, 107, 108, 109, 110, 111, 112, 113, 114] (by decide +kernel) (by decide +kernel)
set_option maxRecDepth 20000 in
theorem gX8_init_X4_init_n55 : GoodIn wsX8_init (wsX4_init) := ggX8_init_X4_init
theorem dX8_init_0 : decode cX8_init 0 = .ok (.aload_n 0, 1) := by decide +kernel
theorem dX8_init_1 : decode cX8_init 1 = .ok (.invokespecial 3, 3) := by decide +kernel
theorem dX8_init_4 : decode cX8_init 4 = .ok (.aload_n 0, 1) := by decide +kernel
theorem dX8_init_5 : decode cX8_init 5 = .ok (.iconst 1, 1) := by decide +kernel
theorem dX8_init_6 : decode cX8_init 6 = .ok (.putfield 9, 3) := by decide +kernel
theorem dX8_init_9 : decode cX8_init 9 = .ok (.aload_n 0, 1) := by decide +kernel
theorem dX8_init_10 : decode cX8_init 10 = .ok (.new 15, 3) := by decide +kernel
theorem dX8_init_13 : decode cX8_init 13 = .ok (.dup, 1) := by decide +kernel
theorem dX8_init_14 : decode cX8_init 14 = .ok (.invokespecial 17, 3) := by decide +kernel
theorem dX8_init_17 : decode cX8_init 17 = .ok (.putfield 18, 3) := by decide +kernel
theorem dX8_init_20 : decode cX8_init 20 = .ok (.aload_n 0, 1) := by decide +kernel
theorem dX8_init_21 : decode cX8_init 21 = .ok (.new 15, 3) := by decide +kernel
theorem dX8_init_24 : decode cX8_init 24 = .ok (.dup, 1) := by decide +kernel
theorem dX8_init_25 : decode cX8_init 25 = .ok (.invokespecial 17, 3) := by decide +kernel
theorem dX8_init_28 : decode cX8_init 28 = .ok (.putfield 22, 3) := by decide +kernel
theorem dX8_init_31 : decode cX8_init 31 = .ok (.aload_n 0, 1) := by decide +kernel
theorem dX8_init_32 : decode cX8_init 32 = .ok (.new 25, 3) := by decide +kernel
theorem dX8_init_35 : decode cX8_init 35 = .ok (.dup, 1) := by decide +kernel
theorem dX8_init_36 : decode cX8_init 36 = .ok (.invokespecial 27, 3) := by decide +kernel
theorem dX8_init_39 : decode cX8_init 39 = .ok (.putfield 28, 3) := by decide +kernel
theorem dX8_init_42 : decode cX8_init 42 = .ok (.aload_n 0, 1) := by decide +kernel
theorem dX8_init_43 : decode cX8_init 43 = .ok (.new 32, 3) := by decide +kernel
theorem dX8_init_46 : decode cX8_init 46 = .ok (.dup, 1) := by decide +kernel
theorem dX8_init_47 : decode cX8_init 47 = .ok (.invokespecial 34, 3) := by decide +kernel
theorem dX8_init_50 : decode cX8_init 50 = .ok (.putfield 35, 3) := by decide +kernel
theorem dX8_init_53 : decode cX8_init 53 = .ok (.aload_n 0, 1) := by decide +kernel
theorem dX8_init_54 : decode cX8_init 54 = .ok (.new 39, 3) := by decide +kernel
theorem dX8_init_57 : decode cX8_init 57 = .ok (.dup, 1) := by decide +kernel
theorem dX8_init_58 : decode cX8_init 58 = .ok (.invokespecial 41, 3) := by decide +kernel
theorem dX8_init_61 : decode cX8_init 61 = .ok (.putfield 42, 3) := by decide +kernel
theorem dX8_init_64 : decode cX8_init 64 = .ok (.aload_n 0, 1) := by decide +kernel
theorem dX8_init_65 : decode cX8_init 65 = .ok (.new 46, 3) := by decide +kernel
theorem dX8_init_68 : decode cX8_init 68 = .ok (.dup, 1) := by decide +kernel
theorem dX8_init_69 : decode cX8_init 69 = .ok (.invokespecial 48, 3) := by decide +kernel
theorem dX8_init_72 : decode cX8_init 72 = .ok (.putfield 49, 3) := by decide +kernel
theorem dX8_init_75 : decode cX8_init 75 = .ok (.aload_n 0, 1) := by decide +kernel
theorem dX8_init_76 : decode cX8_init 76 = .ok (.new 53, 3) := by decide +kernel
theorem dX8_init_79 : decode cX8_init 79 = .ok (.dup, 1) := by decide +kernel
theorem dX8_init_80 : decode cX8_init 80 = .ok (.invokespecial 55, 3) := by decide +kernel
theorem dX8_init_83 : decode cX8_init 83 = .ok (.putfield 56, 3) := by decide +kernel
theorem dX8_init_86 : decode cX8_init 86 = .ok (.aload_n 0, 1) := by decide +kernel
theorem dX8_init_87 : decode cX8_init 87 = .ok (.aload_n 0, 1) := by decide +kernel
theorem dX8_init_88 : decode cX8_init 88 = .ok (.getfield 9, 3) := by decide +kernel
theorem dX8_init_91 : decode cX8_init 91 = .ok (.bipush 10, 2) := by decide +kernel
theorem dX8_init_93 : decode cX8_init 93 = .ok (.imul, 1) := by decide +kernel
theorem dX8_init_94 : decode cX8_init 94 = .ok (.iconst 1, 1) := by decide +kernel
theorem dX8_init_95 : decode cX8_init 95 = .ok (.iadd, 1) := by decide +kernel
theorem dX8_init_96 : decode cX8_init 96 = .ok (.putfield 9, 3) := by decide +kernel
theorem dX8_init_99 : decode cX8_init 99 = .ok (.aload_n 0, 1) := by decide +kernel
theorem dX8_init_100 : decode cX8_init 100 = .ok (.aload_n 0, 1) := by decide +kernel
theorem dX8_init_101 : decode cX8_init 101 = .ok (.getfield 9, 3) := by decide +kernel
theorem dX8_init_104 : decode cX8_init 104 = .ok (.bipush 10, 2) := by decide +kernel
theorem dX8_init_106 : decode cX8_init 106 = .ok (.imul, 1) := by decide +kernel
theorem dX8_init_107 : decode cX8_init 107 = .ok (.iconst 2, 1) := by decide +kernel
theorem dX8_init_108 : decode cX8_init 108 = .ok (.iadd, 1) := by decide +kernel
theorem dX8_init_109 : decode cX8_init 109 = .ok (.putfield 9, 3) := by decide +kernel
theorem dX8_init_112 : decode cX8_init 112 = .ok (.aload_n 0, 1) := by decide +kernel
theorem dX8_init_113 : decode cX8_init 113 = .ok (.aload_n 0, 1) := by decide +kernel
theorem dX8_init_114 : decode cX8_init 114 = .ok (.getfield 9, 3) := by decide +kernel
theorem dX8_init_117 : decode cX8_init 117 = .ok (.bipush 10, 2) := by decide +kernel
theorem dX8_init_119 : decode cX8_init 119 = .ok (.imul, 1) := by decide +kernel
theorem dX8_init_120 : decode cX8_init 120 = .ok (.iconst 3, 1) := by decide +kernel
theorem dX8_init_121 : decode cX8_init 121 = .ok (.iadd, 1) := by decide +kernel
theorem dX8_init_122 : decode cX8_init 122 = .ok (.putfield 9, 3) := by decide +kernel
theorem dX8_init_125 : decode cX8_init 125 = .ok (.return_, 1) := by decide +kernel
set_option maxRecDepth 20000 in
theorem ggX8_points_X0_startWith : GoodIn wsX8_points wsX0_startWith := goodIn_r _ [8, 9, 10, 26, 27, 28, 29] (by decide +kernel) (by decide +kernel)
set_option maxRecDepth 20000 in
theorem gX8_points_X0_startWith : GoodIn wsX8_points (wsV RX8 63 RX0 yX0_startWith wsX0_startWith) := goodIn_app (goodIn_of _ (by decide +kernel)) ggX8_points_X0_startWith
set_option maxRecDepth 20000 in
theorem ggX8_points_X1_forget : GoodIn wsX8_points wsX1_forget := goodIn_r _ [15, 16, 30, 31] (by decide +kernel) (by decide +kernel)
set_option maxRecDepth 20000 in
theorem gX8_points_X1_forget : GoodIn wsX8_points (wsV RX8 67 RX1 yX1_forget wsX1_forget) := goodIn_app (goodIn_of _ (by decide +kernel)) ggX8_points_X1_forget
theorem dX8_points_0 : decode cX8_points 0 = .ok (.iload_n 1, 1) := by decide +kernel
theorem dX8_points_1 : decode cX8_points 1 = .ok (.iconst 2, 1) := by decide +kernel
theorem dX8_points_2 : decode cX8_points 2 = .ok (.if_icmp .lt 9, 3) := by decide +kernel
theorem dX8_points_5 : decode cX8_points 5 = .ok (.iload_n 1, 1) := by decide +kernel
theorem dX8_points_6 : decode cX8_points 6 = .ok (.bipush 8, 2) := by decide +kernel
theorem dX8_points_8 : decode cX8_points 8 = .ok (.if_icmp .le 6, 3) := by decide +kernel
theorem dX8_points_11 : decode cX8_points 11 = .ok (.bipush (-2), 2) := by decide +kernel
theorem dX8_points_13 : decode cX8_points 13 = .ok (.ireturn, 1) := by decide +kernel
theorem dX8_points_14 : decode cX8_points 14 = .ok (.aload_n 0, 1) := by decide +kernel
theorem dX8_points_15 : decode cX8_points 15 = .ok (.getfield 18, 3) := by decide +kernel
theorem dX8_points_18 : decode cX8_points 18 = .ok (.getfield 60, 3) := by decide +kernel
theorem dX8_points_21 : decode cX8_points 21 = .ok (.istore_n 2, 1) := by decide +kernel
theorem dX8_points_22 : decode cX8_points 22 = .ok (.aload_n 0, 1) := by decide +kernel
theorem dX8_points_23 : decode cX8_points 23 = .ok (.getfield 18, 3) := by decide +kernel
theorem dX8_points_26 : decode cX8_points 26 = .ok (.iload_n 1, 1) := by decide +kernel
theorem dX8_points_27 : decode cX8_points 27 = .ok (.invokevirtual 63, 3) := by decide +kernel
theorem dX8_points_30 : decode cX8_points 30 = .ok (.aload_n 0, 1) := by decide +kernel
theorem dX8_points_31 : decode cX8_points 31 = .ok (.getfield 28, 3) := by decide +kernel
theorem dX8_points_34 : decode cX8_points 34 = .ok (.invokevirtual 67, 3) := by decide +kernel
theorem dX8_points_37 : decode cX8_points 37 = .ok (.iload_n 2, 1) := by decide +kernel
theorem dX8_points_38 : decode cX8_points 38 = .ok (.ireturn, 1) := by decide +kernel
set_option maxRecDepth 20000 in
theorem ggX8_way_X1_forget : GoodIn wsX8_way wsX1_forget := goodIn_r _ [8, 9, 23, 24] (by decide +kernel) (by decide +kernel)
set_option maxRecDepth 20000 in
theorem gX8_way_X1_forget : GoodIn wsX8_way (wsV RX8 67 RX1 yX1_forget wsX1_forget) := goodIn_app (goodIn_of _ (by decide +kernel)) ggX8_way_X1_forget
theorem dX8_way_0 : decode cX8_way 0 = .ok (.iload_n 1, 1) := by decide +kernel
theorem dX8_way_1 : decode cX8_way 1 = .ok (.ifCond .eq 11, 3) := by decide +kernel
theorem dX8_way_4 : decode cX8_way 4 = .ok (.iload_n 1, 1) := by decide +kernel
theorem dX8_way_5 : decode cX8_way 5 = .ok (.iconst 1, 1) := by decide +kernel
theorem dX8_way_6 : decode cX8_way 6 = .ok (.if_icmp .eq 6, 3) := by decide +kernel
theorem dX8_way_9 : decode cX8_way 9 = .ok (.bipush (-2), 2) := by decide +kernel
theorem dX8_way_11 : decode cX8_way 11 = .ok (.ireturn, 1) := by decide +kernel
theorem dX8_way_12 : decode cX8_way 12 = .ok (.aload_n 0, 1) := by decide +kernel
theorem dX8_way_13 : decode cX8_way 13 = .ok (.getfield 18, 3) := by decide +kernel
theorem dX8_way_16 : decode cX8_way 16 = .ok (.getfield 70, 3) := by decide +kernel
theorem dX8_way_19 : decode cX8_way 19 = .ok (.istore_n 2, 1) := by decide +kernel
theorem dX8_way_20 : decode cX8_way 20 = .ok (.aload_n 0, 1) := by decide +kernel
theorem dX8_way_21 : decode cX8_way 21 = .ok (.getfield 18, 3) := by decide +kernel
theorem dX8_way_24 : decode cX8_way 24 = .ok (.iload_n 1, 1) := by decide +kernel

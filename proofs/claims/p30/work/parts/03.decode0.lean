theorem dX0_init_0 : decode cX0_init 0 = .ok (.aload_n 0, 1) := by decide +kernel
theorem dX0_init_1 : decode cX0_init 1 = .ok (.invokespecial 3, 3) := by decide +kernel
theorem dX0_init_4 : decode cX0_init 4 = .ok (.aload_n 0, 1) := by decide +kernel
theorem dX0_init_5 : decode cX0_init 5 = .ok (.iconst 3, 1) := by decide +kernel
theorem dX0_init_6 : decode cX0_init 6 = .ok (.putfield 9, 3) := by decide +kernel
theorem dX0_init_9 : decode cX0_init 9 = .ok (.aload_n 0, 1) := by decide +kernel
theorem dX0_init_10 : decode cX0_init 10 = .ok (.iconst 0, 1) := by decide +kernel
theorem dX0_init_11 : decode cX0_init 11 = .ok (.putfield 15, 3) := by decide +kernel
theorem dX0_init_14 : decode cX0_init 14 = .ok (.aload_n 0, 1) := by decide +kernel
theorem dX0_init_15 : decode cX0_init 15 = .ok (.bipush 8, 2) := by decide +kernel
theorem dX0_init_17 : decode cX0_init 17 = .ok (.newarray .int, 2) := by decide +kernel
theorem dX0_init_19 : decode cX0_init 19 = .ok (.putfield 18, 3) := by decide +kernel
theorem dX0_init_22 : decode cX0_init 22 = .ok (.aload_n 0, 1) := by decide +kernel
theorem dX0_init_23 : decode cX0_init 23 = .ok (.bipush 8, 2) := by decide +kernel
theorem dX0_init_25 : decode cX0_init 25 = .ok (.newarray .int, 2) := by decide +kernel
theorem dX0_init_27 : decode cX0_init 27 = .ok (.putfield 22, 3) := by decide +kernel
theorem dX0_init_30 : decode cX0_init 30 = .ok (.iconst 0, 1) := by decide +kernel
theorem dX0_init_31 : decode cX0_init 31 = .ok (.istore_n 1, 1) := by decide +kernel
theorem dX0_init_32 : decode cX0_init 32 = .ok (.iload_n 1, 1) := by decide +kernel
theorem dX0_init_33 : decode cX0_init 33 = .ok (.bipush 8, 2) := by decide +kernel
theorem dX0_init_35 : decode cX0_init 35 = .ok (.if_icmp .ge 16, 3) := by decide +kernel
theorem dX0_init_38 : decode cX0_init 38 = .ok (.aload_n 0, 1) := by decide +kernel
theorem dX0_init_39 : decode cX0_init 39 = .ok (.getfield 18, 3) := by decide +kernel
theorem dX0_init_42 : decode cX0_init 42 = .ok (.iload_n 1, 1) := by decide +kernel
theorem dX0_init_43 : decode cX0_init 43 = .ok (.iload_n 1, 1) := by decide +kernel
theorem dX0_init_44 : decode cX0_init 44 = .ok (.iastore, 1) := by decide +kernel
theorem dX0_init_45 : decode cX0_init 45 = .ok (.iinc 1 1, 3) := by decide +kernel
theorem dX0_init_48 : decode cX0_init 48 = .ok (.goto (-16), 3) := by decide +kernel
theorem dX0_init_51 : decode cX0_init 51 = .ok (.return_, 1) := by decide +kernel
theorem dX0_startWith_0 : decode cX0_startWith 0 = .ok (.aload_n 0, 1) := by decide +kernel
theorem dX0_startWith_1 : decode cX0_startWith 1 = .ok (.iload_n 1, 1) := by decide +kernel
theorem dX0_startWith_2 : decode cX0_startWith 2 = .ok (.putfield 9, 3) := by decide +kernel
theorem dX0_startWith_5 : decode cX0_startWith 5 = .ok (.iconst 0, 1) := by decide +kernel
theorem dX0_startWith_6 : decode cX0_startWith 6 = .ok (.istore_n 2, 1) := by decide +kernel
theorem dX0_startWith_7 : decode cX0_startWith 7 = .ok (.iload_n 2, 1) := by decide +kernel
theorem dX0_startWith_8 : decode cX0_startWith 8 = .ok (.bipush 8, 2) := by decide +kernel
theorem dX0_startWith_10 : decode cX0_startWith 10 = .ok (.if_icmp .ge 16, 3) := by decide +kernel
theorem dX0_startWith_13 : decode cX0_startWith 13 = .ok (.aload_n 0, 1) := by decide +kernel
theorem dX0_startWith_14 : decode cX0_startWith 14 = .ok (.getfield 18, 3) := by decide +kernel
theorem dX0_startWith_17 : decode cX0_startWith 17 = .ok (.iload_n 2, 1) := by decide +kernel
theorem dX0_startWith_18 : decode cX0_startWith 18 = .ok (.iload_n 2, 1) := by decide +kernel
theorem dX0_startWith_19 : decode cX0_startWith 19 = .ok (.iastore, 1) := by decide +kernel
theorem dX0_startWith_20 : decode cX0_startWith 20 = .ok (.iinc 2 1, 3) := by decide +kernel
theorem dX0_startWith_23 : decode cX0_startWith 23 = .ok (.goto (-16), 3) := by decide +kernel
theorem dX0_startWith_26 : decode cX0_startWith 26 = .ok (.return_, 1) := by decide +kernel
set_option maxRecDepth 20000 in
theorem ggX0_become_X0_leadAll : GoodIn wsX0_become wsX0_leadAll := goodIn_r _ [8, 3, 9, 10, 11, 12, 13, 14, 15, 16] (by decide +kernel) (by decide +kernel)
set_option maxRecDepth 20000 in
theorem gX0_become_X0_leadAll : GoodIn wsX0_become (wsV RX0 25 RX0 yX0_leadAll wsX0_leadAll) := goodIn_app (goodIn_of _ (by decide +kernel)) ggX0_become_X0_leadAll
theorem dX0_become_0 : decode cX0_become 0 = .ok (.aload_n 0, 1) := by decide +kernel
theorem dX0_become_1 : decode cX0_become 1 = .ok (.aload_n 1, 1) := by decide +kernel
theorem dX0_become_2 : decode cX0_become 2 = .ok (.getfield 9, 3) := by decide +kernel
theorem dX0_become_5 : decode cX0_become 5 = .ok (.putfield 9, 3) := by decide +kernel
theorem dX0_become_8 : decode cX0_become 8 = .ok (.aload_n 0, 1) := by decide +kernel
theorem dX0_become_9 : decode cX0_become 9 = .ok (.aload_n 1, 1) := by decide +kernel
theorem dX0_become_10 : decode cX0_become 10 = .ok (.getfield 15, 3) := by decide +kernel
theorem dX0_become_13 : decode cX0_become 13 = .ok (.putfield 15, 3) := by decide +kernel
theorem dX0_become_16 : decode cX0_become 16 = .ok (.aload_n 0, 1) := by decide +kernel
theorem dX0_become_17 : decode cX0_become 17 = .ok (.aload_n 1, 1) := by decide +kernel
theorem dX0_become_18 : decode cX0_become 18 = .ok (.getfield 18, 3) := by decide +kernel
theorem dX0_become_21 : decode cX0_become 21 = .ok (.invokevirtual 25, 3) := by decide +kernel
theorem dX0_become_24 : decode cX0_become 24 = .ok (.return_, 1) := by decide +kernel
theorem dX0_leadAll_0 : decode cX0_leadAll 0 = .ok (.aload_n 1, 1) := by decide +kernel
theorem dX0_leadAll_1 : decode cX0_leadAll 1 = .ok (.iconst 0, 1) := by decide +kernel
theorem dX0_leadAll_2 : decode cX0_leadAll 2 = .ok (.aload_n 0, 1) := by decide +kernel
theorem dX0_leadAll_3 : decode cX0_leadAll 3 = .ok (.getfield 18, 3) := by decide +kernel
theorem dX0_leadAll_6 : decode cX0_leadAll 6 = .ok (.iconst 0, 1) := by decide +kernel
theorem dX0_leadAll_7 : decode cX0_leadAll 7 = .ok (.bipush 8, 2) := by decide +kernel
theorem dX0_leadAll_9 : decode cX0_leadAll 9 = .ok (.invokestatic 29, 3) := by decide +kernel
theorem dX0_leadAll_12 : decode cX0_leadAll 12 = .ok (.return_, 1) := by decide +kernel
theorem dX0_holds_0 : decode cX0_holds 0 = .ok (.iload_n 1, 1) := by decide +kernel
theorem dX0_holds_1 : decode cX0_holds 1 = .ok (.ifCond .lt 15, 3) := by decide +kernel
theorem dX0_holds_4 : decode cX0_holds 4 = .ok (.iload_n 1, 1) := by decide +kernel
theorem dX0_holds_5 : decode cX0_holds 5 = .ok (.aload_n 0, 1) := by decide +kernel
theorem dX0_holds_6 : decode cX0_holds 6 = .ok (.getfield 9, 3) := by decide +kernel
theorem dX0_holds_9 : decode cX0_holds 9 = .ok (.if_icmp .ge 7, 3) := by decide +kernel
theorem dX0_holds_12 : decode cX0_holds 12 = .ok (.iconst 1, 1) := by decide +kernel
theorem dX0_holds_13 : decode cX0_holds 13 = .ok (.goto 4, 3) := by decide +kernel
theorem dX0_holds_16 : decode cX0_holds 16 = .ok (.iconst 0, 1) := by decide +kernel
theorem dX0_holds_17 : decode cX0_holds 17 = .ok (.ireturn, 1) := by decide +kernel
theorem dX0_pieceNumber_0 : decode cX0_pieceNumber 0 = .ok (.aload_n 0, 1) := by decide +kernel
theorem dX0_pieceNumber_1 : decode cX0_pieceNumber 1 = .ok (.getfield 15, 3) := by decide +kernel
theorem dX0_pieceNumber_4 : decode cX0_pieceNumber 4 = .ok (.iconst 1, 1) := by decide +kernel
theorem dX0_pieceNumber_5 : decode cX0_pieceNumber 5 = .ok (.if_icmp .ne 10, 3) := by decide +kernel
theorem dX0_pieceNumber_8 : decode cX0_pieceNumber 8 = .ok (.aload_n 0, 1) := by decide +kernel
theorem dX0_pieceNumber_9 : decode cX0_pieceNumber 9 = .ok (.getfield 9, 3) := by decide +kernel
theorem dX0_pieceNumber_12 : decode cX0_pieceNumber 12 = .ok (.goto 9, 3) := by decide +kernel
theorem dX0_pieceNumber_15 : decode cX0_pieceNumber 15 = .ok (.aload_n 0, 1) := by decide +kernel
theorem dX0_pieceNumber_16 : decode cX0_pieceNumber 16 = .ok (.getfield 9, 3) := by decide +kernel
theorem dX0_pieceNumber_19 : decode cX0_pieceNumber 19 = .ok (.iconst 1, 1) := by decide +kernel
theorem dX0_pieceNumber_20 : decode cX0_pieceNumber 20 = .ok (.isub, 1) := by decide +kernel
theorem dX0_pieceNumber_21 : decode cX0_pieceNumber 21 = .ok (.ireturn, 1) := by decide +kernel
theorem dX0_figures_0 : decode cX0_figures 0 = .ok (.iconst 0, 1) := by decide +kernel
theorem dX0_figures_1 : decode cX0_figures 1 = .ok (.istore_n 1, 1) := by decide +kernel
theorem dX0_figures_2 : decode cX0_figures 2 = .ok (.iconst 0, 1) := by decide +kernel
theorem dX0_figures_3 : decode cX0_figures 3 = .ok (.istore_n 2, 1) := by decide +kernel
theorem dX0_figures_4 : decode cX0_figures 4 = .ok (.iload_n 2, 1) := by decide +kernel
theorem dX0_figures_5 : decode cX0_figures 5 = .ok (.aload_n 0, 1) := by decide +kernel
theorem dX0_figures_6 : decode cX0_figures 6 = .ok (.getfield 9, 3) := by decide +kernel
theorem dX0_figures_9 : decode cX0_figures 9 = .ok (.if_icmp .ge 21, 3) := by decide +kernel
theorem dX0_figures_12 : decode cX0_figures 12 = .ok (.iload_n 1, 1) := by decide +kernel
theorem dX0_figures_13 : decode cX0_figures 13 = .ok (.bipush 10, 2) := by decide +kernel
theorem dX0_figures_15 : decode cX0_figures 15 = .ok (.imul, 1) := by decide +kernel
theorem dX0_figures_16 : decode cX0_figures 16 = .ok (.aload_n 0, 1) := by decide +kernel
theorem dX0_figures_17 : decode cX0_figures 17 = .ok (.getfield 18, 3) := by decide +kernel
theorem dX0_figures_20 : decode cX0_figures 20 = .ok (.iload_n 2, 1) := by decide +kernel
theorem dX0_figures_21 : decode cX0_figures 21 = .ok (.iaload, 1) := by decide +kernel
theorem dX0_figures_22 : decode cX0_figures 22 = .ok (.iadd, 1) := by decide +kernel
theorem dX0_figures_23 : decode cX0_figures 23 = .ok (.istore_n 1, 1) := by decide +kernel
theorem dX0_figures_24 : decode cX0_figures 24 = .ok (.iinc 2 1, 3) := by decide +kernel
theorem dX0_figures_27 : decode cX0_figures 27 = .ok (.goto (-23), 3) := by decide +kernel
theorem dX0_figures_30 : decode cX0_figures 30 = .ok (.iload_n 1, 1) := by decide +kernel
theorem dX0_figures_31 : decode cX0_figures 31 = .ok (.ireturn, 1) := by decide +kernel
theorem dX0_packed_0 : decode cX0_packed 0 = .ok (.iconst 0, 1) := by decide +kernel
theorem dX0_packed_1 : decode cX0_packed 1 = .ok (.istore_n 1, 1) := by decide +kernel
theorem dX0_packed_2 : decode cX0_packed 2 = .ok (.bipush 7, 2) := by decide +kernel
theorem dX0_packed_4 : decode cX0_packed 4 = .ok (.istore_n 2, 1) := by decide +kernel
theorem dX0_packed_5 : decode cX0_packed 5 = .ok (.iload_n 2, 1) := by decide +kernel
theorem dX0_packed_6 : decode cX0_packed 6 = .ok (.ifCond .lt 20, 3) := by decide +kernel
theorem dX0_packed_9 : decode cX0_packed 9 = .ok (.iload_n 1, 1) := by decide +kernel
theorem dX0_packed_10 : decode cX0_packed 10 = .ok (.iconst 3, 1) := by decide +kernel
theorem dX0_packed_11 : decode cX0_packed 11 = .ok (.ishl, 1) := by decide +kernel
theorem dX0_packed_12 : decode cX0_packed 12 = .ok (.aload_n 0, 1) := by decide +kernel
theorem dX0_packed_13 : decode cX0_packed 13 = .ok (.getfield 18, 3) := by decide +kernel
theorem dX0_packed_16 : decode cX0_packed 16 = .ok (.iload_n 2, 1) := by decide +kernel
theorem dX0_packed_17 : decode cX0_packed 17 = .ok (.iaload, 1) := by decide +kernel
theorem dX0_packed_18 : decode cX0_packed 18 = .ok (.ior, 1) := by decide +kernel
theorem dX0_packed_19 : decode cX0_packed 19 = .ok (.istore_n 1, 1) := by decide +kernel
theorem dX0_packed_20 : decode cX0_packed 20 = .ok (.iinc 2 (-1), 3) := by decide +kernel
theorem dX0_packed_23 : decode cX0_packed 23 = .ok (.goto (-18), 3) := by decide +kernel
theorem dX0_packed_26 : decode cX0_packed 26 = .ok (.iload_n 1, 1) := by decide +kernel
theorem dX0_packed_27 : decode cX0_packed 27 = .ok (.ireturn, 1) := by decide +kernel
theorem dX0_unpack_0 : decode cX0_unpack 0 = .ok (.iconst 0, 1) := by decide +kernel
theorem dX0_unpack_1 : decode cX0_unpack 1 = .ok (.istore_n 2, 1) := by decide +kernel
theorem dX0_unpack_2 : decode cX0_unpack 2 = .ok (.iload_n 2, 1) := by decide +kernel
theorem dX0_unpack_3 : decode cX0_unpack 3 = .ok (.bipush 8, 2) := by decide +kernel
theorem dX0_unpack_5 : decode cX0_unpack 5 = .ok (.if_icmp .ge 23, 3) := by decide +kernel
theorem dX0_unpack_8 : decode cX0_unpack 8 = .ok (.aload_n 0, 1) := by decide +kernel
theorem dX0_unpack_9 : decode cX0_unpack 9 = .ok (.getfield 18, 3) := by decide +kernel
theorem dX0_unpack_12 : decode cX0_unpack 12 = .ok (.iload_n 2, 1) := by decide +kernel
theorem dX0_unpack_13 : decode cX0_unpack 13 = .ok (.iload_n 1, 1) := by decide +kernel
theorem dX0_unpack_14 : decode cX0_unpack 14 = .ok (.iload_n 2, 1) := by decide +kernel
theorem dX0_unpack_15 : decode cX0_unpack 15 = .ok (.iconst 3, 1) := by decide +kernel
theorem dX0_unpack_16 : decode cX0_unpack 16 = .ok (.imul, 1) := by decide +kernel
theorem dX0_unpack_17 : decode cX0_unpack 17 = .ok (.ishr, 1) := by decide +kernel
theorem dX0_unpack_18 : decode cX0_unpack 18 = .ok (.bipush 7, 2) := by decide +kernel
theorem dX0_unpack_20 : decode cX0_unpack 20 = .ok (.iand, 1) := by decide +kernel
theorem dX0_unpack_21 : decode cX0_unpack 21 = .ok (.iastore, 1) := by decide +kernel
theorem dX0_unpack_22 : decode cX0_unpack 22 = .ok (.iinc 2 1, 3) := by decide +kernel
theorem dX0_unpack_25 : decode cX0_unpack 25 = .ok (.goto (-23), 3) := by decide +kernel
theorem dX0_unpack_28 : decode cX0_unpack 28 = .ok (.return_, 1) := by decide +kernel
theorem dX0_ringBits_0 : decode cX0_ringBits 0 = .ok (.iload_n 1, 1) := by decide +kernel
theorem dX0_ringBits_1 : decode cX0_ringBits 1 = .ok (.istore_n 2, 1) := by decide +kernel
theorem dX0_ringBits_2 : decode cX0_ringBits 2 = .ok (.iconst 0, 1) := by decide +kernel
theorem dX0_ringBits_3 : decode cX0_ringBits 3 = .ok (.istore_n 3, 1) := by decide +kernel
theorem dX0_ringBits_4 : decode cX0_ringBits 4 = .ok (.iload_n 3, 1) := by decide +kernel
theorem dX0_ringBits_5 : decode cX0_ringBits 5 = .ok (.aload_n 0, 1) := by decide +kernel
theorem dX0_ringBits_6 : decode cX0_ringBits 6 = .ok (.getfield 9, 3) := by decide +kernel
theorem dX0_ringBits_9 : decode cX0_ringBits 9 = .ok (.if_icmp .ge 16, 3) := by decide +kernel
theorem dX0_ringBits_12 : decode cX0_ringBits 12 = .ok (.aload_n 0, 1) := by decide +kernel
theorem dX0_ringBits_13 : decode cX0_ringBits 13 = .ok (.getfield 18, 3) := by decide +kernel
theorem dX0_ringBits_16 : decode cX0_ringBits 16 = .ok (.iload_n 2, 1) := by decide +kernel
theorem dX0_ringBits_17 : decode cX0_ringBits 17 = .ok (.iaload, 1) := by decide +kernel
theorem dX0_ringBits_18 : decode cX0_ringBits 18 = .ok (.istore_n 2, 1) := by decide +kernel
theorem dX0_ringBits_19 : decode cX0_ringBits 19 = .ok (.iinc 3 1, 3) := by decide +kernel
theorem dX0_ringBits_22 : decode cX0_ringBits 22 = .ok (.goto (-18), 3) := by decide +kernel
theorem dX0_ringBits_25 : decode cX0_ringBits 25 = .ok (.iconst 0, 1) := by decide +kernel
theorem dX0_ringBits_26 : decode cX0_ringBits 26 = .ok (.istore_n 3, 1) := by decide +kernel
theorem dX0_ringBits_27 : decode cX0_ringBits 27 = .ok (.iconst 0, 1) := by decide +kernel
theorem dX0_ringBits_28 : decode cX0_ringBits 28 = .ok (.istore 4, 2) := by decide +kernel
theorem dX0_ringBits_30 : decode cX0_ringBits 30 = .ok (.iload 4, 2) := by decide +kernel
theorem dX0_ringBits_32 : decode cX0_ringBits 32 = .ok (.aload_n 0, 1) := by decide +kernel
theorem dX0_ringBits_33 : decode cX0_ringBits 33 = .ok (.getfield 9, 3) := by decide +kernel
theorem dX0_ringBits_36 : decode cX0_ringBits 36 = .ok (.if_icmp .ge 22, 3) := by decide +kernel
theorem dX0_ringBits_39 : decode cX0_ringBits 39 = .ok (.iload_n 3, 1) := by decide +kernel
theorem dX0_ringBits_40 : decode cX0_ringBits 40 = .ok (.iconst 1, 1) := by decide +kernel
theorem dX0_ringBits_41 : decode cX0_ringBits 41 = .ok (.iload_n 2, 1) := by decide +kernel
theorem dX0_ringBits_42 : decode cX0_ringBits 42 = .ok (.ishl, 1) := by decide +kernel
theorem dX0_ringBits_43 : decode cX0_ringBits 43 = .ok (.ior, 1) := by decide +kernel
theorem dX0_ringBits_44 : decode cX0_ringBits 44 = .ok (.istore_n 3, 1) := by decide +kernel
theorem dX0_ringBits_45 : decode cX0_ringBits 45 = .ok (.aload_n 0, 1) := by decide +kernel
theorem dX0_ringBits_46 : decode cX0_ringBits 46 = .ok (.getfield 18, 3) := by decide +kernel
theorem dX0_ringBits_49 : decode cX0_ringBits 49 = .ok (.iload_n 2, 1) := by decide +kernel
theorem dX0_ringBits_50 : decode cX0_ringBits 50 = .ok (.iaload, 1) := by decide +kernel
theorem dX0_ringBits_51 : decode cX0_ringBits 51 = .ok (.istore_n 2, 1) := by decide +kernel
theorem dX0_ringBits_52 : decode cX0_ringBits 52 = .ok (.iinc 4 1, 3) := by decide +kernel
theorem dX0_ringBits_55 : decode cX0_ringBits 55 = .ok (.goto (-25), 3) := by decide +kernel
theorem dX0_ringBits_58 : decode cX0_ringBits 58 = .ok (.iload_n 3, 1) := by decide +kernel
theorem dX0_ringBits_59 : decode cX0_ringBits 59 = .ok (.ireturn, 1) := by decide +kernel
set_option maxRecDepth 20000 in
theorem ggX0_tailOf_X0_ringBits : GoodIn wsX0_tailOf wsX0_ringBits := goodIn_r _ [7, 1, 2, 8, 9, 10, 11] (by decide +kernel) (by decide +kernel)
set_option maxRecDepth 20000 in
theorem gX0_tailOf_X0_ringBits : GoodIn wsX0_tailOf (wsV RX0 35 RX0 yX0_ringBits wsX0_ringBits) := goodIn_app (goodIn_of _ (by decide +kernel)) ggX0_tailOf_X0_ringBits
theorem dX0_tailOf_0 : decode cX0_tailOf 0 = .ok (.aload_n 0, 1) := by decide +kernel
theorem dX0_tailOf_1 : decode cX0_tailOf 1 = .ok (.iload_n 1, 1) := by decide +kernel
theorem dX0_tailOf_2 : decode cX0_tailOf 2 = .ok (.invokevirtual 35, 3) := by decide +kernel
theorem dX0_tailOf_5 : decode cX0_tailOf 5 = .ok (.istore_n 2, 1) := by decide +kernel
theorem dX0_tailOf_6 : decode cX0_tailOf 6 = .ok (.iload_n 1, 1) := by decide +kernel
theorem dX0_tailOf_7 : decode cX0_tailOf 7 = .ok (.istore_n 3, 1) := by decide +kernel
theorem dX0_tailOf_8 : decode cX0_tailOf 8 = .ok (.iconst 0, 1) := by decide +kernel
theorem dX0_tailOf_9 : decode cX0_tailOf 9 = .ok (.istore 4, 2) := by decide +kernel
theorem dX0_tailOf_11 : decode cX0_tailOf 11 = .ok (.iload 4, 2) := by decide +kernel
theorem dX0_tailOf_13 : decode cX0_tailOf 13 = .ok (.aload_n 0, 1) := by decide +kernel
theorem dX0_tailOf_14 : decode cX0_tailOf 14 = .ok (.getfield 9, 3) := by decide +kernel
theorem dX0_tailOf_17 : decode cX0_tailOf 17 = .ok (.if_icmp .ge 24, 3) := by decide +kernel
theorem dX0_tailOf_20 : decode cX0_tailOf 20 = .ok (.iload_n 2, 1) := by decide +kernel
theorem dX0_tailOf_21 : decode cX0_tailOf 21 = .ok (.iload_n 3, 1) := by decide +kernel
theorem dX0_tailOf_22 : decode cX0_tailOf 22 = .ok (.ishr, 1) := by decide +kernel
theorem dX0_tailOf_23 : decode cX0_tailOf 23 = .ok (.iconst 1, 1) := by decide +kernel
theorem dX0_tailOf_24 : decode cX0_tailOf 24 = .ok (.iand, 1) := by decide +kernel
theorem dX0_tailOf_25 : decode cX0_tailOf 25 = .ok (.ifCond .ne 16, 3) := by decide +kernel
theorem dX0_tailOf_28 : decode cX0_tailOf 28 = .ok (.aload_n 0, 1) := by decide +kernel
theorem dX0_tailOf_29 : decode cX0_tailOf 29 = .ok (.getfield 18, 3) := by decide +kernel
theorem dX0_tailOf_32 : decode cX0_tailOf 32 = .ok (.iload_n 3, 1) := by decide +kernel
theorem dX0_tailOf_33 : decode cX0_tailOf 33 = .ok (.iaload, 1) := by decide +kernel
theorem dX0_tailOf_34 : decode cX0_tailOf 34 = .ok (.istore_n 3, 1) := by decide +kernel
theorem dX0_tailOf_35 : decode cX0_tailOf 35 = .ok (.iinc 4 1, 3) := by decide +kernel
theorem dX0_tailOf_38 : decode cX0_tailOf 38 = .ok (.goto (-27), 3) := by decide +kernel
theorem dX0_tailOf_41 : decode cX0_tailOf 41 = .ok (.iload 4, 2) := by decide +kernel
theorem dX0_tailOf_43 : decode cX0_tailOf 43 = .ok (.ireturn, 1) := by decide +kernel
set_option maxRecDepth 20000 in
theorem ggX0_isLeastOfRing_X0_ringBits : GoodIn wsX0_isLeastOfRing wsX0_ringBits := goodIn_r _ [5, 6, 7, 8, 9, 10, 11] (by decide +kernel) (by decide +kernel)
set_option maxRecDepth 20000 in
theorem gX0_isLeastOfRing_X0_ringBits : GoodIn wsX0_isLeastOfRing (wsV RX0 35 RX0 yX0_ringBits wsX0_ringBits) := goodIn_app (goodIn_of _ (by decide +kernel)) ggX0_isLeastOfRing_X0_ringBits
theorem dX0_isLeastOfRing_0 : decode cX0_isLeastOfRing 0 = .ok (.aload_n 0, 1) := by decide +kernel
theorem dX0_isLeastOfRing_1 : decode cX0_isLeastOfRing 1 = .ok (.iload_n 1, 1) := by decide +kernel
theorem dX0_isLeastOfRing_2 : decode cX0_isLeastOfRing 2 = .ok (.invokevirtual 35, 3) := by decide +kernel
theorem dX0_isLeastOfRing_5 : decode cX0_isLeastOfRing 5 = .ok (.istore_n 2, 1) := by decide +kernel
theorem dX0_isLeastOfRing_6 : decode cX0_isLeastOfRing 6 = .ok (.iload_n 2, 1) := by decide +kernel
theorem dX0_isLeastOfRing_7 : decode cX0_isLeastOfRing 7 = .ok (.iload_n 1, 1) := by decide +kernel
theorem dX0_isLeastOfRing_8 : decode cX0_isLeastOfRing 8 = .ok (.ishr, 1) := by decide +kernel
theorem dX0_isLeastOfRing_9 : decode cX0_isLeastOfRing 9 = .ok (.iconst 1, 1) := by decide +kernel
theorem dX0_isLeastOfRing_10 : decode cX0_isLeastOfRing 10 = .ok (.iand, 1) := by decide +kernel
theorem dX0_isLeastOfRing_11 : decode cX0_isLeastOfRing 11 = .ok (.iconst 1, 1) := by decide +kernel
theorem dX0_isLeastOfRing_12 : decode cX0_isLeastOfRing 12 = .ok (.if_icmp .ne 17, 3) := by decide +kernel
theorem dX0_isLeastOfRing_15 : decode cX0_isLeastOfRing 15 = .ok (.iload_n 2, 1) := by decide +kernel
theorem dX0_isLeastOfRing_16 : decode cX0_isLeastOfRing 16 = .ok (.iconst 1, 1) := by decide +kernel
theorem dX0_isLeastOfRing_17 : decode cX0_isLeastOfRing 17 = .ok (.iload_n 1, 1) := by decide +kernel
theorem dX0_isLeastOfRing_18 : decode cX0_isLeastOfRing 18 = .ok (.ishl, 1) := by decide +kernel
theorem dX0_isLeastOfRing_19 : decode cX0_isLeastOfRing 19 = .ok (.iconst 1, 1) := by decide +kernel
theorem dX0_isLeastOfRing_20 : decode cX0_isLeastOfRing 20 = .ok (.isub, 1) := by decide +kernel
theorem dX0_isLeastOfRing_21 : decode cX0_isLeastOfRing 21 = .ok (.iand, 1) := by decide +kernel
theorem dX0_isLeastOfRing_22 : decode cX0_isLeastOfRing 22 = .ok (.ifCond .ne 7, 3) := by decide +kernel
theorem dX0_isLeastOfRing_25 : decode cX0_isLeastOfRing 25 = .ok (.iconst 1, 1) := by decide +kernel
theorem dX0_isLeastOfRing_26 : decode cX0_isLeastOfRing 26 = .ok (.goto 4, 3) := by decide +kernel
theorem dX0_isLeastOfRing_29 : decode cX0_isLeastOfRing 29 = .ok (.iconst 0, 1) := by decide +kernel
theorem dX0_isLeastOfRing_30 : decode cX0_isLeastOfRing 30 = .ok (.ireturn, 1) := by decide +kernel
set_option maxRecDepth 20000 in
theorem ggX0_leastOfRing_X0_isLeastOfRing : GoodIn wsX0_leastOfRing wsX0_isLeastOfRing := goodIn_r _ [6, 7, 8, 9, 5, 10, 1, 11, 12, 13, 14, 15] (by decide +kernel) (by decide +kernel)
set_option maxRecDepth 20000 in
theorem gX0_leastOfRing_X0_isLeastOfRing : GoodIn wsX0_leastOfRing (wsV RX0 39 RX0 yX0_isLeastOfRing wsX0_isLeastOfRing) := goodIn_app (goodIn_of _ (by decide +kernel)) ggX0_leastOfRing_X0_isLeastOfRing
theorem dX0_leastOfRing_0 : decode cX0_leastOfRing 0 = .ok (.iconst 0, 1) := by decide +kernel
theorem dX0_leastOfRing_1 : decode cX0_leastOfRing 1 = .ok (.istore_n 2, 1) := by decide +kernel
theorem dX0_leastOfRing_2 : decode cX0_leastOfRing 2 = .ok (.iconst 0, 1) := by decide +kernel
theorem dX0_leastOfRing_3 : decode cX0_leastOfRing 3 = .ok (.istore_n 3, 1) := by decide +kernel
theorem dX0_leastOfRing_4 : decode cX0_leastOfRing 4 = .ok (.iload_n 3, 1) := by decide +kernel
theorem dX0_leastOfRing_5 : decode cX0_leastOfRing 5 = .ok (.aload_n 0, 1) := by decide +kernel
theorem dX0_leastOfRing_6 : decode cX0_leastOfRing 6 = .ok (.getfield 9, 3) := by decide +kernel
theorem dX0_leastOfRing_9 : decode cX0_leastOfRing 9 = .ok (.if_icmp .ge 27, 3) := by decide +kernel
theorem dX0_leastOfRing_12 : decode cX0_leastOfRing 12 = .ok (.aload_n 0, 1) := by decide +kernel
theorem dX0_leastOfRing_13 : decode cX0_leastOfRing 13 = .ok (.iload_n 3, 1) := by decide +kernel
theorem dX0_leastOfRing_14 : decode cX0_leastOfRing 14 = .ok (.invokevirtual 39, 3) := by decide +kernel
theorem dX0_leastOfRing_17 : decode cX0_leastOfRing 17 = .ok (.ifCond .eq 13, 3) := by decide +kernel
theorem dX0_leastOfRing_20 : decode cX0_leastOfRing 20 = .ok (.iload_n 2, 1) := by decide +kernel
theorem dX0_leastOfRing_21 : decode cX0_leastOfRing 21 = .ok (.iload_n 1, 1) := by decide +kernel
theorem dX0_leastOfRing_22 : decode cX0_leastOfRing 22 = .ok (.if_icmp .ne 5, 3) := by decide +kernel
theorem dX0_leastOfRing_25 : decode cX0_leastOfRing 25 = .ok (.iload_n 3, 1) := by decide +kernel
theorem dX0_leastOfRing_26 : decode cX0_leastOfRing 26 = .ok (.ireturn, 1) := by decide +kernel
theorem dX0_leastOfRing_27 : decode cX0_leastOfRing 27 = .ok (.iinc 2 1, 3) := by decide +kernel
theorem dX0_leastOfRing_30 : decode cX0_leastOfRing 30 = .ok (.iinc 3 1, 3) := by decide +kernel
theorem dX0_leastOfRing_33 : decode cX0_leastOfRing 33 = .ok (.goto (-29), 3) := by decide +kernel
theorem dX0_leastOfRing_36 : decode cX0_leastOfRing 36 = .ok (.iconst (-1), 1) := by decide +kernel
theorem dX0_leastOfRing_37 : decode cX0_leastOfRing 37 = .ok (.ireturn, 1) := by decide +kernel
set_option maxRecDepth 20000 in
theorem ggX0_ringNumber_X0_isLeastOfRing : GoodIn wsX0_ringNumber wsX0_isLeastOfRing := goodIn_r _ [6, 7, 8, 9, 5, 10, 1, 11, 12, 13, 14, 15] (by decide +kernel) (by decide +kernel)
set_option maxRecDepth 20000 in
theorem gX0_ringNumber_X0_isLeastOfRing : GoodIn wsX0_ringNumber (wsV RX0 39 RX0 yX0_isLeastOfRing wsX0_isLeastOfRing) := goodIn_app (goodIn_of _ (by decide +kernel)) ggX0_ringNumber_X0_isLeastOfRing
theorem dX0_ringNumber_0 : decode cX0_ringNumber 0 = .ok (.iconst 0, 1) := by decide +kernel
theorem dX0_ringNumber_1 : decode cX0_ringNumber 1 = .ok (.istore_n 1, 1) := by decide +kernel
theorem dX0_ringNumber_2 : decode cX0_ringNumber 2 = .ok (.iconst 0, 1) := by decide +kernel
theorem dX0_ringNumber_3 : decode cX0_ringNumber 3 = .ok (.istore_n 2, 1) := by decide +kernel
theorem dX0_ringNumber_4 : decode cX0_ringNumber 4 = .ok (.iload_n 2, 1) := by decide +kernel
theorem dX0_ringNumber_5 : decode cX0_ringNumber 5 = .ok (.aload_n 0, 1) := by decide +kernel
theorem dX0_ringNumber_6 : decode cX0_ringNumber 6 = .ok (.getfield 9, 3) := by decide +kernel
theorem dX0_ringNumber_9 : decode cX0_ringNumber 9 = .ok (.if_icmp .ge 20, 3) := by decide +kernel
theorem dX0_ringNumber_12 : decode cX0_ringNumber 12 = .ok (.aload_n 0, 1) := by decide +kernel
theorem dX0_ringNumber_13 : decode cX0_ringNumber 13 = .ok (.iload_n 2, 1) := by decide +kernel
theorem dX0_ringNumber_14 : decode cX0_ringNumber 14 = .ok (.invokevirtual 39, 3) := by decide +kernel
theorem dX0_ringNumber_17 : decode cX0_ringNumber 17 = .ok (.ifCond .eq 6, 3) := by decide +kernel
theorem dX0_ringNumber_20 : decode cX0_ringNumber 20 = .ok (.iinc 1 1, 3) := by decide +kernel
theorem dX0_ringNumber_23 : decode cX0_ringNumber 23 = .ok (.iinc 2 1, 3) := by decide +kernel
theorem dX0_ringNumber_26 : decode cX0_ringNumber 26 = .ok (.goto (-22), 3) := by decide +kernel
theorem dX0_ringNumber_29 : decode cX0_ringNumber 29 = .ok (.iload_n 1, 1) := by decide +kernel
theorem dX0_ringNumber_30 : decode cX0_ringNumber 30 = .ok (.ireturn, 1) := by decide +kernel
set_option maxRecDepth 20000 in
theorem ggX0_pointsOnRings_X0_ringBits : GoodIn wsX0_pointsOnRings wsX0_ringBits := goodIn_r _ [6, 1, 7, 15, 16, 17, 18] (by decide +kernel) (by decide +kernel)
set_option maxRecDepth 20000 in
theorem gX0_pointsOnRings_X0_ringBits : GoodIn wsX0_pointsOnRings (wsV RX0 35 RX0 yX0_ringBits wsX0_ringBits) := goodIn_app (goodIn_of _ (by decide +kernel)) ggX0_pointsOnRings_X0_ringBits
set_option maxRecDepth 20000 in
theorem ggX0_pointsOnRings_J6_bitCount_0f7a4 : GoodIn wsX0_pointsOnRings wsJ6_bitCount_0f7a4 := goodIn_r _ [11, 12, 13, 14] (by decide +kernel) (by decide +kernel)
set_option maxRecDepth 20000 in
theorem gX0_pointsOnRings_J6_bitCount_0f7a4 : GoodIn wsX0_pointsOnRings (va_wsS RX0 43 yJ6_bitCount_0f7a4 wsJ6_bitCount_0f7a4) := goodIn_app (goodIn_of _ (by decide +kernel)) ggX0_pointsOnRings_J6_bitCount_0f7a4
theorem dX0_pointsOnRings_0 : decode cX0_pointsOnRings 0 = .ok (.iconst 0, 1) := by decide +kernel
theorem dX0_pointsOnRings_1 : decode cX0_pointsOnRings 1 = .ok (.istore_n 1, 1) := by decide +kernel
theorem dX0_pointsOnRings_2 : decode cX0_pointsOnRings 2 = .ok (.iconst 0, 1) := by decide +kernel
theorem dX0_pointsOnRings_3 : decode cX0_pointsOnRings 3 = .ok (.istore_n 2, 1) := by decide +kernel
theorem dX0_pointsOnRings_4 : decode cX0_pointsOnRings 4 = .ok (.iload_n 2, 1) := by decide +kernel
theorem dX0_pointsOnRings_5 : decode cX0_pointsOnRings 5 = .ok (.aload_n 0, 1) := by decide +kernel
theorem dX0_pointsOnRings_6 : decode cX0_pointsOnRings 6 = .ok (.getfield 9, 3) := by decide +kernel
theorem dX0_pointsOnRings_9 : decode cX0_pointsOnRings 9 = .ok (.if_icmp .ge 17, 3) := by decide +kernel
theorem dX0_pointsOnRings_12 : decode cX0_pointsOnRings 12 = .ok (.iload_n 1, 1) := by decide +kernel
theorem dX0_pointsOnRings_13 : decode cX0_pointsOnRings 13 = .ok (.aload_n 0, 1) := by decide +kernel
theorem dX0_pointsOnRings_14 : decode cX0_pointsOnRings 14 = .ok (.iload_n 2, 1) := by decide +kernel
theorem dX0_pointsOnRings_15 : decode cX0_pointsOnRings 15 = .ok (.invokevirtual 35, 3) := by decide +kernel
theorem dX0_pointsOnRings_18 : decode cX0_pointsOnRings 18 = .ok (.ior, 1) := by decide +kernel
theorem dX0_pointsOnRings_19 : decode cX0_pointsOnRings 19 = .ok (.istore_n 1, 1) := by decide +kernel
theorem dX0_pointsOnRings_20 : decode cX0_pointsOnRings 20 = .ok (.iinc 2 1, 3) := by decide +kernel
theorem dX0_pointsOnRings_23 : decode cX0_pointsOnRings 23 = .ok (.goto (-19), 3) := by decide +kernel
theorem dX0_pointsOnRings_26 : decode cX0_pointsOnRings 26 = .ok (.iload_n 1, 1) := by decide +kernel
theorem dX0_pointsOnRings_27 : decode cX0_pointsOnRings 27 = .ok (.invokestatic 43, 3) := by decide +kernel
theorem dX0_pointsOnRings_30 : decode cX0_pointsOnRings 30 = .ok (.ireturn, 1) := by decide +kernel
set_option maxRecDepth 20000 in
theorem ggX0_greatestRing_X0_ringBits : GoodIn wsX0_greatestRing wsX0_ringBits := goodIn_r _ [10, 1, 11, 19, 20, 21, 22] (by decide +kernel) (by decide +kernel)
set_option maxRecDepth 20000 in
theorem gX0_greatestRing_X0_ringBits : GoodIn wsX0_greatestRing (wsV RX0 35 RX0 yX0_ringBits wsX0_ringBits) := goodIn_app (goodIn_of _ (by decide +kernel)) ggX0_greatestRing_X0_ringBits
set_option maxRecDepth 20000 in
theorem ggX0_greatestRing_J6_bitCount_0f7a4 : GoodIn wsX0_greatestRing wsJ6_bitCount_0f7a4 := goodIn_r _ [15, 16, 17, 18] (by decide +kernel) (by decide +kernel)
set_option maxRecDepth 20000 in
theorem gX0_greatestRing_J6_bitCount_0f7a4 : GoodIn wsX0_greatestRing (va_wsS RX0 43 yJ6_bitCount_0f7a4 wsJ6_bitCount_0f7a4) := goodIn_app (goodIn_of _ (by decide +kernel)) ggX0_greatestRing_J6_bitCount_0f7a4
theorem dX0_greatestRing_0 : decode cX0_greatestRing 0 = .ok (.iconst 0, 1) := by decide +kernel
theorem dX0_greatestRing_1 : decode cX0_greatestRing 1 = .ok (.istore_n 1, 1) := by decide +kernel
theorem dX0_greatestRing_2 : decode cX0_greatestRing 2 = .ok (.iconst 0, 1) := by decide +kernel
theorem dX0_greatestRing_3 : decode cX0_greatestRing 3 = .ok (.istore_n 2, 1) := by decide +kernel
theorem dX0_greatestRing_4 : decode cX0_greatestRing 4 = .ok (.iload_n 2, 1) := by decide +kernel
theorem dX0_greatestRing_5 : decode cX0_greatestRing 5 = .ok (.aload_n 0, 1) := by decide +kernel
theorem dX0_greatestRing_6 : decode cX0_greatestRing 6 = .ok (.getfield 9, 3) := by decide +kernel
theorem dX0_greatestRing_9 : decode cX0_greatestRing 9 = .ok (.if_icmp .ge 22, 3) := by decide +kernel
theorem dX0_greatestRing_12 : decode cX0_greatestRing 12 = .ok (.iload_n 1, 1) := by decide +kernel
theorem dX0_greatestRing_13 : decode cX0_greatestRing 13 = .ok (.aload_n 0, 1) := by decide +kernel
theorem dX0_greatestRing_14 : decode cX0_greatestRing 14 = .ok (.iload_n 2, 1) := by decide +kernel
theorem dX0_greatestRing_15 : decode cX0_greatestRing 15 = .ok (.invokevirtual 35, 3) := by decide +kernel
theorem dX0_greatestRing_18 : decode cX0_greatestRing 18 = .ok (.invokestatic 43, 3) := by decide +kernel
theorem dX0_greatestRing_21 : decode cX0_greatestRing 21 = .ok (.invokestatic 48, 3) := by decide +kernel
theorem dX0_greatestRing_24 : decode cX0_greatestRing 24 = .ok (.istore_n 1, 1) := by decide +kernel
theorem dX0_greatestRing_25 : decode cX0_greatestRing 25 = .ok (.iinc 2 1, 3) := by decide +kernel
theorem dX0_greatestRing_28 : decode cX0_greatestRing 28 = .ok (.goto (-24), 3) := by decide +kernel
theorem dX0_greatestRing_31 : decode cX0_greatestRing 31 = .ok (.iload_n 1, 1) := by decide +kernel
theorem dX0_greatestRing_32 : decode cX0_greatestRing 32 = .ok (.ireturn, 1) := by decide +kernel
set_option maxRecDepth 20000 in
theorem ggX0_turned_X0_mirror : GoodIn wsX0_turned wsX0_mirror := goodIn_r _ [12, 3, 1, 2, 40, 41, 42, 43] (by decide +kernel) (by decide +kernel)
set_option maxRecDepth 20000 in
theorem gX0_turned_X0_mirror : GoodIn wsX0_turned (wsV RX0 54 RX0 yX0_mirror wsX0_mirror) := goodIn_app (goodIn_of _ (by decide +kernel)) ggX0_turned_X0_mirror
set_option maxRecDepth 20000 in
theorem ggX0_turned_X0_leadTwice : GoodIn wsX0_turned wsX0_leadTwice := goodIn_r _ [16, 3, 1, 2, 40, 41, 42, 43] (by decide +kernel) (by decide +kernel)
set_option maxRecDepth 20000 in
theorem gX0_turned_X0_leadTwice : GoodIn wsX0_turned (wsV RX0 57 RX0 yX0_leadTwice wsX0_leadTwice) := goodIn_app (goodIn_of _ (by decide +kernel)) ggX0_turned_X0_leadTwice
set_option maxRecDepth 20000 in
theorem ggX0_turned_X0_move : GoodIn wsX0_turned wsX0_move := goodIn_r _ [20, 3, 1, 2, 21, 22, 23, 11, 24, 40, 41, 42, 43] (by decide +kernel) (by decide +kernel)
set_option maxRecDepth 20000 in
theorem gX0_turned_X0_move : GoodIn wsX0_turned (wsV RX0 60 RX0 yX0_move wsX0_move) := goodIn_app (goodIn_of _ (by decide +kernel)) ggX0_turned_X0_move
set_option maxRecDepth 20000 in
theorem ggX0_turned_X0_turnRound : GoodIn wsX0_turned wsX0_turnRound := goodIn_r _ [28, 3, 2, 1, 29, 30, 31, 32, 33, 34, 35, 40, 41, 42, 43] (by decide +kernel) (by decide +kernel)
set_option maxRecDepth 20000 in
theorem gX0_turned_X0_turnRound : GoodIn wsX0_turned (wsV RX0 63 RX0 yX0_turnRound wsX0_turnRound) := goodIn_app (goodIn_of _ (by decide +kernel)) ggX0_turned_X0_turnRound
set_option maxRecDepth 20000 in
theorem ggX0_turned_X0_leadFurther : GoodIn wsX0_turned wsX0_leadFurther := goodIn_r _ [39, 3, 1, 2, 21, 22, 23, 11, 24, 40, 41, 42, 43] (by decide +kernel) (by decide +kernel)
set_option maxRecDepth 20000 in
theorem gX0_turned_X0_leadFurther : GoodIn wsX0_turned (wsV RX0 67 RX0 yX0_leadFurther wsX0_leadFurther) := goodIn_app (goodIn_of _ (by decide +kernel)) ggX0_turned_X0_leadFurther
theorem dX0_turned_0 : decode cX0_turned 0 = .ok (.iload_n 1, 1) := by decide +kernel
theorem dX0_turned_1 : decode cX0_turned 1 = .ok (.tableswitch 73 0 4 #[35, 42, 49, 56, 65], 35) := by decide +kernel
theorem dX0_turned_36 : decode cX0_turned 36 = .ok (.aload_n 0, 1) := by decide +kernel
theorem dX0_turned_37 : decode cX0_turned 37 = .ok (.invokevirtual 54, 3) := by decide +kernel
theorem dX0_turned_40 : decode cX0_turned 40 = .ok (.goto 36, 3) := by decide +kernel
theorem dX0_turned_43 : decode cX0_turned 43 = .ok (.aload_n 0, 1) := by decide +kernel
theorem dX0_turned_44 : decode cX0_turned 44 = .ok (.invokevirtual 57, 3) := by decide +kernel
theorem dX0_turned_47 : decode cX0_turned 47 = .ok (.goto 29, 3) := by decide +kernel
theorem dX0_turned_50 : decode cX0_turned 50 = .ok (.aload_n 0, 1) := by decide +kernel
theorem dX0_turned_51 : decode cX0_turned 51 = .ok (.invokevirtual 60, 3) := by decide +kernel
theorem dX0_turned_54 : decode cX0_turned 54 = .ok (.goto 22, 3) := by decide +kernel
theorem dX0_turned_57 : decode cX0_turned 57 = .ok (.aload_n 0, 1) := by decide +kernel
theorem dX0_turned_58 : decode cX0_turned 58 = .ok (.invokevirtual 63, 3) := by decide +kernel
theorem dX0_turned_61 : decode cX0_turned 61 = .ok (.ifCond .ne 15, 3) := by decide +kernel
theorem dX0_turned_64 : decode cX0_turned 64 = .ok (.iconst 0, 1) := by decide +kernel
theorem dX0_turned_65 : decode cX0_turned 65 = .ok (.ireturn, 1) := by decide +kernel
theorem dX0_turned_66 : decode cX0_turned 66 = .ok (.aload_n 0, 1) := by decide +kernel
theorem dX0_turned_67 : decode cX0_turned 67 = .ok (.iload_n 2, 1) := by decide +kernel
theorem dX0_turned_68 : decode cX0_turned 68 = .ok (.invokevirtual 67, 3) := by decide +kernel
theorem dX0_turned_71 : decode cX0_turned 71 = .ok (.goto 5, 3) := by decide +kernel
theorem dX0_turned_74 : decode cX0_turned 74 = .ok (.iconst 0, 1) := by decide +kernel
theorem dX0_turned_75 : decode cX0_turned 75 = .ok (.ireturn, 1) := by decide +kernel
theorem dX0_turned_76 : decode cX0_turned 76 = .ok (.aload_n 0, 1) := by decide +kernel
theorem dX0_turned_77 : decode cX0_turned 77 = .ok (.getfield 22, 3) := by decide +kernel
theorem dX0_turned_80 : decode cX0_turned 80 = .ok (.iconst 0, 1) := by decide +kernel
theorem dX0_turned_81 : decode cX0_turned 81 = .ok (.aload_n 0, 1) := by decide +kernel
theorem dX0_turned_82 : decode cX0_turned 82 = .ok (.getfield 18, 3) := by decide +kernel
theorem dX0_turned_85 : decode cX0_turned 85 = .ok (.iconst 0, 1) := by decide +kernel
theorem dX0_turned_86 : decode cX0_turned 86 = .ok (.aload_n 0, 1) := by decide +kernel
theorem dX0_turned_87 : decode cX0_turned 87 = .ok (.getfield 9, 3) := by decide +kernel
theorem dX0_turned_90 : decode cX0_turned 90 = .ok (.invokestatic 29, 3) := by decide +kernel
theorem dX0_turned_93 : decode cX0_turned 93 = .ok (.iconst 1, 1) := by decide +kernel
theorem dX0_turned_94 : decode cX0_turned 94 = .ok (.ireturn, 1) := by decide +kernel
theorem dX0_mirror_0 : decode cX0_mirror 0 = .ok (.iconst 0, 1) := by decide +kernel
theorem dX0_mirror_1 : decode cX0_mirror 1 = .ok (.istore_n 1, 1) := by decide +kernel
theorem dX0_mirror_2 : decode cX0_mirror 2 = .ok (.iload_n 1, 1) := by decide +kernel
theorem dX0_mirror_3 : decode cX0_mirror 3 = .ok (.aload_n 0, 1) := by decide +kernel
theorem dX0_mirror_4 : decode cX0_mirror 4 = .ok (.getfield 9, 3) := by decide +kernel
theorem dX0_mirror_7 : decode cX0_mirror 7 = .ok (.if_icmp .ge 35, 3) := by decide +kernel
theorem dX0_mirror_10 : decode cX0_mirror 10 = .ok (.aload_n 0, 1) := by decide +kernel
theorem dX0_mirror_11 : decode cX0_mirror 11 = .ok (.getfield 22, 3) := by decide +kernel
theorem dX0_mirror_14 : decode cX0_mirror 14 = .ok (.aload_n 0, 1) := by decide +kernel
theorem dX0_mirror_15 : decode cX0_mirror 15 = .ok (.getfield 9, 3) := by decide +kernel
theorem dX0_mirror_18 : decode cX0_mirror 18 = .ok (.iconst 1, 1) := by decide +kernel
theorem dX0_mirror_19 : decode cX0_mirror 19 = .ok (.isub, 1) := by decide +kernel
theorem dX0_mirror_20 : decode cX0_mirror 20 = .ok (.iload_n 1, 1) := by decide +kernel
theorem dX0_mirror_21 : decode cX0_mirror 21 = .ok (.isub, 1) := by decide +kernel
theorem dX0_mirror_22 : decode cX0_mirror 22 = .ok (.aload_n 0, 1) := by decide +kernel
theorem dX0_mirror_23 : decode cX0_mirror 23 = .ok (.getfield 9, 3) := by decide +kernel
theorem dX0_mirror_26 : decode cX0_mirror 26 = .ok (.iconst 1, 1) := by decide +kernel
theorem dX0_mirror_27 : decode cX0_mirror 27 = .ok (.isub, 1) := by decide +kernel
theorem dX0_mirror_28 : decode cX0_mirror 28 = .ok (.aload_n 0, 1) := by decide +kernel
theorem dX0_mirror_29 : decode cX0_mirror 29 = .ok (.getfield 18, 3) := by decide +kernel
theorem dX0_mirror_32 : decode cX0_mirror 32 = .ok (.iload_n 1, 1) := by decide +kernel
theorem dX0_mirror_33 : decode cX0_mirror 33 = .ok (.iaload, 1) := by decide +kernel
theorem dX0_mirror_34 : decode cX0_mirror 34 = .ok (.isub, 1) := by decide +kernel
theorem dX0_mirror_35 : decode cX0_mirror 35 = .ok (.iastore, 1) := by decide +kernel
theorem dX0_mirror_36 : decode cX0_mirror 36 = .ok (.iinc 1 1, 3) := by decide +kernel
theorem dX0_mirror_39 : decode cX0_mirror 39 = .ok (.goto (-37), 3) := by decide +kernel
theorem dX0_mirror_42 : decode cX0_mirror 42 = .ok (.return_, 1) := by decide +kernel
theorem dX0_leadTwice_0 : decode cX0_leadTwice 0 = .ok (.iconst 0, 1) := by decide +kernel
theorem dX0_leadTwice_1 : decode cX0_leadTwice 1 = .ok (.istore_n 1, 1) := by decide +kernel
theorem dX0_leadTwice_2 : decode cX0_leadTwice 2 = .ok (.iload_n 1, 1) := by decide +kernel
theorem dX0_leadTwice_3 : decode cX0_leadTwice 3 = .ok (.aload_n 0, 1) := by decide +kernel
theorem dX0_leadTwice_4 : decode cX0_leadTwice 4 = .ok (.getfield 9, 3) := by decide +kernel
theorem dX0_leadTwice_7 : decode cX0_leadTwice 7 = .ok (.if_icmp .ge 26, 3) := by decide +kernel
theorem dX0_leadTwice_10 : decode cX0_leadTwice 10 = .ok (.aload_n 0, 1) := by decide +kernel
theorem dX0_leadTwice_11 : decode cX0_leadTwice 11 = .ok (.getfield 22, 3) := by decide +kernel
theorem dX0_leadTwice_14 : decode cX0_leadTwice 14 = .ok (.iload_n 1, 1) := by decide +kernel
theorem dX0_leadTwice_15 : decode cX0_leadTwice 15 = .ok (.aload_n 0, 1) := by decide +kernel
theorem dX0_leadTwice_16 : decode cX0_leadTwice 16 = .ok (.getfield 18, 3) := by decide +kernel
theorem dX0_leadTwice_19 : decode cX0_leadTwice 19 = .ok (.aload_n 0, 1) := by decide +kernel
theorem dX0_leadTwice_20 : decode cX0_leadTwice 20 = .ok (.getfield 18, 3) := by decide +kernel
theorem dX0_leadTwice_23 : decode cX0_leadTwice 23 = .ok (.iload_n 1, 1) := by decide +kernel
theorem dX0_leadTwice_24 : decode cX0_leadTwice 24 = .ok (.iaload, 1) := by decide +kernel
theorem dX0_leadTwice_25 : decode cX0_leadTwice 25 = .ok (.iaload, 1) := by decide +kernel
theorem dX0_leadTwice_26 : decode cX0_leadTwice 26 = .ok (.iastore, 1) := by decide +kernel
theorem dX0_leadTwice_27 : decode cX0_leadTwice 27 = .ok (.iinc 1 1, 3) := by decide +kernel
theorem dX0_leadTwice_30 : decode cX0_leadTwice 30 = .ok (.goto (-28), 3) := by decide +kernel
theorem dX0_leadTwice_33 : decode cX0_leadTwice 33 = .ok (.return_, 1) := by decide +kernel
set_option maxRecDepth 20000 in
theorem ggX0_move_X0_round : GoodIn wsX0_move wsX0_round := goodIn_r _ [8, 1, 9, 10, 11, 12] (by decide +kernel) (by decide +kernel)
set_option maxRecDepth 20000 in
theorem gX0_move_X0_round : GoodIn wsX0_move (wsV RX0 71 RX0 yX0_round wsX0_round) := goodIn_app (goodIn_of _ (by decide +kernel)) ggX0_move_X0_round
theorem dX0_move_0 : decode cX0_move 0 = .ok (.iconst 0, 1) := by decide +kernel
theorem dX0_move_1 : decode cX0_move 1 = .ok (.istore_n 1, 1) := by decide +kernel
theorem dX0_move_2 : decode cX0_move 2 = .ok (.iload_n 1, 1) := by decide +kernel
theorem dX0_move_3 : decode cX0_move 3 = .ok (.aload_n 0, 1) := by decide +kernel
theorem dX0_move_4 : decode cX0_move 4 = .ok (.getfield 9, 3) := by decide +kernel
theorem dX0_move_7 : decode cX0_move 7 = .ok (.if_icmp .ge 33, 3) := by decide +kernel
theorem dX0_move_10 : decode cX0_move 10 = .ok (.aload_n 0, 1) := by decide +kernel
theorem dX0_move_11 : decode cX0_move 11 = .ok (.getfield 22, 3) := by decide +kernel
theorem dX0_move_14 : decode cX0_move 14 = .ok (.aload_n 0, 1) := by decide +kernel
theorem dX0_move_15 : decode cX0_move 15 = .ok (.iload_n 1, 1) := by decide +kernel
theorem dX0_move_16 : decode cX0_move 16 = .ok (.iconst 1, 1) := by decide +kernel
theorem dX0_move_17 : decode cX0_move 17 = .ok (.iadd, 1) := by decide +kernel
theorem dX0_move_18 : decode cX0_move 18 = .ok (.invokevirtual 71, 3) := by decide +kernel
theorem dX0_move_21 : decode cX0_move 21 = .ok (.aload_n 0, 1) := by decide +kernel
theorem dX0_move_22 : decode cX0_move 22 = .ok (.aload_n 0, 1) := by decide +kernel
theorem dX0_move_23 : decode cX0_move 23 = .ok (.getfield 18, 3) := by decide +kernel
theorem dX0_move_26 : decode cX0_move 26 = .ok (.iload_n 1, 1) := by decide +kernel
theorem dX0_move_27 : decode cX0_move 27 = .ok (.iaload, 1) := by decide +kernel
theorem dX0_move_28 : decode cX0_move 28 = .ok (.iconst 1, 1) := by decide +kernel
theorem dX0_move_29 : decode cX0_move 29 = .ok (.iadd, 1) := by decide +kernel
theorem dX0_move_30 : decode cX0_move 30 = .ok (.invokevirtual 71, 3) := by decide +kernel
theorem dX0_move_33 : decode cX0_move 33 = .ok (.iastore, 1) := by decide +kernel
theorem dX0_move_34 : decode cX0_move 34 = .ok (.iinc 1 1, 3) := by decide +kernel
theorem dX0_move_37 : decode cX0_move 37 = .ok (.goto (-35), 3) := by decide +kernel
theorem dX0_move_40 : decode cX0_move 40 = .ok (.return_, 1) := by decide +kernel
set_option maxRecDepth 20000 in
theorem ggX0_turnRound_J6_bitCount_0f7a4 : GoodIn wsX0_turnRound wsJ6_bitCount_0f7a4 := goodIn_r _ [7, 8, 9, 10] (by decide +kernel) (by decide +kernel)
set_option maxRecDepth 20000 in
theorem gX0_turnRound_J6_bitCount_0f7a4 : GoodIn wsX0_turnRound (va_wsS RX0 43 yJ6_bitCount_0f7a4 wsJ6_bitCount_0f7a4) := goodIn_app (goodIn_of _ (by decide +kernel)) ggX0_turnRound_J6_bitCount_0f7a4
theorem dX0_turnRound_0 : decode cX0_turnRound 0 = .ok (.iconst 0, 1) := by decide +kernel
theorem dX0_turnRound_1 : decode cX0_turnRound 1 = .ok (.istore_n 1, 1) := by decide +kernel
theorem dX0_turnRound_2 : decode cX0_turnRound 2 = .ok (.iconst 0, 1) := by decide +kernel
theorem dX0_turnRound_3 : decode cX0_turnRound 3 = .ok (.istore_n 2, 1) := by decide +kernel
theorem dX0_turnRound_4 : decode cX0_turnRound 4 = .ok (.iload_n 2, 1) := by decide +kernel
theorem dX0_turnRound_5 : decode cX0_turnRound 5 = .ok (.aload_n 0, 1) := by decide +kernel
theorem dX0_turnRound_6 : decode cX0_turnRound 6 = .ok (.getfield 9, 3) := by decide +kernel
theorem dX0_turnRound_9 : decode cX0_turnRound 9 = .ok (.if_icmp .ge 32, 3) := by decide +kernel
theorem dX0_turnRound_12 : decode cX0_turnRound 12 = .ok (.iload_n 1, 1) := by decide +kernel
theorem dX0_turnRound_13 : decode cX0_turnRound 13 = .ok (.iconst 1, 1) := by decide +kernel
theorem dX0_turnRound_14 : decode cX0_turnRound 14 = .ok (.aload_n 0, 1) := by decide +kernel
theorem dX0_turnRound_15 : decode cX0_turnRound 15 = .ok (.getfield 18, 3) := by decide +kernel
theorem dX0_turnRound_18 : decode cX0_turnRound 18 = .ok (.iload_n 2, 1) := by decide +kernel
theorem dX0_turnRound_19 : decode cX0_turnRound 19 = .ok (.iaload, 1) := by decide +kernel
theorem dX0_turnRound_20 : decode cX0_turnRound 20 = .ok (.ishl, 1) := by decide +kernel
theorem dX0_turnRound_21 : decode cX0_turnRound 21 = .ok (.ior, 1) := by decide +kernel
theorem dX0_turnRound_22 : decode cX0_turnRound 22 = .ok (.istore_n 1, 1) := by decide +kernel
theorem dX0_turnRound_23 : decode cX0_turnRound 23 = .ok (.aload_n 0, 1) := by decide +kernel
theorem dX0_turnRound_24 : decode cX0_turnRound 24 = .ok (.getfield 22, 3) := by decide +kernel
theorem dX0_turnRound_27 : decode cX0_turnRound 27 = .ok (.aload_n 0, 1) := by decide +kernel
theorem dX0_turnRound_28 : decode cX0_turnRound 28 = .ok (.getfield 18, 3) := by decide +kernel
theorem dX0_turnRound_31 : decode cX0_turnRound 31 = .ok (.iload_n 2, 1) := by decide +kernel
theorem dX0_turnRound_32 : decode cX0_turnRound 32 = .ok (.iaload, 1) := by decide +kernel
theorem dX0_turnRound_33 : decode cX0_turnRound 33 = .ok (.iload_n 2, 1) := by decide +kernel
theorem dX0_turnRound_34 : decode cX0_turnRound 34 = .ok (.iastore, 1) := by decide +kernel
theorem dX0_turnRound_35 : decode cX0_turnRound 35 = .ok (.iinc 2 1, 3) := by decide +kernel
theorem dX0_turnRound_38 : decode cX0_turnRound 38 = .ok (.goto (-34), 3) := by decide +kernel
theorem dX0_turnRound_41 : decode cX0_turnRound 41 = .ok (.iload_n 1, 1) := by decide +kernel
theorem dX0_turnRound_42 : decode cX0_turnRound 42 = .ok (.invokestatic 43, 3) := by decide +kernel
theorem dX0_turnRound_45 : decode cX0_turnRound 45 = .ok (.aload_n 0, 1) := by decide +kernel
theorem dX0_turnRound_46 : decode cX0_turnRound 46 = .ok (.getfield 9, 3) := by decide +kernel
theorem dX0_turnRound_49 : decode cX0_turnRound 49 = .ok (.if_icmp .ne 7, 3) := by decide +kernel
theorem dX0_turnRound_52 : decode cX0_turnRound 52 = .ok (.iconst 1, 1) := by decide +kernel
theorem dX0_turnRound_53 : decode cX0_turnRound 53 = .ok (.goto 4, 3) := by decide +kernel
theorem dX0_turnRound_56 : decode cX0_turnRound 56 = .ok (.iconst 0, 1) := by decide +kernel
theorem dX0_turnRound_57 : decode cX0_turnRound 57 = .ok (.ireturn, 1) := by decide +kernel
set_option maxRecDepth 20000 in
theorem ggX0_leadFurther_X0_round : GoodIn wsX0_leadFurther wsX0_round := goodIn_r _ [8, 1, 9, 10, 11, 12] (by decide +kernel) (by decide +kernel)
set_option maxRecDepth 20000 in
theorem gX0_leadFurther_X0_round : GoodIn wsX0_leadFurther (wsV RX0 71 RX0 yX0_round wsX0_round) := goodIn_app (goodIn_of _ (by decide +kernel)) ggX0_leadFurther_X0_round
theorem dX0_leadFurther_0 : decode cX0_leadFurther 0 = .ok (.iconst 0, 1) := by decide +kernel
theorem dX0_leadFurther_1 : decode cX0_leadFurther 1 = .ok (.istore_n 2, 1) := by decide +kernel
theorem dX0_leadFurther_2 : decode cX0_leadFurther 2 = .ok (.iload_n 2, 1) := by decide +kernel
theorem dX0_leadFurther_3 : decode cX0_leadFurther 3 = .ok (.aload_n 0, 1) := by decide +kernel
theorem dX0_leadFurther_4 : decode cX0_leadFurther 4 = .ok (.getfield 9, 3) := by decide +kernel
theorem dX0_leadFurther_7 : decode cX0_leadFurther 7 = .ok (.if_icmp .ge 27, 3) := by decide +kernel
theorem dX0_leadFurther_10 : decode cX0_leadFurther 10 = .ok (.aload_n 0, 1) := by decide +kernel
theorem dX0_leadFurther_11 : decode cX0_leadFurther 11 = .ok (.getfield 22, 3) := by decide +kernel
theorem dX0_leadFurther_14 : decode cX0_leadFurther 14 = .ok (.iload_n 2, 1) := by decide +kernel
theorem dX0_leadFurther_15 : decode cX0_leadFurther 15 = .ok (.aload_n 0, 1) := by decide +kernel
theorem dX0_leadFurther_16 : decode cX0_leadFurther 16 = .ok (.aload_n 0, 1) := by decide +kernel
theorem dX0_leadFurther_17 : decode cX0_leadFurther 17 = .ok (.getfield 18, 3) := by decide +kernel
theorem dX0_leadFurther_20 : decode cX0_leadFurther 20 = .ok (.iload_n 2, 1) := by decide +kernel
theorem dX0_leadFurther_21 : decode cX0_leadFurther 21 = .ok (.iaload, 1) := by decide +kernel
theorem dX0_leadFurther_22 : decode cX0_leadFurther 22 = .ok (.iload_n 1, 1) := by decide +kernel
theorem dX0_leadFurther_23 : decode cX0_leadFurther 23 = .ok (.iadd, 1) := by decide +kernel
theorem dX0_leadFurther_24 : decode cX0_leadFurther 24 = .ok (.invokevirtual 71, 3) := by decide +kernel
theorem dX0_leadFurther_27 : decode cX0_leadFurther 27 = .ok (.iastore, 1) := by decide +kernel
theorem dX0_leadFurther_28 : decode cX0_leadFurther 28 = .ok (.iinc 2 1, 3) := by decide +kernel
theorem dX0_leadFurther_31 : decode cX0_leadFurther 31 = .ok (.goto (-29), 3) := by decide +kernel
theorem dX0_leadFurther_34 : decode cX0_leadFurther 34 = .ok (.return_, 1) := by decide +kernel
theorem dX0_round_0 : decode cX0_round 0 = .ok (.aload_n 0, 1) := by decide +kernel
theorem dX0_round_1 : decode cX0_round 1 = .ok (.getfield 9, 3) := by decide +kernel
theorem dX0_round_4 : decode cX0_round 4 = .ok (.ifCond .le 12, 3) := by decide +kernel
theorem dX0_round_7 : decode cX0_round 7 = .ok (.iload_n 1, 1) := by decide +kernel
theorem dX0_round_8 : decode cX0_round 8 = .ok (.aload_n 0, 1) := by decide +kernel
theorem dX0_round_9 : decode cX0_round 9 = .ok (.getfield 9, 3) := by decide +kernel
theorem dX0_round_12 : decode cX0_round 12 = .ok (.irem, 1) := by decide +kernel
theorem dX0_round_13 : decode cX0_round 13 = .ok (.goto 4, 3) := by decide +kernel
theorem dX0_round_16 : decode cX0_round 16 = .ok (.iconst 0, 1) := by decide +kernel
theorem dX0_round_17 : decode cX0_round 17 = .ok (.ireturn, 1) := by decide +kernel
theorem dX1_init_0 : decode cX1_init 0 = .ok (.aload_n 0, 1) := by decide +kernel
theorem dX1_init_1 : decode cX1_init 1 = .ok (.invokespecial 1, 3) := by decide +kernel
theorem dX1_init_4 : decode cX1_init 4 = .ok (.aload_n 0, 1) := by decide +kernel
theorem dX1_init_5 : decode cX1_init 5 = .ok (.bipush 10, 2) := by decide +kernel
theorem dX1_init_7 : decode cX1_init 7 = .ok (.newarray .int, 2) := by decide +kernel
theorem dX1_init_9 : decode cX1_init 9 = .ok (.putfield 9, 3) := by decide +kernel
theorem dX1_init_12 : decode cX1_init 12 = .ok (.return_, 1) := by decide +kernel
theorem dX1_forget_0 : decode cX1_forget 0 = .ok (.aload_n 0, 1) := by decide +kernel
theorem dX1_forget_1 : decode cX1_forget 1 = .ok (.iconst 0, 1) := by decide +kernel
theorem dX1_forget_2 : decode cX1_forget 2 = .ok (.putfield 13, 3) := by decide +kernel
theorem dX1_forget_5 : decode cX1_forget 5 = .ok (.return_, 1) := by decide +kernel
set_option maxRecDepth 20000 in
theorem ggX1_keep_X1_forgetOldest : GoodIn wsX1_keep wsX1_forgetOldest := goodIn_r _ [7, 2, 1, 8, 9] (by decide +kernel) (by decide +kernel)
set_option maxRecDepth 20000 in
theorem gX1_keep_X1_forgetOldest : GoodIn wsX1_keep (wsV RX1 17 RX1 yX1_forgetOldest wsX1_forgetOldest) := goodIn_app (goodIn_of _ (by decide +kernel)) ggX1_keep_X1_forgetOldest
theorem dX1_keep_0 : decode cX1_keep 0 = .ok (.aload_n 0, 1) := by decide +kernel
theorem dX1_keep_1 : decode cX1_keep 1 = .ok (.getfield 13, 3) := by decide +kernel
theorem dX1_keep_4 : decode cX1_keep 4 = .ok (.bipush 10, 2) := by decide +kernel
theorem dX1_keep_6 : decode cX1_keep 6 = .ok (.if_icmp .ne 7, 3) := by decide +kernel
theorem dX1_keep_9 : decode cX1_keep 9 = .ok (.aload_n 0, 1) := by decide +kernel
theorem dX1_keep_10 : decode cX1_keep 10 = .ok (.invokevirtual 17, 3) := by decide +kernel
theorem dX1_keep_13 : decode cX1_keep 13 = .ok (.aload_n 0, 1) := by decide +kernel
theorem dX1_keep_14 : decode cX1_keep 14 = .ok (.getfield 9, 3) := by decide +kernel
theorem dX1_keep_17 : decode cX1_keep 17 = .ok (.aload_n 0, 1) := by decide +kernel
theorem dX1_keep_18 : decode cX1_keep 18 = .ok (.getfield 13, 3) := by decide +kernel
theorem dX1_keep_21 : decode cX1_keep 21 = .ok (.iload_n 1, 1) := by decide +kernel
theorem dX1_keep_22 : decode cX1_keep 22 = .ok (.iastore, 1) := by decide +kernel
theorem dX1_keep_23 : decode cX1_keep 23 = .ok (.aload_n 0, 1) := by decide +kernel
theorem dX1_keep_24 : decode cX1_keep 24 = .ok (.dup, 1) := by decide +kernel
theorem dX1_keep_25 : decode cX1_keep 25 = .ok (.getfield 13, 3) := by decide +kernel
theorem dX1_keep_28 : decode cX1_keep 28 = .ok (.iconst 1, 1) := by decide +kernel
theorem dX1_keep_29 : decode cX1_keep 29 = .ok (.iadd, 1) := by decide +kernel
theorem dX1_keep_30 : decode cX1_keep 30 = .ok (.putfield 13, 3) := by decide +kernel
theorem dX1_keep_33 : decode cX1_keep 33 = .ok (.return_, 1) := by decide +kernel
theorem dX1_forgetOldest_0 : decode cX1_forgetOldest 0 = .ok (.iconst 1, 1) := by decide +kernel
theorem dX1_forgetOldest_1 : decode cX1_forgetOldest 1 = .ok (.istore_n 1, 1) := by decide +kernel
theorem dX1_forgetOldest_2 : decode cX1_forgetOldest 2 = .ok (.iload_n 1, 1) := by decide +kernel
theorem dX1_forgetOldest_3 : decode cX1_forgetOldest 3 = .ok (.bipush 10, 2) := by decide +kernel
theorem dX1_forgetOldest_5 : decode cX1_forgetOldest 5 = .ok (.if_icmp .ge 23, 3) := by decide +kernel
theorem dX1_forgetOldest_8 : decode cX1_forgetOldest 8 = .ok (.aload_n 0, 1) := by decide +kernel
theorem dX1_forgetOldest_9 : decode cX1_forgetOldest 9 = .ok (.getfield 9, 3) := by decide +kernel
theorem dX1_forgetOldest_12 : decode cX1_forgetOldest 12 = .ok (.iload_n 1, 1) := by decide +kernel
theorem dX1_forgetOldest_13 : decode cX1_forgetOldest 13 = .ok (.iconst 1, 1) := by decide +kernel
theorem dX1_forgetOldest_14 : decode cX1_forgetOldest 14 = .ok (.isub, 1) := by decide +kernel
theorem dX1_forgetOldest_15 : decode cX1_forgetOldest 15 = .ok (.aload_n 0, 1) := by decide +kernel
theorem dX1_forgetOldest_16 : decode cX1_forgetOldest 16 = .ok (.getfield 9, 3) := by decide +kernel
theorem dX1_forgetOldest_19 : decode cX1_forgetOldest 19 = .ok (.iload_n 1, 1) := by decide +kernel
theorem dX1_forgetOldest_20 : decode cX1_forgetOldest 20 = .ok (.iaload, 1) := by decide +kernel
theorem dX1_forgetOldest_21 : decode cX1_forgetOldest 21 = .ok (.iastore, 1) := by decide +kernel
theorem dX1_forgetOldest_22 : decode cX1_forgetOldest 22 = .ok (.iinc 1 1, 3) := by decide +kernel
theorem dX1_forgetOldest_25 : decode cX1_forgetOldest 25 = .ok (.goto (-23), 3) := by decide +kernel
theorem dX1_forgetOldest_28 : decode cX1_forgetOldest 28 = .ok (.aload_n 0, 1) := by decide +kernel
theorem dX1_forgetOldest_29 : decode cX1_forgetOldest 29 = .ok (.dup, 1) := by decide +kernel
theorem dX1_forgetOldest_30 : decode cX1_forgetOldest 30 = .ok (.getfield 13, 3) := by decide +kernel
theorem dX1_forgetOldest_33 : decode cX1_forgetOldest 33 = .ok (.iconst 1, 1) := by decide +kernel
theorem dX1_forgetOldest_34 : decode cX1_forgetOldest 34 = .ok (.isub, 1) := by decide +kernel
theorem dX1_forgetOldest_35 : decode cX1_forgetOldest 35 = .ok (.putfield 13, 3) := by decide +kernel
theorem dX1_forgetOldest_38 : decode cX1_forgetOldest 38 = .ok (.return_, 1) := by decide +kernel
theorem dX1_takeLatest_0 : decode cX1_takeLatest 0 = .ok (.aload_n 0, 1) := by decide +kernel
theorem dX1_takeLatest_1 : decode cX1_takeLatest 1 = .ok (.getfield 13, 3) := by decide +kernel
theorem dX1_takeLatest_4 : decode cX1_takeLatest 4 = .ok (.ifCond .le 13, 3) := by decide +kernel
theorem dX1_takeLatest_7 : decode cX1_takeLatest 7 = .ok (.aload_n 0, 1) := by decide +kernel
theorem dX1_takeLatest_8 : decode cX1_takeLatest 8 = .ok (.dup, 1) := by decide +kernel
theorem dX1_takeLatest_9 : decode cX1_takeLatest 9 = .ok (.getfield 13, 3) := by decide +kernel
theorem dX1_takeLatest_12 : decode cX1_takeLatest 12 = .ok (.iconst 1, 1) := by decide +kernel
theorem dX1_takeLatest_13 : decode cX1_takeLatest 13 = .ok (.isub, 1) := by decide +kernel
theorem dX1_takeLatest_14 : decode cX1_takeLatest 14 = .ok (.putfield 13, 3) := by decide +kernel
theorem dX1_takeLatest_17 : decode cX1_takeLatest 17 = .ok (.aload_n 0, 1) := by decide +kernel
theorem dX1_takeLatest_18 : decode cX1_takeLatest 18 = .ok (.getfield 9, 3) := by decide +kernel
theorem dX1_takeLatest_21 : decode cX1_takeLatest 21 = .ok (.aload_n 0, 1) := by decide +kernel
theorem dX1_takeLatest_22 : decode cX1_takeLatest 22 = .ok (.getfield 13, 3) := by decide +kernel
theorem dX1_takeLatest_25 : decode cX1_takeLatest 25 = .ok (.iaload, 1) := by decide +kernel
theorem dX1_takeLatest_26 : decode cX1_takeLatest 26 = .ok (.ireturn, 1) := by decide +kernel
theorem dX2_ofRing_0 : decode cX2_ofRing 0 = .ok (.iload_n 0, 1) := by decide +kernel
theorem dX2_ofRing_1 : decode cX2_ofRing 1 = .ok (.iconst 1, 1) := by decide +kernel
theorem dX2_ofRing_2 : decode cX2_ofRing 2 = .ok (.if_icmp .ne 5, 3) := by decide +kernel
theorem dX2_ofRing_5 : decode cX2_ofRing 5 = .ok (.iconst 3, 1) := by decide +kernel
theorem dX2_ofRing_6 : decode cX2_ofRing 6 = .ok (.ireturn, 1) := by decide +kernel
theorem dX2_ofRing_7 : decode cX2_ofRing 7 = .ok (.iload_n 0, 1) := by decide +kernel
theorem dX2_ofRing_8 : decode cX2_ofRing 8 = .ok (.iconst 2, 1) := by decide +kernel
theorem dX2_ofRing_9 : decode cX2_ofRing 9 = .ok (.if_icmp .ne 5, 3) := by decide +kernel
theorem dX2_ofRing_12 : decode cX2_ofRing 12 = .ok (.iconst 4, 1) := by decide +kernel
theorem dX2_ofRing_13 : decode cX2_ofRing 13 = .ok (.ireturn, 1) := by decide +kernel
theorem dX2_ofRing_14 : decode cX2_ofRing 14 = .ok (.iload_n 0, 1) := by decide +kernel
theorem dX2_ofRing_15 : decode cX2_ofRing 15 = .ok (.iconst 2, 1) := by decide +kernel
theorem dX2_ofRing_16 : decode cX2_ofRing 16 = .ok (.irem, 1) := by decide +kernel
theorem dX2_ofRing_17 : decode cX2_ofRing 17 = .ok (.ifCond .ne 7, 3) := by decide +kernel
theorem dX2_ofRing_20 : decode cX2_ofRing 20 = .ok (.iconst 1, 1) := by decide +kernel
theorem dX2_ofRing_21 : decode cX2_ofRing 21 = .ok (.goto 4, 3) := by decide +kernel
theorem dX2_ofRing_24 : decode cX2_ofRing 24 = .ok (.iconst 2, 1) := by decide +kernel
theorem dX2_ofRing_25 : decode cX2_ofRing 25 = .ok (.ireturn, 1) := by decide +kernel
theorem dX2_isUnder_0 : decode cX2_isUnder 0 = .ok (.iload_n 0, 1) := by decide +kernel
theorem dX2_isUnder_1 : decode cX2_isUnder 1 = .ok (.istore_n 2, 1) := by decide +kernel
theorem dX2_isUnder_2 : decode cX2_isUnder 2 = .ok (.iconst 0, 1) := by decide +kernel
theorem dX2_isUnder_3 : decode cX2_isUnder 3 = .ok (.istore_n 3, 1) := by decide +kernel
theorem dX2_isUnder_4 : decode cX2_isUnder 4 = .ok (.iload_n 3, 1) := by decide +kernel
theorem dX2_isUnder_5 : decode cX2_isUnder 5 = .ok (.iconst 4, 1) := by decide +kernel
theorem dX2_isUnder_6 : decode cX2_isUnder 6 = .ok (.if_icmp .gt 31, 3) := by decide +kernel
theorem dX2_isUnder_9 : decode cX2_isUnder 9 = .ok (.iload_n 2, 1) := by decide +kernel
theorem dX2_isUnder_10 : decode cX2_isUnder 10 = .ok (.ifCond .lt 27, 3) := by decide +kernel
theorem dX2_isUnder_13 : decode cX2_isUnder 13 = .ok (.iload_n 2, 1) := by decide +kernel
theorem dX2_isUnder_14 : decode cX2_isUnder 14 = .ok (.iconst 4, 1) := by decide +kernel
theorem dX2_isUnder_15 : decode cX2_isUnder 15 = .ok (.if_icmp .gt 22, 3) := by decide +kernel
theorem dX2_isUnder_18 : decode cX2_isUnder 18 = .ok (.iload_n 2, 1) := by decide +kernel
theorem dX2_isUnder_19 : decode cX2_isUnder 19 = .ok (.iload_n 1, 1) := by decide +kernel
theorem dX2_isUnder_20 : decode cX2_isUnder 20 = .ok (.if_icmp .ne 5, 3) := by decide +kernel
theorem dX2_isUnder_23 : decode cX2_isUnder 23 = .ok (.iconst 1, 1) := by decide +kernel
theorem dX2_isUnder_24 : decode cX2_isUnder 24 = .ok (.ireturn, 1) := by decide +kernel
theorem dX2_isUnder_25 : decode cX2_isUnder 25 = .ok (.getstatic 9, 3) := by decide +kernel
theorem dX2_isUnder_28 : decode cX2_isUnder 28 = .ok (.iload_n 2, 1) := by decide +kernel
theorem dX2_isUnder_29 : decode cX2_isUnder 29 = .ok (.iaload, 1) := by decide +kernel
theorem dX2_isUnder_30 : decode cX2_isUnder 30 = .ok (.istore_n 2, 1) := by decide +kernel
theorem dX2_isUnder_31 : decode cX2_isUnder 31 = .ok (.iinc 3 1, 3) := by decide +kernel
theorem dX2_isUnder_34 : decode cX2_isUnder 34 = .ok (.goto (-30), 3) := by decide +kernel
theorem dX2_isUnder_37 : decode cX2_isUnder 37 = .ok (.iconst 0, 1) := by decide +kernel
theorem dX2_isUnder_38 : decode cX2_isUnder 38 = .ok (.ireturn, 1) := by decide +kernel
set_option maxRecDepth 20000 in
theorem ggX4_init_X5_init : GoodIn wsX4_init wsX5_init := goodIn_r _ [15, 16, 2, 3, 8, 17, 18, 19, 20, 21, 22, 23, 24, 25, 26, 27, 28, 29, 30, 31] (by decide +kernel) (by decide +kernel)
set_option maxRecDepth 20000 in
theorem gX4_init_X5_init_n9 : GoodIn wsX4_init (wsX5_init) := ggX4_init_X5_init
theorem dX4_init_0 : decode cX4_init 0 = .ok (.aload_n 0, 1) := by decide +kernel
theorem dX4_init_1 : decode cX4_init 1 = .ok (.invokespecial 1, 3) := by decide +kernel
theorem dX4_init_4 : decode cX4_init 4 = .ok (.aload_n 0, 1) := by decide +kernel
theorem dX4_init_5 : decode cX4_init 5 = .ok (.new 7, 3) := by decide +kernel
theorem dX4_init_8 : decode cX4_init 8 = .ok (.dup, 1) := by decide +kernel
theorem dX4_init_9 : decode cX4_init 9 = .ok (.invokespecial 9, 3) := by decide +kernel
theorem dX4_init_12 : decode cX4_init 12 = .ok (.putfield 10, 3) := by decide +kernel
theorem dX4_init_15 : decode cX4_init 15 = .ok (.aload_n 0, 1) := by decide +kernel
theorem dX4_init_16 : decode cX4_init 16 = .ok (.bipush 7, 2) := by decide +kernel
theorem dX4_init_18 : decode cX4_init 18 = .ok (.newarray .int, 2) := by decide +kernel
theorem dX4_init_20 : decode cX4_init 20 = .ok (.putfield 16, 3) := by decide +kernel
theorem dX4_init_23 : decode cX4_init 23 = .ok (.aload_n 0, 1) := by decide +kernel
theorem dX4_init_24 : decode cX4_init 24 = .ok (.sipush 153, 3) := by decide +kernel
theorem dX4_init_27 : decode cX4_init 27 = .ok (.newarray .int, 2) := by decide +kernel
theorem dX4_init_29 : decode cX4_init 29 = .ok (.putfield 20, 3) := by decide +kernel
theorem dX4_init_32 : decode cX4_init 32 = .ok (.aload_n 0, 1) := by decide +kernel
theorem dX4_init_33 : decode cX4_init 33 = .ok (.bipush 12, 2) := by decide +kernel
theorem dX4_init_35 : decode cX4_init 35 = .ok (.newarray .int, 2) := by decide +kernel
theorem dX4_init_37 : decode cX4_init 37 = .ok (.putfield 23, 3) := by decide +kernel
theorem dX4_init_40 : decode cX4_init 40 = .ok (.aload_n 0, 1) := by decide +kernel
theorem dX4_init_41 : decode cX4_init 41 = .ok (.bipush 6, 2) := by decide +kernel
theorem dX4_init_43 : decode cX4_init 43 = .ok (.newarray .int, 2) := by decide +kernel
theorem dX4_init_45 : decode cX4_init 45 = .ok (.putfield 26, 3) := by decide +kernel
theorem dX4_init_48 : decode cX4_init 48 = .ok (.aload_n 0, 1) := by decide +kernel
theorem dX4_init_49 : decode cX4_init 49 = .ok (.bipush 6, 2) := by decide +kernel
theorem dX4_init_51 : decode cX4_init 51 = .ok (.newarray .int, 2) := by decide +kernel
theorem dX4_init_53 : decode cX4_init 53 = .ok (.putfield 29, 3) := by decide +kernel
theorem dX4_init_56 : decode cX4_init 56 = .ok (.return_, 1) := by decide +kernel
theorem dX5_init_0 : decode cX5_init 0 = .ok (.aload_n 0, 1) := by decide +kernel
theorem dX5_init_1 : decode cX5_init 1 = .ok (.invokespecial 3, 3) := by decide +kernel
theorem dX5_init_4 : decode cX5_init 4 = .ok (.aload_n 0, 1) := by decide +kernel
theorem dX5_init_5 : decode cX5_init 5 = .ok (.bipush 8, 2) := by decide +kernel
theorem dX5_init_7 : decode cX5_init 7 = .ok (.newarray .int, 2) := by decide +kernel
theorem dX5_init_9 : decode cX5_init 9 = .ok (.putfield 9, 3) := by decide +kernel
theorem dX5_init_12 : decode cX5_init 12 = .ok (.aload_n 0, 1) := by decide +kernel
theorem dX5_init_13 : decode cX5_init 13 = .ok (.bipush 8, 2) := by decide +kernel
theorem dX5_init_15 : decode cX5_init 15 = .ok (.newarray .long, 2) := by decide +kernel
theorem dX5_init_17 : decode cX5_init 17 = .ok (.putfield 15, 3) := by decide +kernel
theorem dX5_init_20 : decode cX5_init 20 = .ok (.aload_n 0, 1) := by decide +kernel
theorem dX5_init_21 : decode cX5_init 21 = .ok (.bipush 8, 2) := by decide +kernel
theorem dX5_init_23 : decode cX5_init 23 = .ok (.newarray .long, 2) := by decide +kernel
theorem dX5_init_25 : decode cX5_init 25 = .ok (.putfield 19, 3) := by decide +kernel
theorem dX5_init_28 : decode cX5_init 28 = .ok (.aload_n 0, 1) := by decide +kernel
theorem dX5_init_29 : decode cX5_init 29 = .ok (.bipush 31, 2) := by decide +kernel
theorem dX5_init_31 : decode cX5_init 31 = .ok (.newarray .long, 2) := by decide +kernel
theorem dX5_init_33 : decode cX5_init 33 = .ok (.putfield 22, 3) := by decide +kernel
theorem dX5_init_36 : decode cX5_init 36 = .ok (.aload_n 0, 1) := by decide +kernel
theorem dX5_init_37 : decode cX5_init 37 = .ok (.bipush 31, 2) := by decide +kernel
theorem dX5_init_39 : decode cX5_init 39 = .ok (.newarray .long, 2) := by decide +kernel
theorem dX5_init_41 : decode cX5_init 41 = .ok (.putfield 25, 3) := by decide +kernel
theorem dX5_init_44 : decode cX5_init 44 = .ok (.aload_n 0, 1) := by decide +kernel
theorem dX5_init_45 : decode cX5_init 45 = .ok (.bipush 9, 2) := by decide +kernel
theorem dX5_init_47 : decode cX5_init 47 = .ok (.newarray .long, 2) := by decide +kernel
theorem dX5_init_49 : decode cX5_init 49 = .ok (.putfield 28, 3) := by decide +kernel
theorem dX5_init_52 : decode cX5_init 52 = .ok (.return_, 1) := by decide +kernel
theorem dX6_init_0 : decode cX6_init 0 = .ok (.aload_n 0, 1) := by decide +kernel
theorem dX6_init_1 : decode cX6_init 1 = .ok (.invokespecial 1, 3) := by decide +kernel
theorem dX6_init_4 : decode cX6_init 4 = .ok (.aload_n 0, 1) := by decide +kernel
theorem dX6_init_5 : decode cX6_init 5 = .ok (.bipush 60, 2) := by decide +kernel
theorem dX6_init_7 : decode cX6_init 7 = .ok (.newarray .byte, 2) := by decide +kernel
theorem dX6_init_9 : decode cX6_init 9 = .ok (.putfield 9, 3) := by decide +kernel
theorem dX6_init_12 : decode cX6_init 12 = .ok (.return_, 1) := by decide +kernel
theorem dX6_put_0 : decode cX6_put 0 = .ok (.aload_n 0, 1) := by decide +kernel
theorem dX6_put_1 : decode cX6_put 1 = .ok (.getfield 13, 3) := by decide +kernel
theorem dX6_put_4 : decode cX6_put 4 = .ok (.bipush 60, 2) := by decide +kernel
theorem dX6_put_6 : decode cX6_put 6 = .ok (.if_icmp .ge 24, 3) := by decide +kernel
theorem dX6_put_9 : decode cX6_put 9 = .ok (.aload_n 0, 1) := by decide +kernel
theorem dX6_put_10 : decode cX6_put 10 = .ok (.getfield 9, 3) := by decide +kernel
theorem dX6_put_13 : decode cX6_put 13 = .ok (.aload_n 0, 1) := by decide +kernel
theorem dX6_put_14 : decode cX6_put 14 = .ok (.getfield 13, 3) := by decide +kernel
theorem dX6_put_17 : decode cX6_put 17 = .ok (.iload_n 1, 1) := by decide +kernel
theorem dX6_put_18 : decode cX6_put 18 = .ok (.i2b, 1) := by decide +kernel
theorem dX6_put_19 : decode cX6_put 19 = .ok (.bastore, 1) := by decide +kernel
theorem dX6_put_20 : decode cX6_put 20 = .ok (.aload_n 0, 1) := by decide +kernel
theorem dX6_put_21 : decode cX6_put 21 = .ok (.dup, 1) := by decide +kernel
theorem dX6_put_22 : decode cX6_put 22 = .ok (.getfield 13, 3) := by decide +kernel
theorem dX6_put_25 : decode cX6_put 25 = .ok (.iconst 1, 1) := by decide +kernel
theorem dX6_put_26 : decode cX6_put 26 = .ok (.iadd, 1) := by decide +kernel
theorem dX6_put_27 : decode cX6_put 27 = .ok (.putfield 13, 3) := by decide +kernel
theorem dX6_put_30 : decode cX6_put 30 = .ok (.return_, 1) := by decide +kernel
theorem dX7_init_0 : decode cX7_init 0 = .ok (.aload_n 0, 1) := by decide +kernel
theorem dX7_init_1 : decode cX7_init 1 = .ok (.invokespecial 3, 3) := by decide +kernel
theorem dX7_init_4 : decode cX7_init 4 = .ok (.aload_n 0, 1) := by decide +kernel
theorem dX7_init_5 : decode cX7_init 5 = .ok (.bipush 8, 2) := by decide +kernel
theorem dX7_init_7 : decode cX7_init 7 = .ok (.newarray .int, 2) := by decide +kernel
theorem dX7_init_9 : decode cX7_init 9 = .ok (.putfield 9, 3) := by decide +kernel
theorem dX7_init_12 : decode cX7_init 12 = .ok (.aload_n 0, 1) := by decide +kernel
theorem dX7_init_13 : decode cX7_init 13 = .ok (.iconst 3, 1) := by decide +kernel
theorem dX7_init_14 : decode cX7_init 14 = .ok (.newarray .long, 2) := by decide +kernel
theorem dX7_init_16 : decode cX7_init 16 = .ok (.putfield 15, 3) := by decide +kernel
theorem dX7_init_19 : decode cX7_init 19 = .ok (.return_, 1) := by decide +kernel
set_option maxRecDepth 20000 in
theorem ggX7_faultIn_X7_begin : GoodIn wsX7_faultIn wsX7_begin := goodIn_r _ [8, 3, 9, 10, 11, 12, 33, 34, 35, 36, 37, 38, 39, 40, 41] (by decide +kernel) (by decide +kernel)
set_option maxRecDepth 20000 in
theorem gX7_faultIn_X7_begin : GoodIn wsX7_faultIn (wsV RX7 19 RX7 yX7_begin wsX7_begin) := goodIn_app (goodIn_of _ (by decide +kernel)) ggX7_faultIn_X7_begin
set_option maxRecDepth 20000 in
theorem ggX7_faultIn_X7_canTake : GoodIn wsX7_faultIn wsX7_canTake := goodIn_r _ [16, 3, 17, 18, 19, 7, 20, 9, 10, 21, 12, 22, 23, 24, 25, 26, 11, 27, 28, 29, 30, 33, 34, 35, 36, 37, 38, 39, 40, 41] (by decide +kernel) (by decide +kernel)
set_option maxRecDepth 20000 in
theorem gX7_faultIn_X7_canTake : GoodIn wsX7_faultIn (wsV RX7 33 RX7 yX7_canTake wsX7_canTake) := goodIn_app (goodIn_of _ (by decide +kernel)) ggX7_faultIn_X7_canTake
theorem dX7_faultIn_0 : decode cX7_faultIn 0 = .ok (.aload_n 0, 1) := by decide +kernel
theorem dX7_faultIn_1 : decode cX7_faultIn 1 = .ok (.iload_n 2, 1) := by decide +kernel
theorem dX7_faultIn_2 : decode cX7_faultIn 2 = .ok (.invokevirtual 19, 3) := by decide +kernel
theorem dX7_faultIn_5 : decode cX7_faultIn 5 = .ok (.iconst 0, 1) := by decide +kernel
theorem dX7_faultIn_6 : decode cX7_faultIn 6 = .ok (.istore_n 3, 1) := by decide +kernel
theorem dX7_faultIn_7 : decode cX7_faultIn 7 = .ok (.iload_n 3, 1) := by decide +kernel
theorem dX7_faultIn_8 : decode cX7_faultIn 8 = .ok (.aload_n 1, 1) := by decide +kernel
theorem dX7_faultIn_9 : decode cX7_faultIn 9 = .ok (.getfield 23, 3) := by decide +kernel
theorem dX7_faultIn_12 : decode cX7_faultIn 12 = .ok (.if_icmp .ge 24, 3) := by decide +kernel
theorem dX7_faultIn_15 : decode cX7_faultIn 15 = .ok (.aload_n 0, 1) := by decide +kernel
theorem dX7_faultIn_16 : decode cX7_faultIn 16 = .ok (.aload_n 1, 1) := by decide +kernel
theorem dX7_faultIn_17 : decode cX7_faultIn 17 = .ok (.getfield 29, 3) := by decide +kernel
theorem dX7_faultIn_20 : decode cX7_faultIn 20 = .ok (.iload_n 3, 1) := by decide +kernel
theorem dX7_faultIn_21 : decode cX7_faultIn 21 = .ok (.baload, 1) := by decide +kernel
theorem dX7_faultIn_22 : decode cX7_faultIn 22 = .ok (.invokevirtual 33, 3) := by decide +kernel
theorem dX7_faultIn_25 : decode cX7_faultIn 25 = .ok (.ifCond .ne 5, 3) := by decide +kernel
theorem dX7_faultIn_28 : decode cX7_faultIn 28 = .ok (.iload_n 3, 1) := by decide +kernel
theorem dX7_faultIn_29 : decode cX7_faultIn 29 = .ok (.ireturn, 1) := by decide +kernel
theorem dX7_faultIn_30 : decode cX7_faultIn 30 = .ok (.iinc 3 1, 3) := by decide +kernel
theorem dX7_faultIn_33 : decode cX7_faultIn 33 = .ok (.goto (-26), 3) := by decide +kernel
theorem dX7_faultIn_36 : decode cX7_faultIn 36 = .ok (.aload_n 0, 1) := by decide +kernel
theorem dX7_faultIn_37 : decode cX7_faultIn 37 = .ok (.getfield 37, 3) := by decide +kernel
theorem dX7_faultIn_40 : decode cX7_faultIn 40 = .ok (.iconst 3, 1) := by decide +kernel
theorem dX7_faultIn_41 : decode cX7_faultIn 41 = .ok (.if_icmp .ne 7, 3) := by decide +kernel
theorem dX7_faultIn_44 : decode cX7_faultIn 44 = .ok (.iconst (-1), 1) := by decide +kernel
theorem dX7_faultIn_45 : decode cX7_faultIn 45 = .ok (.goto 7, 3) := by decide +kernel
theorem dX7_faultIn_48 : decode cX7_faultIn 48 = .ok (.aload_n 1, 1) := by decide +kernel
theorem dX7_faultIn_49 : decode cX7_faultIn 49 = .ok (.getfield 23, 3) := by decide +kernel
theorem dX7_faultIn_52 : decode cX7_faultIn 52 = .ok (.ireturn, 1) := by decide +kernel
set_option maxRecDepth 20000 in
theorem ggX7_keepReasons_J6_bitCount_0f7a4 : GoodIn wsX7_keepReasons wsJ6_bitCount_0f7a4 := goodIn_r _ [8, 9, 10, 11] (by decide +kernel) (by decide +kernel)
set_option maxRecDepth 20000 in
theorem gX7_keepReasons_J6_bitCount_0f7a4 : GoodIn wsX7_keepReasons (va_wsS RX7 50 yJ6_bitCount_0f7a4 wsJ6_bitCount_0f7a4) := goodIn_app (goodIn_of _ (by decide +kernel)) ggX7_keepReasons_J6_bitCount_0f7a4
theorem dX7_keepReasons_0 : decode cX7_keepReasons 0 = .ok (.aload_n 0, 1) := by decide +kernel
theorem dX7_keepReasons_1 : decode cX7_keepReasons 1 = .ok (.iconst 1, 1) := by decide +kernel
theorem dX7_keepReasons_2 : decode cX7_keepReasons 2 = .ok (.putfield 40, 3) := by decide +kernel
theorem dX7_keepReasons_5 : decode cX7_keepReasons 5 = .ok (.aload_n 0, 1) := by decide +kernel
theorem dX7_keepReasons_6 : decode cX7_keepReasons 6 = .ok (.getfield 15, 3) := by decide +kernel
theorem dX7_keepReasons_9 : decode cX7_keepReasons 9 = .ok (.iconst 0, 1) := by decide +kernel
theorem dX7_keepReasons_10 : decode cX7_keepReasons 10 = .ok (.aload_n 0, 1) := by decide +kernel
theorem dX7_keepReasons_11 : decode cX7_keepReasons 11 = .ok (.getfield 44, 3) := by decide +kernel
theorem dX7_keepReasons_14 : decode cX7_keepReasons 14 = .ok (.i2l, 1) := by decide +kernel
theorem dX7_keepReasons_15 : decode cX7_keepReasons 15 = .ok (.lastore, 1) := by decide +kernel
theorem dX7_keepReasons_16 : decode cX7_keepReasons 16 = .ok (.aload_n 0, 1) := by decide +kernel
theorem dX7_keepReasons_17 : decode cX7_keepReasons 17 = .ok (.getfield 15, 3) := by decide +kernel
theorem dX7_keepReasons_20 : decode cX7_keepReasons 20 = .ok (.iconst 1, 1) := by decide +kernel
theorem dX7_keepReasons_21 : decode cX7_keepReasons 21 = .ok (.aload_n 0, 1) := by decide +kernel
theorem dX7_keepReasons_22 : decode cX7_keepReasons 22 = .ok (.getfield 47, 3) := by decide +kernel
theorem dX7_keepReasons_25 : decode cX7_keepReasons 25 = .ok (.invokestatic 50, 3) := by decide +kernel
theorem dX7_keepReasons_28 : decode cX7_keepReasons 28 = .ok (.i2l, 1) := by decide +kernel
theorem dX7_keepReasons_29 : decode cX7_keepReasons 29 = .ok (.lastore, 1) := by decide +kernel
theorem dX7_keepReasons_30 : decode cX7_keepReasons 30 = .ok (.aload_n 0, 1) := by decide +kernel
theorem dX7_keepReasons_31 : decode cX7_keepReasons 31 = .ok (.getfield 15, 3) := by decide +kernel
theorem dX7_keepReasons_34 : decode cX7_keepReasons 34 = .ok (.iconst 2, 1) := by decide +kernel
theorem dX7_keepReasons_35 : decode cX7_keepReasons 35 = .ok (.iload_n 1, 1) := by decide +kernel
theorem dX7_keepReasons_36 : decode cX7_keepReasons 36 = .ok (.i2l, 1) := by decide +kernel
theorem dX7_keepReasons_37 : decode cX7_keepReasons 37 = .ok (.lastore, 1) := by decide +kernel
theorem dX7_keepReasons_38 : decode cX7_keepReasons 38 = .ok (.return_, 1) := by decide +kernel
theorem dX7_begin_0 : decode cX7_begin 0 = .ok (.aload_n 0, 1) := by decide +kernel
theorem dX7_begin_1 : decode cX7_begin 1 = .ok (.iconst 0, 1) := by decide +kernel
theorem dX7_begin_2 : decode cX7_begin 2 = .ok (.putfield 37, 3) := by decide +kernel
theorem dX7_begin_5 : decode cX7_begin 5 = .ok (.aload_n 0, 1) := by decide +kernel
theorem dX7_begin_6 : decode cX7_begin 6 = .ok (.iload_n 1, 1) := by decide +kernel
theorem dX7_begin_7 : decode cX7_begin 7 = .ok (.putfield 56, 3) := by decide +kernel
theorem dX7_begin_10 : decode cX7_begin 10 = .ok (.aload_n 0, 1) := by decide +kernel
theorem dX7_begin_11 : decode cX7_begin 11 = .ok (.iconst 0, 1) := by decide +kernel
theorem dX7_begin_12 : decode cX7_begin 12 = .ok (.putfield 47, 3) := by decide +kernel
theorem dX7_begin_15 : decode cX7_begin 15 = .ok (.aload_n 0, 1) := by decide +kernel
theorem dX7_begin_16 : decode cX7_begin 16 = .ok (.iconst 0, 1) := by decide +kernel
theorem dX7_begin_17 : decode cX7_begin 17 = .ok (.putfield 44, 3) := by decide +kernel
theorem dX7_begin_20 : decode cX7_begin 20 = .ok (.iconst 0, 1) := by decide +kernel
theorem dX7_begin_21 : decode cX7_begin 21 = .ok (.istore_n 2, 1) := by decide +kernel
theorem dX7_begin_22 : decode cX7_begin 22 = .ok (.iload_n 2, 1) := by decide +kernel
theorem dX7_begin_23 : decode cX7_begin 23 = .ok (.bipush 8, 2) := by decide +kernel
theorem dX7_begin_25 : decode cX7_begin 25 = .ok (.if_icmp .ge 16, 3) := by decide +kernel
theorem dX7_begin_28 : decode cX7_begin 28 = .ok (.aload_n 0, 1) := by decide +kernel
theorem dX7_begin_29 : decode cX7_begin 29 = .ok (.getfield 9, 3) := by decide +kernel
theorem dX7_begin_32 : decode cX7_begin 32 = .ok (.iload_n 2, 1) := by decide +kernel
theorem dX7_begin_33 : decode cX7_begin 33 = .ok (.iload_n 2, 1) := by decide +kernel
theorem dX7_begin_34 : decode cX7_begin 34 = .ok (.iastore, 1) := by decide +kernel
theorem dX7_begin_35 : decode cX7_begin 35 = .ok (.iinc 2 1, 3) := by decide +kernel
theorem dX7_begin_38 : decode cX7_begin 38 = .ok (.goto (-16), 3) := by decide +kernel
theorem dX7_begin_41 : decode cX7_begin 41 = .ok (.return_, 1) := by decide +kernel
set_option maxRecDepth 20000 in
theorem ggX7_canTake_X7_tellPoint : GoodIn wsX7_canTake wsX7_tellPoint := goodIn_r _ [6, 7, 8, 9, 10, 11, 1, 21, 22, 23, 24, 25, 26, 27, 28, 29] (by decide +kernel) (by decide +kernel)
set_option maxRecDepth 20000 in
theorem gX7_canTake_X7_tellPoint : GoodIn wsX7_canTake (wsV RX7 59 RX7 yX7_tellPoint wsX7_tellPoint) := goodIn_app (goodIn_of _ (by decide +kernel)) ggX7_canTake_X7_tellPoint
set_option maxRecDepth 20000 in
theorem ggX7_canTake_X7_goOnBehindPoint : GoodIn wsX7_canTake wsX7_goOnBehindPoint := goodIn_r _ [15, 1, 10, 11, 9, 16, 21, 22, 23, 24, 25, 26, 27, 28, 29] (by decide +kernel) (by decide +kernel)
set_option maxRecDepth 20000 in
theorem gX7_canTake_X7_goOnBehindPoint : GoodIn wsX7_canTake (wsV RX7 62 RX7 yX7_goOnBehindPoint wsX7_goOnBehindPoint) := goodIn_app (goodIn_of _ (by decide +kernel)) ggX7_canTake_X7_goOnBehindPoint
set_option maxRecDepth 20000 in
theorem ggX7_canTake_X7_openRing : GoodIn wsX7_canTake wsX7_openRing := goodIn_r _ [20, 9, 1, 21, 22, 23, 24, 25, 26, 27, 28, 29] (by decide +kernel) (by decide +kernel)
set_option maxRecDepth 20000 in
theorem gX7_canTake_X7_openRing : GoodIn wsX7_canTake (wsV RX7 65 RX7 yX7_openRing wsX7_openRing) := goodIn_app (goodIn_of _ (by decide +kernel)) ggX7_canTake_X7_openRing
theorem dX7_canTake_0 : decode cX7_canTake 0 = .ok (.aload_n 0, 1) := by decide +kernel
theorem dX7_canTake_1 : decode cX7_canTake 1 = .ok (.getfield 37, 3) := by decide +kernel
theorem dX7_canTake_4 : decode cX7_canTake 4 = .ok (.lookupswitch 43 #[(1, 28), (2, 37)], 28) := by decide +kernel
theorem dX7_canTake_32 : decode cX7_canTake 32 = .ok (.aload_n 0, 1) := by decide +kernel
theorem dX7_canTake_33 : decode cX7_canTake 33 = .ok (.iload_n 1, 1) := by decide +kernel
theorem dX7_canTake_34 : decode cX7_canTake 34 = .ok (.bipush 48, 2) := by decide +kernel
theorem dX7_canTake_36 : decode cX7_canTake 36 = .ok (.isub, 1) := by decide +kernel
theorem dX7_canTake_37 : decode cX7_canTake 37 = .ok (.invokevirtual 59, 3) := by decide +kernel
theorem dX7_canTake_40 : decode cX7_canTake 40 = .ok (.ireturn, 1) := by decide +kernel
theorem dX7_canTake_41 : decode cX7_canTake 41 = .ok (.aload_n 0, 1) := by decide +kernel
theorem dX7_canTake_42 : decode cX7_canTake 42 = .ok (.iload_n 1, 1) := by decide +kernel
theorem dX7_canTake_43 : decode cX7_canTake 43 = .ok (.invokevirtual 62, 3) := by decide +kernel
theorem dX7_canTake_46 : decode cX7_canTake 46 = .ok (.ireturn, 1) := by decide +kernel
theorem dX7_canTake_47 : decode cX7_canTake 47 = .ok (.aload_n 0, 1) := by decide +kernel
theorem dX7_canTake_48 : decode cX7_canTake 48 = .ok (.iload_n 1, 1) := by decide +kernel
theorem dX7_canTake_49 : decode cX7_canTake 49 = .ok (.invokevirtual 65, 3) := by decide +kernel
theorem dX7_canTake_52 : decode cX7_canTake 52 = .ok (.ireturn, 1) := by decide +kernel
theorem dX7_openRing_0 : decode cX7_openRing 0 = .ok (.iload_n 1, 1) := by decide +kernel
theorem dX7_openRing_1 : decode cX7_openRing 1 = .ok (.bipush 40, 2) := by decide +kernel
theorem dX7_openRing_3 : decode cX7_openRing 3 = .ok (.if_icmp .eq 5, 3) := by decide +kernel
theorem dX7_openRing_6 : decode cX7_openRing 6 = .ok (.iconst 0, 1) := by decide +kernel
theorem dX7_openRing_7 : decode cX7_openRing 7 = .ok (.ireturn, 1) := by decide +kernel
theorem dX7_openRing_8 : decode cX7_openRing 8 = .ok (.aload_n 0, 1) := by decide +kernel
theorem dX7_openRing_9 : decode cX7_openRing 9 = .ok (.iconst (-1), 1) := by decide +kernel
theorem dX7_openRing_10 : decode cX7_openRing 10 = .ok (.putfield 68, 3) := by decide +kernel
theorem dX7_openRing_13 : decode cX7_openRing 13 = .ok (.aload_n 0, 1) := by decide +kernel
theorem dX7_openRing_14 : decode cX7_openRing 14 = .ok (.iconst 1, 1) := by decide +kernel
theorem dX7_openRing_15 : decode cX7_openRing 15 = .ok (.putfield 37, 3) := by decide +kernel
theorem dX7_openRing_18 : decode cX7_openRing 18 = .ok (.iconst 1, 1) := by decide +kernel
theorem dX7_openRing_19 : decode cX7_openRing 19 = .ok (.ireturn, 1) := by decide +kernel
theorem dX7_tellPoint_0 : decode cX7_tellPoint 0 = .ok (.iload_n 1, 1) := by decide +kernel
theorem dX7_tellPoint_1 : decode cX7_tellPoint 1 = .ok (.ifCond .lt 23, 3) := by decide +kernel
theorem dX7_tellPoint_4 : decode cX7_tellPoint 4 = .ok (.iload_n 1, 1) := by decide +kernel
theorem dX7_tellPoint_5 : decode cX7_tellPoint 5 = .ok (.aload_n 0, 1) := by decide +kernel
theorem dX7_tellPoint_6 : decode cX7_tellPoint 6 = .ok (.getfield 56, 3) := by decide +kernel
theorem dX7_tellPoint_9 : decode cX7_tellPoint 9 = .ok (.if_icmp .ge 15, 3) := by decide +kernel
theorem dX7_tellPoint_12 : decode cX7_tellPoint 12 = .ok (.aload_n 0, 1) := by decide +kernel
theorem dX7_tellPoint_13 : decode cX7_tellPoint 13 = .ok (.getfield 47, 3) := by decide +kernel
theorem dX7_tellPoint_16 : decode cX7_tellPoint 16 = .ok (.iload_n 1, 1) := by decide +kernel
theorem dX7_tellPoint_17 : decode cX7_tellPoint 17 = .ok (.ishr, 1) := by decide +kernel
theorem dX7_tellPoint_18 : decode cX7_tellPoint 18 = .ok (.iconst 1, 1) := by decide +kernel
theorem dX7_tellPoint_19 : decode cX7_tellPoint 19 = .ok (.iand, 1) := by decide +kernel
theorem dX7_tellPoint_20 : decode cX7_tellPoint 20 = .ok (.iconst 1, 1) := by decide +kernel
theorem dX7_tellPoint_21 : decode cX7_tellPoint 21 = .ok (.if_icmp .ne 5, 3) := by decide +kernel
theorem dX7_tellPoint_24 : decode cX7_tellPoint 24 = .ok (.iconst 0, 1) := by decide +kernel
theorem dX7_tellPoint_25 : decode cX7_tellPoint 25 = .ok (.ireturn, 1) := by decide +kernel
theorem dX7_tellPoint_26 : decode cX7_tellPoint 26 = .ok (.aload_n 0, 1) := by decide +kernel
theorem dX7_tellPoint_27 : decode cX7_tellPoint 27 = .ok (.getfield 68, 3) := by decide +kernel
theorem dX7_tellPoint_30 : decode cX7_tellPoint 30 = .ok (.ifCond .ge 11, 3) := by decide +kernel
theorem dX7_tellPoint_33 : decode cX7_tellPoint 33 = .ok (.aload_n 0, 1) := by decide +kernel
theorem dX7_tellPoint_34 : decode cX7_tellPoint 34 = .ok (.iload_n 1, 1) := by decide +kernel
theorem dX7_tellPoint_35 : decode cX7_tellPoint 35 = .ok (.putfield 68, 3) := by decide +kernel
theorem dX7_tellPoint_38 : decode cX7_tellPoint 38 = .ok (.goto 13, 3) := by decide +kernel
theorem dX7_tellPoint_41 : decode cX7_tellPoint 41 = .ok (.aload_n 0, 1) := by decide +kernel
theorem dX7_tellPoint_42 : decode cX7_tellPoint 42 = .ok (.getfield 9, 3) := by decide +kernel
theorem dX7_tellPoint_45 : decode cX7_tellPoint 45 = .ok (.aload_n 0, 1) := by decide +kernel
theorem dX7_tellPoint_46 : decode cX7_tellPoint 46 = .ok (.getfield 71, 3) := by decide +kernel
theorem dX7_tellPoint_49 : decode cX7_tellPoint 49 = .ok (.iload_n 1, 1) := by decide +kernel
theorem dX7_tellPoint_50 : decode cX7_tellPoint 50 = .ok (.iastore, 1) := by decide +kernel
theorem dX7_tellPoint_51 : decode cX7_tellPoint 51 = .ok (.aload_n 0, 1) := by decide +kernel
theorem dX7_tellPoint_52 : decode cX7_tellPoint 52 = .ok (.dup, 1) := by decide +kernel
theorem dX7_tellPoint_53 : decode cX7_tellPoint 53 = .ok (.getfield 47, 3) := by decide +kernel
theorem dX7_tellPoint_56 : decode cX7_tellPoint 56 = .ok (.iconst 1, 1) := by decide +kernel
theorem dX7_tellPoint_57 : decode cX7_tellPoint 57 = .ok (.iload_n 1, 1) := by decide +kernel
theorem dX7_tellPoint_58 : decode cX7_tellPoint 58 = .ok (.ishl, 1) := by decide +kernel
theorem dX7_tellPoint_59 : decode cX7_tellPoint 59 = .ok (.ior, 1) := by decide +kernel
theorem dX7_tellPoint_60 : decode cX7_tellPoint 60 = .ok (.putfield 47, 3) := by decide +kernel
theorem dX7_tellPoint_63 : decode cX7_tellPoint 63 = .ok (.aload_n 0, 1) := by decide +kernel
theorem dX7_tellPoint_64 : decode cX7_tellPoint 64 = .ok (.iload_n 1, 1) := by decide +kernel
theorem dX7_tellPoint_65 : decode cX7_tellPoint 65 = .ok (.putfield 71, 3) := by decide +kernel
theorem dX7_tellPoint_68 : decode cX7_tellPoint 68 = .ok (.aload_n 0, 1) := by decide +kernel
theorem dX7_tellPoint_69 : decode cX7_tellPoint 69 = .ok (.iconst 2, 1) := by decide +kernel
theorem dX7_tellPoint_70 : decode cX7_tellPoint 70 = .ok (.putfield 37, 3) := by decide +kernel
theorem dX7_tellPoint_73 : decode cX7_tellPoint 73 = .ok (.iconst 1, 1) := by decide +kernel
theorem dX7_tellPoint_74 : decode cX7_tellPoint 74 = .ok (.ireturn, 1) := by decide +kernel
theorem dX7_goOnBehindPoint_0 : decode cX7_goOnBehindPoint 0 = .ok (.iload_n 1, 1) := by decide +kernel
theorem dX7_goOnBehindPoint_1 : decode cX7_goOnBehindPoint 1 = .ok (.bipush 32, 2) := by decide +kernel
theorem dX7_goOnBehindPoint_3 : decode cX7_goOnBehindPoint 3 = .ok (.if_icmp .ne 10, 3) := by decide +kernel
theorem dX7_goOnBehindPoint_6 : decode cX7_goOnBehindPoint 6 = .ok (.aload_n 0, 1) := by decide +kernel
theorem dX7_goOnBehindPoint_7 : decode cX7_goOnBehindPoint 7 = .ok (.iconst 1, 1) := by decide +kernel
theorem dX7_goOnBehindPoint_8 : decode cX7_goOnBehindPoint 8 = .ok (.putfield 37, 3) := by decide +kernel
theorem dX7_goOnBehindPoint_11 : decode cX7_goOnBehindPoint 11 = .ok (.iconst 1, 1) := by decide +kernel
theorem dX7_goOnBehindPoint_12 : decode cX7_goOnBehindPoint 12 = .ok (.ireturn, 1) := by decide +kernel
theorem dX7_goOnBehindPoint_13 : decode cX7_goOnBehindPoint 13 = .ok (.iload_n 1, 1) := by decide +kernel
theorem dX7_goOnBehindPoint_14 : decode cX7_goOnBehindPoint 14 = .ok (.bipush 41, 2) := by decide +kernel
theorem dX7_goOnBehindPoint_16 : decode cX7_goOnBehindPoint 16 = .ok (.if_icmp .eq 5, 3) := by decide +kernel
theorem dX7_goOnBehindPoint_19 : decode cX7_goOnBehindPoint 19 = .ok (.iconst 0, 1) := by decide +kernel
theorem dX7_goOnBehindPoint_20 : decode cX7_goOnBehindPoint 20 = .ok (.ireturn, 1) := by decide +kernel
theorem dX7_goOnBehindPoint_21 : decode cX7_goOnBehindPoint 21 = .ok (.aload_n 0, 1) := by decide +kernel
theorem dX7_goOnBehindPoint_22 : decode cX7_goOnBehindPoint 22 = .ok (.getfield 9, 3) := by decide +kernel
theorem dX7_goOnBehindPoint_25 : decode cX7_goOnBehindPoint 25 = .ok (.aload_n 0, 1) := by decide +kernel
theorem dX7_goOnBehindPoint_26 : decode cX7_goOnBehindPoint 26 = .ok (.getfield 71, 3) := by decide +kernel
theorem dX7_goOnBehindPoint_29 : decode cX7_goOnBehindPoint 29 = .ok (.aload_n 0, 1) := by decide +kernel
theorem dX7_goOnBehindPoint_30 : decode cX7_goOnBehindPoint 30 = .ok (.getfield 68, 3) := by decide +kernel
theorem dX7_goOnBehindPoint_33 : decode cX7_goOnBehindPoint 33 = .ok (.iastore, 1) := by decide +kernel
theorem dX7_goOnBehindPoint_34 : decode cX7_goOnBehindPoint 34 = .ok (.aload_n 0, 1) := by decide +kernel
theorem dX7_goOnBehindPoint_35 : decode cX7_goOnBehindPoint 35 = .ok (.dup, 1) := by decide +kernel
theorem dX7_goOnBehindPoint_36 : decode cX7_goOnBehindPoint 36 = .ok (.getfield 44, 3) := by decide +kernel
theorem dX7_goOnBehindPoint_39 : decode cX7_goOnBehindPoint 39 = .ok (.iconst 1, 1) := by decide +kernel
theorem dX7_goOnBehindPoint_40 : decode cX7_goOnBehindPoint 40 = .ok (.iadd, 1) := by decide +kernel
theorem dX7_goOnBehindPoint_41 : decode cX7_goOnBehindPoint 41 = .ok (.putfield 44, 3) := by decide +kernel
theorem dX7_goOnBehindPoint_44 : decode cX7_goOnBehindPoint 44 = .ok (.aload_n 0, 1) := by decide +kernel
theorem dX7_goOnBehindPoint_45 : decode cX7_goOnBehindPoint 45 = .ok (.iconst 3, 1) := by decide +kernel
theorem dX7_goOnBehindPoint_46 : decode cX7_goOnBehindPoint 46 = .ok (.putfield 37, 3) := by decide +kernel
theorem dX7_goOnBehindPoint_49 : decode cX7_goOnBehindPoint 49 = .ok (.iconst 1, 1) := by decide +kernel
theorem dX7_goOnBehindPoint_50 : decode cX7_goOnBehindPoint 50 = .ok (.ireturn, 1) := by decide +kernel
set_option maxRecDepth 20000 in
theorem ggX8_init_X0_init : GoodIn wsX8_init wsX0_init := goodIn_r _ [32, 33, 2, 3, 34, 35, 36, 37, 38, 82, 83, 84, 85] (by decide +kernel) (by decide +kernel)
set_option maxRecDepth 20000 in
theorem gX8_init_X0_init : GoodIn wsX8_init (wsX0_init) := ggX8_init_X0_init
set_option maxRecDepth 20000 in
theorem ggX8_init_X1_init : GoodIn wsX8_init wsX1_init := goodIn_r _ [40, 41, 2, 3, 36, 42, 86, 87] (by decide +kernel) (by decide +kernel)
set_option maxRecDepth 20000 in
theorem gX8_init_X1_init_n27 : GoodIn wsX8_init (wsX1_init) := ggX8_init_X1_init
set_option maxRecDepth 20000 in
theorem ggX8_init_X6_init : GoodIn wsX8_init wsX6_init := goodIn_r _ [44, 45, 2, 3, 46, 47, 88, 89] (by decide +kernel) (by decide +kernel)
set_option maxRecDepth 20000 in
theorem gX8_init_X6_init_n34 : GoodIn wsX8_init (wsX6_init) := ggX8_init_X6_init
set_option maxRecDepth 20000 in
theorem ggX8_init_X7_init : GoodIn wsX8_init wsX7_init := goodIn_r _ [49, 50, 2, 3, 36, 51, 52, 53, 90, 91, 92, 93, 94, 95, 96, 97, 98] (by decide +kernel) (by decide +kernel)
set_option maxRecDepth 20000 in
theorem gX8_init_X7_init_n41 : GoodIn wsX8_init (wsX7_init) := ggX8_init_X7_init
set_option maxRecDepth 20000 in
theorem ggX8_init_X5_init : GoodIn wsX8_init wsX5_init := goodIn_r _ [55, 56, 2, 3, 36, 57, 52, 58, 59, 60, 61, 62, 99, 100, 101, 102, 103, 104, 105, 106] (by decide +kernel) (by decide +kernel)
set_option maxRecDepth 20000 in
theorem gX8_init_X5_init_n48 : GoodIn wsX8_init (wsX5_init) := ggX8_init_X5_init
set_option maxRecDepth 20000 in
theorem ggX8_init_X4_init : GoodIn wsX8_init wsX4_init := goodIn_r _ [64, 65, 2, 3, 66, 23, 24, 67, 36, 68, 69, 70, 71, 72, 54, 55, 56, 57, 52, 58, 59, 60, 61, 62, 99, 100, 101, 102, 103, 104, 105, 106, 107, 108, 109, 110, 111, 112, 113, 114] (by decide +kernel) (by decide +kernel)
set_option maxRecDepth 20000 in
theorem gX8_init_X4_init_n55 : GoodIn wsX8_init (wsX4_init) := ggX8_init_X4_init
theorem dX8_init_0 : decode cX8_init 0 = .ok (.aload_n 0, 1) := by decide +kernel
theorem dX8_init_1 : decode cX8_init 1 = .ok (.invokespecial 3, 3) := by decide +kernel
theorem dX8_init_4 : decode cX8_init 4 = .ok (.aload_n 0, 1) := by decide +kernel
theorem dX8_init_5 : decode cX8_init 5 = .ok (.iconst 1, 1) := by decide +kernel
theorem dX8_init_6 : decode cX8_init 6 = .ok (.putfield 9, 3) := by decide +kernel
theorem dX8_init_9 : decode cX8_init 9 = .ok (.aload_n 0, 1) := by decide +kernel
theorem dX8_init_10 : decode cX8_init 10 = .ok (.new 15, 3) := by decide +kernel
theorem dX8_init_13 : decode cX8_init 13 = .ok (.dup, 1) := by decide +kernel
theorem dX8_init_14 : decode cX8_init 14 = .ok (.invokespecial 17, 3) := by decide +kernel
theorem dX8_init_17 : decode cX8_init 17 = .ok (.putfield 18, 3) := by decide +kernel
theorem dX8_init_20 : decode cX8_init 20 = .ok (.aload_n 0, 1) := by decide +kernel
theorem dX8_init_21 : decode cX8_init 21 = .ok (.new 15, 3) := by decide +kernel
theorem dX8_init_24 : decode cX8_init 24 = .ok (.dup, 1) := by decide +kernel
theorem dX8_init_25 : decode cX8_init 25 = .ok (.invokespecial 17, 3) := by decide +kernel
theorem dX8_init_28 : decode cX8_init 28 = .ok (.putfield 22, 3) := by decide +kernel
theorem dX8_init_31 : decode cX8_init 31 = .ok (.aload_n 0, 1) := by decide +kernel
theorem dX8_init_32 : decode cX8_init 32 = .ok (.new 25, 3) := by decide +kernel
theorem dX8_init_35 : decode cX8_init 35 = .ok (.dup, 1) := by decide +kernel
theorem dX8_init_36 : decode cX8_init 36 = .ok (.invokespecial 27, 3) := by decide +kernel
theorem dX8_init_39 : decode cX8_init 39 = .ok (.putfield 28, 3) := by decide +kernel
theorem dX8_init_42 : decode cX8_init 42 = .ok (.aload_n 0, 1) := by decide +kernel
theorem dX8_init_43 : decode cX8_init 43 = .ok (.new 32, 3) := by decide +kernel
theorem dX8_init_46 : decode cX8_init 46 = .ok (.dup, 1) := by decide +kernel
theorem dX8_init_47 : decode cX8_init 47 = .ok (.invokespecial 34, 3) := by decide +kernel
theorem dX8_init_50 : decode cX8_init 50 = .ok (.putfield 35, 3) := by decide +kernel
theorem dX8_init_53 : decode cX8_init 53 = .ok (.aload_n 0, 1) := by decide +kernel
theorem dX8_init_54 : decode cX8_init 54 = .ok (.new 39, 3) := by decide +kernel
theorem dX8_init_57 : decode cX8_init 57 = .ok (.dup, 1) := by decide +kernel
theorem dX8_init_58 : decode cX8_init 58 = .ok (.invokespecial 41, 3) := by decide +kernel
theorem dX8_init_61 : decode cX8_init 61 = .ok (.putfield 42, 3) := by decide +kernel
theorem dX8_init_64 : decode cX8_init 64 = .ok (.aload_n 0, 1) := by decide +kernel
theorem dX8_init_65 : decode cX8_init 65 = .ok (.new 46, 3) := by decide +kernel
theorem dX8_init_68 : decode cX8_init 68 = .ok (.dup, 1) := by decide +kernel
theorem dX8_init_69 : decode cX8_init 69 = .ok (.invokespecial 48, 3) := by decide +kernel
theorem dX8_init_72 : decode cX8_init 72 = .ok (.putfield 49, 3) := by decide +kernel
theorem dX8_init_75 : decode cX8_init 75 = .ok (.aload_n 0, 1) := by decide +kernel
theorem dX8_init_76 : decode cX8_init 76 = .ok (.new 53, 3) := by decide +kernel
theorem dX8_init_79 : decode cX8_init 79 = .ok (.dup, 1) := by decide +kernel
theorem dX8_init_80 : decode cX8_init 80 = .ok (.invokespecial 55, 3) := by decide +kernel
theorem dX8_init_83 : decode cX8_init 83 = .ok (.putfield 56, 3) := by decide +kernel
theorem dX8_init_86 : decode cX8_init 86 = .ok (.aload_n 0, 1) := by decide +kernel
theorem dX8_init_87 : decode cX8_init 87 = .ok (.aload_n 0, 1) := by decide +kernel
theorem dX8_init_88 : decode cX8_init 88 = .ok (.getfield 9, 3) := by decide +kernel
theorem dX8_init_91 : decode cX8_init 91 = .ok (.bipush 10, 2) := by decide +kernel
theorem dX8_init_93 : decode cX8_init 93 = .ok (.imul, 1) := by decide +kernel
theorem dX8_init_94 : decode cX8_init 94 = .ok (.iconst 1, 1) := by decide +kernel
theorem dX8_init_95 : decode cX8_init 95 = .ok (.iadd, 1) := by decide +kernel
theorem dX8_init_96 : decode cX8_init 96 = .ok (.putfield 9, 3) := by decide +kernel
theorem dX8_init_99 : decode cX8_init 99 = .ok (.aload_n 0, 1) := by decide +kernel
theorem dX8_init_100 : decode cX8_init 100 = .ok (.aload_n 0, 1) := by decide +kernel
theorem dX8_init_101 : decode cX8_init 101 = .ok (.getfield 9, 3) := by decide +kernel
theorem dX8_init_104 : decode cX8_init 104 = .ok (.bipush 10, 2) := by decide +kernel
theorem dX8_init_106 : decode cX8_init 106 = .ok (.imul, 1) := by decide +kernel
theorem dX8_init_107 : decode cX8_init 107 = .ok (.iconst 2, 1) := by decide +kernel
theorem dX8_init_108 : decode cX8_init 108 = .ok (.iadd, 1) := by decide +kernel
theorem dX8_init_109 : decode cX8_init 109 = .ok (.putfield 9, 3) := by decide +kernel
theorem dX8_init_112 : decode cX8_init 112 = .ok (.aload_n 0, 1) := by decide +kernel
theorem dX8_init_113 : decode cX8_init 113 = .ok (.aload_n 0, 1) := by decide +kernel
theorem dX8_init_114 : decode cX8_init 114 = .ok (.getfield 9, 3) := by decide +kernel
theorem dX8_init_117 : decode cX8_init 117 = .ok (.bipush 10, 2) := by decide +kernel
theorem dX8_init_119 : decode cX8_init 119 = .ok (.imul, 1) := by decide +kernel
theorem dX8_init_120 : decode cX8_init 120 = .ok (.iconst 3, 1) := by decide +kernel
theorem dX8_init_121 : decode cX8_init 121 = .ok (.iadd, 1) := by decide +kernel
theorem dX8_init_122 : decode cX8_init 122 = .ok (.putfield 9, 3) := by decide +kernel
theorem dX8_init_125 : decode cX8_init 125 = .ok (.return_, 1) := by decide +kernel
set_option maxRecDepth 20000 in
theorem ggX8_points_X0_startWith : GoodIn wsX8_points wsX0_startWith := goodIn_r _ [8, 9, 10, 26, 27, 28, 29] (by decide +kernel) (by decide +kernel)
set_option maxRecDepth 20000 in
theorem gX8_points_X0_startWith : GoodIn wsX8_points (wsV RX8 63 RX0 yX0_startWith wsX0_startWith) := goodIn_app (goodIn_of _ (by decide +kernel)) ggX8_points_X0_startWith
set_option maxRecDepth 20000 in
theorem ggX8_points_X1_forget : GoodIn wsX8_points wsX1_forget := goodIn_r _ [15, 16, 30, 31] (by decide +kernel) (by decide +kernel)
set_option maxRecDepth 20000 in
theorem gX8_points_X1_forget : GoodIn wsX8_points (wsV RX8 67 RX1 yX1_forget wsX1_forget) := goodIn_app (goodIn_of _ (by decide +kernel)) ggX8_points_X1_forget
theorem dX8_points_0 : decode cX8_points 0 = .ok (.iload_n 1, 1) := by decide +kernel
theorem dX8_points_1 : decode cX8_points 1 = .ok (.iconst 2, 1) := by decide +kernel
theorem dX8_points_2 : decode cX8_points 2 = .ok (.if_icmp .lt 9, 3) := by decide +kernel
theorem dX8_points_5 : decode cX8_points 5 = .ok (.iload_n 1, 1) := by decide +kernel
theorem dX8_points_6 : decode cX8_points 6 = .ok (.bipush 8, 2) := by decide +kernel
theorem dX8_points_8 : decode cX8_points 8 = .ok (.if_icmp .le 6, 3) := by decide +kernel
theorem dX8_points_11 : decode cX8_points 11 = .ok (.bipush (-2), 2) := by decide +kernel
theorem dX8_points_13 : decode cX8_points 13 = .ok (.ireturn, 1) := by decide +kernel
theorem dX8_points_14 : decode cX8_points 14 = .ok (.aload_n 0, 1) := by decide +kernel
theorem dX8_points_15 : decode cX8_points 15 = .ok (.getfield 18, 3) := by decide +kernel
theorem dX8_points_18 : decode cX8_points 18 = .ok (.getfield 60, 3) := by decide +kernel
theorem dX8_points_21 : decode cX8_points 21 = .ok (.istore_n 2, 1) := by decide +kernel
theorem dX8_points_22 : decode cX8_points 22 = .ok (.aload_n 0, 1) := by decide +kernel
theorem dX8_points_23 : decode cX8_points 23 = .ok (.getfield 18, 3) := by decide +kernel
theorem dX8_points_26 : decode cX8_points 26 = .ok (.iload_n 1, 1) := by decide +kernel
theorem dX8_points_27 : decode cX8_points 27 = .ok (.invokevirtual 63, 3) := by decide +kernel
theorem dX8_points_30 : decode cX8_points 30 = .ok (.aload_n 0, 1) := by decide +kernel
theorem dX8_points_31 : decode cX8_points 31 = .ok (.getfield 28, 3) := by decide +kernel
theorem dX8_points_34 : decode cX8_points 34 = .ok (.invokevirtual 67, 3) := by decide +kernel
theorem dX8_points_37 : decode cX8_points 37 = .ok (.iload_n 2, 1) := by decide +kernel
theorem dX8_points_38 : decode cX8_points 38 = .ok (.ireturn, 1) := by decide +kernel
set_option maxRecDepth 20000 in
theorem ggX8_way_X1_forget : GoodIn wsX8_way wsX1_forget := goodIn_r _ [8, 9, 23, 24] (by decide +kernel) (by decide +kernel)
set_option maxRecDepth 20000 in
theorem gX8_way_X1_forget : GoodIn wsX8_way (wsV RX8 67 RX1 yX1_forget wsX1_forget) := goodIn_app (goodIn_of _ (by decide +kernel)) ggX8_way_X1_forget
theorem dX8_way_0 : decode cX8_way 0 = .ok (.iload_n 1, 1) := by decide +kernel
theorem dX8_way_1 : decode cX8_way 1 = .ok (.ifCond .eq 11, 3) := by decide +kernel
theorem dX8_way_4 : decode cX8_way 4 = .ok (.iload_n 1, 1) := by decide +kernel
theorem dX8_way_5 : decode cX8_way 5 = .ok (.iconst 1, 1) := by decide +kernel
theorem dX8_way_6 : decode cX8_way 6 = .ok (.if_icmp .eq 6, 3) := by decide +kernel
theorem dX8_way_9 : decode cX8_way 9 = .ok (.bipush (-2), 2) := by decide +kernel
theorem dX8_way_11 : decode cX8_way 11 = .ok (.ireturn, 1) := by decide +kernel
theorem dX8_way_12 : decode cX8_way 12 = .ok (.aload_n 0, 1) := by decide +kernel
theorem dX8_way_13 : decode cX8_way 13 = .ok (.getfield 18, 3) := by decide +kernel
theorem dX8_way_16 : decode cX8_way 16 = .ok (.getfield 70, 3) := by decide +kernel
theorem dX8_way_19 : decode cX8_way 19 = .ok (.istore_n 2, 1) := by decide +kernel
theorem dX8_way_20 : decode cX8_way 20 = .ok (.aload_n 0, 1) := by decide +kernel
theorem dX8_way_21 : decode cX8_way 21 = .ok (.getfield 18, 3) := by decide +kernel
theorem dX8_way_24 : decode cX8_way 24 = .ok (.iload_n 1, 1) := by decide +kernel
theorem dX8_way_25 : decode cX8_way 25 = .ok (.putfield 70, 3) := by decide +kernel
theorem dX8_way_28 : decode cX8_way 28 = .ok (.aload_n 0, 1) := by decide +kernel
theorem dX8_way_29 : decode cX8_way 29 = .ok (.getfield 28, 3) := by decide +kernel
theorem dX8_way_32 : decode cX8_way 32 = .ok (.invokevirtual 67, 3) := by decide +kernel
theorem dX8_way_35 : decode cX8_way 35 = .ok (.iload_n 2, 1) := by decide +kernel
theorem dX8_way_36 : decode cX8_way 36 = .ok (.ireturn, 1) := by decide +kernel
set_option maxRecDepth 20000 in
theorem ggX8_lead_X0_holds : GoodIn wsX8_lead wsX0_holds := goodIn_r _ [8, 9, 35, 36, 37, 38] (by decide +kernel) (by decide +kernel)
set_option maxRecDepth 20000 in
theorem gX8_lead_X0_holds : GoodIn wsX8_lead (wsV RX8 73 RX0 yX0_holds wsX0_holds) := goodIn_app (goodIn_of _ (by decide +kernel)) ggX8_lead_X0_holds
set_option maxRecDepth 20000 in
theorem ggX8_lead_X0_packed : GoodIn wsX8_lead wsX0_packed := goodIn_r _ [13, 14, 35, 36, 37, 38] (by decide +kernel) (by decide +kernel)
set_option maxRecDepth 20000 in
theorem gX8_lead_X0_packed : GoodIn wsX8_lead (wsV RX8 77 RX0 yX0_packed wsX0_packed) := goodIn_app (goodIn_of _ (by decide +kernel)) ggX8_lead_X0_packed
set_option maxRecDepth 20000 in
theorem ggX8_lead_X1_keep : GoodIn wsX8_lead wsX1_keep := goodIn_r _ [19, 20, 21, 22, 23, 24, 18, 25, 39, 40] (by decide +kernel) (by decide +kernel)
set_option maxRecDepth 20000 in
theorem gX8_lead_X1_keep : GoodIn wsX8_lead (wsV RX8 81 RX1 yX1_keep wsX1_keep) := goodIn_app (goodIn_of _ (by decide +kernel)) ggX8_lead_X1_keep
theorem dX8_lead_0 : decode cX8_lead 0 = .ok (.aload_n 0, 1) := by decide +kernel
theorem dX8_lead_1 : decode cX8_lead 1 = .ok (.getfield 18, 3) := by decide +kernel
theorem dX8_lead_4 : decode cX8_lead 4 = .ok (.iload_n 1, 1) := by decide +kernel
theorem dX8_lead_5 : decode cX8_lead 5 = .ok (.invokevirtual 73, 3) := by decide +kernel
theorem dX8_lead_8 : decode cX8_lead 8 = .ok (.ifCond .eq 14, 3) := by decide +kernel
theorem dX8_lead_11 : decode cX8_lead 11 = .ok (.aload_n 0, 1) := by decide +kernel
theorem dX8_lead_12 : decode cX8_lead 12 = .ok (.getfield 18, 3) := by decide +kernel
theorem dX8_lead_15 : decode cX8_lead 15 = .ok (.iload_n 2, 1) := by decide +kernel
theorem dX8_lead_16 : decode cX8_lead 16 = .ok (.invokevirtual 73, 3) := by decide +kernel
theorem dX8_lead_19 : decode cX8_lead 19 = .ok (.ifCond .ne 6, 3) := by decide +kernel
theorem dX8_lead_22 : decode cX8_lead 22 = .ok (.bipush (-2), 2) := by decide +kernel
theorem dX8_lead_24 : decode cX8_lead 24 = .ok (.ireturn, 1) := by decide +kernel
theorem dX8_lead_25 : decode cX8_lead 25 = .ok (.aload_n 0, 1) := by decide +kernel
theorem dX8_lead_26 : decode cX8_lead 26 = .ok (.getfield 28, 3) := by decide +kernel
theorem dX8_lead_29 : decode cX8_lead 29 = .ok (.aload_n 0, 1) := by decide +kernel
theorem dX8_lead_30 : decode cX8_lead 30 = .ok (.getfield 18, 3) := by decide +kernel
theorem dX8_lead_33 : decode cX8_lead 33 = .ok (.invokevirtual 77, 3) := by decide +kernel
theorem dX8_lead_36 : decode cX8_lead 36 = .ok (.invokevirtual 81, 3) := by decide +kernel
theorem dX8_lead_39 : decode cX8_lead 39 = .ok (.aload_n 0, 1) := by decide +kernel
theorem dX8_lead_40 : decode cX8_lead 40 = .ok (.getfield 18, 3) := by decide +kernel
theorem dX8_lead_43 : decode cX8_lead 43 = .ok (.getfield 84, 3) := by decide +kernel
theorem dX8_lead_46 : decode cX8_lead 46 = .ok (.iload_n 1, 1) := by decide +kernel
theorem dX8_lead_47 : decode cX8_lead 47 = .ok (.iaload, 1) := by decide +kernel
theorem dX8_lead_48 : decode cX8_lead 48 = .ok (.istore_n 3, 1) := by decide +kernel
theorem dX8_lead_49 : decode cX8_lead 49 = .ok (.aload_n 0, 1) := by decide +kernel
theorem dX8_lead_50 : decode cX8_lead 50 = .ok (.getfield 18, 3) := by decide +kernel
theorem dX8_lead_53 : decode cX8_lead 53 = .ok (.getfield 84, 3) := by decide +kernel
theorem dX8_lead_56 : decode cX8_lead 56 = .ok (.iload_n 1, 1) := by decide +kernel
theorem dX8_lead_57 : decode cX8_lead 57 = .ok (.iload_n 2, 1) := by decide +kernel
theorem dX8_lead_58 : decode cX8_lead 58 = .ok (.iastore, 1) := by decide +kernel
theorem dX8_lead_59 : decode cX8_lead 59 = .ok (.iload_n 3, 1) := by decide +kernel
theorem dX8_lead_60 : decode cX8_lead 60 = .ok (.ireturn, 1) := by decide +kernel
set_option maxRecDepth 20000 in
theorem ggX8_of_X0_holds : GoodIn wsX8_of wsX0_holds := goodIn_r _ [7, 8, 35, 36, 37, 38] (by decide +kernel) (by decide +kernel)
set_option maxRecDepth 20000 in
theorem gX8_of_X0_holds : GoodIn wsX8_of (wsV RX8 73 RX0 yX0_holds wsX0_holds) := goodIn_app (goodIn_of _ (by decide +kernel)) ggX8_of_X0_holds
set_option maxRecDepth 20000 in
theorem ggX8_of_X0_tailOf : GoodIn wsX8_of wsX0_tailOf := goodIn_r _ [12, 8, 13, 14, 15, 16, 6, 17, 35, 36, 37, 38] (by decide +kernel) (by decide +kernel)
set_option maxRecDepth 20000 in
theorem gX8_of_X0_tailOf : GoodIn wsX8_of (wsV RX8 88 RX0 yX0_tailOf wsX0_tailOf) := goodIn_app (goodIn_of _ (by decide +kernel)) ggX8_of_X0_tailOf
set_option maxRecDepth 20000 in
theorem ggX8_of_X0_ringBits : GoodIn wsX8_of wsX0_ringBits := goodIn_r _ [17, 8, 13, 35, 36, 37, 38] (by decide +kernel) (by decide +kernel)
set_option maxRecDepth 20000 in
theorem gX8_of_X0_ringBits : GoodIn wsX8_of (wsV RX8 92 RX0 yX0_ringBits wsX0_ringBits) := goodIn_app (goodIn_of _ (by decide +kernel)) ggX8_of_X0_ringBits
set_option maxRecDepth 20000 in
theorem ggX8_of_J6_bitCount_0f7a4 : GoodIn wsX8_of wsJ6_bitCount_0f7a4 := goodIn_r _ [22, 23, 24, 25] (by decide +kernel) (by decide +kernel)
set_option maxRecDepth 20000 in
theorem gX8_of_J6_bitCount_0f7a4 : GoodIn wsX8_of (va_wsS RX8 95 yJ6_bitCount_0f7a4 wsJ6_bitCount_0f7a4) := goodIn_app (goodIn_of _ (by decide +kernel)) ggX8_of_J6_bitCount_0f7a4
theorem dX8_of_0 : decode cX8_of 0 = .ok (.aload_n 0, 1) := by decide +kernel
theorem dX8_of_1 : decode cX8_of 1 = .ok (.getfield 18, 3) := by decide +kernel
theorem dX8_of_4 : decode cX8_of 4 = .ok (.iload_n 1, 1) := by decide +kernel
theorem dX8_of_5 : decode cX8_of 5 = .ok (.invokevirtual 73, 3) := by decide +kernel
theorem dX8_of_8 : decode cX8_of 8 = .ok (.ifCond .ne 6, 3) := by decide +kernel
theorem dX8_of_11 : decode cX8_of 11 = .ok (.bipush (-2), 2) := by decide +kernel
theorem dX8_of_13 : decode cX8_of 13 = .ok (.ireturn, 1) := by decide +kernel
theorem dX8_of_14 : decode cX8_of 14 = .ok (.iload_n 2, 1) := by decide +kernel
theorem dX8_of_15 : decode cX8_of 15 = .ok (.tableswitch 69 0 3 #[29, 39, 48, 57], 29) := by decide +kernel
theorem dX8_of_44 : decode cX8_of 44 = .ok (.aload_n 0, 1) := by decide +kernel
theorem dX8_of_45 : decode cX8_of 45 = .ok (.getfield 18, 3) := by decide +kernel
theorem dX8_of_48 : decode cX8_of 48 = .ok (.getfield 84, 3) := by decide +kernel
theorem dX8_of_51 : decode cX8_of 51 = .ok (.iload_n 1, 1) := by decide +kernel
theorem dX8_of_52 : decode cX8_of 52 = .ok (.iaload, 1) := by decide +kernel
theorem dX8_of_53 : decode cX8_of 53 = .ok (.ireturn, 1) := by decide +kernel
theorem dX8_of_54 : decode cX8_of 54 = .ok (.aload_n 0, 1) := by decide +kernel
theorem dX8_of_55 : decode cX8_of 55 = .ok (.getfield 18, 3) := by decide +kernel
theorem dX8_of_58 : decode cX8_of 58 = .ok (.iload_n 1, 1) := by decide +kernel
theorem dX8_of_59 : decode cX8_of 59 = .ok (.invokevirtual 88, 3) := by decide +kernel
theorem dX8_of_62 : decode cX8_of 62 = .ok (.ireturn, 1) := by decide +kernel
theorem dX8_of_63 : decode cX8_of 63 = .ok (.aload_n 0, 1) := by decide +kernel
theorem dX8_of_64 : decode cX8_of 64 = .ok (.getfield 18, 3) := by decide +kernel
theorem dX8_of_67 : decode cX8_of 67 = .ok (.iload_n 1, 1) := by decide +kernel
theorem dX8_of_68 : decode cX8_of 68 = .ok (.invokevirtual 92, 3) := by decide +kernel
theorem dX8_of_71 : decode cX8_of 71 = .ok (.ireturn, 1) := by decide +kernel
theorem dX8_of_72 : decode cX8_of 72 = .ok (.aload_n 0, 1) := by decide +kernel
theorem dX8_of_73 : decode cX8_of 73 = .ok (.getfield 18, 3) := by decide +kernel
theorem dX8_of_76 : decode cX8_of 76 = .ok (.iload_n 1, 1) := by decide +kernel
theorem dX8_of_77 : decode cX8_of 77 = .ok (.invokevirtual 92, 3) := by decide +kernel
theorem dX8_of_80 : decode cX8_of 80 = .ok (.invokestatic 95, 3) := by decide +kernel
theorem dX8_of_83 : decode cX8_of 83 = .ok (.ireturn, 1) := by decide +kernel
theorem dX8_of_84 : decode cX8_of 84 = .ok (.bipush (-2), 2) := by decide +kernel
theorem dX8_of_86 : decode cX8_of 86 = .ok (.ireturn, 1) := by decide +kernel
set_option maxRecDepth 20000 in
theorem ggX8_map_X0_figures : GoodIn wsX8_map wsX0_figures := goodIn_r _ [6, 7, 8, 18, 19, 20, 21] (by decide +kernel) (by decide +kernel)
set_option maxRecDepth 20000 in
theorem gX8_map_X0_figures : GoodIn wsX8_map (wsV RX8 100 RX0 yX0_figures wsX0_figures) := goodIn_app (goodIn_of _ (by decide +kernel)) ggX8_map_X0_figures
theorem dX8_map_0 : decode cX8_map 0 = .ok (.aload_n 0, 1) := by decide +kernel
theorem dX8_map_1 : decode cX8_map 1 = .ok (.getfield 18, 3) := by decide +kernel
theorem dX8_map_4 : decode cX8_map 4 = .ok (.invokevirtual 100, 3) := by decide +kernel
theorem dX8_map_7 : decode cX8_map 7 = .ok (.ireturn, 1) := by decide +kernel
set_option maxRecDepth 20000 in
theorem ggX8_rings_X0_ringNumber : GoodIn wsX8_rings wsX0_ringNumber := goodIn_r _ [7, 8, 9, 10, 11, 6, 12, 13, 14, 15, 16, 17, 46, 47, 48, 49] (by decide +kernel) (by decide +kernel)
set_option maxRecDepth 20000 in
theorem gX8_rings_X0_ringNumber : GoodIn wsX8_rings (wsV RX8 103 RX0 yX0_ringNumber wsX0_ringNumber) := goodIn_app (goodIn_of _ (by decide +kernel)) ggX8_rings_X0_ringNumber
set_option maxRecDepth 20000 in
theorem ggX8_rings_X0_pointsOnRings : GoodIn wsX8_rings wsX0_pointsOnRings := goodIn_r _ [21, 8, 13, 14, 15, 6, 16, 17, 22, 23, 24, 25, 26, 27, 28, 46, 47, 48, 49] (by decide +kernel) (by decide +kernel)
set_option maxRecDepth 20000 in
theorem gX8_rings_X0_pointsOnRings : GoodIn wsX8_rings (wsV RX8 106 RX0 yX0_pointsOnRings wsX0_pointsOnRings) := goodIn_app (goodIn_of _ (by decide +kernel)) ggX8_rings_X0_pointsOnRings
set_option maxRecDepth 20000 in
theorem ggX8_rings_X0_greatestRing : GoodIn wsX8_rings wsX0_greatestRing := goodIn_r _ [32, 8, 33, 34, 35, 36, 13, 14, 15, 6, 16, 17, 22, 23, 24, 25, 26, 27, 28, 46, 47, 48, 49] (by decide +kernel) (by decide +kernel)
set_option maxRecDepth 20000 in
theorem gX8_rings_X0_greatestRing : GoodIn wsX8_rings (wsV RX8 109 RX0 yX0_greatestRing wsX0_greatestRing) := goodIn_app (goodIn_of _ (by decide +kernel)) ggX8_rings_X0_greatestRing
theorem dX8_rings_0 : decode cX8_rings 0 = .ok (.iload_n 1, 1) := by decide +kernel
theorem dX8_rings_1 : decode cX8_rings 1 = .ok (.tableswitch 78 0 3 #[31, 39, 47, 55], 31) := by decide +kernel
theorem dX8_rings_32 : decode cX8_rings 32 = .ok (.aload_n 0, 1) := by decide +kernel
theorem dX8_rings_33 : decode cX8_rings 33 = .ok (.getfield 18, 3) := by decide +kernel
theorem dX8_rings_36 : decode cX8_rings 36 = .ok (.invokevirtual 103, 3) := by decide +kernel
theorem dX8_rings_39 : decode cX8_rings 39 = .ok (.ireturn, 1) := by decide +kernel
theorem dX8_rings_40 : decode cX8_rings 40 = .ok (.aload_n 0, 1) := by decide +kernel
theorem dX8_rings_41 : decode cX8_rings 41 = .ok (.getfield 18, 3) := by decide +kernel
theorem dX8_rings_44 : decode cX8_rings 44 = .ok (.invokevirtual 106, 3) := by decide +kernel
theorem dX8_rings_47 : decode cX8_rings 47 = .ok (.ireturn, 1) := by decide +kernel
theorem dX8_rings_48 : decode cX8_rings 48 = .ok (.aload_n 0, 1) := by decide +kernel
theorem dX8_rings_49 : decode cX8_rings 49 = .ok (.getfield 18, 3) := by decide +kernel
theorem dX8_rings_52 : decode cX8_rings 52 = .ok (.invokevirtual 109, 3) := by decide +kernel
theorem dX8_rings_55 : decode cX8_rings 55 = .ok (.ireturn, 1) := by decide +kernel
theorem dX8_rings_56 : decode cX8_rings 56 = .ok (.aload_n 0, 1) := by decide +kernel
theorem dX8_rings_57 : decode cX8_rings 57 = .ok (.getfield 18, 3) := by decide +kernel
theorem dX8_rings_60 : decode cX8_rings 60 = .ok (.invokevirtual 106, 3) := by decide +kernel
theorem dX8_rings_63 : decode cX8_rings 63 = .ok (.aload_n 0, 1) := by decide +kernel
theorem dX8_rings_64 : decode cX8_rings 64 = .ok (.getfield 18, 3) := by decide +kernel
theorem dX8_rings_67 : decode cX8_rings 67 = .ok (.getfield 60, 3) := by decide +kernel
theorem dX8_rings_70 : decode cX8_rings 70 = .ok (.if_icmp .ne 7, 3) := by decide +kernel
theorem dX8_rings_73 : decode cX8_rings 73 = .ok (.iconst 1, 1) := by decide +kernel
theorem dX8_rings_74 : decode cX8_rings 74 = .ok (.goto 4, 3) := by decide +kernel

theorem dX0_init_0 : decode cX0_init 0 = .ok (.aload_n 0, 1) := by decide +kernel
theorem dX0_init_1 : decode cX0_init 1 = .ok (.invokespecial 3, 3) := by decide +kernel
theorem dX0_init_4 : decode cX0_init 4 = .ok (.aload_n 0, 1) := by decide +kernel
theorem dX0_init_5 : decode cX0_init 5 = .ok (.iconst 3, 1) := by decide +kernel
theorem dX0_init_6 : decode cX0_init 6 = .ok (.putfield 9, 3) := by decide +kernel
theorem dX0_init_9 : decode cX0_init 9 = .ok (.aload_n 0, 1) := by decide +kernel
theorem dX0_init_10 : decode cX0_init 10 = .ok (.iconst 0, 1) := by decide +kernel
theorem dX0_init_11 : decode cX0_init 11 = .ok (.putfield 15, 3) := by decide +kernel
theorem dX0_init_14 : decode cX0_init 14 = .ok (.aload_n 0, 1) := by decide +kernel
theorem dX0_init_15 : decode cX0_init 15 = .ok (.bipush 8, 2) := by decide +kernel
theorem dX0_init_17 : decode cX0_init 17 = .ok (.newarray .int, 2) := by decide +kernel
theorem dX0_init_19 : decode cX0_init 19 = .ok (.putfield 18, 3) := by decide +kernel
theorem dX0_init_22 : decode cX0_init 22 = .ok (.aload_n 0, 1) := by decide +kernel
theorem dX0_init_23 : decode cX0_init 23 = .ok (.bipush 8, 2) := by decide +kernel
theorem dX0_init_25 : decode cX0_init 25 = .ok (.newarray .int, 2) := by decide +kernel
theorem dX0_init_27 : decode cX0_init 27 = .ok (.putfield 22, 3) := by decide +kernel
theorem dX0_init_30 : decode cX0_init 30 = .ok (.iconst 0, 1) := by decide +kernel
theorem dX0_init_31 : decode cX0_init 31 = .ok (.istore_n 1, 1) := by decide +kernel
theorem dX0_init_32 : decode cX0_init 32 = .ok (.iload_n 1, 1) := by decide +kernel
theorem dX0_init_33 : decode cX0_init 33 = .ok (.bipush 8, 2) := by decide +kernel
theorem dX0_init_35 : decode cX0_init 35 = .ok (.if_icmp .ge 16, 3) := by decide +kernel
theorem dX0_init_38 : decode cX0_init 38 = .ok (.aload_n 0, 1) := by decide +kernel
theorem dX0_init_39 : decode cX0_init 39 = .ok (.getfield 18, 3) := by decide +kernel
theorem dX0_init_42 : decode cX0_init 42 = .ok (.iload_n 1, 1) := by decide +kernel
theorem dX0_init_43 : decode cX0_init 43 = .ok (.iload_n 1, 1) := by decide +kernel
theorem dX0_init_44 : decode cX0_init 44 = .ok (.iastore, 1) := by decide +kernel
theorem dX0_init_45 : decode cX0_init 45 = .ok (.iinc 1 1, 3) := by decide +kernel
theorem dX0_init_48 : decode cX0_init 48 = .ok (.goto (-16), 3) := by decide +kernel
theorem dX0_init_51 : decode cX0_init 51 = .ok (.return_, 1) := by decide +kernel
theorem dX0_startWith_0 : decode cX0_startWith 0 = .ok (.aload_n 0, 1) := by decide +kernel
theorem dX0_startWith_1 : decode cX0_startWith 1 = .ok (.iload_n 1, 1) := by decide +kernel
theorem dX0_startWith_2 : decode cX0_startWith 2 = .ok (.putfield 9, 3) := by decide +kernel
theorem dX0_startWith_5 : decode cX0_startWith 5 = .ok (.iconst 0, 1) := by decide +kernel
theorem dX0_startWith_6 : decode cX0_startWith 6 = .ok (.istore_n 2, 1) := by decide +kernel
theorem dX0_startWith_7 : decode cX0_startWith 7 = .ok (.iload_n 2, 1) := by decide +kernel
theorem dX0_startWith_8 : decode cX0_startWith 8 = .ok (.bipush 8, 2) := by decide +kernel
theorem dX0_startWith_10 : decode cX0_startWith 10 = .ok (.if_icmp .ge 16, 3) := by decide +kernel
theorem dX0_startWith_13 : decode cX0_startWith 13 = .ok (.aload_n 0, 1) := by decide +kernel
theorem dX0_startWith_14 : decode cX0_startWith 14 = .ok (.getfield 18, 3) := by decide +kernel
theorem dX0_startWith_17 : decode cX0_startWith 17 = .ok (.iload_n 2, 1) := by decide +kernel
theorem dX0_startWith_18 : decode cX0_startWith 18 = .ok (.iload_n 2, 1) := by decide +kernel
theorem dX0_startWith_19 : decode cX0_startWith 19 = .ok (.iastore, 1) := by decide +kernel
theorem dX0_startWith_20 : decode cX0_startWith 20 = .ok (.iinc 2 1, 3) := by decide +kernel
theorem dX0_startWith_23 : decode cX0_startWith 23 = .ok (.goto (-16), 3) := by decide +kernel
theorem dX0_startWith_26 : decode cX0_startWith 26 = .ok (.return_, 1) := by decide +kernel
set_option maxRecDepth 20000 in
theorem ggX0_become_X0_leadAll : GoodIn wsX0_become wsX0_leadAll := goodIn_r _ [8, 3, 9, 10, 11, 12, 13, 14, 15, 16] (by decide +kernel) (by decide +kernel)
set_option maxRecDepth 20000 in
theorem gX0_become_X0_leadAll : GoodIn wsX0_become (wsV RX0 25 RX0 yX0_leadAll wsX0_leadAll) := goodIn_app (goodIn_of _ (by decide +kernel)) ggX0_become_X0_leadAll
theorem dX0_become_0 : decode cX0_become 0 = .ok (.aload_n 0, 1) := by decide +kernel
theorem dX0_become_1 : decode cX0_become 1 = .ok (.aload_n 1, 1) := by decide +kernel
theorem dX0_become_2 : decode cX0_become 2 = .ok (.getfield 9, 3) := by decide +kernel
theorem dX0_become_5 : decode cX0_become 5 = .ok (.putfield 9, 3) := by decide +kernel
theorem dX0_become_8 : decode cX0_become 8 = .ok (.aload_n 0, 1) := by decide +kernel
theorem dX0_become_9 : decode cX0_become 9 = .ok (.aload_n 1, 1) := by decide +kernel
theorem dX0_become_10 : decode cX0_become 10 = .ok (.getfield 15, 3) := by decide +kernel
theorem dX0_become_13 : decode cX0_become 13 = .ok (.putfield 15, 3) := by decide +kernel
theorem dX0_become_16 : decode cX0_become 16 = .ok (.aload_n 0, 1) := by decide +kernel
theorem dX0_become_17 : decode cX0_become 17 = .ok (.aload_n 1, 1) := by decide +kernel
theorem dX0_become_18 : decode cX0_become 18 = .ok (.getfield 18, 3) := by decide +kernel
theorem dX0_become_21 : decode cX0_become 21 = .ok (.invokevirtual 25, 3) := by decide +kernel
theorem dX0_become_24 : decode cX0_become 24 = .ok (.return_, 1) := by decide +kernel
theorem dX0_leadAll_0 : decode cX0_leadAll 0 = .ok (.aload_n 1, 1) := by decide +kernel
theorem dX0_leadAll_1 : decode cX0_leadAll 1 = .ok (.iconst 0, 1) := by decide +kernel
theorem dX0_leadAll_2 : decode cX0_leadAll 2 = .ok (.aload_n 0, 1) := by decide +kernel
theorem dX0_leadAll_3 : decode cX0_leadAll 3 = .ok (.getfield 18, 3) := by decide +kernel
theorem dX0_leadAll_6 : decode cX0_leadAll 6 = .ok (.iconst 0, 1) := by decide +kernel
theorem dX0_leadAll_7 : decode cX0_leadAll 7 = .ok (.bipush 8, 2) := by decide +kernel
theorem dX0_leadAll_9 : decode cX0_leadAll 9 = .ok (.invokestatic 29, 3) := by decide +kernel
theorem dX0_leadAll_12 : decode cX0_leadAll 12 = .ok (.return_, 1) := by decide +kernel
theorem dX0_holds_0 : decode cX0_holds 0 = .ok (.iload_n 1, 1) := by decide +kernel
theorem dX0_holds_1 : decode cX0_holds 1 = .ok (.ifCond .lt 15, 3) := by decide +kernel
theorem dX0_holds_4 : decode cX0_holds 4 = .ok (.iload_n 1, 1) := by decide +kernel
theorem dX0_holds_5 : decode cX0_holds 5 = .ok (.aload_n 0, 1) := by decide +kernel
theorem dX0_holds_6 : decode cX0_holds 6 = .ok (.getfield 9, 3) := by decide +kernel
theorem dX0_holds_9 : decode cX0_holds 9 = .ok (.if_icmp .ge 7, 3) := by decide +kernel
theorem dX0_holds_12 : decode cX0_holds 12 = .ok (.iconst 1, 1) := by decide +kernel
theorem dX0_holds_13 : decode cX0_holds 13 = .ok (.goto 4, 3) := by decide +kernel
theorem dX0_holds_16 : decode cX0_holds 16 = .ok (.iconst 0, 1) := by decide +kernel
theorem dX0_holds_17 : decode cX0_holds 17 = .ok (.ireturn, 1) := by decide +kernel
theorem dX0_pieceNumber_0 : decode cX0_pieceNumber 0 = .ok (.aload_n 0, 1) := by decide +kernel
theorem dX0_pieceNumber_1 : decode cX0_pieceNumber 1 = .ok (.getfield 15, 3) := by decide +kernel
theorem dX0_pieceNumber_4 : decode cX0_pieceNumber 4 = .ok (.iconst 1, 1) := by decide +kernel
theorem dX0_pieceNumber_5 : decode cX0_pieceNumber 5 = .ok (.if_icmp .ne 10, 3) := by decide +kernel
theorem dX0_pieceNumber_8 : decode cX0_pieceNumber 8 = .ok (.aload_n 0, 1) := by decide +kernel
theorem dX0_pieceNumber_9 : decode cX0_pieceNumber 9 = .ok (.getfield 9, 3) := by decide +kernel
theorem dX0_pieceNumber_12 : decode cX0_pieceNumber 12 = .ok (.goto 9, 3) := by decide +kernel
theorem dX0_pieceNumber_15 : decode cX0_pieceNumber 15 = .ok (.aload_n 0, 1) := by decide +kernel
theorem dX0_pieceNumber_16 : decode cX0_pieceNumber 16 = .ok (.getfield 9, 3) := by decide +kernel
theorem dX0_pieceNumber_19 : decode cX0_pieceNumber 19 = .ok (.iconst 1, 1) := by decide +kernel
theorem dX0_pieceNumber_20 : decode cX0_pieceNumber 20 = .ok (.isub, 1) := by decide +kernel
theorem dX0_pieceNumber_21 : decode cX0_pieceNumber 21 = .ok (.ireturn, 1) := by decide +kernel
theorem dX0_figures_0 : decode cX0_figures 0 = .ok (.iconst 0, 1) := by decide +kernel
theorem dX0_figures_1 : decode cX0_figures 1 = .ok (.istore_n 1, 1) := by decide +kernel
theorem dX0_figures_2 : decode cX0_figures 2 = .ok (.iconst 0, 1) := by decide +kernel
theorem dX0_figures_3 : decode cX0_figures 3 = .ok (.istore_n 2, 1) := by decide +kernel
theorem dX0_figures_4 : decode cX0_figures 4 = .ok (.iload_n 2, 1) := by decide +kernel
theorem dX0_figures_5 : decode cX0_figures 5 = .ok (.aload_n 0, 1) := by decide +kernel
theorem dX0_figures_6 : decode cX0_figures 6 = .ok (.getfield 9, 3) := by decide +kernel
theorem dX0_figures_9 : decode cX0_figures 9 = .ok (.if_icmp .ge 21, 3) := by decide +kernel
theorem dX0_figures_12 : decode cX0_figures 12 = .ok (.iload_n 1, 1) := by decide +kernel
theorem dX0_figures_13 : decode cX0_figures 13 = .ok (.bipush 10, 2) := by decide +kernel
theorem dX0_figures_15 : decode cX0_figures 15 = .ok (.imul, 1) := by decide +kernel
theorem dX0_figures_16 : decode cX0_figures 16 = .ok (.aload_n 0, 1) := by decide +kernel
theorem dX0_figures_17 : decode cX0_figures 17 = .ok (.getfield 18, 3) := by decide +kernel
theorem dX0_figures_20 : decode cX0_figures 20 = .ok (.iload_n 2, 1) := by decide +kernel
theorem dX0_figures_21 : decode cX0_figures 21 = .ok (.iaload, 1) := by decide +kernel
theorem dX0_figures_22 : decode cX0_figures 22 = .ok (.iadd, 1) := by decide +kernel
theorem dX0_figures_23 : decode cX0_figures 23 = .ok (.istore_n 1, 1) := by decide +kernel
theorem dX0_figures_24 : decode cX0_figures 24 = .ok (.iinc 2 1, 3) := by decide +kernel
theorem dX0_figures_27 : decode cX0_figures 27 = .ok (.goto (-23), 3) := by decide +kernel
theorem dX0_figures_30 : decode cX0_figures 30 = .ok (.iload_n 1, 1) := by decide +kernel
theorem dX0_figures_31 : decode cX0_figures 31 = .ok (.ireturn, 1) := by decide +kernel
theorem dX0_packed_0 : decode cX0_packed 0 = .ok (.iconst 0, 1) := by decide +kernel
theorem dX0_packed_1 : decode cX0_packed 1 = .ok (.istore_n 1, 1) := by decide +kernel
theorem dX0_packed_2 : decode cX0_packed 2 = .ok (.bipush 7, 2) := by decide +kernel
theorem dX0_packed_4 : decode cX0_packed 4 = .ok (.istore_n 2, 1) := by decide +kernel
theorem dX0_packed_5 : decode cX0_packed 5 = .ok (.iload_n 2, 1) := by decide +kernel
theorem dX0_packed_6 : decode cX0_packed 6 = .ok (.ifCond .lt 20, 3) := by decide +kernel
theorem dX0_packed_9 : decode cX0_packed 9 = .ok (.iload_n 1, 1) := by decide +kernel
theorem dX0_packed_10 : decode cX0_packed 10 = .ok (.iconst 3, 1) := by decide +kernel
theorem dX0_packed_11 : decode cX0_packed 11 = .ok (.ishl, 1) := by decide +kernel
theorem dX0_packed_12 : decode cX0_packed 12 = .ok (.aload_n 0, 1) := by decide +kernel
theorem dX0_packed_13 : decode cX0_packed 13 = .ok (.getfield 18, 3) := by decide +kernel
theorem dX0_packed_16 : decode cX0_packed 16 = .ok (.iload_n 2, 1) := by decide +kernel
theorem dX0_packed_17 : decode cX0_packed 17 = .ok (.iaload, 1) := by decide +kernel
theorem dX0_packed_18 : decode cX0_packed 18 = .ok (.ior, 1) := by decide +kernel
theorem dX0_packed_19 : decode cX0_packed 19 = .ok (.istore_n 1, 1) := by decide +kernel
theorem dX0_packed_20 : decode cX0_packed 20 = .ok (.iinc 2 (-1), 3) := by decide +kernel
theorem dX0_packed_23 : decode cX0_packed 23 = .ok (.goto (-18), 3) := by decide +kernel
theorem dX0_packed_26 : decode cX0_packed 26 = .ok (.iload_n 1, 1) := by decide +kernel
theorem dX0_packed_27 : decode cX0_packed 27 = .ok (.ireturn, 1) := by decide +kernel
theorem dX0_unpack_0 : decode cX0_unpack 0 = .ok (.iconst 0, 1) := by decide +kernel
theorem dX0_unpack_1 : decode cX0_unpack 1 = .ok (.istore_n 2, 1) := by decide +kernel
theorem dX0_unpack_2 : decode cX0_unpack 2 = .ok (.iload_n 2, 1) := by decide +kernel
theorem dX0_unpack_3 : decode cX0_unpack 3 = .ok (.bipush 8, 2) := by decide +kernel
theorem dX0_unpack_5 : decode cX0_unpack 5 = .ok (.if_icmp .ge 23, 3) := by decide +kernel
theorem dX0_unpack_8 : decode cX0_unpack 8 = .ok (.aload_n 0, 1) := by decide +kernel
theorem dX0_unpack_9 : decode cX0_unpack 9 = .ok (.getfield 18, 3) := by decide +kernel
theorem dX0_unpack_12 : decode cX0_unpack 12 = .ok (.iload_n 2, 1) := by decide +kernel
theorem dX0_unpack_13 : decode cX0_unpack 13 = .ok (.iload_n 1, 1) := by decide +kernel
theorem dX0_unpack_14 : decode cX0_unpack 14 = .ok (.iload_n 2, 1) := by decide +kernel
theorem dX0_unpack_15 : decode cX0_unpack 15 = .ok (.iconst 3, 1) := by decide +kernel
theorem dX0_unpack_16 : decode cX0_unpack 16 = .ok (.imul, 1) := by decide +kernel
theorem dX0_unpack_17 : decode cX0_unpack 17 = .ok (.ishr, 1) := by decide +kernel
theorem dX0_unpack_18 : decode cX0_unpack 18 = .ok (.bipush 7, 2) := by decide +kernel
theorem dX0_unpack_20 : decode cX0_unpack 20 = .ok (.iand, 1) := by decide +kernel
theorem dX0_unpack_21 : decode cX0_unpack 21 = .ok (.iastore, 1) := by decide +kernel
theorem dX0_unpack_22 : decode cX0_unpack 22 = .ok (.iinc 2 1, 3) := by decide +kernel
theorem dX0_unpack_25 : decode cX0_unpack 25 = .ok (.goto (-23), 3) := by decide +kernel
theorem dX0_unpack_28 : decode cX0_unpack 28 = .ok (.return_, 1) := by decide +kernel
theorem dX0_ringBits_0 : decode cX0_ringBits 0 = .ok (.iload_n 1, 1) := by decide +kernel
theorem dX0_ringBits_1 : decode cX0_ringBits 1 = .ok (.istore_n 2, 1) := by decide +kernel
theorem dX0_ringBits_2 : decode cX0_ringBits 2 = .ok (.iconst 0, 1) := by decide +kernel
theorem dX0_ringBits_3 : decode cX0_ringBits 3 = .ok (.istore_n 3, 1) := by decide +kernel
theorem dX0_ringBits_4 : decode cX0_ringBits 4 = .ok (.iload_n 3, 1) := by decide +kernel
theorem dX0_ringBits_5 : decode cX0_ringBits 5 = .ok (.aload_n 0, 1) := by decide +kernel
theorem dX0_ringBits_6 : decode cX0_ringBits 6 = .ok (.getfield 9, 3) := by decide +kernel
theorem dX0_ringBits_9 : decode cX0_ringBits 9 = .ok (.if_icmp .ge 16, 3) := by decide +kernel
theorem dX0_ringBits_12 : decode cX0_ringBits 12 = .ok (.aload_n 0, 1) := by decide +kernel
theorem dX0_ringBits_13 : decode cX0_ringBits 13 = .ok (.getfield 18, 3) := by decide +kernel
theorem dX0_ringBits_16 : decode cX0_ringBits 16 = .ok (.iload_n 2, 1) := by decide +kernel
theorem dX0_ringBits_17 : decode cX0_ringBits 17 = .ok (.iaload, 1) := by decide +kernel
theorem dX0_ringBits_18 : decode cX0_ringBits 18 = .ok (.istore_n 2, 1) := by decide +kernel
theorem dX0_ringBits_19 : decode cX0_ringBits 19 = .ok (.iinc 3 1, 3) := by decide +kernel
theorem dX0_ringBits_22 : decode cX0_ringBits 22 = .ok (.goto (-18), 3) := by decide +kernel
theorem dX0_ringBits_25 : decode cX0_ringBits 25 = .ok (.iconst 0, 1) := by decide +kernel
theorem dX0_ringBits_26 : decode cX0_ringBits 26 = .ok (.istore_n 3, 1) := by decide +kernel
theorem dX0_ringBits_27 : decode cX0_ringBits 27 = .ok (.iconst 0, 1) := by decide +kernel
theorem dX0_ringBits_28 : decode cX0_ringBits 28 = .ok (.istore 4, 2) := by decide +kernel
theorem dX0_ringBits_30 : decode cX0_ringBits 30 = .ok (.iload 4, 2) := by decide +kernel
theorem dX0_ringBits_32 : decode cX0_ringBits 32 = .ok (.aload_n 0, 1) := by decide +kernel
theorem dX0_ringBits_33 : decode cX0_ringBits 33 = .ok (.getfield 9, 3) := by decide +kernel
theorem dX0_ringBits_36 : decode cX0_ringBits 36 = .ok (.if_icmp .ge 22, 3) := by decide +kernel
theorem dX0_ringBits_39 : decode cX0_ringBits 39 = .ok (.iload_n 3, 1) := by decide +kernel
theorem dX0_ringBits_40 : decode cX0_ringBits 40 = .ok (.iconst 1, 1) := by decide +kernel
theorem dX0_ringBits_41 : decode cX0_ringBits 41 = .ok (.iload_n 2, 1) := by decide +kernel
theorem dX0_ringBits_42 : decode cX0_ringBits 42 = .ok (.ishl, 1) := by decide +kernel
theorem dX0_ringBits_43 : decode cX0_ringBits 43 = .ok (.ior, 1) := by decide +kernel
theorem dX0_ringBits_44 : decode cX0_ringBits 44 = .ok (.istore_n 3, 1) := by decide +kernel
theorem dX0_ringBits_45 : decode cX0_ringBits 45 = .ok (.aload_n 0, 1) := by decide +kernel
theorem dX0_ringBits_46 : decode cX0_ringBits 46 = .ok (.getfield 18, 3) := by decide +kernel
theorem dX0_ringBits_49 : decode cX0_ringBits 49 = .ok (.iload_n 2, 1) := by decide +kernel
theorem dX0_ringBits_50 : decode cX0_ringBits 50 = .ok (.iaload, 1) := by decide +kernel
theorem dX0_ringBits_51 : decode cX0_ringBits 51 = .ok (.istore_n 2, 1) := by decide +kernel
theorem dX0_ringBits_52 : decode cX0_ringBits 52 = .ok (.iinc 4 1, 3) := by decide +kernel
theorem dX0_ringBits_55 : decode cX0_ringBits 55 = .ok (.goto (-25), 3) := by decide +kernel
theorem dX0_ringBits_58 : decode cX0_ringBits 58 = .ok (.iload_n 3, 1) := by decide +kernel
theorem dX0_ringBits_59 : decode cX0_ringBits 59 = .ok (.ireturn, 1) := by decide +kernel
set_option maxRecDepth 20000 in
theorem ggX0_tailOf_X0_ringBits : GoodIn wsX0_tailOf wsX0_ringBits := goodIn_r _ [7, 1, 2, 8, 9, 10, 11] (by decide +kernel) (by decide +kernel)
set_option maxRecDepth 20000 in
theorem gX0_tailOf_X0_ringBits : GoodIn wsX0_tailOf (wsV RX0 35 RX0 yX0_ringBits wsX0_ringBits) := goodIn_app (goodIn_of _ (by decide +kernel)) ggX0_tailOf_X0_ringBits
theorem dX0_tailOf_0 : decode cX0_tailOf 0 = .ok (.aload_n 0, 1) := by decide +kernel
theorem dX0_tailOf_1 : decode cX0_tailOf 1 = .ok (.iload_n 1, 1) := by decide +kernel
theorem dX0_tailOf_2 : decode cX0_tailOf 2 = .ok (.invokevirtual 35, 3) := by decide +kernel
theorem dX0_tailOf_5 : decode cX0_tailOf 5 = .ok (.istore_n 2, 1) := by decide +kernel
theorem dX0_tailOf_6 : decode cX0_tailOf 6 = .ok (.iload_n 1, 1) := by decide +kernel
theorem dX0_tailOf_7 : decode cX0_tailOf 7 = .ok (.istore_n 3, 1) := by decide +kernel
theorem dX0_tailOf_8 : decode cX0_tailOf 8 = .ok (.iconst 0, 1) := by decide +kernel
theorem dX0_tailOf_9 : decode cX0_tailOf 9 = .ok (.istore 4, 2) := by decide +kernel
theorem dX0_tailOf_11 : decode cX0_tailOf 11 = .ok (.iload 4, 2) := by decide +kernel
theorem dX0_tailOf_13 : decode cX0_tailOf 13 = .ok (.aload_n 0, 1) := by decide +kernel
theorem dX0_tailOf_14 : decode cX0_tailOf 14 = .ok (.getfield 9, 3) := by decide +kernel
theorem dX0_tailOf_17 : decode cX0_tailOf 17 = .ok (.if_icmp .ge 24, 3) := by decide +kernel
theorem dX0_tailOf_20 : decode cX0_tailOf 20 = .ok (.iload_n 2, 1) := by decide +kernel
theorem dX0_tailOf_21 : decode cX0_tailOf 21 = .ok (.iload_n 3, 1) := by decide +kernel
theorem dX0_tailOf_22 : decode cX0_tailOf 22 = .ok (.ishr, 1) := by decide +kernel
theorem dX0_tailOf_23 : decode cX0_tailOf 23 = .ok (.iconst 1, 1) := by decide +kernel
theorem dX0_tailOf_24 : decode cX0_tailOf 24 = .ok (.iand, 1) := by decide +kernel
theorem dX0_tailOf_25 : decode cX0_tailOf 25 = .ok (.ifCond .ne 16, 3) := by decide +kernel
theorem dX0_tailOf_28 : decode cX0_tailOf 28 = .ok (.aload_n 0, 1) := by decide +kernel
theorem dX0_tailOf_29 : decode cX0_tailOf 29 = .ok (.getfield 18, 3) := by decide +kernel
theorem dX0_tailOf_32 : decode cX0_tailOf 32 = .ok (.iload_n 3, 1) := by decide +kernel
theorem dX0_tailOf_33 : decode cX0_tailOf 33 = .ok (.iaload, 1) := by decide +kernel
theorem dX0_tailOf_34 : decode cX0_tailOf 34 = .ok (.istore_n 3, 1) := by decide +kernel
theorem dX0_tailOf_35 : decode cX0_tailOf 35 = .ok (.iinc 4 1, 3) := by decide +kernel
theorem dX0_tailOf_38 : decode cX0_tailOf 38 = .ok (.goto (-27), 3) := by decide +kernel
theorem dX0_tailOf_41 : decode cX0_tailOf 41 = .ok (.iload 4, 2) := by decide +kernel
theorem dX0_tailOf_43 : decode cX0_tailOf 43 = .ok (.ireturn, 1) := by decide +kernel
set_option maxRecDepth 20000 in
theorem ggX0_isLeastOfRing_X0_ringBits : GoodIn wsX0_isLeastOfRing wsX0_ringBits := goodIn_r _ [5, 6, 7, 8, 9, 10, 11] (by decide +kernel) (by decide +kernel)
set_option maxRecDepth 20000 in
theorem gX0_isLeastOfRing_X0_ringBits : GoodIn wsX0_isLeastOfRing (wsV RX0 35 RX0 yX0_ringBits wsX0_ringBits) := goodIn_app (goodIn_of _ (by decide +kernel)) ggX0_isLeastOfRing_X0_ringBits
theorem dX0_isLeastOfRing_0 : decode cX0_isLeastOfRing 0 = .ok (.aload_n 0, 1) := by decide +kernel
theorem dX0_isLeastOfRing_1 : decode cX0_isLeastOfRing 1 = .ok (.iload_n 1, 1) := by decide +kernel
theorem dX0_isLeastOfRing_2 : decode cX0_isLeastOfRing 2 = .ok (.invokevirtual 35, 3) := by decide +kernel
theorem dX0_isLeastOfRing_5 : decode cX0_isLeastOfRing 5 = .ok (.istore_n 2, 1) := by decide +kernel
theorem dX0_isLeastOfRing_6 : decode cX0_isLeastOfRing 6 = .ok (.iload_n 2, 1) := by decide +kernel
theorem dX0_isLeastOfRing_7 : decode cX0_isLeastOfRing 7 = .ok (.iload_n 1, 1) := by decide +kernel
theorem dX0_isLeastOfRing_8 : decode cX0_isLeastOfRing 8 = .ok (.ishr, 1) := by decide +kernel
theorem dX0_isLeastOfRing_9 : decode cX0_isLeastOfRing 9 = .ok (.iconst 1, 1) := by decide +kernel
theorem dX0_isLeastOfRing_10 : decode cX0_isLeastOfRing 10 = .ok (.iand, 1) := by decide +kernel
theorem dX0_isLeastOfRing_11 : decode cX0_isLeastOfRing 11 = .ok (.iconst 1, 1) := by decide +kernel
theorem dX0_isLeastOfRing_12 : decode cX0_isLeastOfRing 12 = .ok (.if_icmp .ne 17, 3) := by decide +kernel
theorem dX0_isLeastOfRing_15 : decode cX0_isLeastOfRing 15 = .ok (.iload_n 2, 1) := by decide +kernel
theorem dX0_isLeastOfRing_16 : decode cX0_isLeastOfRing 16 = .ok (.iconst 1, 1) := by decide +kernel
theorem dX0_isLeastOfRing_17 : decode cX0_isLeastOfRing 17 = .ok (.iload_n 1, 1) := by decide +kernel
theorem dX0_isLeastOfRing_18 : decode cX0_isLeastOfRing 18 = .ok (.ishl, 1) := by decide +kernel
theorem dX0_isLeastOfRing_19 : decode cX0_isLeastOfRing 19 = .ok (.iconst 1, 1) := by decide +kernel
theorem dX0_isLeastOfRing_20 : decode cX0_isLeastOfRing 20 = .ok (.isub, 1) := by decide +kernel
theorem dX0_isLeastOfRing_21 : decode cX0_isLeastOfRing 21 = .ok (.iand, 1) := by decide +kernel
theorem dX0_isLeastOfRing_22 : decode cX0_isLeastOfRing 22 = .ok (.ifCond .ne 7, 3) := by decide +kernel
theorem dX0_isLeastOfRing_25 : decode cX0_isLeastOfRing 25 = .ok (.iconst 1, 1) := by decide +kernel
theorem dX0_isLeastOfRing_26 : decode cX0_isLeastOfRing 26 = .ok (.goto 4, 3) := by decide +kernel
theorem dX0_isLeastOfRing_29 : decode cX0_isLeastOfRing 29 = .ok (.iconst 0, 1) := by decide +kernel
theorem dX0_isLeastOfRing_30 : decode cX0_isLeastOfRing 30 = .ok (.ireturn, 1) := by decide +kernel
set_option maxRecDepth 20000 in
theorem ggX0_leastOfRing_X0_isLeastOfRing : GoodIn wsX0_leastOfRing wsX0_isLeastOfRing := goodIn_r _ [6, 7, 8, 9, 5, 10, 1, 11, 12, 13, 14, 15] (by decide +kernel) (by decide +kernel)
set_option maxRecDepth 20000 in
theorem gX0_leastOfRing_X0_isLeastOfRing : GoodIn wsX0_leastOfRing (wsV RX0 39 RX0 yX0_isLeastOfRing wsX0_isLeastOfRing) := goodIn_app (goodIn_of _ (by decide +kernel)) ggX0_leastOfRing_X0_isLeastOfRing
theorem dX0_leastOfRing_0 : decode cX0_leastOfRing 0 = .ok (.iconst 0, 1) := by decide +kernel
theorem dX0_leastOfRing_1 : decode cX0_leastOfRing 1 = .ok (.istore_n 2, 1) := by decide +kernel
theorem dX0_leastOfRing_2 : decode cX0_leastOfRing 2 = .ok (.iconst 0, 1) := by decide +kernel
theorem dX0_leastOfRing_3 : decode cX0_leastOfRing 3 = .ok (.istore_n 3, 1) := by decide +kernel
theorem dX0_leastOfRing_4 : decode cX0_leastOfRing 4 = .ok (.iload_n 3, 1) := by decide +kernel
theorem dX0_leastOfRing_5 : decode cX0_leastOfRing 5 = .ok (.aload_n 0, 1) := by decide +kernel
theorem dX0_leastOfRing_6 : decode cX0_leastOfRing 6 = .ok (.getfield 9, 3) := by decide +kernel
theorem dX0_leastOfRing_9 : decode cX0_leastOfRing 9 = .ok (.if_icmp .ge 27, 3) := by decide +kernel
theorem dX0_leastOfRing_12 : decode cX0_leastOfRing 12 = .ok (.aload_n 0, 1) := by decide +kernel
theorem dX0_leastOfRing_13 : decode cX0_leastOfRing 13 = .ok (.iload_n 3, 1) := by decide +kernel
theorem dX0_leastOfRing_14 : decode cX0_leastOfRing 14 = .ok (.invokevirtual 39, 3) := by decide +kernel
theorem dX0_leastOfRing_17 : decode cX0_leastOfRing 17 = .ok (.ifCond .eq 13, 3) := by decide +kernel
theorem dX0_leastOfRing_20 : decode cX0_leastOfRing 20 = .ok (.iload_n 2, 1) := by decide +kernel
theorem dX0_leastOfRing_21 : decode cX0_leastOfRing 21 = .ok (.iload_n 1, 1) := by decide +kernel
theorem dX0_leastOfRing_22 : decode cX0_leastOfRing 22 = .ok (.if_icmp .ne 5, 3) := by decide +kernel
theorem dX0_leastOfRing_25 : decode cX0_leastOfRing 25 = .ok (.iload_n 3, 1) := by decide +kernel
theorem dX0_leastOfRing_26 : decode cX0_leastOfRing 26 = .ok (.ireturn, 1) := by decide +kernel
theorem dX0_leastOfRing_27 : decode cX0_leastOfRing 27 = .ok (.iinc 2 1, 3) := by decide +kernel
theorem dX0_leastOfRing_30 : decode cX0_leastOfRing 30 = .ok (.iinc 3 1, 3) := by decide +kernel
theorem dX0_leastOfRing_33 : decode cX0_leastOfRing 33 = .ok (.goto (-29), 3) := by decide +kernel
theorem dX0_leastOfRing_36 : decode cX0_leastOfRing 36 = .ok (.iconst (-1), 1) := by decide +kernel
theorem dX0_leastOfRing_37 : decode cX0_leastOfRing 37 = .ok (.ireturn, 1) := by decide +kernel
set_option maxRecDepth 20000 in
theorem ggX0_ringNumber_X0_isLeastOfRing : GoodIn wsX0_ringNumber wsX0_isLeastOfRing := goodIn_r _ [6, 7, 8, 9, 5, 10, 1, 11, 12, 13, 14, 15] (by decide +kernel) (by decide +kernel)
set_option maxRecDepth 20000 in
theorem gX0_ringNumber_X0_isLeastOfRing : GoodIn wsX0_ringNumber (wsV RX0 39 RX0 yX0_isLeastOfRing wsX0_isLeastOfRing) := goodIn_app (goodIn_of _ (by decide +kernel)) ggX0_ringNumber_X0_isLeastOfRing
theorem dX0_ringNumber_0 : decode cX0_ringNumber 0 = .ok (.iconst 0, 1) := by decide +kernel
theorem dX0_ringNumber_1 : decode cX0_ringNumber 1 = .ok (.istore_n 1, 1) := by decide +kernel
theorem dX0_ringNumber_2 : decode cX0_ringNumber 2 = .ok (.iconst 0, 1) := by decide +kernel
theorem dX0_ringNumber_3 : decode cX0_ringNumber 3 = .ok (.istore_n 2, 1) := by decide +kernel
theorem dX0_ringNumber_4 : decode cX0_ringNumber 4 = .ok (.iload_n 2, 1) := by decide +kernel
theorem dX0_ringNumber_5 : decode cX0_ringNumber 5 = .ok (.aload_n 0, 1) := by decide +kernel
theorem dX0_ringNumber_6 : decode cX0_ringNumber 6 = .ok (.getfield 9, 3) := by decide +kernel
theorem dX0_ringNumber_9 : decode cX0_ringNumber 9 = .ok (.if_icmp .ge 20, 3) := by decide +kernel
theorem dX0_ringNumber_12 : decode cX0_ringNumber 12 = .ok (.aload_n 0, 1) := by decide +kernel
theorem dX0_ringNumber_13 : decode cX0_ringNumber 13 = .ok (.iload_n 2, 1) := by decide +kernel
theorem dX0_ringNumber_14 : decode cX0_ringNumber 14 = .ok (.invokevirtual 39, 3) := by decide +kernel
theorem dX0_ringNumber_17 : decode cX0_ringNumber 17 = .ok (.ifCond .eq 6, 3) := by decide +kernel
theorem dX0_ringNumber_20 : decode cX0_ringNumber 20 = .ok (.iinc 1 1, 3) := by decide +kernel
theorem dX0_ringNumber_23 : decode cX0_ringNumber 23 = .ok (.iinc 2 1, 3) := by decide +kernel
theorem dX0_ringNumber_26 : decode cX0_ringNumber 26 = .ok (.goto (-22), 3) := by decide +kernel
theorem dX0_ringNumber_29 : decode cX0_ringNumber 29 = .ok (.iload_n 1, 1) := by decide +kernel
theorem dX0_ringNumber_30 : decode cX0_ringNumber 30 = .ok (.ireturn, 1) := by decide +kernel
set_option maxRecDepth 20000 in
theorem ggX0_pointsOnRings_X0_ringBits : GoodIn wsX0_pointsOnRings wsX0_ringBits := goodIn_r _ [6, 1, 7, 15, 16, 17, 18] (by decide +kernel) (by decide +kernel)
set_option maxRecDepth 20000 in
theorem gX0_pointsOnRings_X0_ringBits : GoodIn wsX0_pointsOnRings (wsV RX0 35 RX0 yX0_ringBits wsX0_ringBits) := goodIn_app (goodIn_of _ (by decide +kernel)) ggX0_pointsOnRings_X0_ringBits
set_option maxRecDepth 20000 in
theorem ggX0_pointsOnRings_J6_bitCount_0f7a4 : GoodIn wsX0_pointsOnRings wsJ6_bitCount_0f7a4 := goodIn_r _ [11, 12, 13, 14] (by decide +kernel) (by decide +kernel)
set_option maxRecDepth 20000 in
theorem gX0_pointsOnRings_J6_bitCount_0f7a4 : GoodIn wsX0_pointsOnRings (va_wsS RX0 43 yJ6_bitCount_0f7a4 wsJ6_bitCount_0f7a4) := goodIn_app (goodIn_of _ (by decide +kernel)) ggX0_pointsOnRings_J6_bitCount_0f7a4
theorem dX0_pointsOnRings_0 : decode cX0_pointsOnRings 0 = .ok (.iconst 0, 1) := by decide +kernel
theorem dX0_pointsOnRings_1 : decode cX0_pointsOnRings 1 = .ok (.istore_n 1, 1) := by decide +kernel
theorem dX0_pointsOnRings_2 : decode cX0_pointsOnRings 2 = .ok (.iconst 0, 1) := by decide +kernel
theorem dX0_pointsOnRings_3 : decode cX0_pointsOnRings 3 = .ok (.istore_n 2, 1) := by decide +kernel
theorem dX0_pointsOnRings_4 : decode cX0_pointsOnRings 4 = .ok (.iload_n 2, 1) := by decide +kernel
theorem dX0_pointsOnRings_5 : decode cX0_pointsOnRings 5 = .ok (.aload_n 0, 1) := by decide +kernel
theorem dX0_pointsOnRings_6 : decode cX0_pointsOnRings 6 = .ok (.getfield 9, 3) := by decide +kernel
theorem dX0_pointsOnRings_9 : decode cX0_pointsOnRings 9 = .ok (.if_icmp .ge 17, 3) := by decide +kernel
theorem dX0_pointsOnRings_12 : decode cX0_pointsOnRings 12 = .ok (.iload_n 1, 1) := by decide +kernel
theorem dX0_pointsOnRings_13 : decode cX0_pointsOnRings 13 = .ok (.aload_n 0, 1) := by decide +kernel
theorem dX0_pointsOnRings_14 : decode cX0_pointsOnRings 14 = .ok (.iload_n 2, 1) := by decide +kernel
theorem dX0_pointsOnRings_15 : decode cX0_pointsOnRings 15 = .ok (.invokevirtual 35, 3) := by decide +kernel
theorem dX0_pointsOnRings_18 : decode cX0_pointsOnRings 18 = .ok (.ior, 1) := by decide +kernel
theorem dX0_pointsOnRings_19 : decode cX0_pointsOnRings 19 = .ok (.istore_n 1, 1) := by decide +kernel
theorem dX0_pointsOnRings_20 : decode cX0_pointsOnRings 20 = .ok (.iinc 2 1, 3) := by decide +kernel
theorem dX0_pointsOnRings_23 : decode cX0_pointsOnRings 23 = .ok (.goto (-19), 3) := by decide +kernel
theorem dX0_pointsOnRings_26 : decode cX0_pointsOnRings 26 = .ok (.iload_n 1, 1) := by decide +kernel
theorem dX0_pointsOnRings_27 : decode cX0_pointsOnRings 27 = .ok (.invokestatic 43, 3) := by decide +kernel
theorem dX0_pointsOnRings_30 : decode cX0_pointsOnRings 30 = .ok (.ireturn, 1) := by decide +kernel
set_option maxRecDepth 20000 in
theorem ggX0_greatestRing_X0_ringBits : GoodIn wsX0_greatestRing wsX0_ringBits := goodIn_r _ [10, 1, 11, 19, 20, 21, 22] (by decide +kernel) (by decide +kernel)
set_option maxRecDepth 20000 in
theorem gX0_greatestRing_X0_ringBits : GoodIn wsX0_greatestRing (wsV RX0 35 RX0 yX0_ringBits wsX0_ringBits) := goodIn_app (goodIn_of _ (by decide +kernel)) ggX0_greatestRing_X0_ringBits
set_option maxRecDepth 20000 in
theorem ggX0_greatestRing_J6_bitCount_0f7a4 : GoodIn wsX0_greatestRing wsJ6_bitCount_0f7a4 := goodIn_r _ [15, 16, 17, 18] (by decide +kernel) (by decide +kernel)
set_option maxRecDepth 20000 in
theorem gX0_greatestRing_J6_bitCount_0f7a4 : GoodIn wsX0_greatestRing (va_wsS RX0 43 yJ6_bitCount_0f7a4 wsJ6_bitCount_0f7a4) := goodIn_app (goodIn_of _ (by decide +kernel)) ggX0_greatestRing_J6_bitCount_0f7a4
theorem dX0_greatestRing_0 : decode cX0_greatestRing 0 = .ok (.iconst 0, 1) := by decide +kernel
theorem dX0_greatestRing_1 : decode cX0_greatestRing 1 = .ok (.istore_n 1, 1) := by decide +kernel
theorem dX0_greatestRing_2 : decode cX0_greatestRing 2 = .ok (.iconst 0, 1) := by decide +kernel
theorem dX0_greatestRing_3 : decode cX0_greatestRing 3 = .ok (.istore_n 2, 1) := by decide +kernel
theorem dX0_greatestRing_4 : decode cX0_greatestRing 4 = .ok (.iload_n 2, 1) := by decide +kernel
theorem dX0_greatestRing_5 : decode cX0_greatestRing 5 = .ok (.aload_n 0, 1) := by decide +kernel
theorem dX0_greatestRing_6 : decode cX0_greatestRing 6 = .ok (.getfield 9, 3) := by decide +kernel
theorem dX0_greatestRing_9 : decode cX0_greatestRing 9 = .ok (.if_icmp .ge 22, 3) := by decide +kernel
theorem dX0_greatestRing_12 : decode cX0_greatestRing 12 = .ok (.iload_n 1, 1) := by decide +kernel
theorem dX0_greatestRing_13 : decode cX0_greatestRing 13 = .ok (.aload_n 0, 1) := by decide +kernel
theorem dX0_greatestRing_14 : decode cX0_greatestRing 14 = .ok (.iload_n 2, 1) := by decide +kernel
theorem dX0_greatestRing_15 : decode cX0_greatestRing 15 = .ok (.invokevirtual 35, 3) := by decide +kernel
theorem dX0_greatestRing_18 : decode cX0_greatestRing 18 = .ok (.invokestatic 43, 3) := by decide +kernel
theorem dX0_greatestRing_21 : decode cX0_greatestRing 21 = .ok (.invokestatic 48, 3) := by decide +kernel
theorem dX0_greatestRing_24 : decode cX0_greatestRing 24 = .ok (.istore_n 1, 1) := by decide +kernel
theorem dX0_greatestRing_25 : decode cX0_greatestRing 25 = .ok (.iinc 2 1, 3) := by decide +kernel
theorem dX0_greatestRing_28 : decode cX0_greatestRing 28 = .ok (.goto (-24), 3) := by decide +kernel
theorem dX0_greatestRing_31 : decode cX0_greatestRing 31 = .ok (.iload_n 1, 1) := by decide +kernel
theorem dX0_greatestRing_32 : decode cX0_greatestRing 32 = .ok (.ireturn, 1) := by decide +kernel
set_option maxRecDepth 20000 in
theorem ggX0_ringSizes_X0_ringBits : GoodIn wsX0_ringSizes wsX0_ringBits := goodIn_r _ [6, 1, 7, 15, 16, 17, 18] (by decide +kernel) (by decide +kernel)
set_option maxRecDepth 20000 in
theorem gX0_ringSizes_X0_ringBits : GoodIn wsX0_ringSizes (wsV RX0 35 RX0 yX0_ringBits wsX0_ringBits) := goodIn_app (goodIn_of _ (by decide +kernel)) ggX0_ringSizes_X0_ringBits
set_option maxRecDepth 20000 in
theorem ggX0_ringSizes_J6_bitCount_0f7a4 : GoodIn wsX0_ringSizes wsJ6_bitCount_0f7a4 := goodIn_r _ [11, 12, 13, 14] (by decide +kernel) (by decide +kernel)
set_option maxRecDepth 20000 in
theorem gX0_ringSizes_J6_bitCount_0f7a4 : GoodIn wsX0_ringSizes (va_wsS RX0 43 yJ6_bitCount_0f7a4 wsJ6_bitCount_0f7a4) := goodIn_app (goodIn_of _ (by decide +kernel)) ggX0_ringSizes_J6_bitCount_0f7a4
theorem dX0_ringSizes_0 : decode cX0_ringSizes 0 = .ok (.iconst 0, 1) := by decide +kernel
theorem dX0_ringSizes_1 : decode cX0_ringSizes 1 = .ok (.istore_n 1, 1) := by decide +kernel
theorem dX0_ringSizes_2 : decode cX0_ringSizes 2 = .ok (.iconst 0, 1) := by decide +kernel
theorem dX0_ringSizes_3 : decode cX0_ringSizes 3 = .ok (.istore_n 2, 1) := by decide +kernel
theorem dX0_ringSizes_4 : decode cX0_ringSizes 4 = .ok (.iload_n 2, 1) := by decide +kernel
theorem dX0_ringSizes_5 : decode cX0_ringSizes 5 = .ok (.aload_n 0, 1) := by decide +kernel
theorem dX0_ringSizes_6 : decode cX0_ringSizes 6 = .ok (.getfield 9, 3) := by decide +kernel
theorem dX0_ringSizes_9 : decode cX0_ringSizes 9 = .ok (.if_icmp .ge 22, 3) := by decide +kernel
theorem dX0_ringSizes_12 : decode cX0_ringSizes 12 = .ok (.iload_n 1, 1) := by decide +kernel
theorem dX0_ringSizes_13 : decode cX0_ringSizes 13 = .ok (.iconst 1, 1) := by decide +kernel
theorem dX0_ringSizes_14 : decode cX0_ringSizes 14 = .ok (.aload_n 0, 1) := by decide +kernel
theorem dX0_ringSizes_15 : decode cX0_ringSizes 15 = .ok (.iload_n 2, 1) := by decide +kernel
theorem dX0_ringSizes_16 : decode cX0_ringSizes 16 = .ok (.invokevirtual 35, 3) := by decide +kernel
theorem dX0_ringSizes_19 : decode cX0_ringSizes 19 = .ok (.invokestatic 43, 3) := by decide +kernel
theorem dX0_ringSizes_22 : decode cX0_ringSizes 22 = .ok (.ishl, 1) := by decide +kernel
theorem dX0_ringSizes_23 : decode cX0_ringSizes 23 = .ok (.ior, 1) := by decide +kernel
theorem dX0_ringSizes_24 : decode cX0_ringSizes 24 = .ok (.istore_n 1, 1) := by decide +kernel
theorem dX0_ringSizes_25 : decode cX0_ringSizes 25 = .ok (.iinc 2 1, 3) := by decide +kernel
theorem dX0_ringSizes_28 : decode cX0_ringSizes 28 = .ok (.goto (-24), 3) := by decide +kernel
theorem dX0_ringSizes_31 : decode cX0_ringSizes 31 = .ok (.iload_n 1, 1) := by decide +kernel
theorem dX0_ringSizes_32 : decode cX0_ringSizes 32 = .ok (.ireturn, 1) := by decide +kernel
set_option maxRecDepth 20000 in
theorem ggX0_turned_X0_mirror : GoodIn wsX0_turned wsX0_mirror := goodIn_r _ [12, 3, 1, 2, 40, 41, 42, 43] (by decide +kernel) (by decide +kernel)
set_option maxRecDepth 20000 in
theorem gX0_turned_X0_mirror : GoodIn wsX0_turned (wsV RX0 54 RX0 yX0_mirror wsX0_mirror) := goodIn_app (goodIn_of _ (by decide +kernel)) ggX0_turned_X0_mirror
set_option maxRecDepth 20000 in
theorem ggX0_turned_X0_leadTwice : GoodIn wsX0_turned wsX0_leadTwice := goodIn_r _ [16, 3, 1, 2, 40, 41, 42, 43] (by decide +kernel) (by decide +kernel)
set_option maxRecDepth 20000 in
theorem gX0_turned_X0_leadTwice : GoodIn wsX0_turned (wsV RX0 57 RX0 yX0_leadTwice wsX0_leadTwice) := goodIn_app (goodIn_of _ (by decide +kernel)) ggX0_turned_X0_leadTwice
set_option maxRecDepth 20000 in
theorem ggX0_turned_X0_move : GoodIn wsX0_turned wsX0_move := goodIn_r _ [20, 3, 1, 2, 21, 22, 23, 11, 24, 40, 41, 42, 43] (by decide +kernel) (by decide +kernel)
set_option maxRecDepth 20000 in
theorem gX0_turned_X0_move : GoodIn wsX0_turned (wsV RX0 60 RX0 yX0_move wsX0_move) := goodIn_app (goodIn_of _ (by decide +kernel)) ggX0_turned_X0_move
set_option maxRecDepth 20000 in
theorem ggX0_turned_X0_turnRound : GoodIn wsX0_turned wsX0_turnRound := goodIn_r _ [28, 3, 2, 1, 29, 30, 31, 32, 33, 34, 35, 40, 41, 42, 43] (by decide +kernel) (by decide +kernel)
set_option maxRecDepth 20000 in
theorem gX0_turned_X0_turnRound : GoodIn wsX0_turned (wsV RX0 63 RX0 yX0_turnRound wsX0_turnRound) := goodIn_app (goodIn_of _ (by decide +kernel)) ggX0_turned_X0_turnRound
set_option maxRecDepth 20000 in
theorem ggX0_turned_X0_leadFurther : GoodIn wsX0_turned wsX0_leadFurther := goodIn_r _ [39, 3, 1, 2, 21, 22, 23, 11, 24, 40, 41, 42, 43] (by decide +kernel) (by decide +kernel)
set_option maxRecDepth 20000 in
theorem gX0_turned_X0_leadFurther : GoodIn wsX0_turned (wsV RX0 67 RX0 yX0_leadFurther wsX0_leadFurther) := goodIn_app (goodIn_of _ (by decide +kernel)) ggX0_turned_X0_leadFurther
theorem dX0_turned_0 : decode cX0_turned 0 = .ok (.iload_n 1, 1) := by decide +kernel
theorem dX0_turned_1 : decode cX0_turned 1 = .ok (.tableswitch 73 0 4 #[35, 42, 49, 56, 65], 35) := by decide +kernel
theorem dX0_turned_36 : decode cX0_turned 36 = .ok (.aload_n 0, 1) := by decide +kernel
theorem dX0_turned_37 : decode cX0_turned 37 = .ok (.invokevirtual 54, 3) := by decide +kernel
theorem dX0_turned_40 : decode cX0_turned 40 = .ok (.goto 36, 3) := by decide +kernel
theorem dX0_turned_43 : decode cX0_turned 43 = .ok (.aload_n 0, 1) := by decide +kernel
theorem dX0_turned_44 : decode cX0_turned 44 = .ok (.invokevirtual 57, 3) := by decide +kernel
theorem dX0_turned_47 : decode cX0_turned 47 = .ok (.goto 29, 3) := by decide +kernel
theorem dX0_turned_50 : decode cX0_turned 50 = .ok (.aload_n 0, 1) := by decide +kernel
theorem dX0_turned_51 : decode cX0_turned 51 = .ok (.invokevirtual 60, 3) := by decide +kernel
theorem dX0_turned_54 : decode cX0_turned 54 = .ok (.goto 22, 3) := by decide +kernel
theorem dX0_turned_57 : decode cX0_turned 57 = .ok (.aload_n 0, 1) := by decide +kernel
theorem dX0_turned_58 : decode cX0_turned 58 = .ok (.invokevirtual 63, 3) := by decide +kernel
theorem dX0_turned_61 : decode cX0_turned 61 = .ok (.ifCond .ne 15, 3) := by decide +kernel
theorem dX0_turned_64 : decode cX0_turned 64 = .ok (.iconst 0, 1) := by decide +kernel
theorem dX0_turned_65 : decode cX0_turned 65 = .ok (.ireturn, 1) := by decide +kernel
theorem dX0_turned_66 : decode cX0_turned 66 = .ok (.aload_n 0, 1) := by decide +kernel
theorem dX0_turned_67 : decode cX0_turned 67 = .ok (.iload_n 2, 1) := by decide +kernel
theorem dX0_turned_68 : decode cX0_turned 68 = .ok (.invokevirtual 67, 3) := by decide +kernel
theorem dX0_turned_71 : decode cX0_turned 71 = .ok (.goto 5, 3) := by decide +kernel
theorem dX0_turned_74 : decode cX0_turned 74 = .ok (.iconst 0, 1) := by decide +kernel
theorem dX0_turned_75 : decode cX0_turned 75 = .ok (.ireturn, 1) := by decide +kernel
theorem dX0_turned_76 : decode cX0_turned 76 = .ok (.aload_n 0, 1) := by decide +kernel
theorem dX0_turned_77 : decode cX0_turned 77 = .ok (.getfield 22, 3) := by decide +kernel
theorem dX0_turned_80 : decode cX0_turned 80 = .ok (.iconst 0, 1) := by decide +kernel
theorem dX0_turned_81 : decode cX0_turned 81 = .ok (.aload_n 0, 1) := by decide +kernel
theorem dX0_turned_82 : decode cX0_turned 82 = .ok (.getfield 18, 3) := by decide +kernel
theorem dX0_turned_85 : decode cX0_turned 85 = .ok (.iconst 0, 1) := by decide +kernel
theorem dX0_turned_86 : decode cX0_turned 86 = .ok (.aload_n 0, 1) := by decide +kernel
theorem dX0_turned_87 : decode cX0_turned 87 = .ok (.getfield 9, 3) := by decide +kernel
theorem dX0_turned_90 : decode cX0_turned 90 = .ok (.invokestatic 29, 3) := by decide +kernel
theorem dX0_turned_93 : decode cX0_turned 93 = .ok (.iconst 1, 1) := by decide +kernel
theorem dX0_turned_94 : decode cX0_turned 94 = .ok (.ireturn, 1) := by decide +kernel
theorem dX0_mirror_0 : decode cX0_mirror 0 = .ok (.iconst 0, 1) := by decide +kernel
theorem dX0_mirror_1 : decode cX0_mirror 1 = .ok (.istore_n 1, 1) := by decide +kernel
theorem dX0_mirror_2 : decode cX0_mirror 2 = .ok (.iload_n 1, 1) := by decide +kernel
theorem dX0_mirror_3 : decode cX0_mirror 3 = .ok (.aload_n 0, 1) := by decide +kernel
theorem dX0_mirror_4 : decode cX0_mirror 4 = .ok (.getfield 9, 3) := by decide +kernel
theorem dX0_mirror_7 : decode cX0_mirror 7 = .ok (.if_icmp .ge 35, 3) := by decide +kernel
theorem dX0_mirror_10 : decode cX0_mirror 10 = .ok (.aload_n 0, 1) := by decide +kernel
theorem dX0_mirror_11 : decode cX0_mirror 11 = .ok (.getfield 22, 3) := by decide +kernel
theorem dX0_mirror_14 : decode cX0_mirror 14 = .ok (.aload_n 0, 1) := by decide +kernel
theorem dX0_mirror_15 : decode cX0_mirror 15 = .ok (.getfield 9, 3) := by decide +kernel
theorem dX0_mirror_18 : decode cX0_mirror 18 = .ok (.iconst 1, 1) := by decide +kernel
theorem dX0_mirror_19 : decode cX0_mirror 19 = .ok (.isub, 1) := by decide +kernel
theorem dX0_mirror_20 : decode cX0_mirror 20 = .ok (.iload_n 1, 1) := by decide +kernel
theorem dX0_mirror_21 : decode cX0_mirror 21 = .ok (.isub, 1) := by decide +kernel
theorem dX0_mirror_22 : decode cX0_mirror 22 = .ok (.aload_n 0, 1) := by decide +kernel
theorem dX0_mirror_23 : decode cX0_mirror 23 = .ok (.getfield 9, 3) := by decide +kernel
theorem dX0_mirror_26 : decode cX0_mirror 26 = .ok (.iconst 1, 1) := by decide +kernel
theorem dX0_mirror_27 : decode cX0_mirror 27 = .ok (.isub, 1) := by decide +kernel
theorem dX0_mirror_28 : decode cX0_mirror 28 = .ok (.aload_n 0, 1) := by decide +kernel
theorem dX0_mirror_29 : decode cX0_mirror 29 = .ok (.getfield 18, 3) := by decide +kernel
theorem dX0_mirror_32 : decode cX0_mirror 32 = .ok (.iload_n 1, 1) := by decide +kernel
theorem dX0_mirror_33 : decode cX0_mirror 33 = .ok (.iaload, 1) := by decide +kernel
theorem dX0_mirror_34 : decode cX0_mirror 34 = .ok (.isub, 1) := by decide +kernel
theorem dX0_mirror_35 : decode cX0_mirror 35 = .ok (.iastore, 1) := by decide +kernel
theorem dX0_mirror_36 : decode cX0_mirror 36 = .ok (.iinc 1 1, 3) := by decide +kernel
theorem dX0_mirror_39 : decode cX0_mirror 39 = .ok (.goto (-37), 3) := by decide +kernel
theorem dX0_mirror_42 : decode cX0_mirror 42 = .ok (.return_, 1) := by decide +kernel
theorem dX0_leadTwice_0 : decode cX0_leadTwice 0 = .ok (.iconst 0, 1) := by decide +kernel
theorem dX0_leadTwice_1 : decode cX0_leadTwice 1 = .ok (.istore_n 1, 1) := by decide +kernel
theorem dX0_leadTwice_2 : decode cX0_leadTwice 2 = .ok (.iload_n 1, 1) := by decide +kernel
theorem dX0_leadTwice_3 : decode cX0_leadTwice 3 = .ok (.aload_n 0, 1) := by decide +kernel
theorem dX0_leadTwice_4 : decode cX0_leadTwice 4 = .ok (.getfield 9, 3) := by decide +kernel
theorem dX0_leadTwice_7 : decode cX0_leadTwice 7 = .ok (.if_icmp .ge 26, 3) := by decide +kernel
theorem dX0_leadTwice_10 : decode cX0_leadTwice 10 = .ok (.aload_n 0, 1) := by decide +kernel
theorem dX0_leadTwice_11 : decode cX0_leadTwice 11 = .ok (.getfield 22, 3) := by decide +kernel
theorem dX0_leadTwice_14 : decode cX0_leadTwice 14 = .ok (.iload_n 1, 1) := by decide +kernel
theorem dX0_leadTwice_15 : decode cX0_leadTwice 15 = .ok (.aload_n 0, 1) := by decide +kernel
theorem dX0_leadTwice_16 : decode cX0_leadTwice 16 = .ok (.getfield 18, 3) := by decide +kernel
theorem dX0_leadTwice_19 : decode cX0_leadTwice 19 = .ok (.aload_n 0, 1) := by decide +kernel
theorem dX0_leadTwice_20 : decode cX0_leadTwice 20 = .ok (.getfield 18, 3) := by decide +kernel
theorem dX0_leadTwice_23 : decode cX0_leadTwice 23 = .ok (.iload_n 1, 1) := by decide +kernel
theorem dX0_leadTwice_24 : decode cX0_leadTwice 24 = .ok (.iaload, 1) := by decide +kernel
theorem dX0_leadTwice_25 : decode cX0_leadTwice 25 = .ok (.iaload, 1) := by decide +kernel
theorem dX0_leadTwice_26 : decode cX0_leadTwice 26 = .ok (.iastore, 1) := by decide +kernel
theorem dX0_leadTwice_27 : decode cX0_leadTwice 27 = .ok (.iinc 1 1, 3) := by decide +kernel
theorem dX0_leadTwice_30 : decode cX0_leadTwice 30 = .ok (.goto (-28), 3) := by decide +kernel
theorem dX0_leadTwice_33 : decode cX0_leadTwice 33 = .ok (.return_, 1) := by decide +kernel
set_option maxRecDepth 20000 in
theorem ggX0_move_X0_round : GoodIn wsX0_move wsX0_round := goodIn_r _ [8, 1, 9, 10, 11, 12] (by decide +kernel) (by decide +kernel)
set_option maxRecDepth 20000 in
theorem gX0_move_X0_round : GoodIn wsX0_move (wsV RX0 71 RX0 yX0_round wsX0_round) := goodIn_app (goodIn_of _ (by decide +kernel)) ggX0_move_X0_round
theorem dX0_move_0 : decode cX0_move 0 = .ok (.iconst 0, 1) := by decide +kernel
theorem dX0_move_1 : decode cX0_move 1 = .ok (.istore_n 1, 1) := by decide +kernel
theorem dX0_move_2 : decode cX0_move 2 = .ok (.iload_n 1, 1) := by decide +kernel
theorem dX0_move_3 : decode cX0_move 3 = .ok (.aload_n 0, 1) := by decide +kernel
theorem dX0_move_4 : decode cX0_move 4 = .ok (.getfield 9, 3) := by decide +kernel
theorem dX0_move_7 : decode cX0_move 7 = .ok (.if_icmp .ge 33, 3) := by decide +kernel
theorem dX0_move_10 : decode cX0_move 10 = .ok (.aload_n 0, 1) := by decide +kernel
theorem dX0_move_11 : decode cX0_move 11 = .ok (.getfield 22, 3) := by decide +kernel
theorem dX0_move_14 : decode cX0_move 14 = .ok (.aload_n 0, 1) := by decide +kernel
theorem dX0_move_15 : decode cX0_move 15 = .ok (.iload_n 1, 1) := by decide +kernel
theorem dX0_move_16 : decode cX0_move 16 = .ok (.iconst 1, 1) := by decide +kernel
theorem dX0_move_17 : decode cX0_move 17 = .ok (.iadd, 1) := by decide +kernel
theorem dX0_move_18 : decode cX0_move 18 = .ok (.invokevirtual 71, 3) := by decide +kernel
theorem dX0_move_21 : decode cX0_move 21 = .ok (.aload_n 0, 1) := by decide +kernel
theorem dX0_move_22 : decode cX0_move 22 = .ok (.aload_n 0, 1) := by decide +kernel
theorem dX0_move_23 : decode cX0_move 23 = .ok (.getfield 18, 3) := by decide +kernel
theorem dX0_move_26 : decode cX0_move 26 = .ok (.iload_n 1, 1) := by decide +kernel
theorem dX0_move_27 : decode cX0_move 27 = .ok (.iaload, 1) := by decide +kernel
theorem dX0_move_28 : decode cX0_move 28 = .ok (.iconst 1, 1) := by decide +kernel
theorem dX0_move_29 : decode cX0_move 29 = .ok (.iadd, 1) := by decide +kernel
theorem dX0_move_30 : decode cX0_move 30 = .ok (.invokevirtual 71, 3) := by decide +kernel
theorem dX0_move_33 : decode cX0_move 33 = .ok (.iastore, 1) := by decide +kernel
theorem dX0_move_34 : decode cX0_move 34 = .ok (.iinc 1 1, 3) := by decide +kernel
theorem dX0_move_37 : decode cX0_move 37 = .ok (.goto (-35), 3) := by decide +kernel
theorem dX0_move_40 : decode cX0_move 40 = .ok (.return_, 1) := by decide +kernel
set_option maxRecDepth 20000 in
theorem ggX0_turnRound_J6_bitCount_0f7a4 : GoodIn wsX0_turnRound wsJ6_bitCount_0f7a4 := goodIn_r _ [7, 8, 9, 10] (by decide +kernel) (by decide +kernel)
set_option maxRecDepth 20000 in
theorem gX0_turnRound_J6_bitCount_0f7a4 : GoodIn wsX0_turnRound (va_wsS RX0 43 yJ6_bitCount_0f7a4 wsJ6_bitCount_0f7a4) := goodIn_app (goodIn_of _ (by decide +kernel)) ggX0_turnRound_J6_bitCount_0f7a4
theorem dX0_turnRound_0 : decode cX0_turnRound 0 = .ok (.iconst 0, 1) := by decide +kernel
theorem dX0_turnRound_1 : decode cX0_turnRound 1 = .ok (.istore_n 1, 1) := by decide +kernel
theorem dX0_turnRound_2 : decode cX0_turnRound 2 = .ok (.iconst 0, 1) := by decide +kernel
theorem dX0_turnRound_3 : decode cX0_turnRound 3 = .ok (.istore_n 2, 1) := by decide +kernel
theorem dX0_turnRound_4 : decode cX0_turnRound 4 = .ok (.iload_n 2, 1) := by decide +kernel
theorem dX0_turnRound_5 : decode cX0_turnRound 5 = .ok (.aload_n 0, 1) := by decide +kernel
theorem dX0_turnRound_6 : decode cX0_turnRound 6 = .ok (.getfield 9, 3) := by decide +kernel
theorem dX0_turnRound_9 : decode cX0_turnRound 9 = .ok (.if_icmp .ge 32, 3) := by decide +kernel
theorem dX0_turnRound_12 : decode cX0_turnRound 12 = .ok (.iload_n 1, 1) := by decide +kernel
theorem dX0_turnRound_13 : decode cX0_turnRound 13 = .ok (.iconst 1, 1) := by decide +kernel
theorem dX0_turnRound_14 : decode cX0_turnRound 14 = .ok (.aload_n 0, 1) := by decide +kernel
theorem dX0_turnRound_15 : decode cX0_turnRound 15 = .ok (.getfield 18, 3) := by decide +kernel
theorem dX0_turnRound_18 : decode cX0_turnRound 18 = .ok (.iload_n 2, 1) := by decide +kernel
theorem dX0_turnRound_19 : decode cX0_turnRound 19 = .ok (.iaload, 1) := by decide +kernel
theorem dX0_turnRound_20 : decode cX0_turnRound 20 = .ok (.ishl, 1) := by decide +kernel
theorem dX0_turnRound_21 : decode cX0_turnRound 21 = .ok (.ior, 1) := by decide +kernel
theorem dX0_turnRound_22 : decode cX0_turnRound 22 = .ok (.istore_n 1, 1) := by decide +kernel
theorem dX0_turnRound_23 : decode cX0_turnRound 23 = .ok (.aload_n 0, 1) := by decide +kernel
theorem dX0_turnRound_24 : decode cX0_turnRound 24 = .ok (.getfield 22, 3) := by decide +kernel
theorem dX0_turnRound_27 : decode cX0_turnRound 27 = .ok (.aload_n 0, 1) := by decide +kernel
theorem dX0_turnRound_28 : decode cX0_turnRound 28 = .ok (.getfield 18, 3) := by decide +kernel
theorem dX0_turnRound_31 : decode cX0_turnRound 31 = .ok (.iload_n 2, 1) := by decide +kernel
theorem dX0_turnRound_32 : decode cX0_turnRound 32 = .ok (.iaload, 1) := by decide +kernel
theorem dX0_turnRound_33 : decode cX0_turnRound 33 = .ok (.iload_n 2, 1) := by decide +kernel
theorem dX0_turnRound_34 : decode cX0_turnRound 34 = .ok (.iastore, 1) := by decide +kernel
theorem dX0_turnRound_35 : decode cX0_turnRound 35 = .ok (.iinc 2 1, 3) := by decide +kernel
theorem dX0_turnRound_38 : decode cX0_turnRound 38 = .ok (.goto (-34), 3) := by decide +kernel
theorem dX0_turnRound_41 : decode cX0_turnRound 41 = .ok (.iload_n 1, 1) := by decide +kernel
theorem dX0_turnRound_42 : decode cX0_turnRound 42 = .ok (.invokestatic 43, 3) := by decide +kernel
theorem dX0_turnRound_45 : decode cX0_turnRound 45 = .ok (.aload_n 0, 1) := by decide +kernel
theorem dX0_turnRound_46 : decode cX0_turnRound 46 = .ok (.getfield 9, 3) := by decide +kernel
theorem dX0_turnRound_49 : decode cX0_turnRound 49 = .ok (.if_icmp .ne 7, 3) := by decide +kernel
theorem dX0_turnRound_52 : decode cX0_turnRound 52 = .ok (.iconst 1, 1) := by decide +kernel
theorem dX0_turnRound_53 : decode cX0_turnRound 53 = .ok (.goto 4, 3) := by decide +kernel
theorem dX0_turnRound_56 : decode cX0_turnRound 56 = .ok (.iconst 0, 1) := by decide +kernel
theorem dX0_turnRound_57 : decode cX0_turnRound 57 = .ok (.ireturn, 1) := by decide +kernel
set_option maxRecDepth 20000 in
theorem ggX0_leadFurther_X0_round : GoodIn wsX0_leadFurther wsX0_round := goodIn_r _ [8, 1, 9, 10, 11, 12] (by decide +kernel) (by decide +kernel)
set_option maxRecDepth 20000 in
theorem gX0_leadFurther_X0_round : GoodIn wsX0_leadFurther (wsV RX0 71 RX0 yX0_round wsX0_round) := goodIn_app (goodIn_of _ (by decide +kernel)) ggX0_leadFurther_X0_round
theorem dX0_leadFurther_0 : decode cX0_leadFurther 0 = .ok (.iconst 0, 1) := by decide +kernel
theorem dX0_leadFurther_1 : decode cX0_leadFurther 1 = .ok (.istore_n 2, 1) := by decide +kernel
theorem dX0_leadFurther_2 : decode cX0_leadFurther 2 = .ok (.iload_n 2, 1) := by decide +kernel
theorem dX0_leadFurther_3 : decode cX0_leadFurther 3 = .ok (.aload_n 0, 1) := by decide +kernel
theorem dX0_leadFurther_4 : decode cX0_leadFurther 4 = .ok (.getfield 9, 3) := by decide +kernel
theorem dX0_leadFurther_7 : decode cX0_leadFurther 7 = .ok (.if_icmp .ge 27, 3) := by decide +kernel
theorem dX0_leadFurther_10 : decode cX0_leadFurther 10 = .ok (.aload_n 0, 1) := by decide +kernel
theorem dX0_leadFurther_11 : decode cX0_leadFurther 11 = .ok (.getfield 22, 3) := by decide +kernel
theorem dX0_leadFurther_14 : decode cX0_leadFurther 14 = .ok (.iload_n 2, 1) := by decide +kernel
theorem dX0_leadFurther_15 : decode cX0_leadFurther 15 = .ok (.aload_n 0, 1) := by decide +kernel
theorem dX0_leadFurther_16 : decode cX0_leadFurther 16 = .ok (.aload_n 0, 1) := by decide +kernel
theorem dX0_leadFurther_17 : decode cX0_leadFurther 17 = .ok (.getfield 18, 3) := by decide +kernel
theorem dX0_leadFurther_20 : decode cX0_leadFurther 20 = .ok (.iload_n 2, 1) := by decide +kernel
theorem dX0_leadFurther_21 : decode cX0_leadFurther 21 = .ok (.iaload, 1) := by decide +kernel
theorem dX0_leadFurther_22 : decode cX0_leadFurther 22 = .ok (.iload_n 1, 1) := by decide +kernel
theorem dX0_leadFurther_23 : decode cX0_leadFurther 23 = .ok (.iadd, 1) := by decide +kernel
theorem dX0_leadFurther_24 : decode cX0_leadFurther 24 = .ok (.invokevirtual 71, 3) := by decide +kernel
theorem dX0_leadFurther_27 : decode cX0_leadFurther 27 = .ok (.iastore, 1) := by decide +kernel
theorem dX0_leadFurther_28 : decode cX0_leadFurther 28 = .ok (.iinc 2 1, 3) := by decide +kernel
theorem dX0_leadFurther_31 : decode cX0_leadFurther 31 = .ok (.goto (-29), 3) := by decide +kernel
theorem dX0_leadFurther_34 : decode cX0_leadFurther 34 = .ok (.return_, 1) := by decide +kernel
theorem dX0_round_0 : decode cX0_round 0 = .ok (.aload_n 0, 1) := by decide +kernel
theorem dX0_round_1 : decode cX0_round 1 = .ok (.getfield 9, 3) := by decide +kernel
theorem dX0_round_4 : decode cX0_round 4 = .ok (.ifCond .le 12, 3) := by decide +kernel
theorem dX0_round_7 : decode cX0_round 7 = .ok (.iload_n 1, 1) := by decide +kernel
theorem dX0_round_8 : decode cX0_round 8 = .ok (.aload_n 0, 1) := by decide +kernel
theorem dX0_round_9 : decode cX0_round 9 = .ok (.getfield 9, 3) := by decide +kernel
theorem dX0_round_12 : decode cX0_round 12 = .ok (.irem, 1) := by decide +kernel
theorem dX0_round_13 : decode cX0_round 13 = .ok (.goto 4, 3) := by decide +kernel
theorem dX0_round_16 : decode cX0_round 16 = .ok (.iconst 0, 1) := by decide +kernel
theorem dX0_round_17 : decode cX0_round 17 = .ok (.ireturn, 1) := by decide +kernel
theorem dX1_init_0 : decode cX1_init 0 = .ok (.aload_n 0, 1) := by decide +kernel
theorem dX1_init_1 : decode cX1_init 1 = .ok (.invokespecial 1, 3) := by decide +kernel
theorem dX1_init_4 : decode cX1_init 4 = .ok (.aload_n 0, 1) := by decide +kernel
theorem dX1_init_5 : decode cX1_init 5 = .ok (.bipush 10, 2) := by decide +kernel
theorem dX1_init_7 : decode cX1_init 7 = .ok (.newarray .int, 2) := by decide +kernel
theorem dX1_init_9 : decode cX1_init 9 = .ok (.putfield 9, 3) := by decide +kernel
theorem dX1_init_12 : decode cX1_init 12 = .ok (.return_, 1) := by decide +kernel
theorem dX1_forget_0 : decode cX1_forget 0 = .ok (.aload_n 0, 1) := by decide +kernel
theorem dX1_forget_1 : decode cX1_forget 1 = .ok (.iconst 0, 1) := by decide +kernel
theorem dX1_forget_2 : decode cX1_forget 2 = .ok (.putfield 13, 3) := by decide +kernel
theorem dX1_forget_5 : decode cX1_forget 5 = .ok (.return_, 1) := by decide +kernel
set_option maxRecDepth 20000 in
theorem ggX1_keep_X1_forgetOldest : GoodIn wsX1_keep wsX1_forgetOldest := goodIn_r _ [7, 2, 1, 8, 9] (by decide +kernel) (by decide +kernel)
set_option maxRecDepth 20000 in
theorem gX1_keep_X1_forgetOldest : GoodIn wsX1_keep (wsV RX1 17 RX1 yX1_forgetOldest wsX1_forgetOldest) := goodIn_app (goodIn_of _ (by decide +kernel)) ggX1_keep_X1_forgetOldest
theorem dX1_keep_0 : decode cX1_keep 0 = .ok (.aload_n 0, 1) := by decide +kernel
theorem dX1_keep_1 : decode cX1_keep 1 = .ok (.getfield 13, 3) := by decide +kernel
theorem dX1_keep_4 : decode cX1_keep 4 = .ok (.bipush 10, 2) := by decide +kernel
theorem dX1_keep_6 : decode cX1_keep 6 = .ok (.if_icmp .ne 7, 3) := by decide +kernel
theorem dX1_keep_9 : decode cX1_keep 9 = .ok (.aload_n 0, 1) := by decide +kernel
theorem dX1_keep_10 : decode cX1_keep 10 = .ok (.invokevirtual 17, 3) := by decide +kernel
theorem dX1_keep_13 : decode cX1_keep 13 = .ok (.aload_n 0, 1) := by decide +kernel
theorem dX1_keep_14 : decode cX1_keep 14 = .ok (.getfield 9, 3) := by decide +kernel
theorem dX1_keep_17 : decode cX1_keep 17 = .ok (.aload_n 0, 1) := by decide +kernel
theorem dX1_keep_18 : decode cX1_keep 18 = .ok (.getfield 13, 3) := by decide +kernel
theorem dX1_keep_21 : decode cX1_keep 21 = .ok (.iload_n 1, 1) := by decide +kernel
theorem dX1_keep_22 : decode cX1_keep 22 = .ok (.iastore, 1) := by decide +kernel
theorem dX1_keep_23 : decode cX1_keep 23 = .ok (.aload_n 0, 1) := by decide +kernel
theorem dX1_keep_24 : decode cX1_keep 24 = .ok (.dup, 1) := by decide +kernel
theorem dX1_keep_25 : decode cX1_keep 25 = .ok (.getfield 13, 3) := by decide +kernel
theorem dX1_keep_28 : decode cX1_keep 28 = .ok (.iconst 1, 1) := by decide +kernel
theorem dX1_keep_29 : decode cX1_keep 29 = .ok (.iadd, 1) := by decide +kernel
theorem dX1_keep_30 : decode cX1_keep 30 = .ok (.putfield 13, 3) := by decide +kernel
theorem dX1_keep_33 : decode cX1_keep 33 = .ok (.return_, 1) := by decide +kernel
theorem dX1_forgetOldest_0 : decode cX1_forgetOldest 0 = .ok (.iconst 1, 1) := by decide +kernel
theorem dX1_forgetOldest_1 : decode cX1_forgetOldest 1 = .ok (.istore_n 1, 1) := by decide +kernel
theorem dX1_forgetOldest_2 : decode cX1_forgetOldest 2 = .ok (.iload_n 1, 1) := by decide +kernel
theorem dX1_forgetOldest_3 : decode cX1_forgetOldest 3 = .ok (.bipush 10, 2) := by decide +kernel
theorem dX1_forgetOldest_5 : decode cX1_forgetOldest 5 = .ok (.if_icmp .ge 23, 3) := by decide +kernel
theorem dX1_forgetOldest_8 : decode cX1_forgetOldest 8 = .ok (.aload_n 0, 1) := by decide +kernel
theorem dX1_forgetOldest_9 : decode cX1_forgetOldest 9 = .ok (.getfield 9, 3) := by decide +kernel
theorem dX1_forgetOldest_12 : decode cX1_forgetOldest 12 = .ok (.iload_n 1, 1) := by decide +kernel
theorem dX1_forgetOldest_13 : decode cX1_forgetOldest 13 = .ok (.iconst 1, 1) := by decide +kernel
theorem dX1_forgetOldest_14 : decode cX1_forgetOldest 14 = .ok (.isub, 1) := by decide +kernel
theorem dX1_forgetOldest_15 : decode cX1_forgetOldest 15 = .ok (.aload_n 0, 1) := by decide +kernel
theorem dX1_forgetOldest_16 : decode cX1_forgetOldest 16 = .ok (.getfield 9, 3) := by decide +kernel
theorem dX1_forgetOldest_19 : decode cX1_forgetOldest 19 = .ok (.iload_n 1, 1) := by decide +kernel
theorem dX1_forgetOldest_20 : decode cX1_forgetOldest 20 = .ok (.iaload, 1) := by decide +kernel
theorem dX1_forgetOldest_21 : decode cX1_forgetOldest 21 = .ok (.iastore, 1) := by decide +kernel
theorem dX1_forgetOldest_22 : decode cX1_forgetOldest 22 = .ok (.iinc 1 1, 3) := by decide +kernel
theorem dX1_forgetOldest_25 : decode cX1_forgetOldest 25 = .ok (.goto (-23), 3) := by decide +kernel
theorem dX1_forgetOldest_28 : decode cX1_forgetOldest 28 = .ok (.aload_n 0, 1) := by decide +kernel
theorem dX1_forgetOldest_29 : decode cX1_forgetOldest 29 = .ok (.dup, 1) := by decide +kernel
theorem dX1_forgetOldest_30 : decode cX1_forgetOldest 30 = .ok (.getfield 13, 3) := by decide +kernel
theorem dX1_forgetOldest_33 : decode cX1_forgetOldest 33 = .ok (.iconst 1, 1) := by decide +kernel
theorem dX1_forgetOldest_34 : decode cX1_forgetOldest 34 = .ok (.isub, 1) := by decide +kernel
theorem dX1_forgetOldest_35 : decode cX1_forgetOldest 35 = .ok (.putfield 13, 3) := by decide +kernel
theorem dX1_forgetOldest_38 : decode cX1_forgetOldest 38 = .ok (.return_, 1) := by decide +kernel
theorem dX1_takeLatest_0 : decode cX1_takeLatest 0 = .ok (.aload_n 0, 1) := by decide +kernel
theorem dX1_takeLatest_1 : decode cX1_takeLatest 1 = .ok (.getfield 13, 3) := by decide +kernel
theorem dX1_takeLatest_4 : decode cX1_takeLatest 4 = .ok (.ifCond .le 13, 3) := by decide +kernel
theorem dX1_takeLatest_7 : decode cX1_takeLatest 7 = .ok (.aload_n 0, 1) := by decide +kernel
theorem dX1_takeLatest_8 : decode cX1_takeLatest 8 = .ok (.dup, 1) := by decide +kernel
theorem dX1_takeLatest_9 : decode cX1_takeLatest 9 = .ok (.getfield 13, 3) := by decide +kernel
theorem dX1_takeLatest_12 : decode cX1_takeLatest 12 = .ok (.iconst 1, 1) := by decide +kernel
theorem dX1_takeLatest_13 : decode cX1_takeLatest 13 = .ok (.isub, 1) := by decide +kernel
theorem dX1_takeLatest_14 : decode cX1_takeLatest 14 = .ok (.putfield 13, 3) := by decide +kernel
theorem dX1_takeLatest_17 : decode cX1_takeLatest 17 = .ok (.aload_n 0, 1) := by decide +kernel
theorem dX1_takeLatest_18 : decode cX1_takeLatest 18 = .ok (.getfield 9, 3) := by decide +kernel
theorem dX1_takeLatest_21 : decode cX1_takeLatest 21 = .ok (.aload_n 0, 1) := by decide +kernel
theorem dX1_takeLatest_22 : decode cX1_takeLatest 22 = .ok (.getfield 13, 3) := by decide +kernel
theorem dX1_takeLatest_25 : decode cX1_takeLatest 25 = .ok (.iaload, 1) := by decide +kernel
theorem dX1_takeLatest_26 : decode cX1_takeLatest 26 = .ok (.ireturn, 1) := by decide +kernel
theorem dX2_ofRing_0 : decode cX2_ofRing 0 = .ok (.iload_n 0, 1) := by decide +kernel
theorem dX2_ofRing_1 : decode cX2_ofRing 1 = .ok (.iconst 1, 1) := by decide +kernel
theorem dX2_ofRing_2 : decode cX2_ofRing 2 = .ok (.if_icmp .ne 5, 3) := by decide +kernel
theorem dX2_ofRing_5 : decode cX2_ofRing 5 = .ok (.iconst 3, 1) := by decide +kernel
theorem dX2_ofRing_6 : decode cX2_ofRing 6 = .ok (.ireturn, 1) := by decide +kernel
theorem dX2_ofRing_7 : decode cX2_ofRing 7 = .ok (.iload_n 0, 1) := by decide +kernel
theorem dX2_ofRing_8 : decode cX2_ofRing 8 = .ok (.iconst 2, 1) := by decide +kernel
theorem dX2_ofRing_9 : decode cX2_ofRing 9 = .ok (.if_icmp .ne 5, 3) := by decide +kernel
theorem dX2_ofRing_12 : decode cX2_ofRing 12 = .ok (.iconst 4, 1) := by decide +kernel
theorem dX2_ofRing_13 : decode cX2_ofRing 13 = .ok (.ireturn, 1) := by decide +kernel
theorem dX2_ofRing_14 : decode cX2_ofRing 14 = .ok (.iload_n 0, 1) := by decide +kernel
theorem dX2_ofRing_15 : decode cX2_ofRing 15 = .ok (.iconst 2, 1) := by decide +kernel
theorem dX2_ofRing_16 : decode cX2_ofRing 16 = .ok (.irem, 1) := by decide +kernel
theorem dX2_ofRing_17 : decode cX2_ofRing 17 = .ok (.ifCond .ne 7, 3) := by decide +kernel
theorem dX2_ofRing_20 : decode cX2_ofRing 20 = .ok (.iconst 1, 1) := by decide +kernel
theorem dX2_ofRing_21 : decode cX2_ofRing 21 = .ok (.goto 4, 3) := by decide +kernel
theorem dX2_ofRing_24 : decode cX2_ofRing 24 = .ok (.iconst 2, 1) := by decide +kernel
theorem dX2_ofRing_25 : decode cX2_ofRing 25 = .ok (.ireturn, 1) := by decide +kernel
theorem dX2_isUnder_0 : decode cX2_isUnder 0 = .ok (.iload_n 0, 1) := by decide +kernel
theorem dX2_isUnder_1 : decode cX2_isUnder 1 = .ok (.istore_n 2, 1) := by decide +kernel
theorem dX2_isUnder_2 : decode cX2_isUnder 2 = .ok (.iconst 0, 1) := by decide +kernel
theorem dX2_isUnder_3 : decode cX2_isUnder 3 = .ok (.istore_n 3, 1) := by decide +kernel
theorem dX2_isUnder_4 : decode cX2_isUnder 4 = .ok (.iload_n 3, 1) := by decide +kernel
theorem dX2_isUnder_5 : decode cX2_isUnder 5 = .ok (.iconst 4, 1) := by decide +kernel
theorem dX2_isUnder_6 : decode cX2_isUnder 6 = .ok (.if_icmp .gt 31, 3) := by decide +kernel
theorem dX2_isUnder_9 : decode cX2_isUnder 9 = .ok (.iload_n 2, 1) := by decide +kernel
theorem dX2_isUnder_10 : decode cX2_isUnder 10 = .ok (.ifCond .lt 27, 3) := by decide +kernel
theorem dX2_isUnder_13 : decode cX2_isUnder 13 = .ok (.iload_n 2, 1) := by decide +kernel
theorem dX2_isUnder_14 : decode cX2_isUnder 14 = .ok (.iconst 4, 1) := by decide +kernel
theorem dX2_isUnder_15 : decode cX2_isUnder 15 = .ok (.if_icmp .gt 22, 3) := by decide +kernel
theorem dX2_isUnder_18 : decode cX2_isUnder 18 = .ok (.iload_n 2, 1) := by decide +kernel
theorem dX2_isUnder_19 : decode cX2_isUnder 19 = .ok (.iload_n 1, 1) := by decide +kernel
theorem dX2_isUnder_20 : decode cX2_isUnder 20 = .ok (.if_icmp .ne 5, 3) := by decide +kernel
theorem dX2_isUnder_23 : decode cX2_isUnder 23 = .ok (.iconst 1, 1) := by decide +kernel
theorem dX2_isUnder_24 : decode cX2_isUnder 24 = .ok (.ireturn, 1) := by decide +kernel
theorem dX2_isUnder_25 : decode cX2_isUnder 25 = .ok (.getstatic 9, 3) := by decide +kernel
theorem dX2_isUnder_28 : decode cX2_isUnder 28 = .ok (.iload_n 2, 1) := by decide +kernel
theorem dX2_isUnder_29 : decode cX2_isUnder 29 = .ok (.iaload, 1) := by decide +kernel
theorem dX2_isUnder_30 : decode cX2_isUnder 30 = .ok (.istore_n 2, 1) := by decide +kernel
theorem dX2_isUnder_31 : decode cX2_isUnder 31 = .ok (.iinc 3 1, 3) := by decide +kernel
theorem dX2_isUnder_34 : decode cX2_isUnder 34 = .ok (.goto (-30), 3) := by decide +kernel
theorem dX2_isUnder_37 : decode cX2_isUnder 37 = .ok (.iconst 0, 1) := by decide +kernel
theorem dX2_isUnder_38 : decode cX2_isUnder 38 = .ok (.ireturn, 1) := by decide +kernel
set_option maxRecDepth 20000 in
theorem ggX3_isAhead_X3_powerIn : GoodIn wsX3_isAhead wsX3_powerIn := goodIn_r _ [4] (by decide +kernel) (by decide +kernel)
set_option maxRecDepth 20000 in
theorem gX3_isAhead_X3_powerIn : GoodIn wsX3_isAhead (va_wsS RX3 9 yX3_powerIn wsX3_powerIn) := goodIn_app (goodIn_of _ (by decide +kernel)) ggX3_isAhead_X3_powerIn
theorem dX3_isAhead_0 : decode cX3_isAhead 0 = .ok (.iload_n 0, 1) := by decide +kernel
theorem dX3_isAhead_1 : decode cX3_isAhead 1 = .ok (.invokestatic 9, 3) := by decide +kernel
theorem dX3_isAhead_4 : decode cX3_isAhead 4 = .ok (.istore_n 2, 1) := by decide +kernel
theorem dX3_isAhead_5 : decode cX3_isAhead 5 = .ok (.iload_n 1, 1) := by decide +kernel
theorem dX3_isAhead_6 : decode cX3_isAhead 6 = .ok (.invokestatic 9, 3) := by decide +kernel
theorem dX3_isAhead_9 : decode cX3_isAhead 9 = .ok (.istore_n 3, 1) := by decide +kernel
theorem dX3_isAhead_10 : decode cX3_isAhead 10 = .ok (.iload_n 0, 1) := by decide +kernel
theorem dX3_isAhead_11 : decode cX3_isAhead 11 = .ok (.iload_n 2, 1) := by decide +kernel
theorem dX3_isAhead_12 : decode cX3_isAhead 12 = .ok (.ishr, 1) := by decide +kernel
theorem dX3_isAhead_13 : decode cX3_isAhead 13 = .ok (.istore 4, 2) := by decide +kernel
theorem dX3_isAhead_15 : decode cX3_isAhead 15 = .ok (.iload_n 1, 1) := by decide +kernel
theorem dX3_isAhead_16 : decode cX3_isAhead 16 = .ok (.iload_n 3, 1) := by decide +kernel
theorem dX3_isAhead_17 : decode cX3_isAhead 17 = .ok (.ishr, 1) := by decide +kernel
theorem dX3_isAhead_18 : decode cX3_isAhead 18 = .ok (.istore 5, 2) := by decide +kernel
theorem dX3_isAhead_20 : decode cX3_isAhead 20 = .ok (.iload 4, 2) := by decide +kernel
theorem dX3_isAhead_22 : decode cX3_isAhead 22 = .ok (.iconst 1, 1) := by decide +kernel
theorem dX3_isAhead_23 : decode cX3_isAhead 23 = .ok (.if_icmp .eq 9, 3) := by decide +kernel
theorem dX3_isAhead_26 : decode cX3_isAhead 26 = .ok (.iload 5, 2) := by decide +kernel
theorem dX3_isAhead_28 : decode cX3_isAhead 28 = .ok (.iconst 1, 1) := by decide +kernel
theorem dX3_isAhead_29 : decode cX3_isAhead 29 = .ok (.if_icmp .ne 26, 3) := by decide +kernel
theorem dX3_isAhead_32 : decode cX3_isAhead 32 = .ok (.iload 4, 2) := by decide +kernel
theorem dX3_isAhead_34 : decode cX3_isAhead 34 = .ok (.iconst 1, 1) := by decide +kernel
theorem dX3_isAhead_35 : decode cX3_isAhead 35 = .ok (.if_icmp .ne 14, 3) := by decide +kernel
theorem dX3_isAhead_38 : decode cX3_isAhead 38 = .ok (.iload 5, 2) := by decide +kernel
theorem dX3_isAhead_40 : decode cX3_isAhead 40 = .ok (.iconst 1, 1) := by decide +kernel
theorem dX3_isAhead_41 : decode cX3_isAhead 41 = .ok (.if_icmp .ne 12, 3) := by decide +kernel
theorem dX3_isAhead_44 : decode cX3_isAhead 44 = .ok (.iload_n 2, 1) := by decide +kernel
theorem dX3_isAhead_45 : decode cX3_isAhead 45 = .ok (.iload_n 3, 1) := by decide +kernel
theorem dX3_isAhead_46 : decode cX3_isAhead 46 = .ok (.if_icmp .le 7, 3) := by decide +kernel
theorem dX3_isAhead_49 : decode cX3_isAhead 49 = .ok (.iconst 1, 1) := by decide +kernel
theorem dX3_isAhead_50 : decode cX3_isAhead 50 = .ok (.goto 4, 3) := by decide +kernel
theorem dX3_isAhead_53 : decode cX3_isAhead 53 = .ok (.iconst 0, 1) := by decide +kernel
theorem dX3_isAhead_54 : decode cX3_isAhead 54 = .ok (.ireturn, 1) := by decide +kernel
theorem dX3_isAhead_55 : decode cX3_isAhead 55 = .ok (.iload_n 2, 1) := by decide +kernel
theorem dX3_isAhead_56 : decode cX3_isAhead 56 = .ok (.iload_n 3, 1) := by decide +kernel
theorem dX3_isAhead_57 : decode cX3_isAhead 57 = .ok (.if_icmp .lt 15, 3) := by decide +kernel
theorem dX3_isAhead_60 : decode cX3_isAhead 60 = .ok (.iload_n 2, 1) := by decide +kernel
theorem dX3_isAhead_61 : decode cX3_isAhead 61 = .ok (.iload_n 3, 1) := by decide +kernel
theorem dX3_isAhead_62 : decode cX3_isAhead 62 = .ok (.if_icmp .ne 14, 3) := by decide +kernel
theorem dX3_isAhead_65 : decode cX3_isAhead 65 = .ok (.iload 4, 2) := by decide +kernel
theorem dX3_isAhead_67 : decode cX3_isAhead 67 = .ok (.iload 5, 2) := by decide +kernel
theorem dX3_isAhead_69 : decode cX3_isAhead 69 = .ok (.if_icmp .ge 7, 3) := by decide +kernel
theorem dX3_isAhead_72 : decode cX3_isAhead 72 = .ok (.iconst 1, 1) := by decide +kernel
theorem dX3_isAhead_73 : decode cX3_isAhead 73 = .ok (.goto 4, 3) := by decide +kernel
theorem dX3_isAhead_76 : decode cX3_isAhead 76 = .ok (.iconst 0, 1) := by decide +kernel
theorem dX3_isAhead_77 : decode cX3_isAhead 77 = .ok (.ireturn, 1) := by decide +kernel
theorem dX3_powerIn_0 : decode cX3_powerIn 0 = .ok (.iconst 0, 1) := by decide +kernel
theorem dX3_powerIn_1 : decode cX3_powerIn 1 = .ok (.istore_n 1, 1) := by decide +kernel
theorem dX3_powerIn_2 : decode cX3_powerIn 2 = .ok (.iload_n 1, 1) := by decide +kernel
theorem dX3_powerIn_3 : decode cX3_powerIn 3 = .ok (.bipush 31, 2) := by decide +kernel
theorem dX3_powerIn_5 : decode cX3_powerIn 5 = .ok (.if_icmp .ge 17, 3) := by decide +kernel
theorem dX3_powerIn_8 : decode cX3_powerIn 8 = .ok (.iload_n 0, 1) := by decide +kernel
theorem dX3_powerIn_9 : decode cX3_powerIn 9 = .ok (.iload_n 1, 1) := by decide +kernel
theorem dX3_powerIn_10 : decode cX3_powerIn 10 = .ok (.ishr, 1) := by decide +kernel
theorem dX3_powerIn_11 : decode cX3_powerIn 11 = .ok (.iconst 1, 1) := by decide +kernel
theorem dX3_powerIn_12 : decode cX3_powerIn 12 = .ok (.iand, 1) := by decide +kernel
theorem dX3_powerIn_13 : decode cX3_powerIn 13 = .ok (.ifCond .ne 9, 3) := by decide +kernel
theorem dX3_powerIn_16 : decode cX3_powerIn 16 = .ok (.iinc 1 1, 3) := by decide +kernel
theorem dX3_powerIn_19 : decode cX3_powerIn 19 = .ok (.goto (-17), 3) := by decide +kernel
theorem dX3_powerIn_22 : decode cX3_powerIn 22 = .ok (.iload_n 1, 1) := by decide +kernel
theorem dX3_powerIn_23 : decode cX3_powerIn 23 = .ok (.ireturn, 1) := by decide +kernel
set_option maxRecDepth 20000 in
theorem ggX3_placeOf_X3_isAhead : GoodIn wsX3_placeOf wsX3_isAhead := goodIn_r _ [4, 5, 6, 3, 7] (by decide +kernel) (by decide +kernel)
set_option maxRecDepth 20000 in
theorem gX3_placeOf_X3_isAhead : GoodIn wsX3_placeOf (va_wsS RX3 15 yX3_isAhead wsX3_isAhead) := goodIn_app (goodIn_of _ (by decide +kernel)) ggX3_placeOf_X3_isAhead
theorem dX3_placeOf_0 : decode cX3_placeOf 0 = .ok (.iconst 0, 1) := by decide +kernel
theorem dX3_placeOf_1 : decode cX3_placeOf 1 = .ok (.istore_n 2, 1) := by decide +kernel
theorem dX3_placeOf_2 : decode cX3_placeOf 2 = .ok (.iconst 1, 1) := by decide +kernel
theorem dX3_placeOf_3 : decode cX3_placeOf 3 = .ok (.istore_n 3, 1) := by decide +kernel
theorem dX3_placeOf_4 : decode cX3_placeOf 4 = .ok (.iload_n 3, 1) := by decide +kernel
theorem dX3_placeOf_5 : decode cX3_placeOf 5 = .ok (.iload_n 1, 1) := by decide +kernel
theorem dX3_placeOf_6 : decode cX3_placeOf 6 = .ok (.if_icmp .gt 20, 3) := by decide +kernel
theorem dX3_placeOf_9 : decode cX3_placeOf 9 = .ok (.iload_n 3, 1) := by decide +kernel
theorem dX3_placeOf_10 : decode cX3_placeOf 10 = .ok (.iload_n 0, 1) := by decide +kernel
theorem dX3_placeOf_11 : decode cX3_placeOf 11 = .ok (.invokestatic 15, 3) := by decide +kernel
theorem dX3_placeOf_14 : decode cX3_placeOf 14 = .ok (.ifCond .eq 6, 3) := by decide +kernel
theorem dX3_placeOf_17 : decode cX3_placeOf 17 = .ok (.iinc 2 1, 3) := by decide +kernel
theorem dX3_placeOf_20 : decode cX3_placeOf 20 = .ok (.iinc 3 1, 3) := by decide +kernel
theorem dX3_placeOf_23 : decode cX3_placeOf 23 = .ok (.goto (-19), 3) := by decide +kernel
theorem dX3_placeOf_26 : decode cX3_placeOf 26 = .ok (.iload_n 2, 1) := by decide +kernel
theorem dX3_placeOf_27 : decode cX3_placeOf 27 = .ok (.ireturn, 1) := by decide +kernel
set_option maxRecDepth 20000 in
theorem ggX3_numberAt_X3_placeOf : GoodIn wsX3_numberAt wsX3_placeOf := goodIn_r _ [4, 5, 6, 3, 7, 8, 9, 10] (by decide +kernel) (by decide +kernel)
set_option maxRecDepth 20000 in
theorem gX3_numberAt_X3_placeOf : GoodIn wsX3_numberAt (va_wsS RX3 19 yX3_placeOf wsX3_placeOf) := goodIn_app (goodIn_of _ (by decide +kernel)) ggX3_numberAt_X3_placeOf
theorem dX3_numberAt_0 : decode cX3_numberAt 0 = .ok (.iconst 1, 1) := by decide +kernel
theorem dX3_numberAt_1 : decode cX3_numberAt 1 = .ok (.istore_n 2, 1) := by decide +kernel
theorem dX3_numberAt_2 : decode cX3_numberAt 2 = .ok (.iload_n 2, 1) := by decide +kernel
theorem dX3_numberAt_3 : decode cX3_numberAt 3 = .ok (.iload_n 1, 1) := by decide +kernel
theorem dX3_numberAt_4 : decode cX3_numberAt 4 = .ok (.if_icmp .gt 20, 3) := by decide +kernel
theorem dX3_numberAt_7 : decode cX3_numberAt 7 = .ok (.iload_n 2, 1) := by decide +kernel
theorem dX3_numberAt_8 : decode cX3_numberAt 8 = .ok (.iload_n 1, 1) := by decide +kernel
theorem dX3_numberAt_9 : decode cX3_numberAt 9 = .ok (.invokestatic 19, 3) := by decide +kernel
theorem dX3_numberAt_12 : decode cX3_numberAt 12 = .ok (.iload_n 0, 1) := by decide +kernel
theorem dX3_numberAt_13 : decode cX3_numberAt 13 = .ok (.if_icmp .ne 5, 3) := by decide +kernel
theorem dX3_numberAt_16 : decode cX3_numberAt 16 = .ok (.iload_n 2, 1) := by decide +kernel
theorem dX3_numberAt_17 : decode cX3_numberAt 17 = .ok (.ireturn, 1) := by decide +kernel
theorem dX3_numberAt_18 : decode cX3_numberAt 18 = .ok (.iinc 2 1, 3) := by decide +kernel
theorem dX3_numberAt_21 : decode cX3_numberAt 21 = .ok (.goto (-19), 3) := by decide +kernel
theorem dX3_numberAt_24 : decode cX3_numberAt 24 = .ok (.iconst (-1), 1) := by decide +kernel
theorem dX3_numberAt_25 : decode cX3_numberAt 25 = .ok (.ireturn, 1) := by decide +kernel
set_option maxRecDepth 20000 in
theorem ggX4_init_X5_init : GoodIn wsX4_init wsX5_init := goodIn_r _ [15, 16, 2, 3, 8, 17, 18, 19, 20, 21, 22, 23, 24, 25, 26, 27, 28, 29, 30, 31] (by decide +kernel) (by decide +kernel)
set_option maxRecDepth 20000 in
theorem gX4_init_X5_init_n9 : GoodIn wsX4_init (wsX5_init) := ggX4_init_X5_init
theorem dX4_init_0 : decode cX4_init 0 = .ok (.aload_n 0, 1) := by decide +kernel
theorem dX4_init_1 : decode cX4_init 1 = .ok (.invokespecial 1, 3) := by decide +kernel
theorem dX4_init_4 : decode cX4_init 4 = .ok (.aload_n 0, 1) := by decide +kernel
theorem dX4_init_5 : decode cX4_init 5 = .ok (.new 7, 3) := by decide +kernel
theorem dX4_init_8 : decode cX4_init 8 = .ok (.dup, 1) := by decide +kernel
theorem dX4_init_9 : decode cX4_init 9 = .ok (.invokespecial 9, 3) := by decide +kernel
theorem dX4_init_12 : decode cX4_init 12 = .ok (.putfield 10, 3) := by decide +kernel
theorem dX4_init_15 : decode cX4_init 15 = .ok (.aload_n 0, 1) := by decide +kernel
theorem dX4_init_16 : decode cX4_init 16 = .ok (.bipush 7, 2) := by decide +kernel
theorem dX4_init_18 : decode cX4_init 18 = .ok (.newarray .int, 2) := by decide +kernel
theorem dX4_init_20 : decode cX4_init 20 = .ok (.putfield 16, 3) := by decide +kernel
theorem dX4_init_23 : decode cX4_init 23 = .ok (.aload_n 0, 1) := by decide +kernel
theorem dX4_init_24 : decode cX4_init 24 = .ok (.sipush 153, 3) := by decide +kernel
theorem dX4_init_27 : decode cX4_init 27 = .ok (.newarray .int, 2) := by decide +kernel
theorem dX4_init_29 : decode cX4_init 29 = .ok (.putfield 20, 3) := by decide +kernel
theorem dX4_init_32 : decode cX4_init 32 = .ok (.aload_n 0, 1) := by decide +kernel
theorem dX4_init_33 : decode cX4_init 33 = .ok (.bipush 12, 2) := by decide +kernel
theorem dX4_init_35 : decode cX4_init 35 = .ok (.newarray .int, 2) := by decide +kernel
theorem dX4_init_37 : decode cX4_init 37 = .ok (.putfield 23, 3) := by decide +kernel
theorem dX4_init_40 : decode cX4_init 40 = .ok (.aload_n 0, 1) := by decide +kernel
theorem dX4_init_41 : decode cX4_init 41 = .ok (.bipush 6, 2) := by decide +kernel
theorem dX4_init_43 : decode cX4_init 43 = .ok (.newarray .int, 2) := by decide +kernel
theorem dX4_init_45 : decode cX4_init 45 = .ok (.putfield 26, 3) := by decide +kernel
theorem dX4_init_48 : decode cX4_init 48 = .ok (.aload_n 0, 1) := by decide +kernel
theorem dX4_init_49 : decode cX4_init 49 = .ok (.bipush 6, 2) := by decide +kernel
theorem dX4_init_51 : decode cX4_init 51 = .ok (.newarray .int, 2) := by decide +kernel
theorem dX4_init_53 : decode cX4_init 53 = .ok (.putfield 29, 3) := by decide +kernel
theorem dX4_init_56 : decode cX4_init 56 = .ok (.return_, 1) := by decide +kernel
theorem dX4_canBeOf_0 : decode cX4_canBeOf 0 = .ok (.iload_n 0, 1) := by decide +kernel
theorem dX4_canBeOf_1 : decode cX4_canBeOf 1 = .ok (.iconst 2, 1) := by decide +kernel
theorem dX4_canBeOf_2 : decode cX4_canBeOf 2 = .ok (.if_icmp .lt 13, 3) := by decide +kernel
theorem dX4_canBeOf_5 : decode cX4_canBeOf 5 = .ok (.iload_n 0, 1) := by decide +kernel
theorem dX4_canBeOf_6 : decode cX4_canBeOf 6 = .ok (.bipush 6, 2) := by decide +kernel
theorem dX4_canBeOf_8 : decode cX4_canBeOf 8 = .ok (.if_icmp .gt 7, 3) := by decide +kernel
theorem dX4_canBeOf_11 : decode cX4_canBeOf 11 = .ok (.iconst 1, 1) := by decide +kernel
theorem dX4_canBeOf_12 : decode cX4_canBeOf 12 = .ok (.goto 4, 3) := by decide +kernel
theorem dX4_canBeOf_15 : decode cX4_canBeOf 15 = .ok (.iconst 0, 1) := by decide +kernel
theorem dX4_canBeOf_16 : decode cX4_canBeOf 16 = .ok (.ireturn, 1) := by decide +kernel
theorem dX4_at_0 : decode cX4_at 0 = .ok (.aload_n 0, 1) := by decide +kernel
theorem dX4_at_1 : decode cX4_at 1 = .ok (.getfield 20, 3) := by decide +kernel
theorem dX4_at_4 : decode cX4_at 4 = .ok (.getstatic 32, 3) := by decide +kernel
theorem dX4_at_7 : decode cX4_at 7 = .ok (.iload_n 1, 1) := by decide +kernel
theorem dX4_at_8 : decode cX4_at 8 = .ok (.iaload, 1) := by decide +kernel
theorem dX4_at_9 : decode cX4_at 9 = .ok (.iload_n 2, 1) := by decide +kernel
theorem dX4_at_10 : decode cX4_at 10 = .ok (.iadd, 1) := by decide +kernel
theorem dX4_at_11 : decode cX4_at 11 = .ok (.iaload, 1) := by decide +kernel
theorem dX4_at_12 : decode cX4_at 12 = .ok (.ireturn, 1) := by decide +kernel
set_option maxRecDepth 20000 in
theorem ggX4_isFound_X4_placeFor : GoodIn wsX4_isFound wsX4_placeFor := goodIn_r _ [6, 1, 7, 8, 9, 5, 10, 11, 12, 13, 14, 15, 16, 17, 18, 19, 20] (by decide +kernel) (by decide +kernel)
set_option maxRecDepth 20000 in
theorem gX4_isFound_X4_placeFor : GoodIn wsX4_isFound (wsV RX4 35 RX4 yX4_placeFor wsX4_placeFor) := goodIn_app (goodIn_of _ (by decide +kernel)) ggX4_isFound_X4_placeFor
set_option maxRecDepth 20000 in
theorem ggX4_isFound_X4_at : GoodIn wsX4_isFound wsX4_at := goodIn_r _ [10, 11, 12, 13, 14, 15, 16, 17, 18, 19, 20] (by decide +kernel) (by decide +kernel)
set_option maxRecDepth 20000 in
theorem gX4_isFound_X4_at : GoodIn wsX4_isFound (wsV RX4 39 RX4 yX4_at wsX4_at) := goodIn_app (goodIn_of _ (by decide +kernel)) ggX4_isFound_X4_at
theorem dX4_isFound_0 : decode cX4_isFound 0 = .ok (.aload_n 0, 1) := by decide +kernel
theorem dX4_isFound_1 : decode cX4_isFound 1 = .ok (.iload_n 1, 1) := by decide +kernel
theorem dX4_isFound_2 : decode cX4_isFound 2 = .ok (.iload_n 2, 1) := by decide +kernel
theorem dX4_isFound_3 : decode cX4_isFound 3 = .ok (.invokevirtual 35, 3) := by decide +kernel
theorem dX4_isFound_6 : decode cX4_isFound 6 = .ok (.istore_n 3, 1) := by decide +kernel
theorem dX4_isFound_7 : decode cX4_isFound 7 = .ok (.iload_n 3, 1) := by decide +kernel
theorem dX4_isFound_8 : decode cX4_isFound 8 = .ok (.aload_n 0, 1) := by decide +kernel
theorem dX4_isFound_9 : decode cX4_isFound 9 = .ok (.getfield 16, 3) := by decide +kernel
theorem dX4_isFound_12 : decode cX4_isFound 12 = .ok (.iload_n 1, 1) := by decide +kernel
theorem dX4_isFound_13 : decode cX4_isFound 13 = .ok (.iaload, 1) := by decide +kernel
theorem dX4_isFound_14 : decode cX4_isFound 14 = .ok (.if_icmp .ge 17, 3) := by decide +kernel
theorem dX4_isFound_17 : decode cX4_isFound 17 = .ok (.aload_n 0, 1) := by decide +kernel
theorem dX4_isFound_18 : decode cX4_isFound 18 = .ok (.iload_n 1, 1) := by decide +kernel
theorem dX4_isFound_19 : decode cX4_isFound 19 = .ok (.iload_n 3, 1) := by decide +kernel
theorem dX4_isFound_20 : decode cX4_isFound 20 = .ok (.invokevirtual 39, 3) := by decide +kernel
theorem dX4_isFound_23 : decode cX4_isFound 23 = .ok (.iload_n 2, 1) := by decide +kernel
theorem dX4_isFound_24 : decode cX4_isFound 24 = .ok (.if_icmp .ne 7, 3) := by decide +kernel
theorem dX4_isFound_27 : decode cX4_isFound 27 = .ok (.iconst 1, 1) := by decide +kernel
theorem dX4_isFound_28 : decode cX4_isFound 28 = .ok (.goto 4, 3) := by decide +kernel
theorem dX4_isFound_31 : decode cX4_isFound 31 = .ok (.iconst 0, 1) := by decide +kernel
theorem dX4_isFound_32 : decode cX4_isFound 32 = .ok (.ireturn, 1) := by decide +kernel
set_option maxRecDepth 20000 in
theorem ggX4_placeFor_X4_at : GoodIn wsX4_placeFor wsX4_at := goodIn_r _ [6, 7, 8, 9, 10, 11, 12, 13, 14, 15, 16] (by decide +kernel) (by decide +kernel)
set_option maxRecDepth 20000 in
theorem gX4_placeFor_X4_at : GoodIn wsX4_placeFor (wsV RX4 39 RX4 yX4_at wsX4_at) := goodIn_app (goodIn_of _ (by decide +kernel)) ggX4_placeFor_X4_at
theorem dX4_placeFor_0 : decode cX4_placeFor 0 = .ok (.iconst 0, 1) := by decide +kernel
theorem dX4_placeFor_1 : decode cX4_placeFor 1 = .ok (.istore_n 3, 1) := by decide +kernel
theorem dX4_placeFor_2 : decode cX4_placeFor 2 = .ok (.aload_n 0, 1) := by decide +kernel
theorem dX4_placeFor_3 : decode cX4_placeFor 3 = .ok (.getfield 16, 3) := by decide +kernel
theorem dX4_placeFor_6 : decode cX4_placeFor 6 = .ok (.iload_n 1, 1) := by decide +kernel
theorem dX4_placeFor_7 : decode cX4_placeFor 7 = .ok (.iaload, 1) := by decide +kernel
theorem dX4_placeFor_8 : decode cX4_placeFor 8 = .ok (.istore 4, 2) := by decide +kernel
theorem dX4_placeFor_10 : decode cX4_placeFor 10 = .ok (.iconst 0, 1) := by decide +kernel
theorem dX4_placeFor_11 : decode cX4_placeFor 11 = .ok (.istore 5, 2) := by decide +kernel
theorem dX4_placeFor_13 : decode cX4_placeFor 13 = .ok (.iload 5, 2) := by decide +kernel
theorem dX4_placeFor_15 : decode cX4_placeFor 15 = .ok (.bipush 32, 2) := by decide +kernel
theorem dX4_placeFor_17 : decode cX4_placeFor 17 = .ok (.if_icmp .ge 46, 3) := by decide +kernel
theorem dX4_placeFor_20 : decode cX4_placeFor 20 = .ok (.iload_n 3, 1) := by decide +kernel
theorem dX4_placeFor_21 : decode cX4_placeFor 21 = .ok (.iload 4, 2) := by decide +kernel
theorem dX4_placeFor_23 : decode cX4_placeFor 23 = .ok (.if_icmp .ge 40, 3) := by decide +kernel
theorem dX4_placeFor_26 : decode cX4_placeFor 26 = .ok (.iload_n 3, 1) := by decide +kernel
theorem dX4_placeFor_27 : decode cX4_placeFor 27 = .ok (.iload 4, 2) := by decide +kernel
theorem dX4_placeFor_29 : decode cX4_placeFor 29 = .ok (.iadd, 1) := by decide +kernel
theorem dX4_placeFor_30 : decode cX4_placeFor 30 = .ok (.iconst 2, 1) := by decide +kernel
theorem dX4_placeFor_31 : decode cX4_placeFor 31 = .ok (.idiv, 1) := by decide +kernel
theorem dX4_placeFor_32 : decode cX4_placeFor 32 = .ok (.istore 6, 2) := by decide +kernel
theorem dX4_placeFor_34 : decode cX4_placeFor 34 = .ok (.aload_n 0, 1) := by decide +kernel
theorem dX4_placeFor_35 : decode cX4_placeFor 35 = .ok (.iload_n 1, 1) := by decide +kernel
theorem dX4_placeFor_36 : decode cX4_placeFor 36 = .ok (.iload 6, 2) := by decide +kernel
theorem dX4_placeFor_38 : decode cX4_placeFor 38 = .ok (.invokevirtual 39, 3) := by decide +kernel
theorem dX4_placeFor_41 : decode cX4_placeFor 41 = .ok (.iload_n 2, 1) := by decide +kernel
theorem dX4_placeFor_42 : decode cX4_placeFor 42 = .ok (.if_icmp .ge 11, 3) := by decide +kernel
theorem dX4_placeFor_45 : decode cX4_placeFor 45 = .ok (.iload 6, 2) := by decide +kernel
theorem dX4_placeFor_47 : decode cX4_placeFor 47 = .ok (.iconst 1, 1) := by decide +kernel
theorem dX4_placeFor_48 : decode cX4_placeFor 48 = .ok (.iadd, 1) := by decide +kernel
theorem dX4_placeFor_49 : decode cX4_placeFor 49 = .ok (.istore_n 3, 1) := by decide +kernel
theorem dX4_placeFor_50 : decode cX4_placeFor 50 = .ok (.goto 7, 3) := by decide +kernel
theorem dX4_placeFor_53 : decode cX4_placeFor 53 = .ok (.iload 6, 2) := by decide +kernel
theorem dX4_placeFor_55 : decode cX4_placeFor 55 = .ok (.istore 4, 2) := by decide +kernel
theorem dX4_placeFor_57 : decode cX4_placeFor 57 = .ok (.iinc 5 1, 3) := by decide +kernel
theorem dX4_placeFor_60 : decode cX4_placeFor 60 = .ok (.goto (-47), 3) := by decide +kernel
theorem dX4_placeFor_63 : decode cX4_placeFor 63 = .ok (.iload_n 3, 1) := by decide +kernel
theorem dX4_placeFor_64 : decode cX4_placeFor 64 = .ok (.ireturn, 1) := by decide +kernel
set_option maxRecDepth 20000 in
theorem ggX4_seek_X0_packed : GoodIn wsX4_seek wsX0_packed := goodIn_r _ [12, 13, 133, 134, 135, 136] (by decide +kernel) (by decide +kernel)
set_option maxRecDepth 20000 in
theorem gX4_seek_X0_packed : GoodIn wsX4_seek (wsV RX4 54 RX0 yX0_packed wsX0_packed) := goodIn_app (goodIn_of _ (by decide +kernel)) ggX4_seek_X0_packed
set_option maxRecDepth 20000 in
theorem ggX4_seek_X4_startWith : GoodIn wsX4_seek wsX4_startWith := goodIn_r _ [18, 2, 1, 3, 5, 4, 8, 9, 10, 11, 12, 13, 19, 20, 21, 22, 23, 24, 25, 26, 27, 28, 29, 30, 31, 32, 33, 34, 35, 36, 37, 38, 39, 40, 41, 42, 43, 44, 45, 46, 47, 48, 133, 134, 135, 136, 125, 126, 127, 128, 129, 130, 131, 132, 137, 138, 139, 140, 141, 142, 143, 144] (by decide +kernel) (by decide +kernel)
set_option maxRecDepth 20000 in
theorem gX4_seek_X4_startWith : GoodIn wsX4_seek (wsV RX4 58 RX4 yX4_startWith wsX4_startWith) := goodIn_app (goodIn_of _ (by decide +kernel)) ggX4_seek_X4_startWith
set_option maxRecDepth 20000 in
theorem ggX4_seek_X4_addRings : GoodIn wsX4_seek wsX4_addRings := goodIn_r _ [52, 2, 53, 54, 55, 11, 56, 42, 13, 57, 58, 59, 60, 61, 62, 63, 64, 65, 66, 67, 68, 69, 70, 17, 71, 72, 73, 74, 75, 76, 4, 77, 78, 79, 80, 81, 82, 83, 84, 85, 86, 87, 133, 134, 135, 136, 125, 126, 127, 128, 129, 130, 131, 132] (by decide +kernel) (by decide +kernel)
set_option maxRecDepth 20000 in
theorem gX4_seek_X4_addRings : GoodIn wsX4_seek (wsV RX4 62 RX4 yX4_addRings wsX4_addRings) := goodIn_app (goodIn_of _ (by decide +kernel)) ggX4_seek_X4_addRings
set_option maxRecDepth 20000 in
theorem ggX4_seek_X4_extend : GoodIn wsX4_seek wsX4_extend := goodIn_r _ [90, 4, 77, 7, 5, 6, 91, 92, 93, 17, 94, 95, 96, 97, 98, 99, 100, 101, 22, 102, 29, 103, 104, 105, 106, 107, 108, 109, 110, 111, 112, 113, 114, 115, 116, 117, 118, 119, 25, 120, 121, 122, 123, 124, 73, 74, 75, 76, 78, 79, 80, 81, 82, 83, 84, 85, 86, 87, 88, 89, 125, 126, 127, 128, 129, 130, 131, 132, 137, 138, 139, 140, 141, 142, 143, 144] (by decide +kernel) (by decide +kernel)
set_option maxRecDepth 20000 in
theorem gX4_seek_X4_extend : GoodIn wsX4_seek (va_wsS RX4 69 yX4_extend wsX4_extend) := goodIn_app (goodIn_of _ (by decide +kernel)) ggX4_seek_X4_extend
theorem dX4_seek_0 : decode cX4_seek 0 = .ok (.aload_n 0, 1) := by decide +kernel
theorem dX4_seek_1 : decode cX4_seek 1 = .ok (.getfield 42, 3) := by decide +kernel
theorem dX4_seek_4 : decode cX4_seek 4 = .ok (.aload_n 2, 1) := by decide +kernel
theorem dX4_seek_5 : decode cX4_seek 5 = .ok (.getfield 46, 3) := by decide +kernel
theorem dX4_seek_8 : decode cX4_seek 8 = .ok (.if_icmp .ne 14, 3) := by decide +kernel
theorem dX4_seek_11 : decode cX4_seek 11 = .ok (.aload_n 0, 1) := by decide +kernel
theorem dX4_seek_12 : decode cX4_seek 12 = .ok (.getfield 51, 3) := by decide +kernel
theorem dX4_seek_15 : decode cX4_seek 15 = .ok (.aload_n 2, 1) := by decide +kernel
theorem dX4_seek_16 : decode cX4_seek 16 = .ok (.invokevirtual 54, 3) := by decide +kernel
theorem dX4_seek_19 : decode cX4_seek 19 = .ok (.if_icmp .eq 8, 3) := by decide +kernel
theorem dX4_seek_22 : decode cX4_seek 22 = .ok (.aload_n 0, 1) := by decide +kernel
theorem dX4_seek_23 : decode cX4_seek 23 = .ok (.aload_n 2, 1) := by decide +kernel
theorem dX4_seek_24 : decode cX4_seek 24 = .ok (.invokevirtual 58, 3) := by decide +kernel
theorem dX4_seek_27 : decode cX4_seek 27 = .ok (.aload_n 0, 1) := by decide +kernel
theorem dX4_seek_28 : decode cX4_seek 28 = .ok (.getfield 16, 3) := by decide +kernel
theorem dX4_seek_31 : decode cX4_seek 31 = .ok (.iload_n 1, 1) := by decide +kernel
theorem dX4_seek_32 : decode cX4_seek 32 = .ok (.iaload, 1) := by decide +kernel
theorem dX4_seek_33 : decode cX4_seek 33 = .ok (.iconst (-1), 1) := by decide +kernel
theorem dX4_seek_34 : decode cX4_seek 34 = .ok (.if_icmp .eq 4, 3) := by decide +kernel
theorem dX4_seek_37 : decode cX4_seek 37 = .ok (.return_, 1) := by decide +kernel
theorem dX4_seek_38 : decode cX4_seek 38 = .ok (.aload_n 0, 1) := by decide +kernel
theorem dX4_seek_39 : decode cX4_seek 39 = .ok (.getfield 16, 3) := by decide +kernel
theorem dX4_seek_42 : decode cX4_seek 42 = .ok (.iload_n 1, 1) := by decide +kernel
theorem dX4_seek_43 : decode cX4_seek 43 = .ok (.iconst 0, 1) := by decide +kernel
theorem dX4_seek_44 : decode cX4_seek 44 = .ok (.iastore, 1) := by decide +kernel
theorem dX4_seek_45 : decode cX4_seek 45 = .ok (.aload_n 0, 1) := by decide +kernel
theorem dX4_seek_46 : decode cX4_seek 46 = .ok (.iload_n 1, 1) := by decide +kernel
theorem dX4_seek_47 : decode cX4_seek 47 = .ok (.aload_n 2, 1) := by decide +kernel
theorem dX4_seek_48 : decode cX4_seek 48 = .ok (.invokevirtual 62, 3) := by decide +kernel
theorem dX4_seek_51 : decode cX4_seek 51 = .ok (.iconst 0, 1) := by decide +kernel
theorem dX4_seek_52 : decode cX4_seek 52 = .ok (.istore_n 3, 1) := by decide +kernel
theorem dX4_seek_53 : decode cX4_seek 53 = .ok (.iload_n 3, 1) := by decide +kernel
theorem dX4_seek_54 : decode cX4_seek 54 = .ok (.aload_n 0, 1) := by decide +kernel
theorem dX4_seek_55 : decode cX4_seek 55 = .ok (.getfield 10, 3) := by decide +kernel
theorem dX4_seek_58 : decode cX4_seek 58 = .ok (.getfield 66, 3) := by decide +kernel
theorem dX4_seek_61 : decode cX4_seek 61 = .ok (.if_icmp .ge 22, 3) := by decide +kernel
theorem dX4_seek_64 : decode cX4_seek 64 = .ok (.aload_n 0, 1) := by decide +kernel
theorem dX4_seek_65 : decode cX4_seek 65 = .ok (.getfield 23, 3) := by decide +kernel
theorem dX4_seek_68 : decode cX4_seek 68 = .ok (.iconst 0, 1) := by decide +kernel
theorem dX4_seek_69 : decode cX4_seek 69 = .ok (.iload_n 3, 1) := by decide +kernel
theorem dX4_seek_70 : decode cX4_seek 70 = .ok (.iastore, 1) := by decide +kernel
theorem dX4_seek_71 : decode cX4_seek 71 = .ok (.aload_n 0, 1) := by decide +kernel
theorem dX4_seek_72 : decode cX4_seek 72 = .ok (.iload_n 1, 1) := by decide +kernel
theorem dX4_seek_73 : decode cX4_seek 73 = .ok (.iconst 1, 1) := by decide +kernel
theorem dX4_seek_74 : decode cX4_seek 74 = .ok (.invokestatic 69, 3) := by decide +kernel
theorem dX4_seek_77 : decode cX4_seek 77 = .ok (.iinc 3 1, 3) := by decide +kernel
theorem dX4_seek_80 : decode cX4_seek 80 = .ok (.goto (-27), 3) := by decide +kernel
theorem dX4_seek_83 : decode cX4_seek 83 = .ok (.return_, 1) := by decide +kernel
set_option maxRecDepth 20000 in
theorem ggX4_startWith_X0_packed : GoodIn wsX4_startWith wsX0_packed := goodIn_r _ [10, 11, 42, 43, 44, 45] (by decide +kernel) (by decide +kernel)
set_option maxRecDepth 20000 in
theorem gX4_startWith_X0_packed : GoodIn wsX4_startWith (wsV RX4 54 RX0 yX0_packed wsX0_packed) := goodIn_app (goodIn_of _ (by decide +kernel)) ggX4_startWith_X0_packed
set_option maxRecDepth 20000 in
theorem ggX4_startWith_X5_learn : GoodIn wsX4_startWith wsX5_learn := goodIn_r _ [16, 17, 18, 19, 20, 21, 22, 23, 24, 25, 26, 27, 28, 29, 30, 31, 32, 9, 33, 34, 35, 36, 37, 15, 38, 39, 40, 41, 54, 55, 56, 57, 58, 59, 60, 61, 42, 43, 44, 45] (by decide +kernel) (by decide +kernel)
set_option maxRecDepth 20000 in
theorem gX4_startWith_X5_learn : GoodIn wsX4_startWith (wsV RX4 73 RX5 yX5_learn wsX5_learn) := goodIn_app (goodIn_of _ (by decide +kernel)) ggX4_startWith_X5_learn
theorem dX4_startWith_0 : decode cX4_startWith 0 = .ok (.aload_n 0, 1) := by decide +kernel
theorem dX4_startWith_1 : decode cX4_startWith 1 = .ok (.aload_n 1, 1) := by decide +kernel
theorem dX4_startWith_2 : decode cX4_startWith 2 = .ok (.getfield 46, 3) := by decide +kernel
theorem dX4_startWith_5 : decode cX4_startWith 5 = .ok (.putfield 42, 3) := by decide +kernel
theorem dX4_startWith_8 : decode cX4_startWith 8 = .ok (.aload_n 0, 1) := by decide +kernel
theorem dX4_startWith_9 : decode cX4_startWith 9 = .ok (.aload_n 1, 1) := by decide +kernel
theorem dX4_startWith_10 : decode cX4_startWith 10 = .ok (.invokevirtual 54, 3) := by decide +kernel
theorem dX4_startWith_13 : decode cX4_startWith 13 = .ok (.putfield 51, 3) := by decide +kernel
theorem dX4_startWith_16 : decode cX4_startWith 16 = .ok (.aload_n 0, 1) := by decide +kernel
theorem dX4_startWith_17 : decode cX4_startWith 17 = .ok (.getfield 10, 3) := by decide +kernel
theorem dX4_startWith_20 : decode cX4_startWith 20 = .ok (.aload_n 1, 1) := by decide +kernel
theorem dX4_startWith_21 : decode cX4_startWith 21 = .ok (.invokevirtual 73, 3) := by decide +kernel
theorem dX4_startWith_24 : decode cX4_startWith 24 = .ok (.iconst 0, 1) := by decide +kernel
theorem dX4_startWith_25 : decode cX4_startWith 25 = .ok (.istore_n 2, 1) := by decide +kernel
theorem dX4_startWith_26 : decode cX4_startWith 26 = .ok (.iload_n 2, 1) := by decide +kernel
theorem dX4_startWith_27 : decode cX4_startWith 27 = .ok (.bipush 6, 2) := by decide +kernel
theorem dX4_startWith_29 : decode cX4_startWith 29 = .ok (.if_icmp .gt 16, 3) := by decide +kernel
theorem dX4_startWith_32 : decode cX4_startWith 32 = .ok (.aload_n 0, 1) := by decide +kernel
theorem dX4_startWith_33 : decode cX4_startWith 33 = .ok (.getfield 16, 3) := by decide +kernel
theorem dX4_startWith_36 : decode cX4_startWith 36 = .ok (.iload_n 2, 1) := by decide +kernel
theorem dX4_startWith_37 : decode cX4_startWith 37 = .ok (.iconst (-1), 1) := by decide +kernel
theorem dX4_startWith_38 : decode cX4_startWith 38 = .ok (.iastore, 1) := by decide +kernel
theorem dX4_startWith_39 : decode cX4_startWith 39 = .ok (.iinc 2 1, 3) := by decide +kernel
theorem dX4_startWith_42 : decode cX4_startWith 42 = .ok (.goto (-16), 3) := by decide +kernel
theorem dX4_startWith_45 : decode cX4_startWith 45 = .ok (.return_, 1) := by decide +kernel
set_option maxRecDepth 20000 in
theorem ggX4_addRings_X0_ringBits : GoodIn wsX4_addRings wsX0_ringBits := goodIn_r _ [6, 7, 8, 42, 43, 44, 45] (by decide +kernel) (by decide +kernel)
set_option maxRecDepth 20000 in
theorem gX4_addRings_X0_ringBits : GoodIn wsX4_addRings (wsV RX4 76 RX0 yX0_ringBits wsX0_ringBits) := goodIn_app (goodIn_of _ (by decide +kernel)) ggX4_addRings_X0_ringBits
set_option maxRecDepth 20000 in
theorem ggX4_addRings_X0_isLeastOfRing : GoodIn wsX4_addRings wsX0_isLeastOfRing := goodIn_r _ [12, 13, 3, 4, 5, 6, 7, 8, 42, 43, 44, 45] (by decide +kernel) (by decide +kernel)
set_option maxRecDepth 20000 in
theorem gX4_addRings_X0_isLeastOfRing : GoodIn wsX4_addRings (wsV RX4 80 RX0 yX0_isLeastOfRing wsX0_isLeastOfRing) := goodIn_app (goodIn_of _ (by decide +kernel)) ggX4_addRings_X0_isLeastOfRing
set_option maxRecDepth 20000 in
theorem ggX4_addRings_J6_bitCount_0f7a4 : GoodIn wsX4_addRings wsJ6_bitCount_0f7a4 := goodIn_r _ [17, 18, 19, 20] (by decide +kernel) (by decide +kernel)
set_option maxRecDepth 20000 in
theorem gX4_addRings_J6_bitCount_0f7a4 : GoodIn wsX4_addRings (va_wsS RX4 84 yJ6_bitCount_0f7a4 wsJ6_bitCount_0f7a4) := goodIn_app (goodIn_of _ (by decide +kernel)) ggX4_addRings_J6_bitCount_0f7a4
set_option maxRecDepth 20000 in
theorem ggX4_addRings_X4_ringFigures : GoodIn wsX4_addRings wsX4_ringFigures := goodIn_r _ [24, 1, 25, 14, 15, 16, 17, 18, 19, 20, 42, 43, 44, 45] (by decide +kernel) (by decide +kernel)
set_option maxRecDepth 20000 in
theorem gX4_addRings_X4_ringFigures : GoodIn wsX4_addRings (va_wsS RX4 89 yX4_ringFigures wsX4_ringFigures) := goodIn_app (goodIn_of _ (by decide +kernel)) ggX4_addRings_X4_ringFigures
set_option maxRecDepth 20000 in
theorem ggX4_addRings_X4_add : GoodIn wsX4_addRings wsX4_add := goodIn_r _ [29, 30, 31, 32, 33, 34, 35, 36, 23, 37, 38, 39, 40, 41, 46, 47, 48, 49, 50, 51, 52, 53] (by decide +kernel) (by decide +kernel)
set_option maxRecDepth 20000 in
theorem gX4_addRings_X4_add : GoodIn wsX4_addRings (wsV RX4 93 RX4 yX4_add wsX4_add) := goodIn_app (goodIn_of _ (by decide +kernel)) ggX4_addRings_X4_add
theorem dX4_addRings_0 : decode cX4_addRings 0 = .ok (.iconst 0, 1) := by decide +kernel
theorem dX4_addRings_1 : decode cX4_addRings 1 = .ok (.istore_n 3, 1) := by decide +kernel
theorem dX4_addRings_2 : decode cX4_addRings 2 = .ok (.iload_n 3, 1) := by decide +kernel
theorem dX4_addRings_3 : decode cX4_addRings 3 = .ok (.aload_n 2, 1) := by decide +kernel
theorem dX4_addRings_4 : decode cX4_addRings 4 = .ok (.getfield 46, 3) := by decide +kernel
theorem dX4_addRings_7 : decode cX4_addRings 7 = .ok (.if_icmp .ge 44, 3) := by decide +kernel
theorem dX4_addRings_10 : decode cX4_addRings 10 = .ok (.aload_n 2, 1) := by decide +kernel
theorem dX4_addRings_11 : decode cX4_addRings 11 = .ok (.iload_n 3, 1) := by decide +kernel
theorem dX4_addRings_12 : decode cX4_addRings 12 = .ok (.invokevirtual 76, 3) := by decide +kernel
theorem dX4_addRings_15 : decode cX4_addRings 15 = .ok (.istore 4, 2) := by decide +kernel
theorem dX4_addRings_17 : decode cX4_addRings 17 = .ok (.aload_n 2, 1) := by decide +kernel
theorem dX4_addRings_18 : decode cX4_addRings 18 = .ok (.iload_n 3, 1) := by decide +kernel
theorem dX4_addRings_19 : decode cX4_addRings 19 = .ok (.invokevirtual 80, 3) := by decide +kernel
theorem dX4_addRings_22 : decode cX4_addRings 22 = .ok (.ifCond .eq 23, 3) := by decide +kernel
theorem dX4_addRings_25 : decode cX4_addRings 25 = .ok (.iload 4, 2) := by decide +kernel
theorem dX4_addRings_27 : decode cX4_addRings 27 = .ok (.invokestatic 84, 3) := by decide +kernel
theorem dX4_addRings_30 : decode cX4_addRings 30 = .ok (.iload_n 1, 1) := by decide +kernel
theorem dX4_addRings_31 : decode cX4_addRings 31 = .ok (.if_icmp .ne 14, 3) := by decide +kernel
theorem dX4_addRings_34 : decode cX4_addRings 34 = .ok (.aload_n 0, 1) := by decide +kernel
theorem dX4_addRings_35 : decode cX4_addRings 35 = .ok (.iload_n 1, 1) := by decide +kernel
theorem dX4_addRings_36 : decode cX4_addRings 36 = .ok (.iload 4, 2) := by decide +kernel
theorem dX4_addRings_38 : decode cX4_addRings 38 = .ok (.aload_n 2, 1) := by decide +kernel
theorem dX4_addRings_39 : decode cX4_addRings 39 = .ok (.invokestatic 89, 3) := by decide +kernel
theorem dX4_addRings_42 : decode cX4_addRings 42 = .ok (.invokevirtual 93, 3) := by decide +kernel
theorem dX4_addRings_45 : decode cX4_addRings 45 = .ok (.iinc 3 1, 3) := by decide +kernel
theorem dX4_addRings_48 : decode cX4_addRings 48 = .ok (.goto (-46), 3) := by decide +kernel
theorem dX4_addRings_51 : decode cX4_addRings 51 = .ok (.return_, 1) := by decide +kernel
set_option maxRecDepth 20000 in
theorem ggX4_ringFigures_J6_bitCount_0f7a4 : GoodIn wsX4_ringFigures wsJ6_bitCount_0f7a4 := goodIn_r _ [6, 7, 8, 9] (by decide +kernel) (by decide +kernel)
set_option maxRecDepth 20000 in
theorem gX4_ringFigures_J6_bitCount_0f7a4 : GoodIn wsX4_ringFigures (va_wsS RX4 84 yJ6_bitCount_0f7a4 wsJ6_bitCount_0f7a4) := goodIn_app (goodIn_of _ (by decide +kernel)) ggX4_ringFigures_J6_bitCount_0f7a4
theorem dX4_ringFigures_0 : decode cX4_ringFigures 0 = .ok (.iconst 0, 1) := by decide +kernel
theorem dX4_ringFigures_1 : decode cX4_ringFigures 1 = .ok (.istore_n 2, 1) := by decide +kernel
theorem dX4_ringFigures_2 : decode cX4_ringFigures 2 = .ok (.iconst 0, 1) := by decide +kernel
theorem dX4_ringFigures_3 : decode cX4_ringFigures 3 = .ok (.istore_n 3, 1) := by decide +kernel
theorem dX4_ringFigures_4 : decode cX4_ringFigures 4 = .ok (.iload_n 3, 1) := by decide +kernel
theorem dX4_ringFigures_5 : decode cX4_ringFigures 5 = .ok (.aload_n 1, 1) := by decide +kernel
theorem dX4_ringFigures_6 : decode cX4_ringFigures 6 = .ok (.getfield 46, 3) := by decide +kernel
theorem dX4_ringFigures_9 : decode cX4_ringFigures 9 = .ok (.if_icmp .ge 43, 3) := by decide +kernel
theorem dX4_ringFigures_12 : decode cX4_ringFigures 12 = .ok (.iload_n 0, 1) := by decide +kernel
theorem dX4_ringFigures_13 : decode cX4_ringFigures 13 = .ok (.iload_n 3, 1) := by decide +kernel
theorem dX4_ringFigures_14 : decode cX4_ringFigures 14 = .ok (.ishr, 1) := by decide +kernel
theorem dX4_ringFigures_15 : decode cX4_ringFigures 15 = .ok (.iconst 1, 1) := by decide +kernel
theorem dX4_ringFigures_16 : decode cX4_ringFigures 16 = .ok (.iand, 1) := by decide +kernel
theorem dX4_ringFigures_17 : decode cX4_ringFigures 17 = .ok (.iconst 1, 1) := by decide +kernel
theorem dX4_ringFigures_18 : decode cX4_ringFigures 18 = .ok (.if_icmp .ne 28, 3) := by decide +kernel
theorem dX4_ringFigures_21 : decode cX4_ringFigures 21 = .ok (.iload_n 0, 1) := by decide +kernel
theorem dX4_ringFigures_22 : decode cX4_ringFigures 22 = .ok (.iconst 1, 1) := by decide +kernel
theorem dX4_ringFigures_23 : decode cX4_ringFigures 23 = .ok (.aload_n 1, 1) := by decide +kernel
theorem dX4_ringFigures_24 : decode cX4_ringFigures 24 = .ok (.getfield 97, 3) := by decide +kernel
theorem dX4_ringFigures_27 : decode cX4_ringFigures 27 = .ok (.iload_n 3, 1) := by decide +kernel
theorem dX4_ringFigures_28 : decode cX4_ringFigures 28 = .ok (.iaload, 1) := by decide +kernel
theorem dX4_ringFigures_29 : decode cX4_ringFigures 29 = .ok (.ishl, 1) := by decide +kernel
theorem dX4_ringFigures_30 : decode cX4_ringFigures 30 = .ok (.iconst 1, 1) := by decide +kernel
theorem dX4_ringFigures_31 : decode cX4_ringFigures 31 = .ok (.isub, 1) := by decide +kernel
theorem dX4_ringFigures_32 : decode cX4_ringFigures 32 = .ok (.iand, 1) := by decide +kernel
theorem dX4_ringFigures_33 : decode cX4_ringFigures 33 = .ok (.istore 4, 2) := by decide +kernel
theorem dX4_ringFigures_35 : decode cX4_ringFigures 35 = .ok (.iload_n 2, 1) := by decide +kernel
theorem dX4_ringFigures_36 : decode cX4_ringFigures 36 = .ok (.bipush 10, 2) := by decide +kernel
theorem dX4_ringFigures_38 : decode cX4_ringFigures 38 = .ok (.imul, 1) := by decide +kernel
theorem dX4_ringFigures_39 : decode cX4_ringFigures 39 = .ok (.iload 4, 2) := by decide +kernel
theorem dX4_ringFigures_41 : decode cX4_ringFigures 41 = .ok (.invokestatic 84, 3) := by decide +kernel
theorem dX4_ringFigures_44 : decode cX4_ringFigures 44 = .ok (.iadd, 1) := by decide +kernel
theorem dX4_ringFigures_45 : decode cX4_ringFigures 45 = .ok (.istore_n 2, 1) := by decide +kernel
theorem dX4_ringFigures_46 : decode cX4_ringFigures 46 = .ok (.iinc 3 1, 3) := by decide +kernel
theorem dX4_ringFigures_49 : decode cX4_ringFigures 49 = .ok (.goto (-45), 3) := by decide +kernel
theorem dX4_ringFigures_52 : decode cX4_ringFigures 52 = .ok (.iload_n 2, 1) := by decide +kernel
theorem dX4_ringFigures_53 : decode cX4_ringFigures 53 = .ok (.ireturn, 1) := by decide +kernel
set_option maxRecDepth 20000 in
theorem ggX4_extend_X4_takeLoop : GoodIn wsX4_extend wsX4_takeLoop := goodIn_r _ [10, 4, 3, 11, 12, 13, 14, 15, 16, 17, 18, 19, 20, 21, 22, 23, 9, 24, 25, 26, 27, 28, 29, 30, 31, 32, 33, 34, 35, 36, 37, 38, 39, 40, 41, 42, 43, 44, 45, 46, 47, 1, 2, 48, 49, 50, 51, 52, 53, 54, 55, 56, 57, 60, 61, 62, 63, 64, 65, 66, 67, 68, 69, 70, 71, 72, 73, 74, 75] (by decide +kernel) (by decide +kernel)
set_option maxRecDepth 20000 in
theorem gX4_extend_X4_takeLoop : GoodIn wsX4_extend (wsV RX4 103 RX4 yX4_takeLoop wsX4_takeLoop) := goodIn_app (goodIn_of _ (by decide +kernel)) ggX4_extend_X4_takeLoop
set_option maxRecDepth 20000 in
theorem ggX4_extend_X5_isCovered : GoodIn wsX4_extend wsX5_isCovered := goodIn_r _ [19, 20, 68, 69, 70, 71, 72, 73, 74, 75] (by decide +kernel) (by decide +kernel)
set_option maxRecDepth 20000 in
theorem gX4_extend_X5_isCovered : GoodIn wsX4_extend (wsV RX4 107 RX5 yX5_isCovered wsX5_isCovered) := goodIn_app (goodIn_of _ (by decide +kernel)) ggX4_extend_X5_isCovered
set_option maxRecDepth 20000 in
theorem ggX4_extend_X4_extend : GoodIn wsX4_extend wsX4_extend := goodIn_r _ [0, 1, 2, 3, 4, 5, 6, 7, 8, 9, 10, 11, 12, 13, 14, 15, 16, 17, 18, 19, 20, 21, 22, 23, 24, 25, 26, 27, 28, 29, 30, 31, 32, 33, 34, 35, 36, 37, 38, 39, 40, 41, 42, 43, 44, 45, 46, 47, 48, 49, 50, 51, 52, 53, 54, 55, 56, 57, 58, 59, 60, 61, 62, 63, 64, 65, 66, 67, 68, 69, 70, 71, 72, 73, 74, 75] (by decide +kernel) (by decide +kernel)
set_option maxRecDepth 20000 in
theorem gX4_extend_X4_extend : GoodIn wsX4_extend (va_wsS RX4 69 yX4_extend wsX4_extend) := goodIn_app (goodIn_of _ (by decide +kernel)) ggX4_extend_X4_extend
theorem dX4_extend_0 : decode cX4_extend 0 = .ok (.iload_n 2, 1) := by decide +kernel
theorem dX4_extend_1 : decode cX4_extend 1 = .ok (.iconst 1, 1) := by decide +kernel
theorem dX4_extend_2 : decode cX4_extend 2 = .ok (.if_icmp .lt 22, 3) := by decide +kernel
theorem dX4_extend_5 : decode cX4_extend 5 = .ok (.iload_n 2, 1) := by decide +kernel
theorem dX4_extend_6 : decode cX4_extend 6 = .ok (.iload_n 1, 1) := by decide +kernel
theorem dX4_extend_7 : decode cX4_extend 7 = .ok (.if_icmp .gt 17, 3) := by decide +kernel
theorem dX4_extend_10 : decode cX4_extend 10 = .ok (.aload_n 0, 1) := by decide +kernel
theorem dX4_extend_11 : decode cX4_extend 11 = .ok (.getfield 16, 3) := by decide +kernel
theorem dX4_extend_14 : decode cX4_extend 14 = .ok (.iload_n 1, 1) := by decide +kernel
theorem dX4_extend_15 : decode cX4_extend 15 = .ok (.iaload, 1) := by decide +kernel
theorem dX4_extend_16 : decode cX4_extend 16 = .ok (.getstatic 100, 3) := by decide +kernel
theorem dX4_extend_19 : decode cX4_extend 19 = .ok (.iload_n 1, 1) := by decide +kernel
theorem dX4_extend_20 : decode cX4_extend 20 = .ok (.iaload, 1) := by decide +kernel
theorem dX4_extend_21 : decode cX4_extend 21 = .ok (.if_icmp .lt 4, 3) := by decide +kernel
theorem dX4_extend_24 : decode cX4_extend 24 = .ok (.return_, 1) := by decide +kernel
theorem dX4_extend_25 : decode cX4_extend 25 = .ok (.iload_n 2, 1) := by decide +kernel
theorem dX4_extend_26 : decode cX4_extend 26 = .ok (.iload_n 1, 1) := by decide +kernel
theorem dX4_extend_27 : decode cX4_extend 27 = .ok (.if_icmp .ne 9, 3) := by decide +kernel
theorem dX4_extend_30 : decode cX4_extend 30 = .ok (.aload_n 0, 1) := by decide +kernel
theorem dX4_extend_31 : decode cX4_extend 31 = .ok (.iload_n 1, 1) := by decide +kernel
theorem dX4_extend_32 : decode cX4_extend 32 = .ok (.invokevirtual 103, 3) := by decide +kernel
theorem dX4_extend_35 : decode cX4_extend 35 = .ok (.return_, 1) := by decide +kernel
theorem dX4_extend_36 : decode cX4_extend 36 = .ok (.aload_n 0, 1) := by decide +kernel
theorem dX4_extend_37 : decode cX4_extend 37 = .ok (.getfield 23, 3) := by decide +kernel
theorem dX4_extend_40 : decode cX4_extend 40 = .ok (.astore_n 3, 1) := by decide +kernel
theorem dX4_extend_41 : decode cX4_extend 41 = .ok (.aload_n 3, 1) := by decide +kernel
theorem dX4_extend_42 : decode cX4_extend 42 = .ok (.iconst 0, 1) := by decide +kernel
theorem dX4_extend_43 : decode cX4_extend 43 = .ok (.iaload, 1) := by decide +kernel
theorem dX4_extend_44 : decode cX4_extend 44 = .ok (.istore 4, 2) := by decide +kernel
theorem dX4_extend_46 : decode cX4_extend 46 = .ok (.iload 4, 2) := by decide +kernel
theorem dX4_extend_48 : decode cX4_extend 48 = .ok (.aload_n 0, 1) := by decide +kernel
theorem dX4_extend_49 : decode cX4_extend 49 = .ok (.getfield 10, 3) := by decide +kernel
theorem dX4_extend_52 : decode cX4_extend 52 = .ok (.getfield 66, 3) := by decide +kernel
theorem dX4_extend_55 : decode cX4_extend 55 = .ok (.if_icmp .ge 39, 3) := by decide +kernel
theorem dX4_extend_58 : decode cX4_extend 58 = .ok (.aload_n 0, 1) := by decide +kernel
theorem dX4_extend_59 : decode cX4_extend 59 = .ok (.getfield 10, 3) := by decide +kernel
theorem dX4_extend_62 : decode cX4_extend 62 = .ok (.iload 4, 2) := by decide +kernel
theorem dX4_extend_64 : decode cX4_extend 64 = .ok (.aload_n 3, 1) := by decide +kernel
theorem dX4_extend_65 : decode cX4_extend 65 = .ok (.iload_n 2, 1) := by decide +kernel
theorem dX4_extend_66 : decode cX4_extend 66 = .ok (.iconst 1, 1) := by decide +kernel
theorem dX4_extend_67 : decode cX4_extend 67 = .ok (.isub, 1) := by decide +kernel
theorem dX4_extend_68 : decode cX4_extend 68 = .ok (.iaload, 1) := by decide +kernel
theorem dX4_extend_69 : decode cX4_extend 69 = .ok (.invokevirtual 107, 3) := by decide +kernel
theorem dX4_extend_72 : decode cX4_extend 72 = .ok (.ifCond .eq 16, 3) := by decide +kernel
theorem dX4_extend_75 : decode cX4_extend 75 = .ok (.aload_n 3, 1) := by decide +kernel
theorem dX4_extend_76 : decode cX4_extend 76 = .ok (.iload_n 2, 1) := by decide +kernel
theorem dX4_extend_77 : decode cX4_extend 77 = .ok (.iload 4, 2) := by decide +kernel
theorem dX4_extend_79 : decode cX4_extend 79 = .ok (.iastore, 1) := by decide +kernel
theorem dX4_extend_80 : decode cX4_extend 80 = .ok (.aload_n 0, 1) := by decide +kernel
theorem dX4_extend_81 : decode cX4_extend 81 = .ok (.iload_n 1, 1) := by decide +kernel
theorem dX4_extend_82 : decode cX4_extend 82 = .ok (.iload_n 2, 1) := by decide +kernel
theorem dX4_extend_83 : decode cX4_extend 83 = .ok (.iconst 1, 1) := by decide +kernel
theorem dX4_extend_84 : decode cX4_extend 84 = .ok (.iadd, 1) := by decide +kernel
theorem dX4_extend_85 : decode cX4_extend 85 = .ok (.invokestatic 69, 3) := by decide +kernel
theorem dX4_extend_88 : decode cX4_extend 88 = .ok (.iinc 4 1, 3) := by decide +kernel
theorem dX4_extend_91 : decode cX4_extend 91 = .ok (.goto (-45), 3) := by decide +kernel
theorem dX4_extend_94 : decode cX4_extend 94 = .ok (.return_, 1) := by decide +kernel
set_option maxRecDepth 20000 in
theorem ggX4_takeLoop_X5_isCovered : GoodIn wsX4_takeLoop wsX5_isCovered := goodIn_r _ [11, 12, 61, 62, 63, 64, 65, 66, 67, 68] (by decide +kernel) (by decide +kernel)
set_option maxRecDepth 20000 in
theorem gX4_takeLoop_X5_isCovered : GoodIn wsX4_takeLoop (wsV RX4 107 RX5 yX5_isCovered wsX5_isCovered) := goodIn_app (goodIn_of _ (by decide +kernel)) ggX4_takeLoop_X5_isCovered
set_option maxRecDepth 20000 in
theorem ggX4_takeLoop_X4_numberRows : GoodIn wsX4_takeLoop wsX4_numberRows := goodIn_r _ [17, 18, 19, 20, 21, 16, 22, 2, 23, 24, 25, 26, 1, 27, 28, 29, 10, 30, 31, 53, 54, 55, 56, 57, 58, 59, 60, 61, 62, 63, 64, 65, 66, 67, 68] (by decide +kernel) (by decide +kernel)
set_option maxRecDepth 20000 in
theorem gX4_takeLoop_X4_numberRows : GoodIn wsX4_takeLoop (wsV RX4 117 RX4 yX4_numberRows wsX4_numberRows) := goodIn_app (goodIn_of _ (by decide +kernel)) ggX4_takeLoop_X4_numberRows
set_option maxRecDepth 20000 in
theorem ggX4_takeLoop_X4_loopFigures : GoodIn wsX4_takeLoop wsX4_loopFigures := goodIn_r _ [35, 36, 18, 53, 54, 55, 56, 57, 58, 59, 60] (by decide +kernel) (by decide +kernel)
set_option maxRecDepth 20000 in
theorem gX4_takeLoop_X4_loopFigures : GoodIn wsX4_takeLoop (wsV RX4 120 RX4 yX4_loopFigures wsX4_loopFigures) := goodIn_app (goodIn_of _ (by decide +kernel)) ggX4_takeLoop_X4_loopFigures
set_option maxRecDepth 20000 in
theorem ggX4_takeLoop_X4_add : GoodIn wsX4_takeLoop wsX4_add := goodIn_r _ [40, 41, 42, 43, 44, 45, 46, 47, 16, 48, 49, 50, 51, 52, 53, 54, 55, 56, 57, 58, 59, 60] (by decide +kernel) (by decide +kernel)
set_option maxRecDepth 20000 in
theorem gX4_takeLoop_X4_add : GoodIn wsX4_takeLoop (wsV RX4 93 RX4 yX4_add wsX4_add) := goodIn_app (goodIn_of _ (by decide +kernel)) ggX4_takeLoop_X4_add
theorem dX4_takeLoop_0 : decode cX4_takeLoop 0 = .ok (.aload_n 0, 1) := by decide +kernel
theorem dX4_takeLoop_1 : decode cX4_takeLoop 1 = .ok (.getfield 10, 3) := by decide +kernel
theorem dX4_takeLoop_4 : decode cX4_takeLoop 4 = .ok (.aload_n 0, 1) := by decide +kernel
theorem dX4_takeLoop_5 : decode cX4_takeLoop 5 = .ok (.getfield 23, 3) := by decide +kernel
theorem dX4_takeLoop_8 : decode cX4_takeLoop 8 = .ok (.iconst 0, 1) := by decide +kernel
theorem dX4_takeLoop_9 : decode cX4_takeLoop 9 = .ok (.iaload, 1) := by decide +kernel
theorem dX4_takeLoop_10 : decode cX4_takeLoop 10 = .ok (.aload_n 0, 1) := by decide +kernel
theorem dX4_takeLoop_11 : decode cX4_takeLoop 11 = .ok (.getfield 23, 3) := by decide +kernel
theorem dX4_takeLoop_14 : decode cX4_takeLoop 14 = .ok (.iload_n 1, 1) := by decide +kernel
theorem dX4_takeLoop_15 : decode cX4_takeLoop 15 = .ok (.iconst 1, 1) := by decide +kernel
theorem dX4_takeLoop_16 : decode cX4_takeLoop 16 = .ok (.isub, 1) := by decide +kernel
theorem dX4_takeLoop_17 : decode cX4_takeLoop 17 = .ok (.iaload, 1) := by decide +kernel
theorem dX4_takeLoop_18 : decode cX4_takeLoop 18 = .ok (.invokevirtual 107, 3) := by decide +kernel
theorem dX4_takeLoop_21 : decode cX4_takeLoop 21 = .ok (.ifCond .ne 4, 3) := by decide +kernel
theorem dX4_takeLoop_24 : decode cX4_takeLoop 24 = .ok (.return_, 1) := by decide +kernel
theorem dX4_takeLoop_25 : decode cX4_takeLoop 25 = .ok (.aload_n 0, 1) := by decide +kernel
theorem dX4_takeLoop_26 : decode cX4_takeLoop 26 = .ok (.getfield 23, 3) := by decide +kernel
theorem dX4_takeLoop_29 : decode cX4_takeLoop 29 = .ok (.iconst 0, 1) := by decide +kernel
theorem dX4_takeLoop_30 : decode cX4_takeLoop 30 = .ok (.aload_n 0, 1) := by decide +kernel
theorem dX4_takeLoop_31 : decode cX4_takeLoop 31 = .ok (.getfield 23, 3) := by decide +kernel
theorem dX4_takeLoop_34 : decode cX4_takeLoop 34 = .ok (.iload_n 1, 1) := by decide +kernel
theorem dX4_takeLoop_35 : decode cX4_takeLoop 35 = .ok (.iload_n 1, 1) := by decide +kernel
theorem dX4_takeLoop_36 : decode cX4_takeLoop 36 = .ok (.invokestatic 111, 3) := by decide +kernel
theorem dX4_takeLoop_39 : decode cX4_takeLoop 39 = .ok (.aload_n 0, 1) := by decide +kernel
theorem dX4_takeLoop_40 : decode cX4_takeLoop 40 = .ok (.iload_n 1, 1) := by decide +kernel
theorem dX4_takeLoop_41 : decode cX4_takeLoop 41 = .ok (.invokevirtual 117, 3) := by decide +kernel
theorem dX4_takeLoop_44 : decode cX4_takeLoop 44 = .ok (.ifCond .eq 13, 3) := by decide +kernel
theorem dX4_takeLoop_47 : decode cX4_takeLoop 47 = .ok (.aload_n 0, 1) := by decide +kernel
theorem dX4_takeLoop_48 : decode cX4_takeLoop 48 = .ok (.iload_n 1, 1) := by decide +kernel
theorem dX4_takeLoop_49 : decode cX4_takeLoop 49 = .ok (.aload_n 0, 1) := by decide +kernel
theorem dX4_takeLoop_50 : decode cX4_takeLoop 50 = .ok (.iload_n 1, 1) := by decide +kernel
theorem dX4_takeLoop_51 : decode cX4_takeLoop 51 = .ok (.invokevirtual 120, 3) := by decide +kernel
theorem dX4_takeLoop_54 : decode cX4_takeLoop 54 = .ok (.invokevirtual 93, 3) := by decide +kernel
theorem dX4_takeLoop_57 : decode cX4_takeLoop 57 = .ok (.return_, 1) := by decide +kernel
set_option maxRecDepth 20000 in
theorem ggX4_numberRows_X4_firstOther : GoodIn wsX4_numberRows wsX4_firstOther := goodIn_r _ [6, 7, 19, 20, 21, 22, 23, 24, 25, 26] (by decide +kernel) (by decide +kernel)
set_option maxRecDepth 20000 in
theorem gX4_numberRows_X4_firstOther : GoodIn wsX4_numberRows (wsV RX4 123 RX4 yX4_firstOther wsX4_firstOther) := goodIn_app (goodIn_of _ (by decide +kernel)) ggX4_numberRows_X4_firstOther
set_option maxRecDepth 20000 in
theorem ggX4_numberRows_X4_isLess : GoodIn wsX4_numberRows wsX4_isLess := goodIn_r _ [11, 12, 7, 13, 14, 15, 16, 17, 18, 19, 20, 21, 22, 23, 24, 25, 26, 27, 28, 29, 30, 31, 32, 33, 34] (by decide +kernel) (by decide +kernel)
set_option maxRecDepth 20000 in
theorem gX4_numberRows_X4_isLess : GoodIn wsX4_numberRows (wsV RX4 127 RX4 yX4_isLess wsX4_isLess) := goodIn_app (goodIn_of _ (by decide +kernel)) ggX4_numberRows_X4_isLess
theorem dX4_numberRows_0 : decode cX4_numberRows 0 = .ok (.iconst 0, 1) := by decide +kernel
theorem dX4_numberRows_1 : decode cX4_numberRows 1 = .ok (.istore_n 2, 1) := by decide +kernel
theorem dX4_numberRows_2 : decode cX4_numberRows 2 = .ok (.iload_n 2, 1) := by decide +kernel
theorem dX4_numberRows_3 : decode cX4_numberRows 3 = .ok (.iload_n 1, 1) := by decide +kernel
theorem dX4_numberRows_4 : decode cX4_numberRows 4 = .ok (.if_icmp .ge 16, 3) := by decide +kernel
theorem dX4_numberRows_7 : decode cX4_numberRows 7 = .ok (.aload_n 0, 1) := by decide +kernel
theorem dX4_numberRows_8 : decode cX4_numberRows 8 = .ok (.getfield 26, 3) := by decide +kernel
theorem dX4_numberRows_11 : decode cX4_numberRows 11 = .ok (.iload_n 2, 1) := by decide +kernel
theorem dX4_numberRows_12 : decode cX4_numberRows 12 = .ok (.iconst 0, 1) := by decide +kernel
theorem dX4_numberRows_13 : decode cX4_numberRows 13 = .ok (.iastore, 1) := by decide +kernel
theorem dX4_numberRows_14 : decode cX4_numberRows 14 = .ok (.iinc 2 1, 3) := by decide +kernel
theorem dX4_numberRows_17 : decode cX4_numberRows 17 = .ok (.goto (-15), 3) := by decide +kernel
theorem dX4_numberRows_20 : decode cX4_numberRows 20 = .ok (.iconst 0, 1) := by decide +kernel
theorem dX4_numberRows_21 : decode cX4_numberRows 21 = .ok (.istore_n 2, 1) := by decide +kernel

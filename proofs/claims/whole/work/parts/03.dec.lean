theorem dX0_init_0 : decode cX0_init 0 = .ok (.aload_n 0, 1) := by decide +kernel
theorem dX0_init_1 : decode cX0_init 1 = .ok (.invokespecial 3, 3) := by decide +kernel
theorem dX0_init_4 : decode cX0_init 4 = .ok (.return_, 1) := by decide +kernel
theorem dX0_take_0 : decode cX0_take 0 = .ok (.aload_n 0, 1) := by decide +kernel
theorem dX0_take_1 : decode cX0_take 1 = .ok (.dup, 1) := by decide +kernel
theorem dX0_take_2 : decode cX0_take 2 = .ok (.getfield 9, 3) := by decide +kernel
theorem dX0_take_5 : decode cX0_take 5 = .ok (.aload_n 0, 1) := by decide +kernel
theorem dX0_take_6 : decode cX0_take 6 = .ok (.getfield 15, 3) := by decide +kernel
theorem dX0_take_9 : decode cX0_take 9 = .ok (.ifCond .ne 7, 3) := by decide +kernel
theorem dX0_take_12 : decode cX0_take 12 = .ok (.iload_n 1, 1) := by decide +kernel
theorem dX0_take_13 : decode cX0_take 13 = .ok (.goto 6, 3) := by decide +kernel
theorem dX0_take_16 : decode cX0_take 16 = .ok (.iconst 4, 1) := by decide +kernel
theorem dX0_take_17 : decode cX0_take 17 = .ok (.iload_n 1, 1) := by decide +kernel
theorem dX0_take_18 : decode cX0_take 18 = .ok (.iadd, 1) := by decide +kernel
theorem dX0_take_19 : decode cX0_take 19 = .ok (.iadd, 1) := by decide +kernel
theorem dX0_take_20 : decode cX0_take 20 = .ok (.putfield 9, 3) := by decide +kernel
theorem dX0_take_23 : decode cX0_take 23 = .ok (.aload_n 0, 1) := by decide +kernel
theorem dX0_take_24 : decode cX0_take 24 = .ok (.dup, 1) := by decide +kernel
theorem dX0_take_25 : decode cX0_take 25 = .ok (.getfield 15, 3) := by decide +kernel
theorem dX0_take_28 : decode cX0_take 28 = .ok (.iconst 1, 1) := by decide +kernel
theorem dX0_take_29 : decode cX0_take 29 = .ok (.iadd, 1) := by decide +kernel
theorem dX0_take_30 : decode cX0_take 30 = .ok (.putfield 15, 3) := by decide +kernel
theorem dX0_take_33 : decode cX0_take 33 = .ok (.aload_n 0, 1) := by decide +kernel
theorem dX0_take_34 : decode cX0_take 34 = .ok (.iload_n 2, 1) := by decide +kernel
theorem dX0_take_35 : decode cX0_take 35 = .ok (.putfield 18, 3) := by decide +kernel
theorem dX0_take_38 : decode cX0_take 38 = .ok (.return_, 1) := by decide +kernel
theorem dX0_clear_0 : decode cX0_clear 0 = .ok (.aload_n 0, 1) := by decide +kernel
theorem dX0_clear_1 : decode cX0_clear 1 = .ok (.iconst 0, 1) := by decide +kernel
theorem dX0_clear_2 : decode cX0_clear 2 = .ok (.putfield 15, 3) := by decide +kernel
theorem dX0_clear_5 : decode cX0_clear 5 = .ok (.aload_n 0, 1) := by decide +kernel
theorem dX0_clear_6 : decode cX0_clear 6 = .ok (.iconst 0, 1) := by decide +kernel
theorem dX0_clear_7 : decode cX0_clear 7 = .ok (.putfield 9, 3) := by decide +kernel
theorem dX0_clear_10 : decode cX0_clear 10 = .ok (.aload_n 0, 1) := by decide +kernel
theorem dX0_clear_11 : decode cX0_clear 11 = .ok (.iconst 0, 1) := by decide +kernel
theorem dX0_clear_12 : decode cX0_clear 12 = .ok (.putfield 21, 3) := by decide +kernel
theorem dX0_clear_15 : decode cX0_clear 15 = .ok (.return_, 1) := by decide +kernel
theorem dX1_init_0 : decode cX1_init 0 = .ok (.aload_n 0, 1) := by decide +kernel
theorem dX1_init_1 : decode cX1_init 1 = .ok (.invokespecial 3, 3) := by decide +kernel
theorem dX1_init_4 : decode cX1_init 4 = .ok (.aload_n 0, 1) := by decide +kernel
theorem dX1_init_5 : decode cX1_init 5 = .ok (.iconst 5, 1) := by decide +kernel
theorem dX1_init_6 : decode cX1_init 6 = .ok (.anewarray 9, 3) := by decide +kernel
theorem dX1_init_9 : decode cX1_init 9 = .ok (.putfield 11, 3) := by decide +kernel
theorem dX1_init_12 : decode cX1_init 12 = .ok (.aload_n 0, 1) := by decide +kernel
theorem dX1_init_13 : decode cX1_init 13 = .ok (.bipush 40, 2) := by decide +kernel
theorem dX1_init_15 : decode cX1_init 15 = .ok (.newarray .int, 2) := by decide +kernel
theorem dX1_init_17 : decode cX1_init 17 = .ok (.putfield 17, 3) := by decide +kernel
theorem dX1_init_20 : decode cX1_init 20 = .ok (.aload_n 0, 1) := by decide +kernel
theorem dX1_init_21 : decode cX1_init 21 = .ok (.bipush 6, 2) := by decide +kernel
theorem dX1_init_23 : decode cX1_init 23 = .ok (.newarray .int, 2) := by decide +kernel
theorem dX1_init_25 : decode cX1_init 25 = .ok (.putfield 21, 3) := by decide +kernel
theorem dX1_init_28 : decode cX1_init 28 = .ok (.iconst 0, 1) := by decide +kernel
theorem dX1_init_29 : decode cX1_init 29 = .ok (.istore_n 1, 1) := by decide +kernel
theorem dX1_init_30 : decode cX1_init 30 = .ok (.iload_n 1, 1) := by decide +kernel
theorem dX1_init_31 : decode cX1_init 31 = .ok (.aload_n 0, 1) := by decide +kernel
theorem dX1_init_32 : decode cX1_init 32 = .ok (.getfield 11, 3) := by decide +kernel
theorem dX1_init_35 : decode cX1_init 35 = .ok (.arraylength, 1) := by decide +kernel
theorem dX1_init_36 : decode cX1_init 36 = .ok (.if_icmp .ge 22, 3) := by decide +kernel
theorem dX1_init_39 : decode cX1_init 39 = .ok (.aload_n 0, 1) := by decide +kernel
theorem dX1_init_40 : decode cX1_init 40 = .ok (.getfield 11, 3) := by decide +kernel
theorem dX1_init_43 : decode cX1_init 43 = .ok (.iload_n 1, 1) := by decide +kernel
theorem dX1_init_44 : decode cX1_init 44 = .ok (.new 9, 3) := by decide +kernel
theorem dX1_init_47 : decode cX1_init 47 = .ok (.dup, 1) := by decide +kernel
theorem dX1_init_48 : decode cX1_init 48 = .ok (.invokespecial 24, 3) := by decide +kernel
theorem dX1_init_51 : decode cX1_init 51 = .ok (.aastore, 1) := by decide +kernel
theorem dX1_init_52 : decode cX1_init 52 = .ok (.iinc 1 1, 3) := by decide +kernel
theorem dX1_init_55 : decode cX1_init 55 = .ok (.goto (-25), 3) := by decide +kernel
theorem dX1_init_58 : decode cX1_init 58 = .ok (.return_, 1) := by decide +kernel
theorem dX1_clear_0 : decode cX1_clear 0 = .ok (.iconst 0, 1) := by decide +kernel
theorem dX1_clear_1 : decode cX1_clear 1 = .ok (.istore_n 1, 1) := by decide +kernel
theorem dX1_clear_2 : decode cX1_clear 2 = .ok (.iload_n 1, 1) := by decide +kernel
theorem dX1_clear_3 : decode cX1_clear 3 = .ok (.aload_n 0, 1) := by decide +kernel
theorem dX1_clear_4 : decode cX1_clear 4 = .ok (.getfield 17, 3) := by decide +kernel
theorem dX1_clear_7 : decode cX1_clear 7 = .ok (.arraylength, 1) := by decide +kernel
theorem dX1_clear_8 : decode cX1_clear 8 = .ok (.if_icmp .ge 17, 3) := by decide +kernel
theorem dX1_clear_11 : decode cX1_clear 11 = .ok (.aload_n 0, 1) := by decide +kernel
theorem dX1_clear_12 : decode cX1_clear 12 = .ok (.getfield 17, 3) := by decide +kernel
theorem dX1_clear_15 : decode cX1_clear 15 = .ok (.iload_n 1, 1) := by decide +kernel
theorem dX1_clear_16 : decode cX1_clear 16 = .ok (.bipush 6, 2) := by decide +kernel
theorem dX1_clear_18 : decode cX1_clear 18 = .ok (.iastore, 1) := by decide +kernel
theorem dX1_clear_19 : decode cX1_clear 19 = .ok (.iinc 1 1, 3) := by decide +kernel
theorem dX1_clear_22 : decode cX1_clear 22 = .ok (.goto (-20), 3) := by decide +kernel
theorem dX1_clear_25 : decode cX1_clear 25 = .ok (.aload_n 0, 1) := by decide +kernel
theorem dX1_clear_26 : decode cX1_clear 26 = .ok (.iconst 0, 1) := by decide +kernel
theorem dX1_clear_27 : decode cX1_clear 27 = .ok (.putfield 25, 3) := by decide +kernel
theorem dX1_clear_30 : decode cX1_clear 30 = .ok (.return_, 1) := by decide +kernel
theorem dX1_wants_0 : decode cX1_wants 0 = .ok (.iload_n 1, 1) := by decide +kernel
theorem dX1_wants_1 : decode cX1_wants 1 = .ok (.ifCond .lt 23, 3) := by decide +kernel
theorem dX1_wants_4 : decode cX1_wants 4 = .ok (.iload_n 1, 1) := by decide +kernel
theorem dX1_wants_5 : decode cX1_wants 5 = .ok (.aload_n 0, 1) := by decide +kernel
theorem dX1_wants_6 : decode cX1_wants 6 = .ok (.getfield 17, 3) := by decide +kernel
theorem dX1_wants_9 : decode cX1_wants 9 = .ok (.arraylength, 1) := by decide +kernel
theorem dX1_wants_10 : decode cX1_wants 10 = .ok (.if_icmp .ge 14, 3) := by decide +kernel
theorem dX1_wants_13 : decode cX1_wants 13 = .ok (.aload_n 0, 1) := by decide +kernel
theorem dX1_wants_14 : decode cX1_wants 14 = .ok (.getfield 17, 3) := by decide +kernel
theorem dX1_wants_17 : decode cX1_wants 17 = .ok (.iload_n 1, 1) := by decide +kernel
theorem dX1_wants_18 : decode cX1_wants 18 = .ok (.iaload, 1) := by decide +kernel
theorem dX1_wants_19 : decode cX1_wants 19 = .ok (.bipush 6, 2) := by decide +kernel
theorem dX1_wants_21 : decode cX1_wants 21 = .ok (.if_icmp .ge 5, 3) := by decide +kernel
theorem dX1_wants_24 : decode cX1_wants 24 = .ok (.iconst 0, 1) := by decide +kernel
theorem dX1_wants_25 : decode cX1_wants 25 = .ok (.ireturn, 1) := by decide +kernel
theorem dX1_wants_26 : decode cX1_wants 26 = .ok (.aload_n 0, 1) := by decide +kernel
theorem dX1_wants_27 : decode cX1_wants 27 = .ok (.getfield 17, 3) := by decide +kernel
theorem dX1_wants_30 : decode cX1_wants 30 = .ok (.iload_n 1, 1) := by decide +kernel
theorem dX1_wants_31 : decode cX1_wants 31 = .ok (.aload_n 0, 1) := by decide +kernel
theorem dX1_wants_32 : decode cX1_wants 32 = .ok (.getfield 25, 3) := by decide +kernel
theorem dX1_wants_35 : decode cX1_wants 35 = .ok (.iastore, 1) := by decide +kernel
theorem dX1_wants_36 : decode cX1_wants 36 = .ok (.aload_n 0, 1) := by decide +kernel
theorem dX1_wants_37 : decode cX1_wants 37 = .ok (.dup, 1) := by decide +kernel
theorem dX1_wants_38 : decode cX1_wants 38 = .ok (.getfield 25, 3) := by decide +kernel
theorem dX1_wants_41 : decode cX1_wants 41 = .ok (.iconst 1, 1) := by decide +kernel
theorem dX1_wants_42 : decode cX1_wants 42 = .ok (.iadd, 1) := by decide +kernel
theorem dX1_wants_43 : decode cX1_wants 43 = .ok (.putfield 25, 3) := by decide +kernel
theorem dX1_wants_46 : decode cX1_wants 46 = .ok (.iconst 1, 1) := by decide +kernel
theorem dX1_wants_47 : decode cX1_wants 47 = .ok (.ireturn, 1) := by decide +kernel
theorem dX1_copyStack_0 : decode cX1_copyStack 0 = .ok (.aload_n 0, 1) := by decide +kernel
theorem dX1_copyStack_1 : decode cX1_copyStack 1 = .ok (.iload_n 1, 1) := by decide +kernel
theorem dX1_copyStack_2 : decode cX1_copyStack 2 = .ok (.invokevirtual 29, 3) := by decide +kernel
theorem dX1_copyStack_5 : decode cX1_copyStack 5 = .ok (.astore_n 3, 1) := by decide +kernel
theorem dX1_copyStack_6 : decode cX1_copyStack 6 = .ok (.aload_n 3, 1) := by decide +kernel
theorem dX1_copyStack_7 : decode cX1_copyStack 7 = .ok (.ifnull 7, 3) := by decide +kernel
theorem dX1_copyStack_10 : decode cX1_copyStack 10 = .ok (.aload_n 2, 1) := by decide +kernel
theorem dX1_copyStack_11 : decode cX1_copyStack 11 = .ok (.ifnonnull 4, 3) := by decide +kernel
theorem dX1_copyStack_14 : decode cX1_copyStack 14 = .ok (.return_, 1) := by decide +kernel
theorem dX1_copyStack_15 : decode cX1_copyStack 15 = .ok (.aload_n 3, 1) := by decide +kernel
theorem dX1_copyStack_16 : decode cX1_copyStack 16 = .ok (.invokevirtual 33, 3) := by decide +kernel
theorem dX1_copyStack_19 : decode cX1_copyStack 19 = .ok (.iconst 0, 1) := by decide +kernel
theorem dX1_copyStack_20 : decode cX1_copyStack 20 = .ok (.istore 4, 2) := by decide +kernel
theorem dX1_copyStack_22 : decode cX1_copyStack 22 = .ok (.iload 4, 2) := by decide +kernel
theorem dX1_copyStack_24 : decode cX1_copyStack 24 = .ok (.aload_n 2, 1) := by decide +kernel
theorem dX1_copyStack_25 : decode cX1_copyStack 25 = .ok (.getfield 36, 3) := by decide +kernel
theorem dX1_copyStack_28 : decode cX1_copyStack 28 = .ok (.if_icmp .ge 48, 3) := by decide +kernel
theorem dX1_copyStack_31 : decode cX1_copyStack 31 = .ok (.aload_n 2, 1) := by decide +kernel
theorem dX1_copyStack_32 : decode cX1_copyStack 32 = .ok (.iload 4, 2) := by decide +kernel
theorem dX1_copyStack_34 : decode cX1_copyStack 34 = .ok (.invokevirtual 39, 3) := by decide +kernel
theorem dX1_copyStack_37 : decode cX1_copyStack 37 = .ok (.istore 5, 2) := by decide +kernel
theorem dX1_copyStack_39 : decode cX1_copyStack 39 = .ok (.aload_n 3, 1) := by decide +kernel
theorem dX1_copyStack_40 : decode cX1_copyStack 40 = .ok (.iload 5, 2) := by decide +kernel
theorem dX1_copyStack_42 : decode cX1_copyStack 42 = .ok (.ifCond .lt 13, 3) := by decide +kernel
theorem dX1_copyStack_45 : decode cX1_copyStack 45 = .ok (.iload 5, 2) := by decide +kernel
theorem dX1_copyStack_47 : decode cX1_copyStack 47 = .ok (.aload_n 0, 1) := by decide +kernel
theorem dX1_copyStack_48 : decode cX1_copyStack 48 = .ok (.getfield 17, 3) := by decide +kernel
theorem dX1_copyStack_51 : decode cX1_copyStack 51 = .ok (.arraylength, 1) := by decide +kernel
theorem dX1_copyStack_52 : decode cX1_copyStack 52 = .ok (.if_icmp .lt 8, 3) := by decide +kernel
theorem dX1_copyStack_55 : decode cX1_copyStack 55 = .ok (.bipush 6, 2) := by decide +kernel
theorem dX1_copyStack_57 : decode cX1_copyStack 57 = .ok (.goto 10, 3) := by decide +kernel
theorem dX1_copyStack_60 : decode cX1_copyStack 60 = .ok (.aload_n 0, 1) := by decide +kernel
theorem dX1_copyStack_61 : decode cX1_copyStack 61 = .ok (.getfield 17, 3) := by decide +kernel
theorem dX1_copyStack_64 : decode cX1_copyStack 64 = .ok (.iload 5, 2) := by decide +kernel
theorem dX1_copyStack_66 : decode cX1_copyStack 66 = .ok (.iaload, 1) := by decide +kernel
theorem dX1_copyStack_67 : decode cX1_copyStack 67 = .ok (.invokevirtual 43, 3) := by decide +kernel
theorem dX1_copyStack_70 : decode cX1_copyStack 70 = .ok (.iinc 4 1, 3) := by decide +kernel
theorem dX1_copyStack_73 : decode cX1_copyStack 73 = .ok (.goto (-51), 3) := by decide +kernel
theorem dX1_copyStack_76 : decode cX1_copyStack 76 = .ok (.return_, 1) := by decide +kernel
theorem dX1_fewestMoves_0 : decode cX1_fewestMoves 0 = .ok (.aload_n 0, 1) := by decide +kernel
theorem dX1_fewestMoves_1 : decode cX1_fewestMoves 1 = .ok (.invokevirtual 47, 3) := by decide +kernel
theorem dX1_fewestMoves_4 : decode cX1_fewestMoves 4 = .ok (.istore_n 1, 1) := by decide +kernel
theorem dX1_fewestMoves_5 : decode cX1_fewestMoves 5 = .ok (.iload_n 1, 1) := by decide +kernel
theorem dX1_fewestMoves_6 : decode cX1_fewestMoves 6 = .ok (.bipush 18, 2) := by decide +kernel
theorem dX1_fewestMoves_8 : decode cX1_fewestMoves 8 = .ok (.if_icmp .ge 18, 3) := by decide +kernel
theorem dX1_fewestMoves_11 : decode cX1_fewestMoves 11 = .ok (.aload_n 0, 1) := by decide +kernel
theorem dX1_fewestMoves_12 : decode cX1_fewestMoves 12 = .ok (.iconst 0, 1) := by decide +kernel
theorem dX1_fewestMoves_13 : decode cX1_fewestMoves 13 = .ok (.iload_n 1, 1) := by decide +kernel
theorem dX1_fewestMoves_14 : decode cX1_fewestMoves 14 = .ok (.invokevirtual 51, 3) := by decide +kernel
theorem dX1_fewestMoves_17 : decode cX1_fewestMoves 17 = .ok (.ifCond .ne 9, 3) := by decide +kernel
theorem dX1_fewestMoves_20 : decode cX1_fewestMoves 20 = .ok (.iinc 1 1, 3) := by decide +kernel
theorem dX1_fewestMoves_23 : decode cX1_fewestMoves 23 = .ok (.goto (-18), 3) := by decide +kernel
theorem dX1_fewestMoves_26 : decode cX1_fewestMoves 26 = .ok (.iload_n 1, 1) := by decide +kernel
theorem dX1_fewestMoves_27 : decode cX1_fewestMoves 27 = .ok (.ireturn, 1) := by decide +kernel
theorem dX1_pileOf_0 : decode cX1_pileOf 0 = .ok (.iload_n 1, 1) := by decide +kernel
theorem dX1_pileOf_1 : decode cX1_pileOf 1 = .ok (.ifCond .lt 12, 3) := by decide +kernel
theorem dX1_pileOf_4 : decode cX1_pileOf 4 = .ok (.iload_n 1, 1) := by decide +kernel
theorem dX1_pileOf_5 : decode cX1_pileOf 5 = .ok (.aload_n 0, 1) := by decide +kernel
theorem dX1_pileOf_6 : decode cX1_pileOf 6 = .ok (.getfield 11, 3) := by decide +kernel
theorem dX1_pileOf_9 : decode cX1_pileOf 9 = .ok (.arraylength, 1) := by decide +kernel
theorem dX1_pileOf_10 : decode cX1_pileOf 10 = .ok (.if_icmp .lt 7, 3) := by decide +kernel
theorem dX1_pileOf_13 : decode cX1_pileOf 13 = .ok (.aconst_null, 1) := by decide +kernel
theorem dX1_pileOf_14 : decode cX1_pileOf 14 = .ok (.goto 9, 3) := by decide +kernel
theorem dX1_pileOf_17 : decode cX1_pileOf 17 = .ok (.aload_n 0, 1) := by decide +kernel
theorem dX1_pileOf_18 : decode cX1_pileOf 18 = .ok (.getfield 11, 3) := by decide +kernel
theorem dX1_pileOf_21 : decode cX1_pileOf 21 = .ok (.iload_n 1, 1) := by decide +kernel
theorem dX1_pileOf_22 : decode cX1_pileOf 22 = .ok (.aaload, 1) := by decide +kernel
theorem dX1_pileOf_23 : decode cX1_pileOf 23 = .ok (.areturn, 1) := by decide +kernel
theorem dX1_reaches_0 : decode cX1_reaches 0 = .ok (.iload_n 1, 1) := by decide +kernel
theorem dX1_reaches_1 : decode cX1_reaches 1 = .ok (.istore_n 3, 1) := by decide +kernel
theorem dX1_reaches_2 : decode cX1_reaches 2 = .ok (.iload_n 3, 1) := by decide +kernel
theorem dX1_reaches_3 : decode cX1_reaches 3 = .ok (.aload_n 0, 1) := by decide +kernel
theorem dX1_reaches_4 : decode cX1_reaches 4 = .ok (.getfield 25, 3) := by decide +kernel
theorem dX1_reaches_7 : decode cX1_reaches 7 = .ok (.if_icmp .ge 17, 3) := by decide +kernel
theorem dX1_reaches_10 : decode cX1_reaches 10 = .ok (.aload_n 0, 1) := by decide +kernel
theorem dX1_reaches_11 : decode cX1_reaches 11 = .ok (.iload_n 3, 1) := by decide +kernel
theorem dX1_reaches_12 : decode cX1_reaches 12 = .ok (.invokevirtual 55, 3) := by decide +kernel
theorem dX1_reaches_15 : decode cX1_reaches 15 = .ok (.ifCond .eq 9, 3) := by decide +kernel
theorem dX1_reaches_18 : decode cX1_reaches 18 = .ok (.iinc 3 1, 3) := by decide +kernel
theorem dX1_reaches_21 : decode cX1_reaches 21 = .ok (.goto (-19), 3) := by decide +kernel
theorem dX1_reaches_24 : decode cX1_reaches 24 = .ok (.iload_n 3, 1) := by decide +kernel
theorem dX1_reaches_25 : decode cX1_reaches 25 = .ok (.aload_n 0, 1) := by decide +kernel
theorem dX1_reaches_26 : decode cX1_reaches 26 = .ok (.getfield 25, 3) := by decide +kernel
theorem dX1_reaches_29 : decode cX1_reaches 29 = .ok (.if_icmp .ge 24, 3) := by decide +kernel
theorem dX1_reaches_32 : decode cX1_reaches 32 = .ok (.iload_n 2, 1) := by decide +kernel
theorem dX1_reaches_33 : decode cX1_reaches 33 = .ok (.ifCond .le 22, 3) := by decide +kernel
theorem dX1_reaches_36 : decode cX1_reaches 36 = .ok (.aload_n 0, 1) := by decide +kernel
theorem dX1_reaches_37 : decode cX1_reaches 37 = .ok (.invokevirtual 47, 3) := by decide +kernel
theorem dX1_reaches_40 : decode cX1_reaches 40 = .ok (.iload_n 2, 1) := by decide +kernel
theorem dX1_reaches_41 : decode cX1_reaches 41 = .ok (.if_icmp .gt 14, 3) := by decide +kernel
theorem dX1_reaches_44 : decode cX1_reaches 44 = .ok (.aload_n 0, 1) := by decide +kernel
theorem dX1_reaches_45 : decode cX1_reaches 45 = .ok (.iload_n 3, 1) := by decide +kernel
theorem dX1_reaches_46 : decode cX1_reaches 46 = .ok (.iload_n 2, 1) := by decide +kernel
theorem dX1_reaches_47 : decode cX1_reaches 47 = .ok (.invokevirtual 59, 3) := by decide +kernel
theorem dX1_reaches_50 : decode cX1_reaches 50 = .ok (.ifCond .eq 5, 3) := by decide +kernel
theorem dX1_reaches_53 : decode cX1_reaches 53 = .ok (.iconst 1, 1) := by decide +kernel
theorem dX1_reaches_54 : decode cX1_reaches 54 = .ok (.ireturn, 1) := by decide +kernel
theorem dX1_reaches_55 : decode cX1_reaches 55 = .ok (.iload_n 3, 1) := by decide +kernel
theorem dX1_reaches_56 : decode cX1_reaches 56 = .ok (.iconst 1, 1) := by decide +kernel
theorem dX1_reaches_57 : decode cX1_reaches 57 = .ok (.isub, 1) := by decide +kernel
theorem dX1_reaches_58 : decode cX1_reaches 58 = .ok (.istore 4, 2) := by decide +kernel
theorem dX1_reaches_60 : decode cX1_reaches 60 = .ok (.iload 4, 2) := by decide +kernel
theorem dX1_reaches_62 : decode cX1_reaches 62 = .ok (.iload_n 1, 1) := by decide +kernel
theorem dX1_reaches_63 : decode cX1_reaches 63 = .ok (.if_icmp .lt 15, 3) := by decide +kernel
theorem dX1_reaches_66 : decode cX1_reaches 66 = .ok (.aload_n 0, 1) := by decide +kernel
theorem dX1_reaches_67 : decode cX1_reaches 67 = .ok (.iload 4, 2) := by decide +kernel
theorem dX1_reaches_69 : decode cX1_reaches 69 = .ok (.invokevirtual 62, 3) := by decide +kernel
theorem dX1_reaches_72 : decode cX1_reaches 72 = .ok (.iinc 4 (-1), 3) := by decide +kernel
theorem dX1_reaches_75 : decode cX1_reaches 75 = .ok (.goto (-15), 3) := by decide +kernel
theorem dX1_reaches_78 : decode cX1_reaches 78 = .ok (.iconst 0, 1) := by decide +kernel
theorem dX1_reaches_79 : decode cX1_reaches 79 = .ok (.ireturn, 1) := by decide +kernel
theorem dX1_takes_0 : decode cX1_takes 0 = .ok (.aload_n 0, 1) := by decide +kernel
theorem dX1_takes_1 : decode cX1_takes 1 = .ok (.iload_n 1, 1) := by decide +kernel
theorem dX1_takes_2 : decode cX1_takes 2 = .ok (.invokevirtual 65, 3) := by decide +kernel
theorem dX1_takes_5 : decode cX1_takes 5 = .ok (.istore_n 2, 1) := by decide +kernel
theorem dX1_takes_6 : decode cX1_takes 6 = .ok (.aload_n 0, 1) := by decide +kernel
theorem dX1_takes_7 : decode cX1_takes 7 = .ok (.iload_n 2, 1) := by decide +kernel
theorem dX1_takes_8 : decode cX1_takes 8 = .ok (.invokevirtual 29, 3) := by decide +kernel
theorem dX1_takes_11 : decode cX1_takes 11 = .ok (.astore_n 3, 1) := by decide +kernel
theorem dX1_takes_12 : decode cX1_takes 12 = .ok (.aload_n 3, 1) := by decide +kernel
theorem dX1_takes_13 : decode cX1_takes 13 = .ok (.ifnull 24, 3) := by decide +kernel
theorem dX1_takes_16 : decode cX1_takes 16 = .ok (.aload_n 3, 1) := by decide +kernel
theorem dX1_takes_17 : decode cX1_takes 17 = .ok (.invokevirtual 68, 3) := by decide +kernel
theorem dX1_takes_20 : decode cX1_takes 20 = .ok (.iload_n 1, 1) := by decide +kernel
theorem dX1_takes_21 : decode cX1_takes 21 = .ok (.if_icmp .ne 16, 3) := by decide +kernel
theorem dX1_takes_24 : decode cX1_takes 24 = .ok (.iload_n 1, 1) := by decide +kernel
theorem dX1_takes_25 : decode cX1_takes 25 = .ok (.ifCond .lt 12, 3) := by decide +kernel
theorem dX1_takes_28 : decode cX1_takes 28 = .ok (.iload_n 1, 1) := by decide +kernel
theorem dX1_takes_29 : decode cX1_takes 29 = .ok (.aload_n 0, 1) := by decide +kernel
theorem dX1_takes_30 : decode cX1_takes 30 = .ok (.getfield 21, 3) := by decide +kernel
theorem dX1_takes_33 : decode cX1_takes 33 = .ok (.arraylength, 1) := by decide +kernel
theorem dX1_takes_34 : decode cX1_takes 34 = .ok (.if_icmp .lt 5, 3) := by decide +kernel
theorem dX1_takes_37 : decode cX1_takes 37 = .ok (.iconst 0, 1) := by decide +kernel
theorem dX1_takes_38 : decode cX1_takes 38 = .ok (.ireturn, 1) := by decide +kernel
theorem dX1_takes_39 : decode cX1_takes 39 = .ok (.aload_n 0, 1) := by decide +kernel
theorem dX1_takes_40 : decode cX1_takes 40 = .ok (.getfield 21, 3) := by decide +kernel
theorem dX1_takes_43 : decode cX1_takes 43 = .ok (.iload_n 1, 1) := by decide +kernel
theorem dX1_takes_44 : decode cX1_takes 44 = .ok (.iload_n 2, 1) := by decide +kernel
theorem dX1_takes_45 : decode cX1_takes 45 = .ok (.iastore, 1) := by decide +kernel
theorem dX1_takes_46 : decode cX1_takes 46 = .ok (.aload_n 3, 1) := by decide +kernel
theorem dX1_takes_47 : decode cX1_takes 47 = .ok (.invokevirtual 71, 3) := by decide +kernel
theorem dX1_takes_50 : decode cX1_takes 50 = .ok (.pop, 1) := by decide +kernel
theorem dX1_takes_51 : decode cX1_takes 51 = .ok (.iconst 1, 1) := by decide +kernel
theorem dX1_takes_52 : decode cX1_takes 52 = .ok (.ireturn, 1) := by decide +kernel
theorem dX1_putBack_0 : decode cX1_putBack 0 = .ok (.iload_n 1, 1) := by decide +kernel
theorem dX1_putBack_1 : decode cX1_putBack 1 = .ok (.ifCond .lt 12, 3) := by decide +kernel
theorem dX1_putBack_4 : decode cX1_putBack 4 = .ok (.iload_n 1, 1) := by decide +kernel
theorem dX1_putBack_5 : decode cX1_putBack 5 = .ok (.aload_n 0, 1) := by decide +kernel
theorem dX1_putBack_6 : decode cX1_putBack 6 = .ok (.getfield 21, 3) := by decide +kernel
theorem dX1_putBack_9 : decode cX1_putBack 9 = .ok (.arraylength, 1) := by decide +kernel
theorem dX1_putBack_10 : decode cX1_putBack 10 = .ok (.if_icmp .lt 7, 3) := by decide +kernel
theorem dX1_putBack_13 : decode cX1_putBack 13 = .ok (.aconst_null, 1) := by decide +kernel
theorem dX1_putBack_14 : decode cX1_putBack 14 = .ok (.goto 13, 3) := by decide +kernel
theorem dX1_putBack_17 : decode cX1_putBack 17 = .ok (.aload_n 0, 1) := by decide +kernel
theorem dX1_putBack_18 : decode cX1_putBack 18 = .ok (.aload_n 0, 1) := by decide +kernel
theorem dX1_putBack_19 : decode cX1_putBack 19 = .ok (.getfield 21, 3) := by decide +kernel
theorem dX1_putBack_22 : decode cX1_putBack 22 = .ok (.iload_n 1, 1) := by decide +kernel
theorem dX1_putBack_23 : decode cX1_putBack 23 = .ok (.iaload, 1) := by decide +kernel
theorem dX1_putBack_24 : decode cX1_putBack 24 = .ok (.invokevirtual 29, 3) := by decide +kernel
theorem dX1_putBack_27 : decode cX1_putBack 27 = .ok (.astore_n 2, 1) := by decide +kernel
theorem dX1_putBack_28 : decode cX1_putBack 28 = .ok (.aload_n 2, 1) := by decide +kernel
theorem dX1_putBack_29 : decode cX1_putBack 29 = .ok (.ifnull 8, 3) := by decide +kernel
theorem dX1_putBack_32 : decode cX1_putBack 32 = .ok (.aload_n 2, 1) := by decide +kernel
theorem dX1_putBack_33 : decode cX1_putBack 33 = .ok (.iload_n 1, 1) := by decide +kernel
theorem dX1_putBack_34 : decode cX1_putBack 34 = .ok (.invokevirtual 43, 3) := by decide +kernel
theorem dX1_putBack_37 : decode cX1_putBack 37 = .ok (.return_, 1) := by decide +kernel
theorem dX1_digs_0 : decode cX1_digs 0 = .ok (.aload_n 0, 1) := by decide +kernel
theorem dX1_digs_1 : decode cX1_digs 1 = .ok (.aload_n 0, 1) := by decide +kernel
theorem dX1_digs_2 : decode cX1_digs 2 = .ok (.iload_n 1, 1) := by decide +kernel
theorem dX1_digs_3 : decode cX1_digs 3 = .ok (.invokevirtual 65, 3) := by decide +kernel
theorem dX1_digs_6 : decode cX1_digs 6 = .ok (.invokevirtual 29, 3) := by decide +kernel
theorem dX1_digs_9 : decode cX1_digs 9 = .ok (.astore_n 3, 1) := by decide +kernel
theorem dX1_digs_10 : decode cX1_digs 10 = .ok (.aload_n 3, 1) := by decide +kernel
theorem dX1_digs_11 : decode cX1_digs 11 = .ok (.ifnonnull 5, 3) := by decide +kernel
theorem dX1_digs_14 : decode cX1_digs 14 = .ok (.iconst 0, 1) := by decide +kernel
theorem dX1_digs_15 : decode cX1_digs 15 = .ok (.ireturn, 1) := by decide +kernel
theorem dX1_digs_16 : decode cX1_digs 16 = .ok (.aload_n 3, 1) := by decide +kernel
theorem dX1_digs_17 : decode cX1_digs 17 = .ok (.invokevirtual 71, 3) := by decide +kernel
theorem dX1_digs_20 : decode cX1_digs 20 = .ok (.istore 4, 2) := by decide +kernel
theorem dX1_digs_22 : decode cX1_digs 22 = .ok (.iconst 0, 1) := by decide +kernel
theorem dX1_digs_23 : decode cX1_digs 23 = .ok (.istore 5, 2) := by decide +kernel
theorem dX1_digs_25 : decode cX1_digs 25 = .ok (.iconst 0, 1) := by decide +kernel
theorem dX1_digs_26 : decode cX1_digs 26 = .ok (.istore 6, 2) := by decide +kernel
theorem dX1_digs_28 : decode cX1_digs 28 = .ok (.iload 6, 2) := by decide +kernel
theorem dX1_digs_30 : decode cX1_digs 30 = .ok (.iconst 5, 1) := by decide +kernel
theorem dX1_digs_31 : decode cX1_digs 31 = .ok (.if_icmp .ge 96, 3) := by decide +kernel
theorem dX1_digs_34 : decode cX1_digs 34 = .ok (.aload_n 0, 1) := by decide +kernel
theorem dX1_digs_35 : decode cX1_digs 35 = .ok (.iload 6, 2) := by decide +kernel
theorem dX1_digs_37 : decode cX1_digs 37 = .ok (.invokevirtual 29, 3) := by decide +kernel
theorem dX1_digs_40 : decode cX1_digs 40 = .ok (.astore 7, 2) := by decide +kernel
theorem dX1_digs_42 : decode cX1_digs 42 = .ok (.aload 7, 2) := by decide +kernel
theorem dX1_digs_44 : decode cX1_digs 44 = .ok (.ifnull 77, 3) := by decide +kernel
theorem dX1_digs_47 : decode cX1_digs 47 = .ok (.aload 7, 2) := by decide +kernel
theorem dX1_digs_49 : decode cX1_digs 49 = .ok (.aload_n 3, 1) := by decide +kernel
theorem dX1_digs_50 : decode cX1_digs 50 = .ok (.if_acmp .eq 71, 3) := by decide +kernel
theorem dX1_digs_53 : decode cX1_digs 53 = .ok (.aload 7, 2) := by decide +kernel
theorem dX1_digs_55 : decode cX1_digs 55 = .ok (.invokevirtual 74, 3) := by decide +kernel
theorem dX1_digs_58 : decode cX1_digs 58 = .ok (.ifCond .eq 63, 3) := by decide +kernel
theorem dX1_digs_61 : decode cX1_digs 61 = .ok (.aload 7, 2) := by decide +kernel
theorem dX1_digs_63 : decode cX1_digs 63 = .ok (.getfield 36, 3) := by decide +kernel
theorem dX1_digs_66 : decode cX1_digs 66 = .ok (.ifCond .ne 11, 3) := by decide +kernel
theorem dX1_digs_69 : decode cX1_digs 69 = .ok (.iload 5, 2) := by decide +kernel
theorem dX1_digs_71 : decode cX1_digs 71 = .ok (.ifCond .eq 6, 3) := by decide +kernel
theorem dX1_digs_74 : decode cX1_digs 74 = .ok (.goto 47, 3) := by decide +kernel
theorem dX1_digs_77 : decode cX1_digs 77 = .ok (.iload 5, 2) := by decide +kernel
theorem dX1_digs_79 : decode cX1_digs 79 = .ok (.aload 7, 2) := by decide +kernel
theorem dX1_digs_81 : decode cX1_digs 81 = .ok (.getfield 36, 3) := by decide +kernel
theorem dX1_digs_84 : decode cX1_digs 84 = .ok (.ifCond .ne 7, 3) := by decide +kernel
theorem dX1_digs_87 : decode cX1_digs 87 = .ok (.iconst 1, 1) := by decide +kernel
theorem dX1_digs_88 : decode cX1_digs 88 = .ok (.goto 4, 3) := by decide +kernel
theorem dX1_digs_91 : decode cX1_digs 91 = .ok (.iconst 0, 1) := by decide +kernel
theorem dX1_digs_92 : decode cX1_digs 92 = .ok (.ior, 1) := by decide +kernel
theorem dX1_digs_93 : decode cX1_digs 93 = .ok (.istore 5, 2) := by decide +kernel
theorem dX1_digs_95 : decode cX1_digs 95 = .ok (.aload 7, 2) := by decide +kernel
theorem dX1_digs_97 : decode cX1_digs 97 = .ok (.iload 4, 2) := by decide +kernel
theorem dX1_digs_99 : decode cX1_digs 99 = .ok (.invokevirtual 43, 3) := by decide +kernel
theorem dX1_digs_102 : decode cX1_digs 102 = .ok (.aload_n 0, 1) := by decide +kernel
theorem dX1_digs_103 : decode cX1_digs 103 = .ok (.iload_n 1, 1) := by decide +kernel
theorem dX1_digs_104 : decode cX1_digs 104 = .ok (.iload_n 2, 1) := by decide +kernel
theorem dX1_digs_105 : decode cX1_digs 105 = .ok (.iconst 1, 1) := by decide +kernel
theorem dX1_digs_106 : decode cX1_digs 106 = .ok (.isub, 1) := by decide +kernel
theorem dX1_digs_107 : decode cX1_digs 107 = .ok (.invokevirtual 51, 3) := by decide +kernel
theorem dX1_digs_110 : decode cX1_digs 110 = .ok (.ifCond .eq 5, 3) := by decide +kernel
theorem dX1_digs_113 : decode cX1_digs 113 = .ok (.iconst 1, 1) := by decide +kernel
theorem dX1_digs_114 : decode cX1_digs 114 = .ok (.ireturn, 1) := by decide +kernel
theorem dX1_digs_115 : decode cX1_digs 115 = .ok (.aload 7, 2) := by decide +kernel
theorem dX1_digs_117 : decode cX1_digs 117 = .ok (.invokevirtual 71, 3) := by decide +kernel
theorem dX1_digs_120 : decode cX1_digs 120 = .ok (.pop, 1) := by decide +kernel
theorem dX1_digs_121 : decode cX1_digs 121 = .ok (.iinc 6 1, 3) := by decide +kernel
theorem dX1_digs_124 : decode cX1_digs 124 = .ok (.goto (-96), 3) := by decide +kernel
theorem dX1_digs_127 : decode cX1_digs 127 = .ok (.aload_n 3, 1) := by decide +kernel
theorem dX1_digs_128 : decode cX1_digs 128 = .ok (.iload 4, 2) := by decide +kernel
theorem dX1_digs_130 : decode cX1_digs 130 = .ok (.invokevirtual 43, 3) := by decide +kernel
theorem dX1_digs_133 : decode cX1_digs 133 = .ok (.iconst 0, 1) := by decide +kernel
theorem dX1_digs_134 : decode cX1_digs 134 = .ok (.ireturn, 1) := by decide +kernel
theorem dX1_pileWith_0 : decode cX1_pileWith 0 = .ok (.iconst 0, 1) := by decide +kernel
theorem dX1_pileWith_1 : decode cX1_pileWith 1 = .ok (.istore_n 2, 1) := by decide +kernel
theorem dX1_pileWith_2 : decode cX1_pileWith 2 = .ok (.iload_n 2, 1) := by decide +kernel
theorem dX1_pileWith_3 : decode cX1_pileWith 3 = .ok (.iconst 5, 1) := by decide +kernel
theorem dX1_pileWith_4 : decode cX1_pileWith 4 = .ok (.if_icmp .ge 29, 3) := by decide +kernel
theorem dX1_pileWith_7 : decode cX1_pileWith 7 = .ok (.aload_n 0, 1) := by decide +kernel
theorem dX1_pileWith_8 : decode cX1_pileWith 8 = .ok (.iload_n 2, 1) := by decide +kernel
theorem dX1_pileWith_9 : decode cX1_pileWith 9 = .ok (.invokevirtual 29, 3) := by decide +kernel
theorem dX1_pileWith_12 : decode cX1_pileWith 12 = .ok (.astore_n 3, 1) := by decide +kernel
theorem dX1_pileWith_13 : decode cX1_pileWith 13 = .ok (.aload_n 3, 1) := by decide +kernel
theorem dX1_pileWith_14 : decode cX1_pileWith 14 = .ok (.ifnull 13, 3) := by decide +kernel
theorem dX1_pileWith_17 : decode cX1_pileWith 17 = .ok (.aload_n 3, 1) := by decide +kernel
theorem dX1_pileWith_18 : decode cX1_pileWith 18 = .ok (.iload_n 1, 1) := by decide +kernel
theorem dX1_pileWith_19 : decode cX1_pileWith 19 = .ok (.invokevirtual 78, 3) := by decide +kernel
theorem dX1_pileWith_22 : decode cX1_pileWith 22 = .ok (.ifCond .eq 5, 3) := by decide +kernel
theorem dX1_pileWith_25 : decode cX1_pileWith 25 = .ok (.iload_n 2, 1) := by decide +kernel
theorem dX1_pileWith_26 : decode cX1_pileWith 26 = .ok (.ireturn, 1) := by decide +kernel
theorem dX1_pileWith_27 : decode cX1_pileWith 27 = .ok (.iinc 2 1, 3) := by decide +kernel
theorem dX1_pileWith_30 : decode cX1_pileWith 30 = .ok (.goto (-28), 3) := by decide +kernel
theorem dX1_pileWith_33 : decode cX1_pileWith 33 = .ok (.bipush (-4), 2) := by decide +kernel
theorem dX1_pileWith_35 : decode cX1_pileWith 35 = .ok (.ireturn, 1) := by decide +kernel
theorem dX1_mustMove_0 : decode cX1_mustMove 0 = .ok (.iconst 0, 1) := by decide +kernel
theorem dX1_mustMove_1 : decode cX1_mustMove 1 = .ok (.istore_n 1, 1) := by decide +kernel
theorem dX1_mustMove_2 : decode cX1_mustMove 2 = .ok (.iconst 0, 1) := by decide +kernel
theorem dX1_mustMove_3 : decode cX1_mustMove 3 = .ok (.istore_n 2, 1) := by decide +kernel
theorem dX1_mustMove_4 : decode cX1_mustMove 4 = .ok (.iload_n 2, 1) := by decide +kernel
theorem dX1_mustMove_5 : decode cX1_mustMove 5 = .ok (.iconst 5, 1) := by decide +kernel
theorem dX1_mustMove_6 : decode cX1_mustMove 6 = .ok (.if_icmp .ge 20, 3) := by decide +kernel
theorem dX1_mustMove_9 : decode cX1_mustMove 9 = .ok (.iload_n 1, 1) := by decide +kernel
theorem dX1_mustMove_10 : decode cX1_mustMove 10 = .ok (.aload_n 0, 1) := by decide +kernel
theorem dX1_mustMove_11 : decode cX1_mustMove 11 = .ok (.iload_n 2, 1) := by decide +kernel
theorem dX1_mustMove_12 : decode cX1_mustMove 12 = .ok (.invokevirtual 29, 3) := by decide +kernel
theorem dX1_mustMove_15 : decode cX1_mustMove 15 = .ok (.invokestatic 81, 3) := by decide +kernel
theorem dX1_mustMove_18 : decode cX1_mustMove 18 = .ok (.iadd, 1) := by decide +kernel
theorem dX1_mustMove_19 : decode cX1_mustMove 19 = .ok (.istore_n 1, 1) := by decide +kernel
theorem dX1_mustMove_20 : decode cX1_mustMove 20 = .ok (.iinc 2 1, 3) := by decide +kernel
theorem dX1_mustMove_23 : decode cX1_mustMove 23 = .ok (.goto (-19), 3) := by decide +kernel
theorem dX1_mustMove_26 : decode cX1_mustMove 26 = .ok (.iload_n 1, 1) := by decide +kernel
theorem dX1_mustMove_27 : decode cX1_mustMove 27 = .ok (.ireturn, 1) := by decide +kernel
theorem dX1_blockingOn_0 : decode cX1_blockingOn 0 = .ok (.iconst 0, 1) := by decide +kernel
theorem dX1_blockingOn_1 : decode cX1_blockingOn 1 = .ok (.istore_n 1, 1) := by decide +kernel
theorem dX1_blockingOn_2 : decode cX1_blockingOn 2 = .ok (.bipush 6, 2) := by decide +kernel
theorem dX1_blockingOn_4 : decode cX1_blockingOn 4 = .ok (.istore_n 2, 1) := by decide +kernel
theorem dX1_blockingOn_5 : decode cX1_blockingOn 5 = .ok (.iconst 0, 1) := by decide +kernel
theorem dX1_blockingOn_6 : decode cX1_blockingOn 6 = .ok (.istore_n 3, 1) := by decide +kernel
theorem dX1_blockingOn_7 : decode cX1_blockingOn 7 = .ok (.aload_n 0, 1) := by decide +kernel
theorem dX1_blockingOn_8 : decode cX1_blockingOn 8 = .ok (.ifnull 39, 3) := by decide +kernel
theorem dX1_blockingOn_11 : decode cX1_blockingOn 11 = .ok (.iload_n 3, 1) := by decide +kernel
theorem dX1_blockingOn_12 : decode cX1_blockingOn 12 = .ok (.aload_n 0, 1) := by decide +kernel
theorem dX1_blockingOn_13 : decode cX1_blockingOn 13 = .ok (.getfield 36, 3) := by decide +kernel
theorem dX1_blockingOn_16 : decode cX1_blockingOn 16 = .ok (.if_icmp .ge 31, 3) := by decide +kernel
theorem dX1_blockingOn_19 : decode cX1_blockingOn 19 = .ok (.aload_n 0, 1) := by decide +kernel
theorem dX1_blockingOn_20 : decode cX1_blockingOn 20 = .ok (.iload_n 3, 1) := by decide +kernel
theorem dX1_blockingOn_21 : decode cX1_blockingOn 21 = .ok (.invokevirtual 39, 3) := by decide +kernel
theorem dX1_blockingOn_24 : decode cX1_blockingOn 24 = .ok (.istore 4, 2) := by decide +kernel
theorem dX1_blockingOn_26 : decode cX1_blockingOn 26 = .ok (.iload 4, 2) := by decide +kernel
theorem dX1_blockingOn_28 : decode cX1_blockingOn 28 = .ok (.iload_n 2, 1) := by decide +kernel
theorem dX1_blockingOn_29 : decode cX1_blockingOn 29 = .ok (.if_icmp .le 9, 3) := by decide +kernel
theorem dX1_blockingOn_32 : decode cX1_blockingOn 32 = .ok (.iinc 1 1, 3) := by decide +kernel
theorem dX1_blockingOn_35 : decode cX1_blockingOn 35 = .ok (.goto 6, 3) := by decide +kernel
theorem dX1_blockingOn_38 : decode cX1_blockingOn 38 = .ok (.iload 4, 2) := by decide +kernel
theorem dX1_blockingOn_40 : decode cX1_blockingOn 40 = .ok (.istore_n 2, 1) := by decide +kernel
theorem dX1_blockingOn_41 : decode cX1_blockingOn 41 = .ok (.iinc 3 1, 3) := by decide +kernel
theorem dX1_blockingOn_44 : decode cX1_blockingOn 44 = .ok (.goto (-37), 3) := by decide +kernel
theorem dX1_blockingOn_47 : decode cX1_blockingOn 47 = .ok (.iload_n 1, 1) := by decide +kernel
theorem dX1_blockingOn_48 : decode cX1_blockingOn 48 = .ok (.ireturn, 1) := by decide +kernel
theorem dX2_init_0 : decode cX2_init 0 = .ok (.aload_n 0, 1) := by decide +kernel
theorem dX2_init_1 : decode cX2_init 1 = .ok (.invokespecial 3, 3) := by decide +kernel
theorem dX2_init_4 : decode cX2_init 4 = .ok (.aload_n 0, 1) := by decide +kernel
theorem dX2_init_5 : decode cX2_init 5 = .ok (.iconst 4, 1) := by decide +kernel
theorem dX2_init_6 : decode cX2_init 6 = .ok (.newarray .int, 2) := by decide +kernel
theorem dX2_init_8 : decode cX2_init 8 = .ok (.putfield 9, 3) := by decide +kernel
theorem dX2_init_11 : decode cX2_init 11 = .ok (.return_, 1) := by decide +kernel
theorem dX2_hasPlace_0 : decode cX2_hasPlace 0 = .ok (.aload_n 0, 1) := by decide +kernel
theorem dX2_hasPlace_1 : decode cX2_hasPlace 1 = .ok (.getfield 15, 3) := by decide +kernel
theorem dX2_hasPlace_4 : decode cX2_hasPlace 4 = .ok (.aload_n 0, 1) := by decide +kernel
theorem dX2_hasPlace_5 : decode cX2_hasPlace 5 = .ok (.getfield 9, 3) := by decide +kernel
theorem dX2_hasPlace_8 : decode cX2_hasPlace 8 = .ok (.arraylength, 1) := by decide +kernel
theorem dX2_hasPlace_9 : decode cX2_hasPlace 9 = .ok (.if_icmp .ge 7, 3) := by decide +kernel
theorem dX2_hasPlace_12 : decode cX2_hasPlace 12 = .ok (.iconst 1, 1) := by decide +kernel
theorem dX2_hasPlace_13 : decode cX2_hasPlace 13 = .ok (.goto 4, 3) := by decide +kernel
theorem dX2_hasPlace_16 : decode cX2_hasPlace 16 = .ok (.iconst 0, 1) := by decide +kernel
theorem dX2_hasPlace_17 : decode cX2_hasPlace 17 = .ok (.ireturn, 1) := by decide +kernel
theorem dX2_bears_0 : decode cX2_bears 0 = .ok (.aload_n 0, 1) := by decide +kernel
theorem dX2_bears_1 : decode cX2_bears 1 = .ok (.getfield 19, 3) := by decide +kernel
theorem dX2_bears_4 : decode cX2_bears 4 = .ok (.iload_n 1, 1) := by decide +kernel
theorem dX2_bears_5 : decode cX2_bears 5 = .ok (.iadd, 1) := by decide +kernel
theorem dX2_bears_6 : decode cX2_bears 6 = .ok (.bipush 120, 2) := by decide +kernel
theorem dX2_bears_8 : decode cX2_bears 8 = .ok (.if_icmp .gt 41, 3) := by decide +kernel
theorem dX2_bears_11 : decode cX2_bears 11 = .ok (.aload_n 0, 1) := by decide +kernel
theorem dX2_bears_12 : decode cX2_bears 12 = .ok (.getfield 22, 3) := by decide +kernel
theorem dX2_bears_15 : decode cX2_bears 15 = .ok (.iload_n 1, 1) := by decide +kernel
theorem dX2_bears_16 : decode cX2_bears 16 = .ok (.aload_n 0, 1) := by decide +kernel
theorem dX2_bears_17 : decode cX2_bears 17 = .ok (.invokevirtual 25, 3) := by decide +kernel
theorem dX2_bears_20 : decode cX2_bears 20 = .ok (.imul, 1) := by decide +kernel
theorem dX2_bears_21 : decode cX2_bears 21 = .ok (.iadd, 1) := by decide +kernel
theorem dX2_bears_22 : decode cX2_bears 22 = .ok (.sipush 720, 3) := by decide +kernel
theorem dX2_bears_25 : decode cX2_bears 25 = .ok (.if_icmp .gt 24, 3) := by decide +kernel
theorem dX2_bears_28 : decode cX2_bears 28 = .ok (.aload_n 0, 1) := by decide +kernel
theorem dX2_bears_29 : decode cX2_bears 29 = .ok (.getfield 29, 3) := by decide +kernel
theorem dX2_bears_32 : decode cX2_bears 32 = .ok (.iload_n 1, 1) := by decide +kernel
theorem dX2_bears_33 : decode cX2_bears 33 = .ok (.aload_n 0, 1) := by decide +kernel
theorem dX2_bears_34 : decode cX2_bears 34 = .ok (.invokevirtual 32, 3) := by decide +kernel
theorem dX2_bears_37 : decode cX2_bears 37 = .ok (.imul, 1) := by decide +kernel
theorem dX2_bears_38 : decode cX2_bears 38 = .ok (.iadd, 1) := by decide +kernel
theorem dX2_bears_39 : decode cX2_bears 39 = .ok (.sipush 720, 3) := by decide +kernel
theorem dX2_bears_42 : decode cX2_bears 42 = .ok (.if_icmp .gt 7, 3) := by decide +kernel
theorem dX2_bears_45 : decode cX2_bears 45 = .ok (.iconst 1, 1) := by decide +kernel
theorem dX2_bears_46 : decode cX2_bears 46 = .ok (.goto 4, 3) := by decide +kernel
theorem dX2_bears_49 : decode cX2_bears 49 = .ok (.iconst 0, 1) := by decide +kernel
theorem dX2_bears_50 : decode cX2_bears 50 = .ok (.ireturn, 1) := by decide +kernel
theorem dX2_take_0 : decode cX2_take 0 = .ok (.aload_n 0, 1) := by decide +kernel
theorem dX2_take_1 : decode cX2_take 1 = .ok (.getfield 15, 3) := by decide +kernel
theorem dX2_take_4 : decode cX2_take 4 = .ok (.istore_n 3, 1) := by decide +kernel
theorem dX2_take_5 : decode cX2_take 5 = .ok (.iload_n 3, 1) := by decide +kernel
theorem dX2_take_6 : decode cX2_take 6 = .ok (.ifCond .lt 12, 3) := by decide +kernel
theorem dX2_take_9 : decode cX2_take 9 = .ok (.iload_n 3, 1) := by decide +kernel
theorem dX2_take_10 : decode cX2_take 10 = .ok (.aload_n 0, 1) := by decide +kernel
theorem dX2_take_11 : decode cX2_take 11 = .ok (.getfield 9, 3) := by decide +kernel
theorem dX2_take_14 : decode cX2_take 14 = .ok (.arraylength, 1) := by decide +kernel
theorem dX2_take_15 : decode cX2_take 15 = .ok (.if_icmp .lt 6, 3) := by decide +kernel
theorem dX2_take_18 : decode cX2_take 18 = .ok (.bipush (-4), 2) := by decide +kernel
theorem dX2_take_20 : decode cX2_take 20 = .ok (.ireturn, 1) := by decide +kernel
theorem dX2_take_21 : decode cX2_take 21 = .ok (.aload_n 0, 1) := by decide +kernel
theorem dX2_take_22 : decode cX2_take 22 = .ok (.dup, 1) := by decide +kernel
theorem dX2_take_23 : decode cX2_take 23 = .ok (.getfield 22, 3) := by decide +kernel
theorem dX2_take_26 : decode cX2_take 26 = .ok (.iload_n 2, 1) := by decide +kernel
theorem dX2_take_27 : decode cX2_take 27 = .ok (.aload_n 0, 1) := by decide +kernel
theorem dX2_take_28 : decode cX2_take 28 = .ok (.invokevirtual 25, 3) := by decide +kernel
theorem dX2_take_31 : decode cX2_take 31 = .ok (.imul, 1) := by decide +kernel
theorem dX2_take_32 : decode cX2_take 32 = .ok (.iadd, 1) := by decide +kernel
theorem dX2_take_33 : decode cX2_take 33 = .ok (.putfield 22, 3) := by decide +kernel
theorem dX2_take_36 : decode cX2_take 36 = .ok (.aload_n 0, 1) := by decide +kernel
theorem dX2_take_37 : decode cX2_take 37 = .ok (.dup, 1) := by decide +kernel
theorem dX2_take_38 : decode cX2_take 38 = .ok (.getfield 29, 3) := by decide +kernel
theorem dX2_take_41 : decode cX2_take 41 = .ok (.iload_n 2, 1) := by decide +kernel
theorem dX2_take_42 : decode cX2_take 42 = .ok (.aload_n 0, 1) := by decide +kernel
theorem dX2_take_43 : decode cX2_take 43 = .ok (.invokevirtual 32, 3) := by decide +kernel
theorem dX2_take_46 : decode cX2_take 46 = .ok (.imul, 1) := by decide +kernel
theorem dX2_take_47 : decode cX2_take 47 = .ok (.iadd, 1) := by decide +kernel
theorem dX2_take_48 : decode cX2_take 48 = .ok (.putfield 29, 3) := by decide +kernel
theorem dX2_take_51 : decode cX2_take 51 = .ok (.aload_n 0, 1) := by decide +kernel
theorem dX2_take_52 : decode cX2_take 52 = .ok (.dup, 1) := by decide +kernel
theorem dX2_take_53 : decode cX2_take 53 = .ok (.getfield 19, 3) := by decide +kernel
theorem dX2_take_56 : decode cX2_take 56 = .ok (.iload_n 2, 1) := by decide +kernel
theorem dX2_take_57 : decode cX2_take 57 = .ok (.iadd, 1) := by decide +kernel
theorem dX2_take_58 : decode cX2_take 58 = .ok (.putfield 19, 3) := by decide +kernel
theorem dX2_take_61 : decode cX2_take 61 = .ok (.aload_n 0, 1) := by decide +kernel
theorem dX2_take_62 : decode cX2_take 62 = .ok (.getfield 9, 3) := by decide +kernel
theorem dX2_take_65 : decode cX2_take 65 = .ok (.iload_n 3, 1) := by decide +kernel
theorem dX2_take_66 : decode cX2_take 66 = .ok (.iload_n 1, 1) := by decide +kernel
theorem dX2_take_67 : decode cX2_take 67 = .ok (.iastore, 1) := by decide +kernel
theorem dX2_take_68 : decode cX2_take 68 = .ok (.aload_n 0, 1) := by decide +kernel
theorem dX2_take_69 : decode cX2_take 69 = .ok (.dup, 1) := by decide +kernel
theorem dX2_take_70 : decode cX2_take 70 = .ok (.getfield 15, 3) := by decide +kernel
theorem dX2_take_73 : decode cX2_take 73 = .ok (.iconst 1, 1) := by decide +kernel
theorem dX2_take_74 : decode cX2_take 74 = .ok (.iadd, 1) := by decide +kernel
theorem dX2_take_75 : decode cX2_take 75 = .ok (.putfield 15, 3) := by decide +kernel
theorem dX2_take_78 : decode cX2_take 78 = .ok (.iload_n 3, 1) := by decide +kernel
theorem dX2_take_79 : decode cX2_take 79 = .ok (.ireturn, 1) := by decide +kernel
theorem dX2_partOn_0 : decode cX2_partOn 0 = .ok (.iload_n 1, 1) := by decide +kernel
theorem dX2_partOn_1 : decode cX2_partOn 1 = .ok (.ifCond .lt 20, 3) := by decide +kernel
theorem dX2_partOn_4 : decode cX2_partOn 4 = .ok (.iload_n 1, 1) := by decide +kernel
theorem dX2_partOn_5 : decode cX2_partOn 5 = .ok (.aload_n 0, 1) := by decide +kernel
theorem dX2_partOn_6 : decode cX2_partOn 6 = .ok (.getfield 15, 3) := by decide +kernel
theorem dX2_partOn_9 : decode cX2_partOn 9 = .ok (.if_icmp .ge 12, 3) := by decide +kernel
theorem dX2_partOn_12 : decode cX2_partOn 12 = .ok (.iload_n 1, 1) := by decide +kernel
theorem dX2_partOn_13 : decode cX2_partOn 13 = .ok (.aload_n 0, 1) := by decide +kernel
theorem dX2_partOn_14 : decode cX2_partOn 14 = .ok (.getfield 9, 3) := by decide +kernel
theorem dX2_partOn_17 : decode cX2_partOn 17 = .ok (.arraylength, 1) := by decide +kernel
theorem dX2_partOn_18 : decode cX2_partOn 18 = .ok (.if_icmp .lt 8, 3) := by decide +kernel
theorem dX2_partOn_21 : decode cX2_partOn 21 = .ok (.bipush (-4), 2) := by decide +kernel
theorem dX2_partOn_23 : decode cX2_partOn 23 = .ok (.goto 9, 3) := by decide +kernel
theorem dX2_partOn_26 : decode cX2_partOn 26 = .ok (.aload_n 0, 1) := by decide +kernel
theorem dX2_partOn_27 : decode cX2_partOn 27 = .ok (.getfield 9, 3) := by decide +kernel
theorem dX2_partOn_30 : decode cX2_partOn 30 = .ok (.iload_n 1, 1) := by decide +kernel
theorem dX2_partOn_31 : decode cX2_partOn 31 = .ok (.iaload, 1) := by decide +kernel
theorem dX2_partOn_32 : decode cX2_partOn 32 = .ok (.ireturn, 1) := by decide +kernel
theorem dX2_clear_0 : decode cX2_clear 0 = .ok (.aload_n 0, 1) := by decide +kernel
theorem dX2_clear_1 : decode cX2_clear 1 = .ok (.iconst 0, 1) := by decide +kernel
theorem dX2_clear_2 : decode cX2_clear 2 = .ok (.putfield 15, 3) := by decide +kernel
theorem dX2_clear_5 : decode cX2_clear 5 = .ok (.aload_n 0, 1) := by decide +kernel
theorem dX2_clear_6 : decode cX2_clear 6 = .ok (.iconst 0, 1) := by decide +kernel
theorem dX2_clear_7 : decode cX2_clear 7 = .ok (.putfield 19, 3) := by decide +kernel
theorem dX2_clear_10 : decode cX2_clear 10 = .ok (.aload_n 0, 1) := by decide +kernel
theorem dX2_clear_11 : decode cX2_clear 11 = .ok (.iconst 0, 1) := by decide +kernel
theorem dX2_clear_12 : decode cX2_clear 12 = .ok (.putfield 22, 3) := by decide +kernel
theorem dX2_clear_15 : decode cX2_clear 15 = .ok (.aload_n 0, 1) := by decide +kernel
theorem dX2_clear_16 : decode cX2_clear 16 = .ok (.iconst 0, 1) := by decide +kernel
theorem dX2_clear_17 : decode cX2_clear 17 = .ok (.putfield 29, 3) := by decide +kernel
theorem dX2_clear_20 : decode cX2_clear 20 = .ok (.return_, 1) := by decide +kernel
theorem dX2_frontShare_0 : decode cX2_frontShare 0 = .ok (.bipush 8, 2) := by decide +kernel
theorem dX2_frontShare_2 : decode cX2_frontShare 2 = .ok (.iconst 2, 1) := by decide +kernel
theorem dX2_frontShare_3 : decode cX2_frontShare 3 = .ok (.aload_n 0, 1) := by decide +kernel
theorem dX2_frontShare_4 : decode cX2_frontShare 4 = .ok (.getfield 15, 3) := by decide +kernel
theorem dX2_frontShare_7 : decode cX2_frontShare 7 = .ok (.imul, 1) := by decide +kernel
theorem dX2_frontShare_8 : decode cX2_frontShare 8 = .ok (.isub, 1) := by decide +kernel
theorem dX2_frontShare_9 : decode cX2_frontShare 9 = .ok (.ireturn, 1) := by decide +kernel
theorem dX2_rearShare_0 : decode cX2_rearShare 0 = .ok (.iconst 2, 1) := by decide +kernel
theorem dX2_rearShare_1 : decode cX2_rearShare 1 = .ok (.aload_n 0, 1) := by decide +kernel
theorem dX2_rearShare_2 : decode cX2_rearShare 2 = .ok (.getfield 15, 3) := by decide +kernel
theorem dX2_rearShare_5 : decode cX2_rearShare 5 = .ok (.imul, 1) := by decide +kernel
theorem dX2_rearShare_6 : decode cX2_rearShare 6 = .ok (.iconst 1, 1) := by decide +kernel
theorem dX2_rearShare_7 : decode cX2_rearShare 7 = .ok (.iadd, 1) := by decide +kernel
theorem dX2_rearShare_8 : decode cX2_rearShare 8 = .ok (.ireturn, 1) := by decide +kernel
theorem dX3_init_0 : decode cX3_init 0 = .ok (.aload_n 0, 1) := by decide +kernel
theorem dX3_init_1 : decode cX3_init 1 = .ok (.invokespecial 3, 3) := by decide +kernel
theorem dX3_init_4 : decode cX3_init 4 = .ok (.aload_n 0, 1) := by decide +kernel
theorem dX3_init_5 : decode cX3_init 5 = .ok (.bipush 12, 2) := by decide +kernel
theorem dX3_init_7 : decode cX3_init 7 = .ok (.newarray .int, 2) := by decide +kernel
theorem dX3_init_9 : decode cX3_init 9 = .ok (.putfield 9, 3) := by decide +kernel
theorem dX3_init_12 : decode cX3_init 12 = .ok (.aload_n 0, 1) := by decide +kernel
theorem dX3_init_13 : decode cX3_init 13 = .ok (.bipush 12, 2) := by decide +kernel
theorem dX3_init_15 : decode cX3_init 15 = .ok (.newarray .int, 2) := by decide +kernel
theorem dX3_init_17 : decode cX3_init 17 = .ok (.putfield 15, 3) := by decide +kernel
theorem dX3_init_20 : decode cX3_init 20 = .ok (.return_, 1) := by decide +kernel
theorem dX3_clear_0 : decode cX3_clear 0 = .ok (.aload_n 0, 1) := by decide +kernel
theorem dX3_clear_1 : decode cX3_clear 1 = .ok (.iconst 0, 1) := by decide +kernel
theorem dX3_clear_2 : decode cX3_clear 2 = .ok (.putfield 18, 3) := by decide +kernel
theorem dX3_clear_5 : decode cX3_clear 5 = .ok (.aload_n 0, 1) := by decide +kernel
theorem dX3_clear_6 : decode cX3_clear 6 = .ok (.iconst 0, 1) := by decide +kernel
theorem dX3_clear_7 : decode cX3_clear 7 = .ok (.putfield 22, 3) := by decide +kernel
theorem dX3_clear_10 : decode cX3_clear 10 = .ok (.return_, 1) := by decide +kernel
theorem dX3_add_0 : decode cX3_add 0 = .ok (.aload_n 0, 1) := by decide +kernel
theorem dX3_add_1 : decode cX3_add 1 = .ok (.getfield 18, 3) := by decide +kernel
theorem dX3_add_4 : decode cX3_add 4 = .ok (.istore_n 2, 1) := by decide +kernel
theorem dX3_add_5 : decode cX3_add 5 = .ok (.iload_n 2, 1) := by decide +kernel
theorem dX3_add_6 : decode cX3_add 6 = .ok (.ifCond .lt 12, 3) := by decide +kernel
theorem dX3_add_9 : decode cX3_add 9 = .ok (.iload_n 2, 1) := by decide +kernel
theorem dX3_add_10 : decode cX3_add 10 = .ok (.aload_n 0, 1) := by decide +kernel
theorem dX3_add_11 : decode cX3_add 11 = .ok (.getfield 9, 3) := by decide +kernel
theorem dX3_add_14 : decode cX3_add 14 = .ok (.arraylength, 1) := by decide +kernel
theorem dX3_add_15 : decode cX3_add 15 = .ok (.if_icmp .lt 4, 3) := by decide +kernel
theorem dX3_add_18 : decode cX3_add 18 = .ok (.return_, 1) := by decide +kernel
theorem dX3_add_19 : decode cX3_add 19 = .ok (.iload_n 1, 1) := by decide +kernel
theorem dX3_add_20 : decode cX3_add 20 = .ok (.iconst 4, 1) := by decide +kernel
theorem dX3_add_21 : decode cX3_add 21 = .ok (.iadd, 1) := by decide +kernel
theorem dX3_add_22 : decode cX3_add 22 = .ok (.istore_n 3, 1) := by decide +kernel
theorem dX3_add_23 : decode cX3_add 23 = .ok (.iload_n 2, 1) := by decide +kernel
theorem dX3_add_24 : decode cX3_add 24 = .ok (.ifCond .le 35, 3) := by decide +kernel
theorem dX3_add_27 : decode cX3_add 27 = .ok (.aload_n 0, 1) := by decide +kernel
theorem dX3_add_28 : decode cX3_add 28 = .ok (.getfield 9, 3) := by decide +kernel
theorem dX3_add_31 : decode cX3_add 31 = .ok (.iload_n 2, 1) := by decide +kernel
theorem dX3_add_32 : decode cX3_add 32 = .ok (.iconst 1, 1) := by decide +kernel
theorem dX3_add_33 : decode cX3_add 33 = .ok (.isub, 1) := by decide +kernel
theorem dX3_add_34 : decode cX3_add 34 = .ok (.iaload, 1) := by decide +kernel
theorem dX3_add_35 : decode cX3_add 35 = .ok (.iload_n 3, 1) := by decide +kernel
theorem dX3_add_36 : decode cX3_add 36 = .ok (.if_icmp .ge 23, 3) := by decide +kernel
theorem dX3_add_39 : decode cX3_add 39 = .ok (.aload_n 0, 1) := by decide +kernel
theorem dX3_add_40 : decode cX3_add 40 = .ok (.getfield 9, 3) := by decide +kernel
theorem dX3_add_43 : decode cX3_add 43 = .ok (.iload_n 2, 1) := by decide +kernel
theorem dX3_add_44 : decode cX3_add 44 = .ok (.aload_n 0, 1) := by decide +kernel
theorem dX3_add_45 : decode cX3_add 45 = .ok (.getfield 9, 3) := by decide +kernel
theorem dX3_add_48 : decode cX3_add 48 = .ok (.iload_n 2, 1) := by decide +kernel
theorem dX3_add_49 : decode cX3_add 49 = .ok (.iconst 1, 1) := by decide +kernel
theorem dX3_add_50 : decode cX3_add 50 = .ok (.isub, 1) := by decide +kernel
theorem dX3_add_51 : decode cX3_add 51 = .ok (.iaload, 1) := by decide +kernel
theorem dX3_add_52 : decode cX3_add 52 = .ok (.iastore, 1) := by decide +kernel
theorem dX3_add_53 : decode cX3_add 53 = .ok (.iinc 2 (-1), 3) := by decide +kernel
theorem dX3_add_56 : decode cX3_add 56 = .ok (.goto (-33), 3) := by decide +kernel
theorem dX3_add_59 : decode cX3_add 59 = .ok (.aload_n 0, 1) := by decide +kernel
theorem dX3_add_60 : decode cX3_add 60 = .ok (.getfield 9, 3) := by decide +kernel
theorem dX3_add_63 : decode cX3_add 63 = .ok (.iload_n 2, 1) := by decide +kernel
theorem dX3_add_64 : decode cX3_add 64 = .ok (.iload_n 3, 1) := by decide +kernel
theorem dX3_add_65 : decode cX3_add 65 = .ok (.iastore, 1) := by decide +kernel
theorem dX3_add_66 : decode cX3_add 66 = .ok (.aload_n 0, 1) := by decide +kernel
theorem dX3_add_67 : decode cX3_add 67 = .ok (.dup, 1) := by decide +kernel
theorem dX3_add_68 : decode cX3_add 68 = .ok (.getfield 18, 3) := by decide +kernel
theorem dX3_add_71 : decode cX3_add 71 = .ok (.iconst 1, 1) := by decide +kernel
theorem dX3_add_72 : decode cX3_add 72 = .ok (.iadd, 1) := by decide +kernel
theorem dX3_add_73 : decode cX3_add 73 = .ok (.putfield 18, 3) := by decide +kernel
theorem dX3_add_76 : decode cX3_add 76 = .ok (.aload_n 0, 1) := by decide +kernel
theorem dX3_add_77 : decode cX3_add 77 = .ok (.dup, 1) := by decide +kernel
theorem dX3_add_78 : decode cX3_add 78 = .ok (.getfield 22, 3) := by decide +kernel
theorem dX3_add_81 : decode cX3_add 81 = .ok (.iload_n 3, 1) := by decide +kernel
theorem dX3_add_82 : decode cX3_add 82 = .ok (.iadd, 1) := by decide +kernel
theorem dX3_add_83 : decode cX3_add 83 = .ok (.putfield 22, 3) := by decide +kernel
theorem dX3_add_86 : decode cX3_add 86 = .ok (.return_, 1) := by decide +kernel
theorem dX3_plainCasts_0 : decode cX3_plainCasts 0 = .ok (.iconst 0, 1) := by decide +kernel
theorem dX3_plainCasts_1 : decode cX3_plainCasts 1 = .ok (.istore_n 1, 1) := by decide +kernel
theorem dX3_plainCasts_2 : decode cX3_plainCasts 2 = .ok (.iconst 0, 1) := by decide +kernel
theorem dX3_plainCasts_3 : decode cX3_plainCasts 3 = .ok (.istore_n 2, 1) := by decide +kernel
theorem dX3_plainCasts_4 : decode cX3_plainCasts 4 = .ok (.iload_n 2, 1) := by decide +kernel
theorem dX3_plainCasts_5 : decode cX3_plainCasts 5 = .ok (.aload_n 0, 1) := by decide +kernel
theorem dX3_plainCasts_6 : decode cX3_plainCasts 6 = .ok (.getfield 18, 3) := by decide +kernel
theorem dX3_plainCasts_9 : decode cX3_plainCasts 9 = .ok (.if_icmp .ge 62, 3) := by decide +kernel
theorem dX3_plainCasts_12 : decode cX3_plainCasts 12 = .ok (.aload_n 0, 1) := by decide +kernel
theorem dX3_plainCasts_13 : decode cX3_plainCasts 13 = .ok (.iload_n 2, 1) := by decide +kernel
theorem dX3_plainCasts_14 : decode cX3_plainCasts 14 = .ok (.invokevirtual 25, 3) := by decide +kernel
theorem dX3_plainCasts_17 : decode cX3_plainCasts 17 = .ok (.istore_n 3, 1) := by decide +kernel
theorem dX3_plainCasts_18 : decode cX3_plainCasts 18 = .ok (.iconst 0, 1) := by decide +kernel
theorem dX3_plainCasts_19 : decode cX3_plainCasts 19 = .ok (.istore 4, 2) := by decide +kernel
theorem dX3_plainCasts_21 : decode cX3_plainCasts 21 = .ok (.iload 4, 2) := by decide +kernel
theorem dX3_plainCasts_23 : decode cX3_plainCasts 23 = .ok (.iload_n 1, 1) := by decide +kernel
theorem dX3_plainCasts_24 : decode cX3_plainCasts 24 = .ok (.if_icmp .ge 19, 3) := by decide +kernel
theorem dX3_plainCasts_27 : decode cX3_plainCasts 27 = .ok (.aload_n 0, 1) := by decide +kernel
theorem dX3_plainCasts_28 : decode cX3_plainCasts 28 = .ok (.iload 4, 2) := by decide +kernel
theorem dX3_plainCasts_30 : decode cX3_plainCasts 30 = .ok (.invokevirtual 29, 3) := by decide +kernel
theorem dX3_plainCasts_33 : decode cX3_plainCasts 33 = .ok (.iload_n 3, 1) := by decide +kernel
theorem dX3_plainCasts_34 : decode cX3_plainCasts 34 = .ok (.if_icmp .ge 9, 3) := by decide +kernel
theorem dX3_plainCasts_37 : decode cX3_plainCasts 37 = .ok (.iinc 4 1, 3) := by decide +kernel
theorem dX3_plainCasts_40 : decode cX3_plainCasts 40 = .ok (.goto (-19), 3) := by decide +kernel
theorem dX3_plainCasts_43 : decode cX3_plainCasts 43 = .ok (.iload 4, 2) := by decide +kernel
theorem dX3_plainCasts_45 : decode cX3_plainCasts 45 = .ok (.iload_n 1, 1) := by decide +kernel
theorem dX3_plainCasts_46 : decode cX3_plainCasts 46 = .ok (.if_icmp .ne 12, 3) := by decide +kernel
theorem dX3_plainCasts_49 : decode cX3_plainCasts 49 = .ok (.aload_n 0, 1) := by decide +kernel
theorem dX3_plainCasts_50 : decode cX3_plainCasts 50 = .ok (.iload 4, 2) := by decide +kernel
theorem dX3_plainCasts_52 : decode cX3_plainCasts 52 = .ok (.invokevirtual 32, 3) := by decide +kernel
theorem dX3_plainCasts_55 : decode cX3_plainCasts 55 = .ok (.iinc 1 1, 3) := by decide +kernel
theorem dX3_plainCasts_58 : decode cX3_plainCasts 58 = .ok (.aload_n 0, 1) := by decide +kernel
theorem dX3_plainCasts_59 : decode cX3_plainCasts 59 = .ok (.iload 4, 2) := by decide +kernel
theorem dX3_plainCasts_61 : decode cX3_plainCasts 61 = .ok (.iload_n 3, 1) := by decide +kernel
theorem dX3_plainCasts_62 : decode cX3_plainCasts 62 = .ok (.invokevirtual 36, 3) := by decide +kernel
theorem dX3_plainCasts_65 : decode cX3_plainCasts 65 = .ok (.iinc 2 1, 3) := by decide +kernel
theorem dX3_plainCasts_68 : decode cX3_plainCasts 68 = .ok (.goto (-64), 3) := by decide +kernel
theorem dX3_plainCasts_71 : decode cX3_plainCasts 71 = .ok (.iload_n 1, 1) := by decide +kernel
theorem dX3_plainCasts_72 : decode cX3_plainCasts 72 = .ok (.ireturn, 1) := by decide +kernel
theorem dX3_fewestCasts_0 : decode cX3_fewestCasts 0 = .ok (.aload_n 0, 1) := by decide +kernel
theorem dX3_fewestCasts_1 : decode cX3_fewestCasts 1 = .ok (.invokevirtual 40, 3) := by decide +kernel
theorem dX3_fewestCasts_4 : decode cX3_fewestCasts 4 = .ok (.istore_n 1, 1) := by decide +kernel
theorem dX3_fewestCasts_5 : decode cX3_fewestCasts 5 = .ok (.aload_n 0, 1) := by decide +kernel
theorem dX3_fewestCasts_6 : decode cX3_fewestCasts 6 = .ok (.getfield 22, 3) := by decide +kernel
theorem dX3_fewestCasts_9 : decode cX3_fewestCasts 9 = .ok (.sipush 304, 3) := by decide +kernel
theorem dX3_fewestCasts_12 : decode cX3_fewestCasts 12 = .ok (.iadd, 1) := by decide +kernel
theorem dX3_fewestCasts_13 : decode cX3_fewestCasts 13 = .ok (.iconst 1, 1) := by decide +kernel
theorem dX3_fewestCasts_14 : decode cX3_fewestCasts 14 = .ok (.isub, 1) := by decide +kernel
theorem dX3_fewestCasts_15 : decode cX3_fewestCasts 15 = .ok (.sipush 304, 3) := by decide +kernel
theorem dX3_fewestCasts_18 : decode cX3_fewestCasts 18 = .ok (.idiv, 1) := by decide +kernel
theorem dX3_fewestCasts_19 : decode cX3_fewestCasts 19 = .ok (.istore_n 2, 1) := by decide +kernel
theorem dX3_fewestCasts_20 : decode cX3_fewestCasts 20 = .ok (.iload_n 2, 1) := by decide +kernel
theorem dX3_fewestCasts_21 : decode cX3_fewestCasts 21 = .ok (.iload_n 1, 1) := by decide +kernel
theorem dX3_fewestCasts_22 : decode cX3_fewestCasts 22 = .ok (.if_icmp .ge 48, 3) := by decide +kernel
theorem dX3_fewestCasts_25 : decode cX3_fewestCasts 25 = .ok (.iconst 0, 1) := by decide +kernel
theorem dX3_fewestCasts_26 : decode cX3_fewestCasts 26 = .ok (.istore_n 3, 1) := by decide +kernel
theorem dX3_fewestCasts_27 : decode cX3_fewestCasts 27 = .ok (.iload_n 3, 1) := by decide +kernel
theorem dX3_fewestCasts_28 : decode cX3_fewestCasts 28 = .ok (.iload_n 2, 1) := by decide +kernel
theorem dX3_fewestCasts_29 : decode cX3_fewestCasts 29 = .ok (.if_icmp .ge 14, 3) := by decide +kernel
theorem dX3_fewestCasts_32 : decode cX3_fewestCasts 32 = .ok (.aload_n 0, 1) := by decide +kernel
theorem dX3_fewestCasts_33 : decode cX3_fewestCasts 33 = .ok (.iload_n 3, 1) := by decide +kernel
theorem dX3_fewestCasts_34 : decode cX3_fewestCasts 34 = .ok (.invokevirtual 32, 3) := by decide +kernel
theorem dX3_fewestCasts_37 : decode cX3_fewestCasts 37 = .ok (.iinc 3 1, 3) := by decide +kernel
theorem dX3_fewestCasts_40 : decode cX3_fewestCasts 40 = .ok (.goto (-13), 3) := by decide +kernel
theorem dX3_fewestCasts_43 : decode cX3_fewestCasts 43 = .ok (.aload_n 0, 1) := by decide +kernel
theorem dX3_fewestCasts_44 : decode cX3_fewestCasts 44 = .ok (.iconst 0, 1) := by decide +kernel
theorem dX3_fewestCasts_45 : decode cX3_fewestCasts 45 = .ok (.iload_n 2, 1) := by decide +kernel
theorem dX3_fewestCasts_46 : decode cX3_fewestCasts 46 = .ok (.iload_n 2, 1) := by decide +kernel
theorem dX3_fewestCasts_47 : decode cX3_fewestCasts 47 = .ok (.sipush 304, 3) := by decide +kernel
theorem dX3_fewestCasts_50 : decode cX3_fewestCasts 50 = .ok (.imul, 1) := by decide +kernel
theorem dX3_fewestCasts_51 : decode cX3_fewestCasts 51 = .ok (.aload_n 0, 1) := by decide +kernel
theorem dX3_fewestCasts_52 : decode cX3_fewestCasts 52 = .ok (.getfield 22, 3) := by decide +kernel
theorem dX3_fewestCasts_55 : decode cX3_fewestCasts 55 = .ok (.isub, 1) := by decide +kernel
theorem dX3_fewestCasts_56 : decode cX3_fewestCasts 56 = .ok (.invokevirtual 44, 3) := by decide +kernel
theorem dX3_fewestCasts_59 : decode cX3_fewestCasts 59 = .ok (.ifCond .eq 5, 3) := by decide +kernel
theorem dX3_fewestCasts_62 : decode cX3_fewestCasts 62 = .ok (.iload_n 2, 1) := by decide +kernel
theorem dX3_fewestCasts_63 : decode cX3_fewestCasts 63 = .ok (.ireturn, 1) := by decide +kernel
theorem dX3_fewestCasts_64 : decode cX3_fewestCasts 64 = .ok (.iinc 2 1, 3) := by decide +kernel
theorem dX3_fewestCasts_67 : decode cX3_fewestCasts 67 = .ok (.goto (-47), 3) := by decide +kernel
theorem dX3_fewestCasts_70 : decode cX3_fewestCasts 70 = .ok (.iload_n 1, 1) := by decide +kernel
theorem dX3_fewestCasts_71 : decode cX3_fewestCasts 71 = .ok (.ireturn, 1) := by decide +kernel
theorem dX3_sizeOf_0 : decode cX3_sizeOf 0 = .ok (.iload_n 1, 1) := by decide +kernel
theorem dX3_sizeOf_1 : decode cX3_sizeOf 1 = .ok (.ifCond .lt 20, 3) := by decide +kernel
theorem dX3_sizeOf_4 : decode cX3_sizeOf 4 = .ok (.iload_n 1, 1) := by decide +kernel
theorem dX3_sizeOf_5 : decode cX3_sizeOf 5 = .ok (.aload_n 0, 1) := by decide +kernel
theorem dX3_sizeOf_6 : decode cX3_sizeOf 6 = .ok (.getfield 18, 3) := by decide +kernel
theorem dX3_sizeOf_9 : decode cX3_sizeOf 9 = .ok (.if_icmp .ge 12, 3) := by decide +kernel
theorem dX3_sizeOf_12 : decode cX3_sizeOf 12 = .ok (.iload_n 1, 1) := by decide +kernel
theorem dX3_sizeOf_13 : decode cX3_sizeOf 13 = .ok (.aload_n 0, 1) := by decide +kernel
theorem dX3_sizeOf_14 : decode cX3_sizeOf 14 = .ok (.getfield 9, 3) := by decide +kernel
theorem dX3_sizeOf_17 : decode cX3_sizeOf 17 = .ok (.arraylength, 1) := by decide +kernel
theorem dX3_sizeOf_18 : decode cX3_sizeOf 18 = .ok (.if_icmp .lt 7, 3) := by decide +kernel
theorem dX3_sizeOf_21 : decode cX3_sizeOf 21 = .ok (.iconst 0, 1) := by decide +kernel
theorem dX3_sizeOf_22 : decode cX3_sizeOf 22 = .ok (.goto 9, 3) := by decide +kernel
theorem dX3_sizeOf_25 : decode cX3_sizeOf 25 = .ok (.aload_n 0, 1) := by decide +kernel
theorem dX3_sizeOf_26 : decode cX3_sizeOf 26 = .ok (.getfield 9, 3) := by decide +kernel
theorem dX3_sizeOf_29 : decode cX3_sizeOf 29 = .ok (.iload_n 1, 1) := by decide +kernel
theorem dX3_sizeOf_30 : decode cX3_sizeOf 30 = .ok (.iaload, 1) := by decide +kernel
theorem dX3_sizeOf_31 : decode cX3_sizeOf 31 = .ok (.ireturn, 1) := by decide +kernel
theorem dX3_roomOn_0 : decode cX3_roomOn 0 = .ok (.iload_n 1, 1) := by decide +kernel
theorem dX3_roomOn_1 : decode cX3_roomOn 1 = .ok (.ifCond .lt 12, 3) := by decide +kernel
theorem dX3_roomOn_4 : decode cX3_roomOn 4 = .ok (.iload_n 1, 1) := by decide +kernel
theorem dX3_roomOn_5 : decode cX3_roomOn 5 = .ok (.aload_n 0, 1) := by decide +kernel
theorem dX3_roomOn_6 : decode cX3_roomOn 6 = .ok (.getfield 15, 3) := by decide +kernel
theorem dX3_roomOn_9 : decode cX3_roomOn 9 = .ok (.arraylength, 1) := by decide +kernel
theorem dX3_roomOn_10 : decode cX3_roomOn 10 = .ok (.if_icmp .lt 7, 3) := by decide +kernel
theorem dX3_roomOn_13 : decode cX3_roomOn 13 = .ok (.iconst 0, 1) := by decide +kernel
theorem dX3_roomOn_14 : decode cX3_roomOn 14 = .ok (.goto 13, 3) := by decide +kernel
theorem dX3_roomOn_17 : decode cX3_roomOn 17 = .ok (.sipush 304, 3) := by decide +kernel
theorem dX3_roomOn_20 : decode cX3_roomOn 20 = .ok (.aload_n 0, 1) := by decide +kernel
theorem dX3_roomOn_21 : decode cX3_roomOn 21 = .ok (.getfield 15, 3) := by decide +kernel
theorem dX3_roomOn_24 : decode cX3_roomOn 24 = .ok (.iload_n 1, 1) := by decide +kernel
theorem dX3_roomOn_25 : decode cX3_roomOn 25 = .ok (.iaload, 1) := by decide +kernel
theorem dX3_roomOn_26 : decode cX3_roomOn 26 = .ok (.isub, 1) := by decide +kernel
theorem dX3_roomOn_27 : decode cX3_roomOn 27 = .ok (.ireturn, 1) := by decide +kernel
theorem dX3_empty_0 : decode cX3_empty 0 = .ok (.iload_n 1, 1) := by decide +kernel
theorem dX3_empty_1 : decode cX3_empty 1 = .ok (.ifCond .lt 19, 3) := by decide +kernel
theorem dX3_empty_4 : decode cX3_empty 4 = .ok (.iload_n 1, 1) := by decide +kernel
theorem dX3_empty_5 : decode cX3_empty 5 = .ok (.aload_n 0, 1) := by decide +kernel
theorem dX3_empty_6 : decode cX3_empty 6 = .ok (.getfield 15, 3) := by decide +kernel
theorem dX3_empty_9 : decode cX3_empty 9 = .ok (.arraylength, 1) := by decide +kernel
theorem dX3_empty_10 : decode cX3_empty 10 = .ok (.if_icmp .ge 10, 3) := by decide +kernel
theorem dX3_empty_13 : decode cX3_empty 13 = .ok (.aload_n 0, 1) := by decide +kernel
theorem dX3_empty_14 : decode cX3_empty 14 = .ok (.getfield 15, 3) := by decide +kernel
theorem dX3_empty_17 : decode cX3_empty 17 = .ok (.iload_n 1, 1) := by decide +kernel
theorem dX3_empty_18 : decode cX3_empty 18 = .ok (.iconst 0, 1) := by decide +kernel
theorem dX3_empty_19 : decode cX3_empty 19 = .ok (.iastore, 1) := by decide +kernel
theorem dX3_empty_20 : decode cX3_empty 20 = .ok (.return_, 1) := by decide +kernel
theorem dX3_fill_0 : decode cX3_fill 0 = .ok (.iload_n 1, 1) := by decide +kernel
theorem dX3_fill_1 : decode cX3_fill 1 = .ok (.ifCond .lt 22, 3) := by decide +kernel
theorem dX3_fill_4 : decode cX3_fill 4 = .ok (.iload_n 1, 1) := by decide +kernel
theorem dX3_fill_5 : decode cX3_fill 5 = .ok (.aload_n 0, 1) := by decide +kernel
theorem dX3_fill_6 : decode cX3_fill 6 = .ok (.getfield 15, 3) := by decide +kernel
theorem dX3_fill_9 : decode cX3_fill 9 = .ok (.arraylength, 1) := by decide +kernel
theorem dX3_fill_10 : decode cX3_fill 10 = .ok (.if_icmp .ge 13, 3) := by decide +kernel
theorem dX3_fill_13 : decode cX3_fill 13 = .ok (.aload_n 0, 1) := by decide +kernel
theorem dX3_fill_14 : decode cX3_fill 14 = .ok (.getfield 15, 3) := by decide +kernel
theorem dX3_fill_17 : decode cX3_fill 17 = .ok (.iload_n 1, 1) := by decide +kernel
theorem dX3_fill_18 : decode cX3_fill 18 = .ok (.dup2, 1) := by decide +kernel
theorem dX3_fill_19 : decode cX3_fill 19 = .ok (.iaload, 1) := by decide +kernel
theorem dX3_fill_20 : decode cX3_fill 20 = .ok (.iload_n 2, 1) := by decide +kernel
theorem dX3_fill_21 : decode cX3_fill 21 = .ok (.iadd, 1) := by decide +kernel
theorem dX3_fill_22 : decode cX3_fill 22 = .ok (.iastore, 1) := by decide +kernel
theorem dX3_fill_23 : decode cX3_fill 23 = .ok (.return_, 1) := by decide +kernel
theorem dX3_packs_0 : decode cX3_packs 0 = .ok (.iload_n 1, 1) := by decide +kernel
theorem dX3_packs_1 : decode cX3_packs 1 = .ok (.aload_n 0, 1) := by decide +kernel
theorem dX3_packs_2 : decode cX3_packs 2 = .ok (.getfield 18, 3) := by decide +kernel
theorem dX3_packs_5 : decode cX3_packs 5 = .ok (.if_icmp .lt 5, 3) := by decide +kernel
theorem dX3_packs_8 : decode cX3_packs 8 = .ok (.iconst 1, 1) := by decide +kernel
theorem dX3_packs_9 : decode cX3_packs 9 = .ok (.ireturn, 1) := by decide +kernel
theorem dX3_packs_10 : decode cX3_packs 10 = .ok (.aload_n 0, 1) := by decide +kernel
theorem dX3_packs_11 : decode cX3_packs 11 = .ok (.iload_n 1, 1) := by decide +kernel
theorem dX3_packs_12 : decode cX3_packs 12 = .ok (.invokevirtual 25, 3) := by decide +kernel
theorem dX3_packs_15 : decode cX3_packs 15 = .ok (.istore 4, 2) := by decide +kernel
theorem dX3_packs_17 : decode cX3_packs 17 = .ok (.aload_n 0, 1) := by decide +kernel
theorem dX3_packs_18 : decode cX3_packs 18 = .ok (.aload_n 0, 1) := by decide +kernel
theorem dX3_packs_19 : decode cX3_packs 19 = .ok (.getfield 18, 3) := by decide +kernel
theorem dX3_packs_22 : decode cX3_packs 22 = .ok (.iconst 1, 1) := by decide +kernel
theorem dX3_packs_23 : decode cX3_packs 23 = .ok (.isub, 1) := by decide +kernel
theorem dX3_packs_24 : decode cX3_packs 24 = .ok (.invokevirtual 25, 3) := by decide +kernel
theorem dX3_packs_27 : decode cX3_packs 27 = .ok (.istore 5, 2) := by decide +kernel
theorem dX3_packs_29 : decode cX3_packs 29 = .ok (.iconst 0, 1) := by decide +kernel
theorem dX3_packs_30 : decode cX3_packs 30 = .ok (.istore 6, 2) := by decide +kernel
theorem dX3_packs_32 : decode cX3_packs 32 = .ok (.iload 6, 2) := by decide +kernel
theorem dX3_packs_34 : decode cX3_packs 34 = .ok (.iload_n 2, 1) := by decide +kernel
theorem dX3_packs_35 : decode cX3_packs 35 = .ok (.if_icmp .ge 67, 3) := by decide +kernel
theorem dX3_packs_38 : decode cX3_packs 38 = .ok (.aload_n 0, 1) := by decide +kernel
theorem dX3_packs_39 : decode cX3_packs 39 = .ok (.iload 6, 2) := by decide +kernel
theorem dX3_packs_41 : decode cX3_packs 41 = .ok (.invokevirtual 29, 3) := by decide +kernel
theorem dX3_packs_44 : decode cX3_packs 44 = .ok (.istore 7, 2) := by decide +kernel
theorem dX3_packs_46 : decode cX3_packs 46 = .ok (.iload 7, 2) := by decide +kernel
theorem dX3_packs_48 : decode cX3_packs 48 = .ok (.iload 4, 2) := by decide +kernel
theorem dX3_packs_50 : decode cX3_packs 50 = .ok (.if_icmp .ge 6, 3) := by decide +kernel
theorem dX3_packs_53 : decode cX3_packs 53 = .ok (.goto 43, 3) := by decide +kernel
theorem dX3_packs_56 : decode cX3_packs 56 = .ok (.aload_n 0, 1) := by decide +kernel
theorem dX3_packs_57 : decode cX3_packs 57 = .ok (.iload 6, 2) := by decide +kernel
theorem dX3_packs_59 : decode cX3_packs 59 = .ok (.iload_n 1, 1) := by decide +kernel
theorem dX3_packs_60 : decode cX3_packs 60 = .ok (.iload_n 2, 1) := by decide +kernel
theorem dX3_packs_61 : decode cX3_packs 61 = .ok (.iload_n 3, 1) := by decide +kernel
theorem dX3_packs_62 : decode cX3_packs 62 = .ok (.invokevirtual 48, 3) := by decide +kernel
theorem dX3_packs_65 : decode cX3_packs 65 = .ok (.ifCond .eq 5, 3) := by decide +kernel
theorem dX3_packs_68 : decode cX3_packs 68 = .ok (.iconst 1, 1) := by decide +kernel
theorem dX3_packs_69 : decode cX3_packs 69 = .ok (.ireturn, 1) := by decide +kernel
theorem dX3_packs_70 : decode cX3_packs 70 = .ok (.iload 7, 2) := by decide +kernel
theorem dX3_packs_72 : decode cX3_packs 72 = .ok (.sipush 304, 3) := by decide +kernel
theorem dX3_packs_75 : decode cX3_packs 75 = .ok (.if_icmp .eq 19, 3) := by decide +kernel
theorem dX3_packs_78 : decode cX3_packs 78 = .ok (.iload 7, 2) := by decide +kernel
theorem dX3_packs_80 : decode cX3_packs 80 = .ok (.iload 4, 2) := by decide +kernel
theorem dX3_packs_82 : decode cX3_packs 82 = .ok (.if_icmp .eq 12, 3) := by decide +kernel
theorem dX3_packs_85 : decode cX3_packs 85 = .ok (.iload 7, 2) := by decide +kernel
theorem dX3_packs_87 : decode cX3_packs 87 = .ok (.iconst 2, 1) := by decide +kernel
theorem dX3_packs_88 : decode cX3_packs 88 = .ok (.iload 5, 2) := by decide +kernel
theorem dX3_packs_90 : decode cX3_packs 90 = .ok (.imul, 1) := by decide +kernel
theorem dX3_packs_91 : decode cX3_packs 91 = .ok (.if_icmp .ge 5, 3) := by decide +kernel
theorem dX3_packs_94 : decode cX3_packs 94 = .ok (.iconst 0, 1) := by decide +kernel
theorem dX3_packs_95 : decode cX3_packs 95 = .ok (.ireturn, 1) := by decide +kernel
theorem dX3_packs_96 : decode cX3_packs 96 = .ok (.iinc 6 1, 3) := by decide +kernel
theorem dX3_packs_99 : decode cX3_packs 99 = .ok (.goto (-67), 3) := by decide +kernel
theorem dX3_packs_102 : decode cX3_packs 102 = .ok (.iconst 0, 1) := by decide +kernel
theorem dX3_packs_103 : decode cX3_packs 103 = .ok (.ireturn, 1) := by decide +kernel
theorem dX3_packsOn_0 : decode cX3_packsOn 0 = .ok (.aload_n 0, 1) := by decide +kernel
theorem dX3_packsOn_1 : decode cX3_packsOn 1 = .ok (.iload_n 2, 1) := by decide +kernel
theorem dX3_packsOn_2 : decode cX3_packsOn 2 = .ok (.invokevirtual 25, 3) := by decide +kernel
theorem dX3_packsOn_5 : decode cX3_packsOn 5 = .ok (.istore 5, 2) := by decide +kernel
theorem dX3_packsOn_7 : decode cX3_packsOn 7 = .ok (.aload_n 0, 1) := by decide +kernel
theorem dX3_packsOn_8 : decode cX3_packsOn 8 = .ok (.iload_n 1, 1) := by decide +kernel
theorem dX3_packsOn_9 : decode cX3_packsOn 9 = .ok (.invokevirtual 29, 3) := by decide +kernel
theorem dX3_packsOn_12 : decode cX3_packsOn 12 = .ok (.iload 5, 2) := by decide +kernel
theorem dX3_packsOn_14 : decode cX3_packsOn 14 = .ok (.isub, 1) := by decide +kernel
theorem dX3_packsOn_15 : decode cX3_packsOn 15 = .ok (.istore 6, 2) := by decide +kernel
theorem dX3_packsOn_17 : decode cX3_packsOn 17 = .ok (.iload 6, 2) := by decide +kernel
theorem dX3_packsOn_19 : decode cX3_packsOn 19 = .ok (.aload_n 0, 1) := by decide +kernel
theorem dX3_packsOn_20 : decode cX3_packsOn 20 = .ok (.aload_n 0, 1) := by decide +kernel
theorem dX3_packsOn_21 : decode cX3_packsOn 21 = .ok (.getfield 18, 3) := by decide +kernel
theorem dX3_packsOn_24 : decode cX3_packsOn 24 = .ok (.iconst 1, 1) := by decide +kernel
theorem dX3_packsOn_25 : decode cX3_packsOn 25 = .ok (.isub, 1) := by decide +kernel
theorem dX3_packsOn_26 : decode cX3_packsOn 26 = .ok (.invokevirtual 25, 3) := by decide +kernel
theorem dX3_packsOn_29 : decode cX3_packsOn 29 = .ok (.if_icmp .ge 8, 3) := by decide +kernel
theorem dX3_packsOn_32 : decode cX3_packsOn 32 = .ok (.iload 6, 2) := by decide +kernel
theorem dX3_packsOn_34 : decode cX3_packsOn 34 = .ok (.goto 4, 3) := by decide +kernel
theorem dX3_packsOn_37 : decode cX3_packsOn 37 = .ok (.iconst 0, 1) := by decide +kernel
theorem dX3_packsOn_38 : decode cX3_packsOn 38 = .ok (.istore 7, 2) := by decide +kernel
theorem dX3_packsOn_40 : decode cX3_packsOn 40 = .ok (.iload 7, 2) := by decide +kernel
theorem dX3_packsOn_42 : decode cX3_packsOn 42 = .ok (.iload 4, 2) := by decide +kernel
theorem dX3_packsOn_44 : decode cX3_packsOn 44 = .ok (.if_icmp .le 5, 3) := by decide +kernel
theorem dX3_packsOn_47 : decode cX3_packsOn 47 = .ok (.iconst 0, 1) := by decide +kernel
theorem dX3_packsOn_48 : decode cX3_packsOn 48 = .ok (.ireturn, 1) := by decide +kernel
theorem dX3_packsOn_49 : decode cX3_packsOn 49 = .ok (.aload_n 0, 1) := by decide +kernel
theorem dX3_packsOn_50 : decode cX3_packsOn 50 = .ok (.iload_n 1, 1) := by decide +kernel
theorem dX3_packsOn_51 : decode cX3_packsOn 51 = .ok (.iload 5, 2) := by decide +kernel
theorem dX3_packsOn_53 : decode cX3_packsOn 53 = .ok (.invokevirtual 36, 3) := by decide +kernel
theorem dX3_packsOn_56 : decode cX3_packsOn 56 = .ok (.aload_n 0, 1) := by decide +kernel
theorem dX3_packsOn_57 : decode cX3_packsOn 57 = .ok (.iload_n 2, 1) := by decide +kernel
theorem dX3_packsOn_58 : decode cX3_packsOn 58 = .ok (.iconst 1, 1) := by decide +kernel
theorem dX3_packsOn_59 : decode cX3_packsOn 59 = .ok (.iadd, 1) := by decide +kernel
theorem dX3_packsOn_60 : decode cX3_packsOn 60 = .ok (.iload_n 3, 1) := by decide +kernel
theorem dX3_packsOn_61 : decode cX3_packsOn 61 = .ok (.iload 4, 2) := by decide +kernel
theorem dX3_packsOn_63 : decode cX3_packsOn 63 = .ok (.iload 7, 2) := by decide +kernel
theorem dX3_packsOn_65 : decode cX3_packsOn 65 = .ok (.isub, 1) := by decide +kernel
theorem dX3_packsOn_66 : decode cX3_packsOn 66 = .ok (.invokevirtual 44, 3) := by decide +kernel
theorem dX3_packsOn_69 : decode cX3_packsOn 69 = .ok (.istore 8, 2) := by decide +kernel
theorem dX3_packsOn_71 : decode cX3_packsOn 71 = .ok (.aload_n 0, 1) := by decide +kernel
theorem dX3_packsOn_72 : decode cX3_packsOn 72 = .ok (.iload_n 1, 1) := by decide +kernel
theorem dX3_packsOn_73 : decode cX3_packsOn 73 = .ok (.iload 5, 2) := by decide +kernel
theorem dX3_packsOn_75 : decode cX3_packsOn 75 = .ok (.ineg, 1) := by decide +kernel
theorem dX3_packsOn_76 : decode cX3_packsOn 76 = .ok (.invokevirtual 36, 3) := by decide +kernel
theorem dX3_packsOn_79 : decode cX3_packsOn 79 = .ok (.iload 8, 2) := by decide +kernel
theorem dX3_packsOn_81 : decode cX3_packsOn 81 = .ok (.ireturn, 1) := by decide +kernel
theorem dX4_init_0 : decode cX4_init 0 = .ok (.aload_n 0, 1) := by decide +kernel
theorem dX4_init_1 : decode cX4_init 1 = .ok (.invokespecial 3, 3) := by decide +kernel
theorem dX4_init_4 : decode cX4_init 4 = .ok (.aload_n 0, 1) := by decide +kernel
theorem dX4_init_5 : decode cX4_init 5 = .ok (.iconst 0, 1) := by decide +kernel
theorem dX4_init_6 : decode cX4_init 6 = .ok (.putfield 9, 3) := by decide +kernel
theorem dX4_init_9 : decode cX4_init 9 = .ok (.aload_n 0, 1) := by decide +kernel
theorem dX4_init_10 : decode cX4_init 10 = .ok (.bipush (-4), 2) := by decide +kernel
theorem dX4_init_12 : decode cX4_init 12 = .ok (.putfield 15, 3) := by decide +kernel
theorem dX4_init_15 : decode cX4_init 15 = .ok (.return_, 1) := by decide +kernel
theorem dX4_measure_0 : decode cX4_measure 0 = .ok (.aload_n 0, 1) := by decide +kernel
theorem dX4_measure_1 : decode cX4_measure 1 = .ok (.iload_n 1, 1) := by decide +kernel
theorem dX4_measure_2 : decode cX4_measure 2 = .ok (.putfield 18, 3) := by decide +kernel
theorem dX4_measure_5 : decode cX4_measure 5 = .ok (.aload_n 0, 1) := by decide +kernel
theorem dX4_measure_6 : decode cX4_measure 6 = .ok (.iload_n 2, 1) := by decide +kernel
theorem dX4_measure_7 : decode cX4_measure 7 = .ok (.putfield 21, 3) := by decide +kernel
theorem dX4_measure_10 : decode cX4_measure 10 = .ok (.aload_n 0, 1) := by decide +kernel
theorem dX4_measure_11 : decode cX4_measure 11 = .ok (.iload_n 3, 1) := by decide +kernel
theorem dX4_measure_12 : decode cX4_measure 12 = .ok (.putfield 24, 3) := by decide +kernel
theorem dX4_measure_15 : decode cX4_measure 15 = .ok (.return_, 1) := by decide +kernel
theorem dX4_isNow_0 : decode cX4_isNow 0 = .ok (.aload_n 0, 1) := by decide +kernel
theorem dX4_isNow_1 : decode cX4_isNow 1 = .ok (.iload_n 1, 1) := by decide +kernel
theorem dX4_isNow_2 : decode cX4_isNow 2 = .ok (.putfield 9, 3) := by decide +kernel
theorem dX4_isNow_5 : decode cX4_isNow 5 = .ok (.aload_n 0, 1) := by decide +kernel
theorem dX4_isNow_6 : decode cX4_isNow 6 = .ok (.iload_n 2, 1) := by decide +kernel
theorem dX4_isNow_7 : decode cX4_isNow 7 = .ok (.putfield 15, 3) := by decide +kernel
theorem dX4_isNow_10 : decode cX4_isNow 10 = .ok (.return_, 1) := by decide +kernel
theorem dX4_isStruck_0 : decode cX4_isStruck 0 = .ok (.aload_n 0, 1) := by decide +kernel
theorem dX4_isStruck_1 : decode cX4_isStruck 1 = .ok (.iconst 5, 1) := by decide +kernel
theorem dX4_isStruck_2 : decode cX4_isStruck 2 = .ok (.bipush (-4), 2) := by decide +kernel
theorem dX4_isStruck_4 : decode cX4_isStruck 4 = .ok (.invokevirtual 27, 3) := by decide +kernel
theorem dX4_isStruck_7 : decode cX4_isStruck 7 = .ok (.aload_n 0, 1) := by decide +kernel
theorem dX4_isStruck_8 : decode cX4_isStruck 8 = .ok (.iconst 0, 1) := by decide +kernel
theorem dX4_isStruck_9 : decode cX4_isStruck 9 = .ok (.putfield 31, 3) := by decide +kernel
theorem dX4_isStruck_12 : decode cX4_isStruck 12 = .ok (.return_, 1) := by decide +kernel
theorem dX5_init_0 : decode cX5_init 0 = .ok (.aload_n 0, 1) := by decide +kernel
theorem dX5_init_1 : decode cX5_init 1 = .ok (.invokespecial 3, 3) := by decide +kernel
theorem dX5_init_4 : decode cX5_init 4 = .ok (.aload_n 0, 1) := by decide +kernel
theorem dX5_init_5 : decode cX5_init 5 = .ok (.iconst 4, 1) := by decide +kernel
theorem dX5_init_6 : decode cX5_init 6 = .ok (.newarray .int, 2) := by decide +kernel
theorem dX5_init_8 : decode cX5_init 8 = .ok (.putfield 9, 3) := by decide +kernel
theorem dX5_init_11 : decode cX5_init 11 = .ok (.return_, 1) := by decide +kernel
theorem dX5_hasRoom_0 : decode cX5_hasRoom 0 = .ok (.aload_n 0, 1) := by decide +kernel
theorem dX5_hasRoom_1 : decode cX5_hasRoom 1 = .ok (.getfield 15, 3) := by decide +kernel
theorem dX5_hasRoom_4 : decode cX5_hasRoom 4 = .ok (.aload_n 0, 1) := by decide +kernel
theorem dX5_hasRoom_5 : decode cX5_hasRoom 5 = .ok (.getfield 9, 3) := by decide +kernel
theorem dX5_hasRoom_8 : decode cX5_hasRoom 8 = .ok (.arraylength, 1) := by decide +kernel
theorem dX5_hasRoom_9 : decode cX5_hasRoom 9 = .ok (.if_icmp .ge 7, 3) := by decide +kernel
theorem dX5_hasRoom_12 : decode cX5_hasRoom 12 = .ok (.iconst 1, 1) := by decide +kernel
theorem dX5_hasRoom_13 : decode cX5_hasRoom 13 = .ok (.goto 4, 3) := by decide +kernel
theorem dX5_hasRoom_16 : decode cX5_hasRoom 16 = .ok (.iconst 0, 1) := by decide +kernel
theorem dX5_hasRoom_17 : decode cX5_hasRoom 17 = .ok (.ireturn, 1) := by decide +kernel
theorem dX5_put_0 : decode cX5_put 0 = .ok (.aload_n 0, 1) := by decide +kernel
theorem dX5_put_1 : decode cX5_put 1 = .ok (.getfield 15, 3) := by decide +kernel
theorem dX5_put_4 : decode cX5_put 4 = .ok (.ifCond .lt 35, 3) := by decide +kernel
theorem dX5_put_7 : decode cX5_put 7 = .ok (.aload_n 0, 1) := by decide +kernel
theorem dX5_put_8 : decode cX5_put 8 = .ok (.getfield 15, 3) := by decide +kernel
theorem dX5_put_11 : decode cX5_put 11 = .ok (.aload_n 0, 1) := by decide +kernel
theorem dX5_put_12 : decode cX5_put 12 = .ok (.getfield 9, 3) := by decide +kernel
theorem dX5_put_15 : decode cX5_put 15 = .ok (.arraylength, 1) := by decide +kernel
theorem dX5_put_16 : decode cX5_put 16 = .ok (.if_icmp .ge 23, 3) := by decide +kernel
theorem dX5_put_19 : decode cX5_put 19 = .ok (.aload_n 0, 1) := by decide +kernel
theorem dX5_put_20 : decode cX5_put 20 = .ok (.getfield 9, 3) := by decide +kernel
theorem dX5_put_23 : decode cX5_put 23 = .ok (.aload_n 0, 1) := by decide +kernel
theorem dX5_put_24 : decode cX5_put 24 = .ok (.getfield 15, 3) := by decide +kernel
theorem dX5_put_27 : decode cX5_put 27 = .ok (.iload_n 1, 1) := by decide +kernel
theorem dX5_put_28 : decode cX5_put 28 = .ok (.iastore, 1) := by decide +kernel
theorem dX5_put_29 : decode cX5_put 29 = .ok (.aload_n 0, 1) := by decide +kernel
theorem dX5_put_30 : decode cX5_put 30 = .ok (.dup, 1) := by decide +kernel
theorem dX5_put_31 : decode cX5_put 31 = .ok (.getfield 15, 3) := by decide +kernel
theorem dX5_put_34 : decode cX5_put 34 = .ok (.iconst 1, 1) := by decide +kernel
theorem dX5_put_35 : decode cX5_put 35 = .ok (.iadd, 1) := by decide +kernel
theorem dX5_put_36 : decode cX5_put 36 = .ok (.putfield 15, 3) := by decide +kernel
theorem dX5_put_39 : decode cX5_put 39 = .ok (.return_, 1) := by decide +kernel
theorem dX5_from_0 : decode cX5_from 0 = .ok (.iload_n 1, 1) := by decide +kernel
theorem dX5_from_1 : decode cX5_from 1 = .ok (.ifCond .lt 20, 3) := by decide +kernel
theorem dX5_from_4 : decode cX5_from 4 = .ok (.iload_n 1, 1) := by decide +kernel
theorem dX5_from_5 : decode cX5_from 5 = .ok (.aload_n 0, 1) := by decide +kernel
theorem dX5_from_6 : decode cX5_from 6 = .ok (.getfield 15, 3) := by decide +kernel
theorem dX5_from_9 : decode cX5_from 9 = .ok (.if_icmp .ge 12, 3) := by decide +kernel
theorem dX5_from_12 : decode cX5_from 12 = .ok (.iload_n 1, 1) := by decide +kernel
theorem dX5_from_13 : decode cX5_from 13 = .ok (.aload_n 0, 1) := by decide +kernel
theorem dX5_from_14 : decode cX5_from 14 = .ok (.getfield 9, 3) := by decide +kernel
theorem dX5_from_17 : decode cX5_from 17 = .ok (.arraylength, 1) := by decide +kernel
theorem dX5_from_18 : decode cX5_from 18 = .ok (.if_icmp .lt 8, 3) := by decide +kernel
theorem dX5_from_21 : decode cX5_from 21 = .ok (.bipush (-4), 2) := by decide +kernel
theorem dX5_from_23 : decode cX5_from 23 = .ok (.goto 9, 3) := by decide +kernel
theorem dX5_from_26 : decode cX5_from 26 = .ok (.aload_n 0, 1) := by decide +kernel
theorem dX5_from_27 : decode cX5_from 27 = .ok (.getfield 9, 3) := by decide +kernel
theorem dX5_from_30 : decode cX5_from 30 = .ok (.iload_n 1, 1) := by decide +kernel
theorem dX5_from_31 : decode cX5_from 31 = .ok (.iaload, 1) := by decide +kernel
theorem dX5_from_32 : decode cX5_from 32 = .ok (.ireturn, 1) := by decide +kernel
theorem dX5_top_0 : decode cX5_top 0 = .ok (.aload_n 0, 1) := by decide +kernel
theorem dX5_top_1 : decode cX5_top 1 = .ok (.aload_n 0, 1) := by decide +kernel
theorem dX5_top_2 : decode cX5_top 2 = .ok (.getfield 15, 3) := by decide +kernel
theorem dX5_top_5 : decode cX5_top 5 = .ok (.iconst 1, 1) := by decide +kernel
theorem dX5_top_6 : decode cX5_top 6 = .ok (.isub, 1) := by decide +kernel
theorem dX5_top_7 : decode cX5_top 7 = .ok (.invokevirtual 19, 3) := by decide +kernel
theorem dX5_top_10 : decode cX5_top 10 = .ok (.ireturn, 1) := by decide +kernel
theorem dX5_holds_0 : decode cX5_holds 0 = .ok (.iconst 0, 1) := by decide +kernel
theorem dX5_holds_1 : decode cX5_holds 1 = .ok (.istore_n 2, 1) := by decide +kernel
theorem dX5_holds_2 : decode cX5_holds 2 = .ok (.iload_n 2, 1) := by decide +kernel
theorem dX5_holds_3 : decode cX5_holds 3 = .ok (.aload_n 0, 1) := by decide +kernel
theorem dX5_holds_4 : decode cX5_holds 4 = .ok (.getfield 15, 3) := by decide +kernel
theorem dX5_holds_7 : decode cX5_holds 7 = .ok (.if_icmp .ge 20, 3) := by decide +kernel
theorem dX5_holds_10 : decode cX5_holds 10 = .ok (.aload_n 0, 1) := by decide +kernel
theorem dX5_holds_11 : decode cX5_holds 11 = .ok (.iload_n 2, 1) := by decide +kernel
theorem dX5_holds_12 : decode cX5_holds 12 = .ok (.invokevirtual 19, 3) := by decide +kernel
theorem dX5_holds_15 : decode cX5_holds 15 = .ok (.iload_n 1, 1) := by decide +kernel
theorem dX5_holds_16 : decode cX5_holds 16 = .ok (.if_icmp .ne 5, 3) := by decide +kernel
theorem dX5_holds_19 : decode cX5_holds 19 = .ok (.iconst 1, 1) := by decide +kernel
theorem dX5_holds_20 : decode cX5_holds 20 = .ok (.ireturn, 1) := by decide +kernel
theorem dX5_holds_21 : decode cX5_holds 21 = .ok (.iinc 2 1, 3) := by decide +kernel
theorem dX5_holds_24 : decode cX5_holds 24 = .ok (.goto (-22), 3) := by decide +kernel
theorem dX5_holds_27 : decode cX5_holds 27 = .ok (.iconst 0, 1) := by decide +kernel
theorem dX5_holds_28 : decode cX5_holds 28 = .ok (.ireturn, 1) := by decide +kernel
theorem dX5_takeOff_0 : decode cX5_takeOff 0 = .ok (.aload_n 0, 1) := by decide +kernel
theorem dX5_takeOff_1 : decode cX5_takeOff 1 = .ok (.invokevirtual 23, 3) := by decide +kernel
theorem dX5_takeOff_4 : decode cX5_takeOff 4 = .ok (.istore_n 1, 1) := by decide +kernel
theorem dX5_takeOff_5 : decode cX5_takeOff 5 = .ok (.aload_n 0, 1) := by decide +kernel
theorem dX5_takeOff_6 : decode cX5_takeOff 6 = .ok (.getfield 15, 3) := by decide +kernel
theorem dX5_takeOff_9 : decode cX5_takeOff 9 = .ok (.ifCond .le 13, 3) := by decide +kernel
theorem dX5_takeOff_12 : decode cX5_takeOff 12 = .ok (.aload_n 0, 1) := by decide +kernel
theorem dX5_takeOff_13 : decode cX5_takeOff 13 = .ok (.dup, 1) := by decide +kernel
theorem dX5_takeOff_14 : decode cX5_takeOff 14 = .ok (.getfield 15, 3) := by decide +kernel
theorem dX5_takeOff_17 : decode cX5_takeOff 17 = .ok (.iconst 1, 1) := by decide +kernel
theorem dX5_takeOff_18 : decode cX5_takeOff 18 = .ok (.isub, 1) := by decide +kernel
theorem dX5_takeOff_19 : decode cX5_takeOff 19 = .ok (.putfield 15, 3) := by decide +kernel
theorem dX5_takeOff_22 : decode cX5_takeOff 22 = .ok (.iload_n 1, 1) := by decide +kernel
theorem dX5_takeOff_23 : decode cX5_takeOff 23 = .ok (.ireturn, 1) := by decide +kernel
theorem dX5_clear_0 : decode cX5_clear 0 = .ok (.aload_n 0, 1) := by decide +kernel
theorem dX5_clear_1 : decode cX5_clear 1 = .ok (.iconst 0, 1) := by decide +kernel
theorem dX5_clear_2 : decode cX5_clear 2 = .ok (.putfield 15, 3) := by decide +kernel
theorem dX5_clear_5 : decode cX5_clear 5 = .ok (.return_, 1) := by decide +kernel
theorem dX6_init_0 : decode cX6_init 0 = .ok (.aload_n 0, 1) := by decide +kernel
theorem dX6_init_1 : decode cX6_init 1 = .ok (.invokespecial 1, 3) := by decide +kernel
theorem dX6_init_4 : decode cX6_init 4 = .ok (.aload_n 0, 1) := by decide +kernel
theorem dX6_init_5 : decode cX6_init 5 = .ok (.bipush 40, 2) := by decide +kernel
theorem dX6_init_7 : decode cX6_init 7 = .ok (.anewarray 9, 3) := by decide +kernel
theorem dX6_init_10 : decode cX6_init 10 = .ok (.putfield 11, 3) := by decide +kernel
theorem dX6_init_13 : decode cX6_init 13 = .ok (.aload_n 0, 1) := by decide +kernel
theorem dX6_init_14 : decode cX6_init 14 = .ok (.iconst 3, 1) := by decide +kernel
theorem dX6_init_15 : decode cX6_init 15 = .ok (.anewarray 15, 3) := by decide +kernel
theorem dX6_init_18 : decode cX6_init 18 = .ok (.putfield 17, 3) := by decide +kernel
theorem dX6_init_21 : decode cX6_init 21 = .ok (.aload_n 0, 1) := by decide +kernel
theorem dX6_init_22 : decode cX6_init 22 = .ok (.iconst 5, 1) := by decide +kernel
theorem dX6_init_23 : decode cX6_init 23 = .ok (.anewarray 21, 3) := by decide +kernel
theorem dX6_init_26 : decode cX6_init 26 = .ok (.putfield 23, 3) := by decide +kernel
theorem dX6_init_29 : decode cX6_init 29 = .ok (.aload_n 0, 1) := by decide +kernel
theorem dX6_init_30 : decode cX6_init 30 = .ok (.new 27, 3) := by decide +kernel
theorem dX6_init_33 : decode cX6_init 33 = .ok (.dup, 1) := by decide +kernel
theorem dX6_init_34 : decode cX6_init 34 = .ok (.invokespecial 29, 3) := by decide +kernel
theorem dX6_init_37 : decode cX6_init 37 = .ok (.putfield 30, 3) := by decide +kernel
theorem dX6_init_40 : decode cX6_init 40 = .ok (.aload_n 0, 1) := by decide +kernel
theorem dX6_init_41 : decode cX6_init 41 = .ok (.new 34, 3) := by decide +kernel
theorem dX6_init_44 : decode cX6_init 44 = .ok (.dup, 1) := by decide +kernel
theorem dX6_init_45 : decode cX6_init 45 = .ok (.invokespecial 36, 3) := by decide +kernel
theorem dX6_init_48 : decode cX6_init 48 = .ok (.putfield 37, 3) := by decide +kernel
theorem dX6_init_51 : decode cX6_init 51 = .ok (.aload_n 0, 1) := by decide +kernel
theorem dX6_init_52 : decode cX6_init 52 = .ok (.new 41, 3) := by decide +kernel
theorem dX6_init_55 : decode cX6_init 55 = .ok (.dup, 1) := by decide +kernel
theorem dX6_init_56 : decode cX6_init 56 = .ok (.invokespecial 43, 3) := by decide +kernel
theorem dX6_init_59 : decode cX6_init 59 = .ok (.putfield 44, 3) := by decide +kernel
theorem dX6_init_62 : decode cX6_init 62 = .ok (.iconst 0, 1) := by decide +kernel
theorem dX6_init_63 : decode cX6_init 63 = .ok (.istore_n 1, 1) := by decide +kernel
theorem dX6_init_64 : decode cX6_init 64 = .ok (.iload_n 1, 1) := by decide +kernel
theorem dX6_init_65 : decode cX6_init 65 = .ok (.aload_n 0, 1) := by decide +kernel
theorem dX6_init_66 : decode cX6_init 66 = .ok (.getfield 11, 3) := by decide +kernel
theorem dX6_init_69 : decode cX6_init 69 = .ok (.arraylength, 1) := by decide +kernel
theorem dX6_init_70 : decode cX6_init 70 = .ok (.if_icmp .ge 22, 3) := by decide +kernel
theorem dX6_init_73 : decode cX6_init 73 = .ok (.aload_n 0, 1) := by decide +kernel
theorem dX6_init_74 : decode cX6_init 74 = .ok (.getfield 11, 3) := by decide +kernel
theorem dX6_init_77 : decode cX6_init 77 = .ok (.iload_n 1, 1) := by decide +kernel
theorem dX6_init_78 : decode cX6_init 78 = .ok (.new 9, 3) := by decide +kernel
theorem dX6_init_81 : decode cX6_init 81 = .ok (.dup, 1) := by decide +kernel
theorem dX6_init_82 : decode cX6_init 82 = .ok (.invokespecial 48, 3) := by decide +kernel
theorem dX6_init_85 : decode cX6_init 85 = .ok (.aastore, 1) := by decide +kernel
theorem dX6_init_86 : decode cX6_init 86 = .ok (.iinc 1 1, 3) := by decide +kernel
theorem dX6_init_89 : decode cX6_init 89 = .ok (.goto (-25), 3) := by decide +kernel
theorem dX6_init_92 : decode cX6_init 92 = .ok (.iconst 0, 1) := by decide +kernel
theorem dX6_init_93 : decode cX6_init 93 = .ok (.istore_n 1, 1) := by decide +kernel
theorem dX6_init_94 : decode cX6_init 94 = .ok (.iload_n 1, 1) := by decide +kernel
theorem dX6_init_95 : decode cX6_init 95 = .ok (.aload_n 0, 1) := by decide +kernel
theorem dX6_init_96 : decode cX6_init 96 = .ok (.getfield 17, 3) := by decide +kernel
theorem dX6_init_99 : decode cX6_init 99 = .ok (.arraylength, 1) := by decide +kernel
theorem dX6_init_100 : decode cX6_init 100 = .ok (.if_icmp .ge 22, 3) := by decide +kernel
theorem dX6_init_103 : decode cX6_init 103 = .ok (.aload_n 0, 1) := by decide +kernel
theorem dX6_init_104 : decode cX6_init 104 = .ok (.getfield 17, 3) := by decide +kernel
theorem dX6_init_107 : decode cX6_init 107 = .ok (.iload_n 1, 1) := by decide +kernel
theorem dX6_init_108 : decode cX6_init 108 = .ok (.new 15, 3) := by decide +kernel
theorem dX6_init_111 : decode cX6_init 111 = .ok (.dup, 1) := by decide +kernel
theorem dX6_init_112 : decode cX6_init 112 = .ok (.invokespecial 49, 3) := by decide +kernel
theorem dX6_init_115 : decode cX6_init 115 = .ok (.aastore, 1) := by decide +kernel
theorem dX6_init_116 : decode cX6_init 116 = .ok (.iinc 1 1, 3) := by decide +kernel
theorem dX6_init_119 : decode cX6_init 119 = .ok (.goto (-25), 3) := by decide +kernel
theorem dX6_init_122 : decode cX6_init 122 = .ok (.iconst 0, 1) := by decide +kernel
theorem dX6_init_123 : decode cX6_init 123 = .ok (.istore_n 1, 1) := by decide +kernel
theorem dX6_init_124 : decode cX6_init 124 = .ok (.iload_n 1, 1) := by decide +kernel
theorem dX6_init_125 : decode cX6_init 125 = .ok (.aload_n 0, 1) := by decide +kernel
theorem dX6_init_126 : decode cX6_init 126 = .ok (.getfield 23, 3) := by decide +kernel
theorem dX6_init_129 : decode cX6_init 129 = .ok (.arraylength, 1) := by decide +kernel
theorem dX6_init_130 : decode cX6_init 130 = .ok (.if_icmp .ge 22, 3) := by decide +kernel
theorem dX6_init_133 : decode cX6_init 133 = .ok (.aload_n 0, 1) := by decide +kernel
theorem dX6_init_134 : decode cX6_init 134 = .ok (.getfield 23, 3) := by decide +kernel
theorem dX6_init_137 : decode cX6_init 137 = .ok (.iload_n 1, 1) := by decide +kernel
theorem dX6_init_138 : decode cX6_init 138 = .ok (.new 21, 3) := by decide +kernel
theorem dX6_init_141 : decode cX6_init 141 = .ok (.dup, 1) := by decide +kernel
theorem dX6_init_142 : decode cX6_init 142 = .ok (.invokespecial 50, 3) := by decide +kernel
theorem dX6_init_145 : decode cX6_init 145 = .ok (.aastore, 1) := by decide +kernel
theorem dX6_init_146 : decode cX6_init 146 = .ok (.iinc 1 1, 3) := by decide +kernel
theorem dX6_init_149 : decode cX6_init 149 = .ok (.goto (-25), 3) := by decide +kernel
theorem dX6_init_152 : decode cX6_init 152 = .ok (.aload_n 0, 1) := by decide +kernel
theorem dX6_init_153 : decode cX6_init 153 = .ok (.bipush 15, 2) := by decide +kernel
theorem dX6_init_155 : decode cX6_init 155 = .ok (.putfield 51, 3) := by decide +kernel
theorem dX6_init_158 : decode cX6_init 158 = .ok (.return_, 1) := by decide +kernel
theorem dX6_part_0 : decode cX6_part 0 = .ok (.iload_n 1, 1) := by decide +kernel
theorem dX6_part_1 : decode cX6_part 1 = .ok (.iload_n 2, 1) := by decide +kernel
theorem dX6_part_2 : decode cX6_part 2 = .ok (.iload_n 3, 1) := by decide +kernel
theorem dX6_part_3 : decode cX6_part 3 = .ok (.invokestatic 55, 3) := by decide +kernel
theorem dX6_part_6 : decode cX6_part 6 = .ok (.ifCond .ne 5, 3) := by decide +kernel
theorem dX6_part_9 : decode cX6_part 9 = .ok (.iconst (-1), 1) := by decide +kernel
theorem dX6_part_10 : decode cX6_part 10 = .ok (.ireturn, 1) := by decide +kernel
theorem dX6_part_11 : decode cX6_part 11 = .ok (.aload_n 0, 1) := by decide +kernel
theorem dX6_part_12 : decode cX6_part 12 = .ok (.getfield 59, 3) := by decide +kernel
theorem dX6_part_15 : decode cX6_part 15 = .ok (.bipush 40, 2) := by decide +kernel
theorem dX6_part_17 : decode cX6_part 17 = .ok (.if_icmp .lt 6, 3) := by decide +kernel
theorem dX6_part_20 : decode cX6_part 20 = .ok (.bipush (-3), 2) := by decide +kernel
theorem dX6_part_22 : decode cX6_part 22 = .ok (.ireturn, 1) := by decide +kernel
theorem dX6_part_23 : decode cX6_part 23 = .ok (.aload_n 0, 1) := by decide +kernel
theorem dX6_part_24 : decode cX6_part 24 = .ok (.iload_n 1, 1) := by decide +kernel
theorem dX6_part_25 : decode cX6_part 25 = .ok (.iload_n 2, 1) := by decide +kernel
theorem dX6_part_26 : decode cX6_part 26 = .ok (.iload_n 3, 1) := by decide +kernel
theorem dX6_part_27 : decode cX6_part 27 = .ok (.iconst 0, 1) := by decide +kernel
theorem dX6_part_28 : decode cX6_part 28 = .ok (.invokevirtual 62, 3) := by decide +kernel
theorem dX6_part_31 : decode cX6_part 31 = .ok (.ireturn, 1) := by decide +kernel
theorem dX6_need_0 : decode cX6_need 0 = .ok (.aload_n 0, 1) := by decide +kernel
theorem dX6_need_1 : decode cX6_need 1 = .ok (.iload_n 1, 1) := by decide +kernel
theorem dX6_need_2 : decode cX6_need 2 = .ok (.invokevirtual 66, 3) := by decide +kernel
theorem dX6_need_5 : decode cX6_need 5 = .ok (.astore_n 3, 1) := by decide +kernel
theorem dX6_need_6 : decode cX6_need 6 = .ok (.aload_n 3, 1) := by decide +kernel
theorem dX6_need_7 : decode cX6_need 7 = .ok (.ifnull 14, 3) := by decide +kernel
theorem dX6_need_10 : decode cX6_need 10 = .ok (.iload_n 2, 1) := by decide +kernel
theorem dX6_need_11 : decode cX6_need 11 = .ok (.ifCond .lt 10, 3) := by decide +kernel
theorem dX6_need_14 : decode cX6_need 14 = .ok (.iload_n 2, 1) := by decide +kernel
theorem dX6_need_15 : decode cX6_need 15 = .ok (.sipush 1000, 3) := by decide +kernel
theorem dX6_need_18 : decode cX6_need 18 = .ok (.if_icmp .le 5, 3) := by decide +kernel
theorem dX6_need_21 : decode cX6_need 21 = .ok (.iconst (-1), 1) := by decide +kernel
theorem dX6_need_22 : decode cX6_need 22 = .ok (.ireturn, 1) := by decide +kernel
theorem dX6_need_23 : decode cX6_need 23 = .ok (.aload_n 3, 1) := by decide +kernel
theorem dX6_need_24 : decode cX6_need 24 = .ok (.getfield 70, 3) := by decide +kernel
theorem dX6_need_27 : decode cX6_need 27 = .ok (.istore 4, 2) := by decide +kernel
theorem dX6_need_29 : decode cX6_need 29 = .ok (.aload_n 3, 1) := by decide +kernel
theorem dX6_need_30 : decode cX6_need 30 = .ok (.iload_n 2, 1) := by decide +kernel
theorem dX6_need_31 : decode cX6_need 31 = .ok (.putfield 70, 3) := by decide +kernel
theorem dX6_need_34 : decode cX6_need 34 = .ok (.iload 4, 2) := by decide +kernel
theorem dX6_need_36 : decode cX6_need 36 = .ok (.ireturn, 1) := by decide +kernel
theorem dX6_casts_0 : decode cX6_casts 0 = .ok (.aload_n 0, 1) := by decide +kernel
theorem dX6_casts_1 : decode cX6_casts 1 = .ok (.iload_n 1, 1) := by decide +kernel
theorem dX6_casts_2 : decode cX6_casts 2 = .ok (.invokevirtual 66, 3) := by decide +kernel
theorem dX6_casts_5 : decode cX6_casts 5 = .ok (.ifnull 25, 3) := by decide +kernel
theorem dX6_casts_8 : decode cX6_casts 8 = .ok (.aload_n 0, 1) := by decide +kernel
theorem dX6_casts_9 : decode cX6_casts 9 = .ok (.iload_n 2, 1) := by decide +kernel
theorem dX6_casts_10 : decode cX6_casts 10 = .ok (.invokevirtual 66, 3) := by decide +kernel
theorem dX6_casts_13 : decode cX6_casts 13 = .ok (.ifnull 17, 3) := by decide +kernel
theorem dX6_casts_16 : decode cX6_casts 16 = .ok (.iload_n 1, 1) := by decide +kernel
theorem dX6_casts_17 : decode cX6_casts 17 = .ok (.iload_n 2, 1) := by decide +kernel
theorem dX6_casts_18 : decode cX6_casts 18 = .ok (.if_icmp .gt 12, 3) := by decide +kernel
theorem dX6_casts_21 : decode cX6_casts 21 = .ok (.iload_n 3, 1) := by decide +kernel
theorem dX6_casts_22 : decode cX6_casts 22 = .ok (.ifCond .lt 8, 3) := by decide +kernel
theorem dX6_casts_25 : decode cX6_casts 25 = .ok (.iload_n 3, 1) := by decide +kernel
theorem dX6_casts_26 : decode cX6_casts 26 = .ok (.iconst 1, 1) := by decide +kernel
theorem dX6_casts_27 : decode cX6_casts 27 = .ok (.if_icmp .le 5, 3) := by decide +kernel
theorem dX6_casts_30 : decode cX6_casts 30 = .ok (.iconst (-1), 1) := by decide +kernel
theorem dX6_casts_31 : decode cX6_casts 31 = .ok (.ireturn, 1) := by decide +kernel
theorem dX6_casts_32 : decode cX6_casts 32 = .ok (.iconst 0, 1) := by decide +kernel
theorem dX6_casts_33 : decode cX6_casts 33 = .ok (.istore 4, 2) := by decide +kernel
theorem dX6_casts_35 : decode cX6_casts 35 = .ok (.iload_n 1, 1) := by decide +kernel
theorem dX6_casts_36 : decode cX6_casts 36 = .ok (.istore 5, 2) := by decide +kernel
theorem dX6_casts_38 : decode cX6_casts 38 = .ok (.iload 5, 2) := by decide +kernel
theorem dX6_casts_40 : decode cX6_casts 40 = .ok (.iload_n 2, 1) := by decide +kernel
theorem dX6_casts_41 : decode cX6_casts 41 = .ok (.if_icmp .gt 24, 3) := by decide +kernel
theorem dX6_casts_44 : decode cX6_casts 44 = .ok (.aload_n 0, 1) := by decide +kernel
theorem dX6_casts_45 : decode cX6_casts 45 = .ok (.iload 5, 2) := by decide +kernel
theorem dX6_casts_47 : decode cX6_casts 47 = .ok (.invokevirtual 66, 3) := by decide +kernel
theorem dX6_casts_50 : decode cX6_casts 50 = .ok (.invokestatic 73, 3) := by decide +kernel
theorem dX6_casts_53 : decode cX6_casts 53 = .ok (.ifCond .eq 6, 3) := by decide +kernel
theorem dX6_casts_56 : decode cX6_casts 56 = .ok (.iinc 4 1, 3) := by decide +kernel
theorem dX6_casts_59 : decode cX6_casts 59 = .ok (.iinc 5 1, 3) := by decide +kernel
theorem dX6_casts_62 : decode cX6_casts 62 = .ok (.goto (-24), 3) := by decide +kernel
theorem dX6_casts_65 : decode cX6_casts 65 = .ok (.iload 4, 2) := by decide +kernel
theorem dX6_casts_67 : decode cX6_casts 67 = .ok (.bipush 12, 2) := by decide +kernel
theorem dX6_casts_69 : decode cX6_casts 69 = .ok (.if_icmp .le 5, 3) := by decide +kernel
theorem dX6_casts_72 : decode cX6_casts 72 = .ok (.iconst (-1), 1) := by decide +kernel
theorem dX6_casts_73 : decode cX6_casts 73 = .ok (.ireturn, 1) := by decide +kernel
theorem dX6_casts_74 : decode cX6_casts 74 = .ok (.iconst 0, 1) := by decide +kernel
theorem dX6_casts_75 : decode cX6_casts 75 = .ok (.istore 5, 2) := by decide +kernel
theorem dX6_casts_77 : decode cX6_casts 77 = .ok (.iconst 0, 1) := by decide +kernel
theorem dX6_casts_78 : decode cX6_casts 78 = .ok (.istore 6, 2) := by decide +kernel
theorem dX6_casts_80 : decode cX6_casts 80 = .ok (.iload 6, 2) := by decide +kernel
theorem dX6_casts_82 : decode cX6_casts 82 = .ok (.bipush 8, 2) := by decide +kernel
theorem dX6_casts_84 : decode cX6_casts 84 = .ok (.if_icmp .ge 43, 3) := by decide +kernel
theorem dX6_casts_87 : decode cX6_casts 87 = .ok (.aload_n 0, 1) := by decide +kernel
theorem dX6_casts_88 : decode cX6_casts 88 = .ok (.iload_n 1, 1) := by decide +kernel
theorem dX6_casts_89 : decode cX6_casts 89 = .ok (.iload_n 2, 1) := by decide +kernel
theorem dX6_casts_90 : decode cX6_casts 90 = .ok (.iload 6, 2) := by decide +kernel
theorem dX6_casts_92 : decode cX6_casts 92 = .ok (.invokevirtual 77, 3) := by decide +kernel
theorem dX6_casts_95 : decode cX6_casts 95 = .ok (.iload 5, 2) := by decide +kernel
theorem dX6_casts_97 : decode cX6_casts 97 = .ok (.iload_n 3, 1) := by decide +kernel
theorem dX6_casts_98 : decode cX6_casts 98 = .ok (.ifCond .ne 13, 3) := by decide +kernel
theorem dX6_casts_101 : decode cX6_casts 101 = .ok (.aload_n 0, 1) := by decide +kernel
theorem dX6_casts_102 : decode cX6_casts 102 = .ok (.getfield 37, 3) := by decide +kernel
theorem dX6_casts_105 : decode cX6_casts 105 = .ok (.invokevirtual 81, 3) := by decide +kernel
theorem dX6_casts_108 : decode cX6_casts 108 = .ok (.goto 10, 3) := by decide +kernel
theorem dX6_casts_111 : decode cX6_casts 111 = .ok (.aload_n 0, 1) := by decide +kernel
theorem dX6_casts_112 : decode cX6_casts 112 = .ok (.getfield 37, 3) := by decide +kernel
theorem dX6_casts_115 : decode cX6_casts 115 = .ok (.invokevirtual 85, 3) := by decide +kernel
theorem dX6_casts_118 : decode cX6_casts 118 = .ok (.iadd, 1) := by decide +kernel
theorem dX6_casts_119 : decode cX6_casts 119 = .ok (.istore 5, 2) := by decide +kernel
theorem dX6_casts_121 : decode cX6_casts 121 = .ok (.iinc 6 1, 3) := by decide +kernel
theorem dX6_casts_124 : decode cX6_casts 124 = .ok (.goto (-44), 3) := by decide +kernel
theorem dX6_casts_127 : decode cX6_casts 127 = .ok (.iload 5, 2) := by decide +kernel
theorem dX6_casts_129 : decode cX6_casts 129 = .ok (.ireturn, 1) := by decide +kernel
theorem dX6_cast_0 : decode cX6_cast 0 = .ok (.aload_n 0, 1) := by decide +kernel
theorem dX6_cast_1 : decode cX6_cast 1 = .ok (.iload_n 1, 1) := by decide +kernel
theorem dX6_cast_2 : decode cX6_cast 2 = .ok (.invokevirtual 88, 3) := by decide +kernel
theorem dX6_cast_5 : decode cX6_cast 5 = .ok (.astore 4, 2) := by decide +kernel
theorem dX6_cast_7 : decode cX6_cast 7 = .ok (.aload 4, 2) := by decide +kernel
theorem dX6_cast_9 : decode cX6_cast 9 = .ok (.ifnull 24, 3) := by decide +kernel
theorem dX6_cast_12 : decode cX6_cast 12 = .ok (.aload_n 0, 1) := by decide +kernel
theorem dX6_cast_13 : decode cX6_cast 13 = .ok (.iload_n 2, 1) := by decide +kernel
theorem dX6_cast_14 : decode cX6_cast 14 = .ok (.invokevirtual 66, 3) := by decide +kernel
theorem dX6_cast_17 : decode cX6_cast 17 = .ok (.ifnull 16, 3) := by decide +kernel
theorem dX6_cast_20 : decode cX6_cast 20 = .ok (.iload_n 3, 1) := by decide +kernel
theorem dX6_cast_21 : decode cX6_cast 21 = .ok (.ifCond .eq 12, 3) := by decide +kernel
theorem dX6_cast_24 : decode cX6_cast 24 = .ok (.aload_n 0, 1) := by decide +kernel
theorem dX6_cast_25 : decode cX6_cast 25 = .ok (.iload_n 2, 1) := by decide +kernel
theorem dX6_cast_26 : decode cX6_cast 26 = .ok (.iload_n 3, 1) := by decide +kernel
theorem dX6_cast_27 : decode cX6_cast 27 = .ok (.invokevirtual 92, 3) := by decide +kernel
theorem dX6_cast_30 : decode cX6_cast 30 = .ok (.ifCond .ne 5, 3) := by decide +kernel
theorem dX6_cast_33 : decode cX6_cast 33 = .ok (.iconst (-1), 1) := by decide +kernel
theorem dX6_cast_34 : decode cX6_cast 34 = .ok (.ireturn, 1) := by decide +kernel
theorem dX6_cast_35 : decode cX6_cast 35 = .ok (.aload 4, 2) := by decide +kernel
theorem dX6_cast_37 : decode cX6_cast 37 = .ok (.getfield 96, 3) := by decide +kernel
theorem dX6_cast_40 : decode cX6_cast 40 = .ok (.ifCond .gt 12, 3) := by decide +kernel
theorem dX6_cast_43 : decode cX6_cast 43 = .ok (.aload_n 0, 1) := by decide +kernel
theorem dX6_cast_44 : decode cX6_cast 44 = .ok (.iload_n 2, 1) := by decide +kernel
theorem dX6_cast_45 : decode cX6_cast 45 = .ok (.iload_n 3, 1) := by decide +kernel
theorem dX6_cast_46 : decode cX6_cast 46 = .ok (.invokevirtual 98, 3) := by decide +kernel
theorem dX6_cast_49 : decode cX6_cast 49 = .ok (.ifCond .ne 6, 3) := by decide +kernel
theorem dX6_cast_52 : decode cX6_cast 52 = .ok (.bipush (-2), 2) := by decide +kernel
theorem dX6_cast_54 : decode cX6_cast 54 = .ok (.ireturn, 1) := by decide +kernel
theorem dX6_cast_55 : decode cX6_cast 55 = .ok (.iconst 0, 1) := by decide +kernel
theorem dX6_cast_56 : decode cX6_cast 56 = .ok (.istore 5, 2) := by decide +kernel
theorem dX6_cast_58 : decode cX6_cast 58 = .ok (.iload 5, 2) := by decide +kernel
theorem dX6_cast_60 : decode cX6_cast 60 = .ok (.bipush 32, 2) := by decide +kernel
theorem dX6_cast_62 : decode cX6_cast 62 = .ok (.if_icmp .ge 54, 3) := by decide +kernel
theorem dX6_cast_65 : decode cX6_cast 65 = .ok (.aload_n 0, 1) := by decide +kernel
theorem dX6_cast_66 : decode cX6_cast 66 = .ok (.iload_n 2, 1) := by decide +kernel
theorem dX6_cast_67 : decode cX6_cast 67 = .ok (.iload 5, 2) := by decide +kernel
theorem dX6_cast_69 : decode cX6_cast 69 = .ok (.iadd, 1) := by decide +kernel
theorem dX6_cast_70 : decode cX6_cast 70 = .ok (.invokevirtual 66, 3) := by decide +kernel
theorem dX6_cast_73 : decode cX6_cast 73 = .ok (.astore 6, 2) := by decide +kernel
theorem dX6_cast_75 : decode cX6_cast 75 = .ok (.aload 6, 2) := by decide +kernel
theorem dX6_cast_77 : decode cX6_cast 77 = .ok (.ifnull 33, 3) := by decide +kernel
theorem dX6_cast_80 : decode cX6_cast 80 = .ok (.iload_n 3, 1) := by decide +kernel
theorem dX6_cast_81 : decode cX6_cast 81 = .ok (.iload 5, 2) := by decide +kernel
theorem dX6_cast_83 : decode cX6_cast 83 = .ok (.invokestatic 101, 3) := by decide +kernel
theorem dX6_cast_86 : decode cX6_cast 86 = .ok (.ifCond .eq 24, 3) := by decide +kernel
theorem dX6_cast_89 : decode cX6_cast 89 = .ok (.aload 6, 2) := by decide +kernel
theorem dX6_cast_91 : decode cX6_cast 91 = .ok (.iconst 1, 1) := by decide +kernel
theorem dX6_cast_92 : decode cX6_cast 92 = .ok (.iload_n 1, 1) := by decide +kernel
theorem dX6_cast_93 : decode cX6_cast 93 = .ok (.invokevirtual 104, 3) := by decide +kernel
theorem dX6_cast_96 : decode cX6_cast 96 = .ok (.aload 4, 2) := by decide +kernel
theorem dX6_cast_98 : decode cX6_cast 98 = .ok (.aload 6, 2) := by decide +kernel
theorem dX6_cast_100 : decode cX6_cast 100 = .ok (.getfield 108, 3) := by decide +kernel
theorem dX6_cast_103 : decode cX6_cast 103 = .ok (.aload_n 0, 1) := by decide +kernel
theorem dX6_cast_104 : decode cX6_cast 104 = .ok (.getfield 111, 3) := by decide +kernel
theorem dX6_cast_107 : decode cX6_cast 107 = .ok (.invokevirtual 114, 3) := by decide +kernel
theorem dX6_cast_110 : decode cX6_cast 110 = .ok (.iinc 5 1, 3) := by decide +kernel
theorem dX6_cast_113 : decode cX6_cast 113 = .ok (.goto (-55), 3) := by decide +kernel
theorem dX6_cast_116 : decode cX6_cast 116 = .ok (.aload_n 0, 1) := by decide +kernel
theorem dX6_cast_117 : decode cX6_cast 117 = .ok (.dup, 1) := by decide +kernel
theorem dX6_cast_118 : decode cX6_cast 118 = .ok (.getfield 117, 3) := by decide +kernel
theorem dX6_cast_121 : decode cX6_cast 121 = .ok (.iconst 1, 1) := by decide +kernel
theorem dX6_cast_122 : decode cX6_cast 122 = .ok (.iadd, 1) := by decide +kernel
theorem dX6_cast_123 : decode cX6_cast 123 = .ok (.putfield 117, 3) := by decide +kernel
theorem dX6_cast_126 : decode cX6_cast 126 = .ok (.aload 4, 2) := by decide +kernel
theorem dX6_cast_128 : decode cX6_cast 128 = .ok (.getfield 96, 3) := by decide +kernel
theorem dX6_cast_131 : decode cX6_cast 131 = .ok (.ireturn, 1) := by decide +kernel
theorem dX6_warmth_0 : decode cX6_warmth 0 = .ok (.iload_n 1, 1) := by decide +kernel
theorem dX6_warmth_1 : decode cX6_warmth 1 = .ok (.bipush (-20), 2) := by decide +kernel
theorem dX6_warmth_3 : decode cX6_warmth 3 = .ok (.if_icmp .lt 9, 3) := by decide +kernel
theorem dX6_warmth_6 : decode cX6_warmth 6 = .ok (.iload_n 1, 1) := by decide +kernel
theorem dX6_warmth_7 : decode cX6_warmth 7 = .ok (.bipush 60, 2) := by decide +kernel
theorem dX6_warmth_9 : decode cX6_warmth 9 = .ok (.if_icmp .le 6, 3) := by decide +kernel
theorem dX6_warmth_12 : decode cX6_warmth 12 = .ok (.bipush (-100), 2) := by decide +kernel
theorem dX6_warmth_14 : decode cX6_warmth 14 = .ok (.ireturn, 1) := by decide +kernel
theorem dX6_warmth_15 : decode cX6_warmth 15 = .ok (.aload_n 0, 1) := by decide +kernel
theorem dX6_warmth_16 : decode cX6_warmth 16 = .ok (.getfield 51, 3) := by decide +kernel
theorem dX6_warmth_19 : decode cX6_warmth 19 = .ok (.istore_n 2, 1) := by decide +kernel
theorem dX6_warmth_20 : decode cX6_warmth 20 = .ok (.aload_n 0, 1) := by decide +kernel
theorem dX6_warmth_21 : decode cX6_warmth 21 = .ok (.iload_n 1, 1) := by decide +kernel
theorem dX6_warmth_22 : decode cX6_warmth 22 = .ok (.putfield 51, 3) := by decide +kernel
theorem dX6_warmth_25 : decode cX6_warmth 25 = .ok (.iload_n 2, 1) := by decide +kernel
theorem dX6_warmth_26 : decode cX6_warmth 26 = .ok (.ireturn, 1) := by decide +kernel
theorem dX6_hours_0 : decode cX6_hours 0 = .ok (.iload_n 1, 1) := by decide +kernel
theorem dX6_hours_1 : decode cX6_hours 1 = .ok (.iconst 1, 1) := by decide +kernel
theorem dX6_hours_2 : decode cX6_hours 2 = .ok (.if_icmp .lt 10, 3) := by decide +kernel
theorem dX6_hours_5 : decode cX6_hours 5 = .ok (.iload_n 1, 1) := by decide +kernel
theorem dX6_hours_6 : decode cX6_hours 6 = .ok (.sipush 200, 3) := by decide +kernel
theorem dX6_hours_9 : decode cX6_hours 9 = .ok (.if_icmp .le 5, 3) := by decide +kernel
theorem dX6_hours_12 : decode cX6_hours 12 = .ok (.iconst (-1), 1) := by decide +kernel
theorem dX6_hours_13 : decode cX6_hours 13 = .ok (.ireturn, 1) := by decide +kernel
theorem dX6_hours_14 : decode cX6_hours 14 = .ok (.aload_n 0, 1) := by decide +kernel
theorem dX6_hours_15 : decode cX6_hours 15 = .ok (.getfield 111, 3) := by decide +kernel
theorem dX6_hours_18 : decode cX6_hours 18 = .ok (.iload_n 1, 1) := by decide +kernel
theorem dX6_hours_19 : decode cX6_hours 19 = .ok (.iadd, 1) := by decide +kernel
theorem dX6_hours_20 : decode cX6_hours 20 = .ok (.ldc 120, 2) := by decide +kernel
theorem dX6_hours_22 : decode cX6_hours 22 = .ok (.if_icmp .le 6, 3) := by decide +kernel
theorem dX6_hours_25 : decode cX6_hours 25 = .ok (.bipush (-3), 2) := by decide +kernel
theorem dX6_hours_27 : decode cX6_hours 27 = .ok (.ireturn, 1) := by decide +kernel
theorem dX6_hours_28 : decode cX6_hours 28 = .ok (.aload_n 0, 1) := by decide +kernel
theorem dX6_hours_29 : decode cX6_hours 29 = .ok (.dup, 1) := by decide +kernel
theorem dX6_hours_30 : decode cX6_hours 30 = .ok (.getfield 111, 3) := by decide +kernel
theorem dX6_hours_33 : decode cX6_hours 33 = .ok (.iload_n 1, 1) := by decide +kernel
theorem dX6_hours_34 : decode cX6_hours 34 = .ok (.iadd, 1) := by decide +kernel
theorem dX6_hours_35 : decode cX6_hours 35 = .ok (.putfield 111, 3) := by decide +kernel
theorem dX6_hours_38 : decode cX6_hours 38 = .ok (.iconst 0, 1) := by decide +kernel
theorem dX6_hours_39 : decode cX6_hours 39 = .ok (.aload_n 0, 1) := by decide +kernel
theorem dX6_hours_40 : decode cX6_hours 40 = .ok (.getfield 51, 3) := by decide +kernel
theorem dX6_hours_43 : decode cX6_hours 43 = .ok (.bipush 10, 2) := by decide +kernel
theorem dX6_hours_45 : decode cX6_hours 45 = .ok (.iadd, 1) := by decide +kernel
theorem dX6_hours_46 : decode cX6_hours 46 = .ok (.invokestatic 121, 3) := by decide +kernel
theorem dX6_hours_49 : decode cX6_hours 49 = .ok (.iload_n 1, 1) := by decide +kernel
theorem dX6_hours_50 : decode cX6_hours 50 = .ok (.imul, 1) := by decide +kernel
theorem dX6_hours_51 : decode cX6_hours 51 = .ok (.istore_n 2, 1) := by decide +kernel
theorem dX6_hours_52 : decode cX6_hours 52 = .ok (.iconst 0, 1) := by decide +kernel
theorem dX6_hours_53 : decode cX6_hours 53 = .ok (.istore_n 3, 1) := by decide +kernel
theorem dX6_hours_54 : decode cX6_hours 54 = .ok (.iload_n 3, 1) := by decide +kernel
theorem dX6_hours_55 : decode cX6_hours 55 = .ok (.iconst 3, 1) := by decide +kernel
theorem dX6_hours_56 : decode cX6_hours 56 = .ok (.if_icmp .ge 40, 3) := by decide +kernel
theorem dX6_hours_59 : decode cX6_hours 59 = .ok (.aload_n 0, 1) := by decide +kernel
theorem dX6_hours_60 : decode cX6_hours 60 = .ok (.iload_n 3, 1) := by decide +kernel
theorem dX6_hours_61 : decode cX6_hours 61 = .ok (.invokevirtual 88, 3) := by decide +kernel
theorem dX6_hours_64 : decode cX6_hours 64 = .ok (.astore 4, 2) := by decide +kernel
theorem dX6_hours_66 : decode cX6_hours 66 = .ok (.aload 4, 2) := by decide +kernel
theorem dX6_hours_68 : decode cX6_hours 68 = .ok (.ifnull 22, 3) := by decide +kernel
theorem dX6_hours_71 : decode cX6_hours 71 = .ok (.aload 4, 2) := by decide +kernel
theorem dX6_hours_73 : decode cX6_hours 73 = .ok (.getfield 96, 3) := by decide +kernel
theorem dX6_hours_76 : decode cX6_hours 76 = .ok (.ifCond .le 14, 3) := by decide +kernel
theorem dX6_hours_79 : decode cX6_hours 79 = .ok (.aload 4, 2) := by decide +kernel
theorem dX6_hours_81 : decode cX6_hours 81 = .ok (.dup, 1) := by decide +kernel
theorem dX6_hours_82 : decode cX6_hours 82 = .ok (.getfield 127, 3) := by decide +kernel
theorem dX6_hours_85 : decode cX6_hours 85 = .ok (.iload_n 2, 1) := by decide +kernel
theorem dX6_hours_86 : decode cX6_hours 86 = .ok (.iadd, 1) := by decide +kernel
theorem dX6_hours_87 : decode cX6_hours 87 = .ok (.putfield 127, 3) := by decide +kernel
theorem dX6_hours_90 : decode cX6_hours 90 = .ok (.iinc 3 1, 3) := by decide +kernel
theorem dX6_hours_93 : decode cX6_hours 93 = .ok (.goto (-39), 3) := by decide +kernel
theorem dX6_hours_96 : decode cX6_hours 96 = .ok (.aload_n 0, 1) := by decide +kernel
theorem dX6_hours_97 : decode cX6_hours 97 = .ok (.getfield 111, 3) := by decide +kernel
theorem dX6_hours_100 : decode cX6_hours 100 = .ok (.ireturn, 1) := by decide +kernel
theorem dX6_letGo_0 : decode cX6_letGo 0 = .ok (.aload_n 0, 1) := by decide +kernel
theorem dX6_letGo_1 : decode cX6_letGo 1 = .ok (.iload_n 1, 1) := by decide +kernel
theorem dX6_letGo_2 : decode cX6_letGo 2 = .ok (.invokevirtual 88, 3) := by decide +kernel
theorem dX6_letGo_5 : decode cX6_letGo 5 = .ok (.astore_n 2, 1) := by decide +kernel
theorem dX6_letGo_6 : decode cX6_letGo 6 = .ok (.aload_n 2, 1) := by decide +kernel
theorem dX6_letGo_7 : decode cX6_letGo 7 = .ok (.ifnonnull 5, 3) := by decide +kernel
theorem dX6_letGo_10 : decode cX6_letGo 10 = .ok (.iconst (-1), 1) := by decide +kernel
theorem dX6_letGo_11 : decode cX6_letGo 11 = .ok (.ireturn, 1) := by decide +kernel
theorem dX6_letGo_12 : decode cX6_letGo 12 = .ok (.aload_n 2, 1) := by decide +kernel
theorem dX6_letGo_13 : decode cX6_letGo 13 = .ok (.getfield 96, 3) := by decide +kernel
theorem dX6_letGo_16 : decode cX6_letGo 16 = .ok (.ifCond .eq 27, 3) := by decide +kernel
theorem dX6_letGo_19 : decode cX6_letGo 19 = .ok (.aload_n 2, 1) := by decide +kernel
theorem dX6_letGo_20 : decode cX6_letGo 20 = .ok (.getfield 127, 3) := by decide +kernel
theorem dX6_letGo_23 : decode cX6_letGo 23 = .ok (.sipush 500, 3) := by decide +kernel
theorem dX6_letGo_26 : decode cX6_letGo 26 = .ok (.if_icmp .lt 17, 3) := by decide +kernel
theorem dX6_letGo_29 : decode cX6_letGo 29 = .ok (.aload_n 0, 1) := by decide +kernel
theorem dX6_letGo_30 : decode cX6_letGo 30 = .ok (.getfield 111, 3) := by decide +kernel
theorem dX6_letGo_33 : decode cX6_letGo 33 = .ok (.aload_n 2, 1) := by decide +kernel
theorem dX6_letGo_34 : decode cX6_letGo 34 = .ok (.getfield 130, 3) := by decide +kernel
theorem dX6_letGo_37 : decode cX6_letGo 37 = .ok (.isub, 1) := by decide +kernel
theorem dX6_letGo_38 : decode cX6_letGo 38 = .ok (.bipush 12, 2) := by decide +kernel
theorem dX6_letGo_40 : decode cX6_letGo 40 = .ok (.if_icmp .ge 6, 3) := by decide +kernel
theorem dX6_letGo_43 : decode cX6_letGo 43 = .ok (.bipush (-2), 2) := by decide +kernel
theorem dX6_letGo_45 : decode cX6_letGo 45 = .ok (.ireturn, 1) := by decide +kernel
theorem dX6_letGo_46 : decode cX6_letGo 46 = .ok (.iconst 0, 1) := by decide +kernel
theorem dX6_letGo_47 : decode cX6_letGo 47 = .ok (.istore_n 3, 1) := by decide +kernel
theorem dX6_letGo_48 : decode cX6_letGo 48 = .ok (.iconst 0, 1) := by decide +kernel
theorem dX6_letGo_49 : decode cX6_letGo 49 = .ok (.istore 4, 2) := by decide +kernel
theorem dX6_letGo_51 : decode cX6_letGo 51 = .ok (.iload 4, 2) := by decide +kernel
theorem dX6_letGo_53 : decode cX6_letGo 53 = .ok (.aload_n 0, 1) := by decide +kernel
theorem dX6_letGo_54 : decode cX6_letGo 54 = .ok (.getfield 59, 3) := by decide +kernel
theorem dX6_letGo_57 : decode cX6_letGo 57 = .ok (.if_icmp .ge 84, 3) := by decide +kernel
theorem dX6_letGo_60 : decode cX6_letGo 60 = .ok (.aload_n 0, 1) := by decide +kernel
theorem dX6_letGo_61 : decode cX6_letGo 61 = .ok (.iload 4, 2) := by decide +kernel
theorem dX6_letGo_63 : decode cX6_letGo 63 = .ok (.invokevirtual 66, 3) := by decide +kernel
theorem dX6_letGo_66 : decode cX6_letGo 66 = .ok (.astore 5, 2) := by decide +kernel
theorem dX6_letGo_68 : decode cX6_letGo 68 = .ok (.aload 5, 2) := by decide +kernel
theorem dX6_letGo_70 : decode cX6_letGo 70 = .ok (.ifnull 65, 3) := by decide +kernel
theorem dX6_letGo_73 : decode cX6_letGo 73 = .ok (.aload 5, 2) := by decide +kernel
theorem dX6_letGo_75 : decode cX6_letGo 75 = .ok (.getfield 133, 3) := by decide +kernel
theorem dX6_letGo_78 : decode cX6_letGo 78 = .ok (.iconst 1, 1) := by decide +kernel
theorem dX6_letGo_79 : decode cX6_letGo 79 = .ok (.if_icmp .ne 56, 3) := by decide +kernel
theorem dX6_letGo_82 : decode cX6_letGo 82 = .ok (.aload 5, 2) := by decide +kernel
theorem dX6_letGo_84 : decode cX6_letGo 84 = .ok (.getfield 136, 3) := by decide +kernel
theorem dX6_letGo_87 : decode cX6_letGo 87 = .ok (.iload_n 1, 1) := by decide +kernel
theorem dX6_letGo_88 : decode cX6_letGo 88 = .ok (.if_icmp .eq 6, 3) := by decide +kernel
theorem dX6_letGo_91 : decode cX6_letGo 91 = .ok (.goto 44, 3) := by decide +kernel
theorem dX6_letGo_94 : decode cX6_letGo 94 = .ok (.aload 5, 2) := by decide +kernel
theorem dX6_letGo_96 : decode cX6_letGo 96 = .ok (.aload 5, 2) := by decide +kernel
theorem dX6_letGo_98 : decode cX6_letGo 98 = .ok (.aload_n 2, 1) := by decide +kernel
theorem dX6_letGo_99 : decode cX6_letGo 99 = .ok (.getfield 127, 3) := by decide +kernel
theorem dX6_letGo_102 : decode cX6_letGo 102 = .ok (.invokestatic 139, 3) := by decide +kernel
theorem dX6_letGo_105 : decode cX6_letGo 105 = .ok (.putfield 143, 3) := by decide +kernel
theorem dX6_letGo_108 : decode cX6_letGo 108 = .ok (.aload 5, 2) := by decide +kernel
theorem dX6_letGo_110 : decode cX6_letGo 110 = .ok (.getfield 146, 3) := by decide +kernel
theorem dX6_letGo_113 : decode cX6_letGo 113 = .ok (.ifCond .eq 11, 3) := by decide +kernel
theorem dX6_letGo_116 : decode cX6_letGo 116 = .ok (.aload 5, 2) := by decide +kernel
theorem dX6_letGo_118 : decode cX6_letGo 118 = .ok (.invokevirtual 150, 3) := by decide +kernel
theorem dX6_letGo_121 : decode cX6_letGo 121 = .ok (.goto 14, 3) := by decide +kernel
theorem dX6_letGo_124 : decode cX6_letGo 124 = .ok (.aload 5, 2) := by decide +kernel
theorem dX6_letGo_126 : decode cX6_letGo 126 = .ok (.iconst 2, 1) := by decide +kernel
theorem dX6_letGo_127 : decode cX6_letGo 127 = .ok (.bipush (-4), 2) := by decide +kernel
theorem dX6_letGo_129 : decode cX6_letGo 129 = .ok (.invokevirtual 104, 3) := by decide +kernel
theorem dX6_letGo_132 : decode cX6_letGo 132 = .ok (.iinc 3 1, 3) := by decide +kernel
theorem dX6_letGo_135 : decode cX6_letGo 135 = .ok (.iinc 4 1, 3) := by decide +kernel
theorem dX6_letGo_138 : decode cX6_letGo 138 = .ok (.goto (-87), 3) := by decide +kernel
theorem dX6_letGo_141 : decode cX6_letGo 141 = .ok (.aload_n 2, 1) := by decide +kernel
theorem dX6_letGo_142 : decode cX6_letGo 142 = .ok (.invokevirtual 153, 3) := by decide +kernel
theorem dX6_letGo_145 : decode cX6_letGo 145 = .ok (.iload_n 3, 1) := by decide +kernel
theorem dX6_letGo_146 : decode cX6_letGo 146 = .ok (.ireturn, 1) := by decide +kernel
theorem dX6_stack_0 : decode cX6_stack 0 = .ok (.aload_n 0, 1) := by decide +kernel
theorem dX6_stack_1 : decode cX6_stack 1 = .ok (.iload_n 1, 1) := by decide +kernel
theorem dX6_stack_2 : decode cX6_stack 2 = .ok (.invokevirtual 66, 3) := by decide +kernel
theorem dX6_stack_5 : decode cX6_stack 5 = .ok (.astore_n 3, 1) := by decide +kernel
theorem dX6_stack_6 : decode cX6_stack 6 = .ok (.aload_n 0, 1) := by decide +kernel
theorem dX6_stack_7 : decode cX6_stack 7 = .ok (.iload_n 2, 1) := by decide +kernel
theorem dX6_stack_8 : decode cX6_stack 8 = .ok (.invokevirtual 156, 3) := by decide +kernel
theorem dX6_stack_11 : decode cX6_stack 11 = .ok (.astore 4, 2) := by decide +kernel
theorem dX6_stack_13 : decode cX6_stack 13 = .ok (.aload_n 3, 1) := by decide +kernel
theorem dX6_stack_14 : decode cX6_stack 14 = .ok (.ifnull 8, 3) := by decide +kernel
theorem dX6_stack_17 : decode cX6_stack 17 = .ok (.aload 4, 2) := by decide +kernel
theorem dX6_stack_19 : decode cX6_stack 19 = .ok (.ifnonnull 5, 3) := by decide +kernel
theorem dX6_stack_22 : decode cX6_stack 22 = .ok (.iconst (-1), 1) := by decide +kernel
theorem dX6_stack_23 : decode cX6_stack 23 = .ok (.ireturn, 1) := by decide +kernel
theorem dX6_stack_24 : decode cX6_stack 24 = .ok (.aload_n 3, 1) := by decide +kernel
theorem dX6_stack_25 : decode cX6_stack 25 = .ok (.getfield 133, 3) := by decide +kernel
theorem dX6_stack_28 : decode cX6_stack 28 = .ok (.iconst 2, 1) := by decide +kernel
theorem dX6_stack_29 : decode cX6_stack 29 = .ok (.if_icmp .eq 6, 3) := by decide +kernel
theorem dX6_stack_32 : decode cX6_stack 32 = .ok (.bipush (-2), 2) := by decide +kernel
theorem dX6_stack_34 : decode cX6_stack 34 = .ok (.ireturn, 1) := by decide +kernel
theorem dX6_stack_35 : decode cX6_stack 35 = .ok (.aload 4, 2) := by decide +kernel
theorem dX6_stack_37 : decode cX6_stack 37 = .ok (.invokevirtual 160, 3) := by decide +kernel
theorem dX6_stack_40 : decode cX6_stack 40 = .ok (.ifCond .ne 6, 3) := by decide +kernel
theorem dX6_stack_43 : decode cX6_stack 43 = .ok (.bipush (-3), 2) := by decide +kernel
theorem dX6_stack_45 : decode cX6_stack 45 = .ok (.ireturn, 1) := by decide +kernel
theorem dX6_stack_46 : decode cX6_stack 46 = .ok (.aload 4, 2) := by decide +kernel
theorem dX6_stack_48 : decode cX6_stack 48 = .ok (.iload_n 1, 1) := by decide +kernel
theorem dX6_stack_49 : decode cX6_stack 49 = .ok (.invokevirtual 164, 3) := by decide +kernel
theorem dX6_stack_52 : decode cX6_stack 52 = .ok (.aload_n 3, 1) := by decide +kernel
theorem dX6_stack_53 : decode cX6_stack 53 = .ok (.iconst 3, 1) := by decide +kernel
theorem dX6_stack_54 : decode cX6_stack 54 = .ok (.iload_n 2, 1) := by decide +kernel
theorem dX6_stack_55 : decode cX6_stack 55 = .ok (.invokevirtual 104, 3) := by decide +kernel
theorem dX6_stack_58 : decode cX6_stack 58 = .ok (.aload 4, 2) := by decide +kernel
theorem dX6_stack_60 : decode cX6_stack 60 = .ok (.getfield 168, 3) := by decide +kernel
theorem dX6_stack_63 : decode cX6_stack 63 = .ok (.ireturn, 1) := by decide +kernel
theorem dX6_move_0 : decode cX6_move 0 = .ok (.aload_n 0, 1) := by decide +kernel
theorem dX6_move_1 : decode cX6_move 1 = .ok (.iload_n 1, 1) := by decide +kernel
theorem dX6_move_2 : decode cX6_move 2 = .ok (.invokevirtual 156, 3) := by decide +kernel
theorem dX6_move_5 : decode cX6_move 5 = .ok (.astore_n 3, 1) := by decide +kernel
theorem dX6_move_6 : decode cX6_move 6 = .ok (.aload_n 0, 1) := by decide +kernel
theorem dX6_move_7 : decode cX6_move 7 = .ok (.iload_n 2, 1) := by decide +kernel
theorem dX6_move_8 : decode cX6_move 8 = .ok (.invokevirtual 156, 3) := by decide +kernel
theorem dX6_move_11 : decode cX6_move 11 = .ok (.astore 4, 2) := by decide +kernel
theorem dX6_move_13 : decode cX6_move 13 = .ok (.aload_n 3, 1) := by decide +kernel
theorem dX6_move_14 : decode cX6_move 14 = .ok (.ifnull 13, 3) := by decide +kernel
theorem dX6_move_17 : decode cX6_move 17 = .ok (.aload 4, 2) := by decide +kernel
theorem dX6_move_19 : decode cX6_move 19 = .ok (.ifnull 8, 3) := by decide +kernel
theorem dX6_move_22 : decode cX6_move 22 = .ok (.iload_n 1, 1) := by decide +kernel
theorem dX6_move_23 : decode cX6_move 23 = .ok (.iload_n 2, 1) := by decide +kernel
theorem dX6_move_24 : decode cX6_move 24 = .ok (.if_icmp .ne 5, 3) := by decide +kernel
theorem dX6_move_27 : decode cX6_move 27 = .ok (.iconst (-1), 1) := by decide +kernel
theorem dX6_move_28 : decode cX6_move 28 = .ok (.ireturn, 1) := by decide +kernel
theorem dX6_move_29 : decode cX6_move 29 = .ok (.aload_n 0, 1) := by decide +kernel
theorem dX6_move_30 : decode cX6_move 30 = .ok (.aload_n 3, 1) := by decide +kernel
theorem dX6_move_31 : decode cX6_move 31 = .ok (.invokevirtual 171, 3) := by decide +kernel
theorem dX6_move_34 : decode cX6_move 34 = .ok (.invokevirtual 66, 3) := by decide +kernel
theorem dX6_move_37 : decode cX6_move 37 = .ok (.astore 5, 2) := by decide +kernel
theorem dX6_move_39 : decode cX6_move 39 = .ok (.aload 5, 2) := by decide +kernel
theorem dX6_move_41 : decode cX6_move 41 = .ok (.ifnonnull 6, 3) := by decide +kernel
theorem dX6_move_44 : decode cX6_move 44 = .ok (.bipush (-2), 2) := by decide +kernel
theorem dX6_move_46 : decode cX6_move 46 = .ok (.ireturn, 1) := by decide +kernel
theorem dX6_move_47 : decode cX6_move 47 = .ok (.aload 4, 2) := by decide +kernel
theorem dX6_move_49 : decode cX6_move 49 = .ok (.invokevirtual 160, 3) := by decide +kernel
theorem dX6_move_52 : decode cX6_move 52 = .ok (.ifCond .ne 6, 3) := by decide +kernel
theorem dX6_move_55 : decode cX6_move 55 = .ok (.bipush (-3), 2) := by decide +kernel
theorem dX6_move_57 : decode cX6_move 57 = .ok (.ireturn, 1) := by decide +kernel
theorem dX6_move_58 : decode cX6_move 58 = .ok (.aload_n 3, 1) := by decide +kernel
theorem dX6_move_59 : decode cX6_move 59 = .ok (.invokevirtual 174, 3) := by decide +kernel
theorem dX6_move_62 : decode cX6_move 62 = .ok (.istore 6, 2) := by decide +kernel
theorem dX6_move_64 : decode cX6_move 64 = .ok (.aload 4, 2) := by decide +kernel
theorem dX6_move_66 : decode cX6_move 66 = .ok (.iload 6, 2) := by decide +kernel
theorem dX6_move_68 : decode cX6_move 68 = .ok (.invokevirtual 164, 3) := by decide +kernel
theorem dX6_move_71 : decode cX6_move 71 = .ok (.aload 5, 2) := by decide +kernel
theorem dX6_move_73 : decode cX6_move 73 = .ok (.iconst 3, 1) := by decide +kernel
theorem dX6_move_74 : decode cX6_move 74 = .ok (.iload_n 2, 1) := by decide +kernel
theorem dX6_move_75 : decode cX6_move 75 = .ok (.invokevirtual 104, 3) := by decide +kernel
theorem dX6_move_78 : decode cX6_move 78 = .ok (.aload_n 0, 1) := by decide +kernel
theorem dX6_move_79 : decode cX6_move 79 = .ok (.aload_n 3, 1) := by decide +kernel
theorem dX6_move_80 : decode cX6_move 80 = .ok (.invokevirtual 177, 3) := by decide +kernel
theorem dX6_move_83 : decode cX6_move 83 = .ok (.iload 6, 2) := by decide +kernel
theorem dX6_move_85 : decode cX6_move 85 = .ok (.ireturn, 1) := by decide +kernel
theorem dX6_diggings_0 : decode cX6_diggings 0 = .ok (.iload_n 1, 1) := by decide +kernel
theorem dX6_diggings_1 : decode cX6_diggings 1 = .ok (.ifCond .lt 20, 3) := by decide +kernel
theorem dX6_diggings_4 : decode cX6_diggings 4 = .ok (.iload_n 1, 1) := by decide +kernel
theorem dX6_diggings_5 : decode cX6_diggings 5 = .ok (.bipush 6, 2) := by decide +kernel
theorem dX6_diggings_7 : decode cX6_diggings 7 = .ok (.if_icmp .gt 14, 3) := by decide +kernel
theorem dX6_diggings_10 : decode cX6_diggings 10 = .ok (.lload_n 2, 1) := by decide +kernel
theorem dX6_diggings_11 : decode cX6_diggings 11 = .ok (.iload_n 1, 1) := by decide +kernel
theorem dX6_diggings_12 : decode cX6_diggings 12 = .ok (.bipush 6, 2) := by decide +kernel
theorem dX6_diggings_14 : decode cX6_diggings 14 = .ok (.imul, 1) := by decide +kernel
theorem dX6_diggings_15 : decode cX6_diggings 15 = .ok (.lushr, 1) := by decide +kernel
theorem dX6_diggings_16 : decode cX6_diggings 16 = .ok (.lconst 0, 1) := by decide +kernel
theorem dX6_diggings_17 : decode cX6_diggings 17 = .ok (.lcmp, 1) := by decide +kernel
theorem dX6_diggings_18 : decode cX6_diggings 18 = .ok (.ifCond .eq 5, 3) := by decide +kernel
theorem dX6_diggings_21 : decode cX6_diggings 21 = .ok (.iconst (-1), 1) := by decide +kernel
theorem dX6_diggings_22 : decode cX6_diggings 22 = .ok (.ireturn, 1) := by decide +kernel
theorem dX6_diggings_23 : decode cX6_diggings 23 = .ok (.aload_n 0, 1) := by decide +kernel
theorem dX6_diggings_24 : decode cX6_diggings 24 = .ok (.getfield 44, 3) := by decide +kernel
theorem dX6_diggings_27 : decode cX6_diggings 27 = .ok (.invokevirtual 181, 3) := by decide +kernel
theorem dX6_diggings_30 : decode cX6_diggings 30 = .ok (.iconst 0, 1) := by decide +kernel
theorem dX6_diggings_31 : decode cX6_diggings 31 = .ok (.istore 4, 2) := by decide +kernel
theorem dX6_diggings_33 : decode cX6_diggings 33 = .ok (.iload 4, 2) := by decide +kernel
theorem dX6_diggings_35 : decode cX6_diggings 35 = .ok (.iload_n 1, 1) := by decide +kernel
theorem dX6_diggings_36 : decode cX6_diggings 36 = .ok (.if_icmp .ge 40, 3) := by decide +kernel
theorem dX6_diggings_39 : decode cX6_diggings 39 = .ok (.lload_n 2, 1) := by decide +kernel
theorem dX6_diggings_40 : decode cX6_diggings 40 = .ok (.iload 4, 2) := by decide +kernel
theorem dX6_diggings_42 : decode cX6_diggings 42 = .ok (.invokestatic 182, 3) := by decide +kernel
theorem dX6_diggings_45 : decode cX6_diggings 45 = .ok (.istore 5, 2) := by decide +kernel
theorem dX6_diggings_47 : decode cX6_diggings 47 = .ok (.aload_n 0, 1) := by decide +kernel
theorem dX6_diggings_48 : decode cX6_diggings 48 = .ok (.iload 5, 2) := by decide +kernel
theorem dX6_diggings_50 : decode cX6_diggings 50 = .ok (.invokevirtual 66, 3) := by decide +kernel
theorem dX6_diggings_53 : decode cX6_diggings 53 = .ok (.ifnull 15, 3) := by decide +kernel
theorem dX6_diggings_56 : decode cX6_diggings 56 = .ok (.aload_n 0, 1) := by decide +kernel
theorem dX6_diggings_57 : decode cX6_diggings 57 = .ok (.getfield 44, 3) := by decide +kernel
theorem dX6_diggings_60 : decode cX6_diggings 60 = .ok (.iload 5, 2) := by decide +kernel
theorem dX6_diggings_62 : decode cX6_diggings 62 = .ok (.invokevirtual 186, 3) := by decide +kernel
theorem dX6_diggings_65 : decode cX6_diggings 65 = .ok (.ifCond .ne 5, 3) := by decide +kernel
theorem dX6_diggings_68 : decode cX6_diggings 68 = .ok (.iconst (-1), 1) := by decide +kernel
theorem dX6_diggings_69 : decode cX6_diggings 69 = .ok (.ireturn, 1) := by decide +kernel
theorem dX6_diggings_70 : decode cX6_diggings 70 = .ok (.iinc 4 1, 3) := by decide +kernel
theorem dX6_diggings_73 : decode cX6_diggings 73 = .ok (.goto (-40), 3) := by decide +kernel
theorem dX6_diggings_76 : decode cX6_diggings 76 = .ok (.aload_n 0, 1) := by decide +kernel
theorem dX6_diggings_77 : decode cX6_diggings 77 = .ok (.iconst 3, 1) := by decide +kernel
theorem dX6_diggings_78 : decode cX6_diggings 78 = .ok (.invokevirtual 190, 3) := by decide +kernel
theorem dX6_diggings_81 : decode cX6_diggings 81 = .ok (.bipush 10, 2) := by decide +kernel
theorem dX6_diggings_83 : decode cX6_diggings 83 = .ok (.if_icmp .le 6, 3) := by decide +kernel
theorem dX6_diggings_86 : decode cX6_diggings 86 = .ok (.bipush (-2), 2) := by decide +kernel
theorem dX6_diggings_88 : decode cX6_diggings 88 = .ok (.ireturn, 1) := by decide +kernel
theorem dX6_diggings_89 : decode cX6_diggings 89 = .ok (.iconst 0, 1) := by decide +kernel
theorem dX6_diggings_90 : decode cX6_diggings 90 = .ok (.istore 4, 2) := by decide +kernel
theorem dX6_diggings_92 : decode cX6_diggings 92 = .ok (.iload 4, 2) := by decide +kernel
theorem dX6_diggings_94 : decode cX6_diggings 94 = .ok (.iload_n 1, 1) := by decide +kernel
theorem dX6_diggings_95 : decode cX6_diggings 95 = .ok (.if_icmp .ge 38, 3) := by decide +kernel
theorem dX6_diggings_98 : decode cX6_diggings 98 = .ok (.aload_n 0, 1) := by decide +kernel
theorem dX6_diggings_99 : decode cX6_diggings 99 = .ok (.lload_n 2, 1) := by decide +kernel
theorem dX6_diggings_100 : decode cX6_diggings 100 = .ok (.iload 4, 2) := by decide +kernel
theorem dX6_diggings_102 : decode cX6_diggings 102 = .ok (.invokestatic 182, 3) := by decide +kernel
theorem dX6_diggings_105 : decode cX6_diggings 105 = .ok (.invokevirtual 66, 3) := by decide +kernel
theorem dX6_diggings_108 : decode cX6_diggings 108 = .ok (.astore 5, 2) := by decide +kernel
theorem dX6_diggings_110 : decode cX6_diggings 110 = .ok (.aload 5, 2) := by decide +kernel
theorem dX6_diggings_112 : decode cX6_diggings 112 = .ok (.ifnull 12, 3) := by decide +kernel
theorem dX6_diggings_115 : decode cX6_diggings 115 = .ok (.aload 5, 2) := by decide +kernel
theorem dX6_diggings_117 : decode cX6_diggings 117 = .ok (.getfield 133, 3) := by decide +kernel
theorem dX6_diggings_120 : decode cX6_diggings 120 = .ok (.iconst 3, 1) := by decide +kernel
theorem dX6_diggings_121 : decode cX6_diggings 121 = .ok (.if_icmp .eq 6, 3) := by decide +kernel
theorem dX6_diggings_124 : decode cX6_diggings 124 = .ok (.bipush (-2), 2) := by decide +kernel
theorem dX6_diggings_126 : decode cX6_diggings 126 = .ok (.ireturn, 1) := by decide +kernel
theorem dX6_diggings_127 : decode cX6_diggings 127 = .ok (.iinc 4 1, 3) := by decide +kernel
theorem dX6_diggings_130 : decode cX6_diggings 130 = .ok (.goto (-38), 3) := by decide +kernel
theorem dX6_diggings_133 : decode cX6_diggings 133 = .ok (.iconst 0, 1) := by decide +kernel
theorem dX6_diggings_134 : decode cX6_diggings 134 = .ok (.istore 4, 2) := by decide +kernel
theorem dX6_diggings_136 : decode cX6_diggings 136 = .ok (.iload 4, 2) := by decide +kernel
theorem dX6_diggings_138 : decode cX6_diggings 138 = .ok (.iconst 5, 1) := by decide +kernel
theorem dX6_diggings_139 : decode cX6_diggings 139 = .ok (.if_icmp .ge 24, 3) := by decide +kernel
theorem dX6_diggings_142 : decode cX6_diggings 142 = .ok (.aload_n 0, 1) := by decide +kernel
theorem dX6_diggings_143 : decode cX6_diggings 143 = .ok (.getfield 44, 3) := by decide +kernel
theorem dX6_diggings_146 : decode cX6_diggings 146 = .ok (.iload 4, 2) := by decide +kernel
theorem dX6_diggings_148 : decode cX6_diggings 148 = .ok (.aload_n 0, 1) := by decide +kernel
theorem dX6_diggings_149 : decode cX6_diggings 149 = .ok (.iload 4, 2) := by decide +kernel
theorem dX6_diggings_151 : decode cX6_diggings 151 = .ok (.invokevirtual 156, 3) := by decide +kernel
theorem dX6_diggings_154 : decode cX6_diggings 154 = .ok (.invokevirtual 194, 3) := by decide +kernel
theorem dX6_diggings_157 : decode cX6_diggings 157 = .ok (.iinc 4 1, 3) := by decide +kernel
theorem dX6_diggings_160 : decode cX6_diggings 160 = .ok (.goto (-24), 3) := by decide +kernel
theorem dX6_diggings_163 : decode cX6_diggings 163 = .ok (.aload_n 0, 1) := by decide +kernel
theorem dX6_diggings_164 : decode cX6_diggings 164 = .ok (.getfield 44, 3) := by decide +kernel
theorem dX6_diggings_167 : decode cX6_diggings 167 = .ok (.invokevirtual 198, 3) := by decide +kernel
theorem dX6_diggings_170 : decode cX6_diggings 170 = .ok (.ireturn, 1) := by decide +kernel
theorem dX6_load_0 : decode cX6_load 0 = .ok (.aload_n 0, 1) := by decide +kernel
theorem dX6_load_1 : decode cX6_load 1 = .ok (.iload_n 1, 1) := by decide +kernel
theorem dX6_load_2 : decode cX6_load 2 = .ok (.invokevirtual 156, 3) := by decide +kernel
theorem dX6_load_5 : decode cX6_load 5 = .ok (.astore_n 2, 1) := by decide +kernel
theorem dX6_load_6 : decode cX6_load 6 = .ok (.aload_n 2, 1) := by decide +kernel
theorem dX6_load_7 : decode cX6_load 7 = .ok (.ifnonnull 5, 3) := by decide +kernel
theorem dX6_load_10 : decode cX6_load 10 = .ok (.iconst (-1), 1) := by decide +kernel
theorem dX6_load_11 : decode cX6_load 11 = .ok (.ireturn, 1) := by decide +kernel
theorem dX6_load_12 : decode cX6_load 12 = .ok (.aload_n 0, 1) := by decide +kernel
theorem dX6_load_13 : decode cX6_load 13 = .ok (.aload_n 2, 1) := by decide +kernel
theorem dX6_load_14 : decode cX6_load 14 = .ok (.invokevirtual 171, 3) := by decide +kernel
theorem dX6_load_17 : decode cX6_load 17 = .ok (.invokevirtual 66, 3) := by decide +kernel
theorem dX6_load_20 : decode cX6_load 20 = .ok (.astore_n 3, 1) := by decide +kernel
theorem dX6_load_21 : decode cX6_load 21 = .ok (.aload_n 3, 1) := by decide +kernel
theorem dX6_load_22 : decode cX6_load 22 = .ok (.ifnonnull 6, 3) := by decide +kernel
theorem dX6_load_25 : decode cX6_load 25 = .ok (.bipush (-2), 2) := by decide +kernel
theorem dX6_load_27 : decode cX6_load 27 = .ok (.ireturn, 1) := by decide +kernel
theorem dX6_load_28 : decode cX6_load 28 = .ok (.aload_n 0, 1) := by decide +kernel
theorem dX6_load_29 : decode cX6_load 29 = .ok (.getfield 30, 3) := by decide +kernel
theorem dX6_load_32 : decode cX6_load 32 = .ok (.invokevirtual 201, 3) := by decide +kernel
theorem dX6_load_35 : decode cX6_load 35 = .ok (.ifCond .ne 6, 3) := by decide +kernel
theorem dX6_load_38 : decode cX6_load 38 = .ok (.bipush (-3), 2) := by decide +kernel
theorem dX6_load_40 : decode cX6_load 40 = .ok (.ireturn, 1) := by decide +kernel
theorem dX6_load_41 : decode cX6_load 41 = .ok (.aload_n 0, 1) := by decide +kernel
theorem dX6_load_42 : decode cX6_load 42 = .ok (.getfield 30, 3) := by decide +kernel
theorem dX6_load_45 : decode cX6_load 45 = .ok (.aload_n 3, 1) := by decide +kernel
theorem dX6_load_46 : decode cX6_load 46 = .ok (.getfield 204, 3) := by decide +kernel
theorem dX6_load_49 : decode cX6_load 49 = .ok (.invokevirtual 207, 3) := by decide +kernel
theorem dX6_load_52 : decode cX6_load 52 = .ok (.ifCond .ne 6, 3) := by decide +kernel
theorem dX6_load_55 : decode cX6_load 55 = .ok (.bipush (-2), 2) := by decide +kernel
theorem dX6_load_57 : decode cX6_load 57 = .ok (.ireturn, 1) := by decide +kernel
theorem dX6_load_58 : decode cX6_load 58 = .ok (.aload_n 0, 1) := by decide +kernel
theorem dX6_load_59 : decode cX6_load 59 = .ok (.getfield 30, 3) := by decide +kernel
theorem dX6_load_62 : decode cX6_load 62 = .ok (.aload_n 2, 1) := by decide +kernel
theorem dX6_load_63 : decode cX6_load 63 = .ok (.invokevirtual 174, 3) := by decide +kernel
theorem dX6_load_66 : decode cX6_load 66 = .ok (.aload_n 3, 1) := by decide +kernel
theorem dX6_load_67 : decode cX6_load 67 = .ok (.getfield 204, 3) := by decide +kernel
theorem dX6_load_70 : decode cX6_load 70 = .ok (.invokevirtual 210, 3) := by decide +kernel
theorem dX6_load_73 : decode cX6_load 73 = .ok (.istore 4, 2) := by decide +kernel
theorem dX6_load_75 : decode cX6_load 75 = .ok (.aload_n 3, 1) := by decide +kernel
theorem dX6_load_76 : decode cX6_load 76 = .ok (.bipush 6, 2) := by decide +kernel
theorem dX6_load_78 : decode cX6_load 78 = .ok (.bipush (-4), 2) := by decide +kernel
theorem dX6_load_80 : decode cX6_load 80 = .ok (.invokevirtual 104, 3) := by decide +kernel
theorem dX6_load_83 : decode cX6_load 83 = .ok (.aload_n 0, 1) := by decide +kernel
theorem dX6_load_84 : decode cX6_load 84 = .ok (.aload_n 2, 1) := by decide +kernel
theorem dX6_load_85 : decode cX6_load 85 = .ok (.invokevirtual 177, 3) := by decide +kernel
theorem dX6_load_88 : decode cX6_load 88 = .ok (.iload 4, 2) := by decide +kernel
theorem dX6_load_90 : decode cX6_load 90 = .ok (.ireturn, 1) := by decide +kernel
theorem dX6_go_0 : decode cX6_go 0 = .ok (.aload_n 0, 1) := by decide +kernel
theorem dX6_go_1 : decode cX6_go 1 = .ok (.getfield 30, 3) := by decide +kernel
theorem dX6_go_4 : decode cX6_go 4 = .ok (.getfield 212, 3) := by decide +kernel
theorem dX6_go_7 : decode cX6_go 7 = .ok (.istore_n 1, 1) := by decide +kernel
theorem dX6_go_8 : decode cX6_go 8 = .ok (.iload_n 1, 1) := by decide +kernel
theorem dX6_go_9 : decode cX6_go 9 = .ok (.ifCond .ne 6, 3) := by decide +kernel
theorem dX6_go_12 : decode cX6_go 12 = .ok (.bipush (-2), 2) := by decide +kernel
theorem dX6_go_14 : decode cX6_go 14 = .ok (.ireturn, 1) := by decide +kernel
theorem dX6_go_15 : decode cX6_go 15 = .ok (.iconst 0, 1) := by decide +kernel
theorem dX6_go_16 : decode cX6_go 16 = .ok (.istore_n 2, 1) := by decide +kernel
theorem dX6_go_17 : decode cX6_go 17 = .ok (.iload_n 2, 1) := by decide +kernel
theorem dX6_go_18 : decode cX6_go 18 = .ok (.iload_n 1, 1) := by decide +kernel
theorem dX6_go_19 : decode cX6_go 19 = .ok (.if_icmp .ge 35, 3) := by decide +kernel
theorem dX6_go_22 : decode cX6_go 22 = .ok (.aload_n 0, 1) := by decide +kernel
theorem dX6_go_23 : decode cX6_go 23 = .ok (.aload_n 0, 1) := by decide +kernel
theorem dX6_go_24 : decode cX6_go 24 = .ok (.getfield 30, 3) := by decide +kernel
theorem dX6_go_27 : decode cX6_go 27 = .ok (.iload_n 2, 1) := by decide +kernel
theorem dX6_go_28 : decode cX6_go 28 = .ok (.invokevirtual 213, 3) := by decide +kernel
theorem dX6_go_31 : decode cX6_go 31 = .ok (.invokevirtual 66, 3) := by decide +kernel
theorem dX6_go_34 : decode cX6_go 34 = .ok (.astore_n 3, 1) := by decide +kernel
theorem dX6_go_35 : decode cX6_go 35 = .ok (.aload_n 3, 1) := by decide +kernel
theorem dX6_go_36 : decode cX6_go 36 = .ok (.ifnull 12, 3) := by decide +kernel
theorem dX6_go_39 : decode cX6_go 39 = .ok (.aload_n 3, 1) := by decide +kernel
theorem dX6_go_40 : decode cX6_go 40 = .ok (.iconst 4, 1) := by decide +kernel
theorem dX6_go_41 : decode cX6_go 41 = .ok (.aload_n 0, 1) := by decide +kernel
theorem dX6_go_42 : decode cX6_go 42 = .ok (.getfield 216, 3) := by decide +kernel
theorem dX6_go_45 : decode cX6_go 45 = .ok (.invokevirtual 104, 3) := by decide +kernel
theorem dX6_go_48 : decode cX6_go 48 = .ok (.iinc 2 1, 3) := by decide +kernel
theorem dX6_go_51 : decode cX6_go 51 = .ok (.goto (-34), 3) := by decide +kernel
theorem dX6_go_54 : decode cX6_go 54 = .ok (.aload_n 0, 1) := by decide +kernel
theorem dX6_go_55 : decode cX6_go 55 = .ok (.dup, 1) := by decide +kernel
theorem dX6_go_56 : decode cX6_go 56 = .ok (.getfield 216, 3) := by decide +kernel
theorem dX6_go_59 : decode cX6_go 59 = .ok (.iconst 1, 1) := by decide +kernel
theorem dX6_go_60 : decode cX6_go 60 = .ok (.iadd, 1) := by decide +kernel
theorem dX6_go_61 : decode cX6_go 61 = .ok (.putfield 216, 3) := by decide +kernel
theorem dX6_go_64 : decode cX6_go 64 = .ok (.aload_n 0, 1) := by decide +kernel
theorem dX6_go_65 : decode cX6_go 65 = .ok (.getfield 30, 3) := by decide +kernel
theorem dX6_go_68 : decode cX6_go 68 = .ok (.invokevirtual 219, 3) := by decide +kernel
theorem dX6_go_71 : decode cX6_go 71 = .ok (.iload_n 1, 1) := by decide +kernel
theorem dX6_go_72 : decode cX6_go 72 = .ok (.ireturn, 1) := by decide +kernel
theorem dX6_lorry_0 : decode cX6_lorry 0 = .ok (.iload_n 1, 1) := by decide +kernel
theorem dX6_lorry_1 : decode cX6_lorry 1 = .ok (.tableswitch 80 0 4 #[35, 43, 51, 59, 67], 35) := by decide +kernel
theorem dX6_lorry_36 : decode cX6_lorry 36 = .ok (.aload_n 0, 1) := by decide +kernel
theorem dX6_lorry_37 : decode cX6_lorry 37 = .ok (.getfield 30, 3) := by decide +kernel
theorem dX6_lorry_40 : decode cX6_lorry 40 = .ok (.getfield 212, 3) := by decide +kernel
theorem dX6_lorry_43 : decode cX6_lorry 43 = .ok (.ireturn, 1) := by decide +kernel
theorem dX6_lorry_44 : decode cX6_lorry 44 = .ok (.aload_n 0, 1) := by decide +kernel
theorem dX6_lorry_45 : decode cX6_lorry 45 = .ok (.getfield 30, 3) := by decide +kernel
theorem dX6_lorry_48 : decode cX6_lorry 48 = .ok (.getfield 220, 3) := by decide +kernel
theorem dX6_lorry_51 : decode cX6_lorry 51 = .ok (.ireturn, 1) := by decide +kernel
theorem dX6_lorry_52 : decode cX6_lorry 52 = .ok (.aload_n 0, 1) := by decide +kernel
theorem dX6_lorry_53 : decode cX6_lorry 53 = .ok (.getfield 30, 3) := by decide +kernel
theorem dX6_lorry_56 : decode cX6_lorry 56 = .ok (.getfield 221, 3) := by decide +kernel
theorem dX6_lorry_59 : decode cX6_lorry 59 = .ok (.ireturn, 1) := by decide +kernel
theorem dX6_lorry_60 : decode cX6_lorry 60 = .ok (.aload_n 0, 1) := by decide +kernel
theorem dX6_lorry_61 : decode cX6_lorry 61 = .ok (.getfield 30, 3) := by decide +kernel
theorem dX6_lorry_64 : decode cX6_lorry 64 = .ok (.getfield 224, 3) := by decide +kernel
theorem dX6_lorry_67 : decode cX6_lorry 67 = .ok (.ireturn, 1) := by decide +kernel
theorem dX6_lorry_68 : decode cX6_lorry 68 = .ok (.aload_n 0, 1) := by decide +kernel
theorem dX6_lorry_69 : decode cX6_lorry 69 = .ok (.invokevirtual 227, 3) := by decide +kernel
theorem dX6_lorry_72 : decode cX6_lorry 72 = .ok (.ifCond .eq 7, 3) := by decide +kernel
theorem dX6_lorry_75 : decode cX6_lorry 75 = .ok (.iconst 1, 1) := by decide +kernel
theorem dX6_lorry_76 : decode cX6_lorry 76 = .ok (.goto 4, 3) := by decide +kernel
theorem dX6_lorry_79 : decode cX6_lorry 79 = .ok (.iconst 0, 1) := by decide +kernel
theorem dX6_lorry_80 : decode cX6_lorry 80 = .ok (.ireturn, 1) := by decide +kernel
theorem dX6_lorry_81 : decode cX6_lorry 81 = .ok (.iconst (-1), 1) := by decide +kernel
theorem dX6_lorry_82 : decode cX6_lorry 82 = .ok (.ireturn, 1) := by decide +kernel
theorem dX6_change_0 : decode cX6_change 0 = .ok (.aload_n 0, 1) := by decide +kernel
theorem dX6_change_1 : decode cX6_change 1 = .ok (.iload_n 1, 1) := by decide +kernel
theorem dX6_change_2 : decode cX6_change 2 = .ok (.invokevirtual 66, 3) := by decide +kernel
theorem dX6_change_5 : decode cX6_change 5 = .ok (.astore 5, 2) := by decide +kernel
theorem dX6_change_7 : decode cX6_change 7 = .ok (.aload 5, 2) := by decide +kernel
theorem dX6_change_9 : decode cX6_change 9 = .ok (.ifnull 13, 3) := by decide +kernel
theorem dX6_change_12 : decode cX6_change 12 = .ok (.iload_n 2, 1) := by decide +kernel

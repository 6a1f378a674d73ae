theorem dX7_move_37 : decode cX7_move 37 = .ok (.iload_n 2, 1) := by decide +kernel
theorem dX7_move_38 : decode cX7_move 38 = .ok (.iaload, 1) := by decide +kernel
theorem dX7_move_39 : decode cX7_move 39 = .ok (.iconst 4, 1) := by decide +kernel
theorem dX7_move_40 : decode cX7_move 40 = .ok (.if_icmp .ne 6, 3) := by decide +kernel
theorem dX7_move_43 : decode cX7_move 43 = .ok (.bipush (-3), 2) := by decide +kernel
theorem dX7_move_45 : decode cX7_move 45 = .ok (.ireturn, 1) := by decide +kernel
theorem dX7_move_46 : decode cX7_move 46 = .ok (.aload_n 0, 1) := by decide +kernel
theorem dX7_move_47 : decode cX7_move 47 = .ok (.getfield 54, 3) := by decide +kernel
theorem dX7_move_50 : decode cX7_move 50 = .ok (.iconst 4, 1) := by decide +kernel
theorem dX7_move_51 : decode cX7_move 51 = .ok (.iload_n 1, 1) := by decide +kernel
theorem dX7_move_52 : decode cX7_move 52 = .ok (.imul, 1) := by decide +kernel
theorem dX7_move_53 : decode cX7_move 53 = .ok (.aload_n 0, 1) := by decide +kernel
theorem dX7_move_54 : decode cX7_move 54 = .ok (.getfield 51, 3) := by decide +kernel
theorem dX7_move_57 : decode cX7_move 57 = .ok (.iload_n 1, 1) := by decide +kernel
theorem dX7_move_58 : decode cX7_move 58 = .ok (.iaload, 1) := by decide +kernel
theorem dX7_move_59 : decode cX7_move 59 = .ok (.iadd, 1) := by decide +kernel
theorem dX7_move_60 : decode cX7_move 60 = .ok (.iconst 1, 1) := by decide +kernel
theorem dX7_move_61 : decode cX7_move 61 = .ok (.isub, 1) := by decide +kernel
theorem dX7_move_62 : decode cX7_move 62 = .ok (.iaload, 1) := by decide +kernel
theorem dX7_move_63 : decode cX7_move 63 = .ok (.istore_n 3, 1) := by decide +kernel
theorem dX7_move_64 : decode cX7_move 64 = .ok (.aload_n 0, 1) := by decide +kernel
theorem dX7_move_65 : decode cX7_move 65 = .ok (.getfield 51, 3) := by decide +kernel
theorem dX7_move_68 : decode cX7_move 68 = .ok (.iload_n 1, 1) := by decide +kernel
theorem dX7_move_69 : decode cX7_move 69 = .ok (.dup2, 1) := by decide +kernel
theorem dX7_move_70 : decode cX7_move 70 = .ok (.iaload, 1) := by decide +kernel
theorem dX7_move_71 : decode cX7_move 71 = .ok (.iconst 1, 1) := by decide +kernel
theorem dX7_move_72 : decode cX7_move 72 = .ok (.isub, 1) := by decide +kernel
theorem dX7_move_73 : decode cX7_move 73 = .ok (.iastore, 1) := by decide +kernel
theorem dX7_move_74 : decode cX7_move 74 = .ok (.aload_n 0, 1) := by decide +kernel
theorem dX7_move_75 : decode cX7_move 75 = .ok (.iload_n 3, 1) := by decide +kernel
theorem dX7_move_76 : decode cX7_move 76 = .ok (.iload_n 2, 1) := by decide +kernel
theorem dX7_move_77 : decode cX7_move 77 = .ok (.invokevirtual 151, 3) := by decide +kernel
theorem dX7_move_80 : decode cX7_move 80 = .ok (.aload_n 0, 1) := by decide +kernel
theorem dX7_move_81 : decode cX7_move 81 = .ok (.iload_n 1, 1) := by decide +kernel
theorem dX7_move_82 : decode cX7_move 82 = .ok (.invokevirtual 155, 3) := by decide +kernel
theorem dX7_move_85 : decode cX7_move 85 = .ok (.iload_n 3, 1) := by decide +kernel
theorem dX7_move_86 : decode cX7_move 86 = .ok (.ireturn, 1) := by decide +kernel
theorem dX7_takes_0 : decode cX7_takes 0 = .ok (.aload_n 0, 1) := by decide +kernel
theorem dX7_takes_1 : decode cX7_takes 1 = .ok (.getfield 81, 3) := by decide +kernel
theorem dX7_takes_4 : decode cX7_takes 4 = .ok (.iload_n 1, 1) := by decide +kernel
theorem dX7_takes_5 : decode cX7_takes 5 = .ok (.aload_n 0, 1) := by decide +kernel
theorem dX7_takes_6 : decode cX7_takes 6 = .ok (.getfield 78, 3) := by decide +kernel
theorem dX7_takes_9 : decode cX7_takes 9 = .ok (.iload_n 1, 1) := by decide +kernel
theorem dX7_takes_10 : decode cX7_takes 10 = .ok (.iaload, 1) := by decide +kernel
theorem dX7_takes_11 : decode cX7_takes 11 = .ok (.iastore, 1) := by decide +kernel
theorem dX7_takes_12 : decode cX7_takes 12 = .ok (.aload_n 0, 1) := by decide +kernel
theorem dX7_takes_13 : decode cX7_takes 13 = .ok (.getfield 81, 3) := by decide +kernel
theorem dX7_takes_16 : decode cX7_takes 16 = .ok (.iload_n 1, 1) := by decide +kernel
theorem dX7_takes_17 : decode cX7_takes 17 = .ok (.iaload, 1) := by decide +kernel
theorem dX7_takes_18 : decode cX7_takes 18 = .ok (.aload_n 0, 1) := by decide +kernel
theorem dX7_takes_19 : decode cX7_takes 19 = .ok (.getfield 159, 3) := by decide +kernel
theorem dX7_takes_22 : decode cX7_takes 22 = .ok (.if_icmp .ge 109, 3) := by decide +kernel
theorem dX7_takes_25 : decode cX7_takes 25 = .ok (.aload_n 0, 1) := by decide +kernel
theorem dX7_takes_26 : decode cX7_takes 26 = .ok (.getfield 69, 3) := by decide +kernel
theorem dX7_takes_29 : decode cX7_takes 29 = .ok (.aload_n 0, 1) := by decide +kernel
theorem dX7_takes_30 : decode cX7_takes 30 = .ok (.getfield 81, 3) := by decide +kernel
theorem dX7_takes_33 : decode cX7_takes 33 = .ok (.iload_n 1, 1) := by decide +kernel
theorem dX7_takes_34 : decode cX7_takes 34 = .ok (.iaload, 1) := by decide +kernel
theorem dX7_takes_35 : decode cX7_takes 35 = .ok (.iaload, 1) := by decide +kernel
theorem dX7_takes_36 : decode cX7_takes 36 = .ok (.istore_n 2, 1) := by decide +kernel
theorem dX7_takes_37 : decode cX7_takes 37 = .ok (.aload_n 0, 1) := by decide +kernel
theorem dX7_takes_38 : decode cX7_takes 38 = .ok (.iload_n 2, 1) := by decide +kernel
theorem dX7_takes_39 : decode cX7_takes 39 = .ok (.invokevirtual 162, 3) := by decide +kernel
theorem dX7_takes_42 : decode cX7_takes 42 = .ok (.istore_n 3, 1) := by decide +kernel
theorem dX7_takes_43 : decode cX7_takes 43 = .ok (.iconst 0, 1) := by decide +kernel
theorem dX7_takes_44 : decode cX7_takes 44 = .ok (.istore 4, 2) := by decide +kernel
theorem dX7_takes_46 : decode cX7_takes 46 = .ok (.aload_n 0, 1) := by decide +kernel
theorem dX7_takes_47 : decode cX7_takes 47 = .ok (.getfield 75, 3) := by decide +kernel
theorem dX7_takes_50 : decode cX7_takes 50 = .ok (.iconst 4, 1) := by decide +kernel
theorem dX7_takes_51 : decode cX7_takes 51 = .ok (.iload_n 3, 1) := by decide +kernel
theorem dX7_takes_52 : decode cX7_takes 52 = .ok (.imul, 1) := by decide +kernel
theorem dX7_takes_53 : decode cX7_takes 53 = .ok (.aload_n 0, 1) := by decide +kernel
theorem dX7_takes_54 : decode cX7_takes 54 = .ok (.getfield 72, 3) := by decide +kernel
theorem dX7_takes_57 : decode cX7_takes 57 = .ok (.iload_n 3, 1) := by decide +kernel
theorem dX7_takes_58 : decode cX7_takes 58 = .ok (.iaload, 1) := by decide +kernel
theorem dX7_takes_59 : decode cX7_takes 59 = .ok (.iadd, 1) := by decide +kernel
theorem dX7_takes_60 : decode cX7_takes 60 = .ok (.iconst 1, 1) := by decide +kernel
theorem dX7_takes_61 : decode cX7_takes 61 = .ok (.isub, 1) := by decide +kernel
theorem dX7_takes_62 : decode cX7_takes 62 = .ok (.iload 4, 2) := by decide +kernel
theorem dX7_takes_64 : decode cX7_takes 64 = .ok (.isub, 1) := by decide +kernel
theorem dX7_takes_65 : decode cX7_takes 65 = .ok (.iaload, 1) := by decide +kernel
theorem dX7_takes_66 : decode cX7_takes 66 = .ok (.iload_n 2, 1) := by decide +kernel
theorem dX7_takes_67 : decode cX7_takes 67 = .ok (.if_icmp .eq 9, 3) := by decide +kernel
theorem dX7_takes_70 : decode cX7_takes 70 = .ok (.iinc 4 1, 3) := by decide +kernel
theorem dX7_takes_73 : decode cX7_takes 73 = .ok (.goto (-27), 3) := by decide +kernel
theorem dX7_takes_76 : decode cX7_takes 76 = .ok (.iload 4, 2) := by decide +kernel
theorem dX7_takes_78 : decode cX7_takes 78 = .ok (.ifCond .le 13, 3) := by decide +kernel
theorem dX7_takes_81 : decode cX7_takes 81 = .ok (.aload_n 0, 1) := by decide +kernel
theorem dX7_takes_82 : decode cX7_takes 82 = .ok (.getfield 87, 3) := by decide +kernel
theorem dX7_takes_85 : decode cX7_takes 85 = .ok (.iload_n 1, 1) := by decide +kernel
theorem dX7_takes_86 : decode cX7_takes 86 = .ok (.iload_n 3, 1) := by decide +kernel
theorem dX7_takes_87 : decode cX7_takes 87 = .ok (.iastore, 1) := by decide +kernel
theorem dX7_takes_88 : decode cX7_takes 88 = .ok (.iload 4, 2) := by decide +kernel
theorem dX7_takes_90 : decode cX7_takes 90 = .ok (.ireturn, 1) := by decide +kernel
theorem dX7_takes_91 : decode cX7_takes 91 = .ok (.aload_n 0, 1) := by decide +kernel
theorem dX7_takes_92 : decode cX7_takes 92 = .ok (.getfield 72, 3) := by decide +kernel
theorem dX7_takes_95 : decode cX7_takes 95 = .ok (.iload_n 3, 1) := by decide +kernel
theorem dX7_takes_96 : decode cX7_takes 96 = .ok (.dup2, 1) := by decide +kernel
theorem dX7_takes_97 : decode cX7_takes 97 = .ok (.iaload, 1) := by decide +kernel
theorem dX7_takes_98 : decode cX7_takes 98 = .ok (.iconst 1, 1) := by decide +kernel
theorem dX7_takes_99 : decode cX7_takes 99 = .ok (.isub, 1) := by decide +kernel
theorem dX7_takes_100 : decode cX7_takes 100 = .ok (.iastore, 1) := by decide +kernel
theorem dX7_takes_101 : decode cX7_takes 101 = .ok (.aload_n 0, 1) := by decide +kernel
theorem dX7_takes_102 : decode cX7_takes 102 = .ok (.getfield 84, 3) := by decide +kernel
theorem dX7_takes_105 : decode cX7_takes 105 = .ok (.bipush 6, 2) := by decide +kernel
theorem dX7_takes_107 : decode cX7_takes 107 = .ok (.iload_n 1, 1) := by decide +kernel
theorem dX7_takes_108 : decode cX7_takes 108 = .ok (.imul, 1) := by decide +kernel
theorem dX7_takes_109 : decode cX7_takes 109 = .ok (.aload_n 0, 1) := by decide +kernel
theorem dX7_takes_110 : decode cX7_takes 110 = .ok (.getfield 81, 3) := by decide +kernel
theorem dX7_takes_113 : decode cX7_takes 113 = .ok (.iload_n 1, 1) := by decide +kernel
theorem dX7_takes_114 : decode cX7_takes 114 = .ok (.iaload, 1) := by decide +kernel
theorem dX7_takes_115 : decode cX7_takes 115 = .ok (.iadd, 1) := by decide +kernel
theorem dX7_takes_116 : decode cX7_takes 116 = .ok (.iload_n 3, 1) := by decide +kernel
theorem dX7_takes_117 : decode cX7_takes 117 = .ok (.iastore, 1) := by decide +kernel
theorem dX7_takes_118 : decode cX7_takes 118 = .ok (.aload_n 0, 1) := by decide +kernel
theorem dX7_takes_119 : decode cX7_takes 119 = .ok (.getfield 81, 3) := by decide +kernel
theorem dX7_takes_122 : decode cX7_takes 122 = .ok (.iload_n 1, 1) := by decide +kernel
theorem dX7_takes_123 : decode cX7_takes 123 = .ok (.dup2, 1) := by decide +kernel
theorem dX7_takes_124 : decode cX7_takes 124 = .ok (.iaload, 1) := by decide +kernel
theorem dX7_takes_125 : decode cX7_takes 125 = .ok (.iconst 1, 1) := by decide +kernel
theorem dX7_takes_126 : decode cX7_takes 126 = .ok (.iadd, 1) := by decide +kernel
theorem dX7_takes_127 : decode cX7_takes 127 = .ok (.iastore, 1) := by decide +kernel
theorem dX7_takes_128 : decode cX7_takes 128 = .ok (.goto (-116), 3) := by decide +kernel
theorem dX7_takes_131 : decode cX7_takes 131 = .ok (.iconst 0, 1) := by decide +kernel
theorem dX7_takes_132 : decode cX7_takes 132 = .ok (.ireturn, 1) := by decide +kernel
theorem dX7_gives_0 : decode cX7_gives 0 = .ok (.aload_n 0, 1) := by decide +kernel
theorem dX7_gives_1 : decode cX7_gives 1 = .ok (.getfield 81, 3) := by decide +kernel
theorem dX7_gives_4 : decode cX7_gives 4 = .ok (.iload_n 1, 1) := by decide +kernel
theorem dX7_gives_5 : decode cX7_gives 5 = .ok (.iaload, 1) := by decide +kernel
theorem dX7_gives_6 : decode cX7_gives 6 = .ok (.iconst 1, 1) := by decide +kernel
theorem dX7_gives_7 : decode cX7_gives 7 = .ok (.isub, 1) := by decide +kernel
theorem dX7_gives_8 : decode cX7_gives 8 = .ok (.istore_n 2, 1) := by decide +kernel
theorem dX7_gives_9 : decode cX7_gives 9 = .ok (.iload_n 2, 1) := by decide +kernel
theorem dX7_gives_10 : decode cX7_gives 10 = .ok (.aload_n 0, 1) := by decide +kernel
theorem dX7_gives_11 : decode cX7_gives 11 = .ok (.getfield 78, 3) := by decide +kernel
theorem dX7_gives_14 : decode cX7_gives 14 = .ok (.iload_n 1, 1) := by decide +kernel
theorem dX7_gives_15 : decode cX7_gives 15 = .ok (.iaload, 1) := by decide +kernel
theorem dX7_gives_16 : decode cX7_gives 16 = .ok (.if_icmp .lt 52, 3) := by decide +kernel
theorem dX7_gives_19 : decode cX7_gives 19 = .ok (.aload_n 0, 1) := by decide +kernel
theorem dX7_gives_20 : decode cX7_gives 20 = .ok (.getfield 84, 3) := by decide +kernel
theorem dX7_gives_23 : decode cX7_gives 23 = .ok (.bipush 6, 2) := by decide +kernel
theorem dX7_gives_25 : decode cX7_gives 25 = .ok (.iload_n 1, 1) := by decide +kernel
theorem dX7_gives_26 : decode cX7_gives 26 = .ok (.imul, 1) := by decide +kernel
theorem dX7_gives_27 : decode cX7_gives 27 = .ok (.iload_n 2, 1) := by decide +kernel
theorem dX7_gives_28 : decode cX7_gives 28 = .ok (.iadd, 1) := by decide +kernel
theorem dX7_gives_29 : decode cX7_gives 29 = .ok (.iaload, 1) := by decide +kernel
theorem dX7_gives_30 : decode cX7_gives 30 = .ok (.istore_n 3, 1) := by decide +kernel
theorem dX7_gives_31 : decode cX7_gives 31 = .ok (.aload_n 0, 1) := by decide +kernel
theorem dX7_gives_32 : decode cX7_gives 32 = .ok (.getfield 75, 3) := by decide +kernel
theorem dX7_gives_35 : decode cX7_gives 35 = .ok (.iconst 4, 1) := by decide +kernel
theorem dX7_gives_36 : decode cX7_gives 36 = .ok (.iload_n 3, 1) := by decide +kernel
theorem dX7_gives_37 : decode cX7_gives 37 = .ok (.imul, 1) := by decide +kernel
theorem dX7_gives_38 : decode cX7_gives 38 = .ok (.aload_n 0, 1) := by decide +kernel
theorem dX7_gives_39 : decode cX7_gives 39 = .ok (.getfield 72, 3) := by decide +kernel
theorem dX7_gives_42 : decode cX7_gives 42 = .ok (.iload_n 3, 1) := by decide +kernel
theorem dX7_gives_43 : decode cX7_gives 43 = .ok (.iaload, 1) := by decide +kernel
theorem dX7_gives_44 : decode cX7_gives 44 = .ok (.iadd, 1) := by decide +kernel
theorem dX7_gives_45 : decode cX7_gives 45 = .ok (.aload_n 0, 1) := by decide +kernel
theorem dX7_gives_46 : decode cX7_gives 46 = .ok (.getfield 69, 3) := by decide +kernel
theorem dX7_gives_49 : decode cX7_gives 49 = .ok (.iload_n 2, 1) := by decide +kernel
theorem dX7_gives_50 : decode cX7_gives 50 = .ok (.iaload, 1) := by decide +kernel
theorem dX7_gives_51 : decode cX7_gives 51 = .ok (.iastore, 1) := by decide +kernel
theorem dX7_gives_52 : decode cX7_gives 52 = .ok (.aload_n 0, 1) := by decide +kernel
theorem dX7_gives_53 : decode cX7_gives 53 = .ok (.getfield 72, 3) := by decide +kernel
theorem dX7_gives_56 : decode cX7_gives 56 = .ok (.iload_n 3, 1) := by decide +kernel
theorem dX7_gives_57 : decode cX7_gives 57 = .ok (.dup2, 1) := by decide +kernel
theorem dX7_gives_58 : decode cX7_gives 58 = .ok (.iaload, 1) := by decide +kernel
theorem dX7_gives_59 : decode cX7_gives 59 = .ok (.iconst 1, 1) := by decide +kernel
theorem dX7_gives_60 : decode cX7_gives 60 = .ok (.iadd, 1) := by decide +kernel
theorem dX7_gives_61 : decode cX7_gives 61 = .ok (.iastore, 1) := by decide +kernel
theorem dX7_gives_62 : decode cX7_gives 62 = .ok (.iinc 2 (-1), 3) := by decide +kernel
theorem dX7_gives_65 : decode cX7_gives 65 = .ok (.goto (-56), 3) := by decide +kernel
theorem dX7_gives_68 : decode cX7_gives 68 = .ok (.return_, 1) := by decide +kernel
theorem dX7_carries_0 : decode cX7_carries 0 = .ok (.aload_n 0, 1) := by decide +kernel
theorem dX7_carries_1 : decode cX7_carries 1 = .ok (.getfield 72, 3) := by decide +kernel
theorem dX7_carries_4 : decode cX7_carries 4 = .ok (.iload_n 1, 1) := by decide +kernel
theorem dX7_carries_5 : decode cX7_carries 5 = .ok (.dup2, 1) := by decide +kernel
theorem dX7_carries_6 : decode cX7_carries 6 = .ok (.iaload, 1) := by decide +kernel
theorem dX7_carries_7 : decode cX7_carries 7 = .ok (.iconst 1, 1) := by decide +kernel
theorem dX7_carries_8 : decode cX7_carries 8 = .ok (.isub, 1) := by decide +kernel
theorem dX7_carries_9 : decode cX7_carries 9 = .ok (.iastore, 1) := by decide +kernel
theorem dX7_carries_10 : decode cX7_carries 10 = .ok (.aload_n 0, 1) := by decide +kernel
theorem dX7_carries_11 : decode cX7_carries 11 = .ok (.getfield 75, 3) := by decide +kernel
theorem dX7_carries_14 : decode cX7_carries 14 = .ok (.iconst 4, 1) := by decide +kernel
theorem dX7_carries_15 : decode cX7_carries 15 = .ok (.iload_n 2, 1) := by decide +kernel
theorem dX7_carries_16 : decode cX7_carries 16 = .ok (.imul, 1) := by decide +kernel
theorem dX7_carries_17 : decode cX7_carries 17 = .ok (.aload_n 0, 1) := by decide +kernel
theorem dX7_carries_18 : decode cX7_carries 18 = .ok (.getfield 72, 3) := by decide +kernel
theorem dX7_carries_21 : decode cX7_carries 21 = .ok (.iload_n 2, 1) := by decide +kernel
theorem dX7_carries_22 : decode cX7_carries 22 = .ok (.iaload, 1) := by decide +kernel
theorem dX7_carries_23 : decode cX7_carries 23 = .ok (.iadd, 1) := by decide +kernel
theorem dX7_carries_24 : decode cX7_carries 24 = .ok (.aload_n 0, 1) := by decide +kernel
theorem dX7_carries_25 : decode cX7_carries 25 = .ok (.getfield 75, 3) := by decide +kernel
theorem dX7_carries_28 : decode cX7_carries 28 = .ok (.iconst 4, 1) := by decide +kernel
theorem dX7_carries_29 : decode cX7_carries 29 = .ok (.iload_n 1, 1) := by decide +kernel
theorem dX7_carries_30 : decode cX7_carries 30 = .ok (.imul, 1) := by decide +kernel
theorem dX7_carries_31 : decode cX7_carries 31 = .ok (.aload_n 0, 1) := by decide +kernel
theorem dX7_carries_32 : decode cX7_carries 32 = .ok (.getfield 72, 3) := by decide +kernel
theorem dX7_carries_35 : decode cX7_carries 35 = .ok (.iload_n 1, 1) := by decide +kernel
theorem dX7_carries_36 : decode cX7_carries 36 = .ok (.iaload, 1) := by decide +kernel
theorem dX7_carries_37 : decode cX7_carries 37 = .ok (.iadd, 1) := by decide +kernel
theorem dX7_carries_38 : decode cX7_carries 38 = .ok (.iaload, 1) := by decide +kernel
theorem dX7_carries_39 : decode cX7_carries 39 = .ok (.iastore, 1) := by decide +kernel
theorem dX7_carries_40 : decode cX7_carries 40 = .ok (.aload_n 0, 1) := by decide +kernel
theorem dX7_carries_41 : decode cX7_carries 41 = .ok (.getfield 72, 3) := by decide +kernel
theorem dX7_carries_44 : decode cX7_carries 44 = .ok (.iload_n 2, 1) := by decide +kernel
theorem dX7_carries_45 : decode cX7_carries 45 = .ok (.dup2, 1) := by decide +kernel
theorem dX7_carries_46 : decode cX7_carries 46 = .ok (.iaload, 1) := by decide +kernel
theorem dX7_carries_47 : decode cX7_carries 47 = .ok (.iconst 1, 1) := by decide +kernel
theorem dX7_carries_48 : decode cX7_carries 48 = .ok (.iadd, 1) := by decide +kernel
theorem dX7_carries_49 : decode cX7_carries 49 = .ok (.iastore, 1) := by decide +kernel
theorem dX7_carries_50 : decode cX7_carries 50 = .ok (.return_, 1) := by decide +kernel
theorem dX7_does_0 : decode cX7_does 0 = .ok (.iconst 0, 1) := by decide +kernel
theorem dX7_does_1 : decode cX7_does 1 = .ok (.istore_n 2, 1) := by decide +kernel
theorem dX7_does_2 : decode cX7_does 2 = .ok (.aload_n 0, 1) := by decide +kernel
theorem dX7_does_3 : decode cX7_does 3 = .ok (.getfield 78, 3) := by decide +kernel
theorem dX7_does_6 : decode cX7_does 6 = .ok (.iconst 0, 1) := by decide +kernel
theorem dX7_does_7 : decode cX7_does 7 = .ok (.iconst 0, 1) := by decide +kernel
theorem dX7_does_8 : decode cX7_does 8 = .ok (.iastore, 1) := by decide +kernel
theorem dX7_does_9 : decode cX7_does 9 = .ok (.iconst 1, 1) := by decide +kernel
theorem dX7_does_10 : decode cX7_does 10 = .ok (.istore_n 3, 1) := by decide +kernel
theorem dX7_does_11 : decode cX7_does 11 = .ok (.iload_n 2, 1) := by decide +kernel
theorem dX7_does_12 : decode cX7_does 12 = .ok (.ifCond .lt 176, 3) := by decide +kernel
theorem dX7_does_15 : decode cX7_does 15 = .ok (.iconst 0, 1) := by decide +kernel
theorem dX7_does_16 : decode cX7_does 16 = .ok (.istore 4, 2) := by decide +kernel
theorem dX7_does_18 : decode cX7_does 18 = .ok (.iload_n 3, 1) := by decide +kernel
theorem dX7_does_19 : decode cX7_does 19 = .ok (.ifCond .eq 39, 3) := by decide +kernel
theorem dX7_does_22 : decode cX7_does 22 = .ok (.aload_n 0, 1) := by decide +kernel
theorem dX7_does_23 : decode cX7_does 23 = .ok (.iload_n 2, 1) := by decide +kernel
theorem dX7_does_24 : decode cX7_does 24 = .ok (.invokevirtual 166, 3) := by decide +kernel
theorem dX7_does_27 : decode cX7_does 27 = .ok (.istore 5, 2) := by decide +kernel
theorem dX7_does_29 : decode cX7_does 29 = .ok (.iload 5, 2) := by decide +kernel
theorem dX7_does_31 : decode cX7_does 31 = .ok (.ifCond .ne 5, 3) := by decide +kernel
theorem dX7_does_34 : decode cX7_does 34 = .ok (.iconst 1, 1) := by decide +kernel
theorem dX7_does_35 : decode cX7_does 35 = .ok (.ireturn, 1) := by decide +kernel
theorem dX7_does_36 : decode cX7_does 36 = .ok (.aload_n 0, 1) := by decide +kernel
theorem dX7_does_37 : decode cX7_does 37 = .ok (.getfield 90, 3) := by decide +kernel
theorem dX7_does_40 : decode cX7_does 40 = .ok (.iload_n 2, 1) := by decide +kernel
theorem dX7_does_41 : decode cX7_does 41 = .ok (.iconst (-1), 1) := by decide +kernel
theorem dX7_does_42 : decode cX7_does 42 = .ok (.iastore, 1) := by decide +kernel
theorem dX7_does_43 : decode cX7_does 43 = .ok (.iload_n 2, 1) := by decide +kernel
theorem dX7_does_44 : decode cX7_does 44 = .ok (.iload 5, 2) := by decide +kernel
theorem dX7_does_46 : decode cX7_does 46 = .ok (.iadd, 1) := by decide +kernel
theorem dX7_does_47 : decode cX7_does 47 = .ok (.iload_n 1, 1) := by decide +kernel
theorem dX7_does_48 : decode cX7_does 48 = .ok (.if_icmp .le 7, 3) := by decide +kernel
theorem dX7_does_51 : decode cX7_does 51 = .ok (.iconst 1, 1) := by decide +kernel
theorem dX7_does_52 : decode cX7_does 52 = .ok (.goto 4, 3) := by decide +kernel
theorem dX7_does_55 : decode cX7_does 55 = .ok (.iconst 0, 1) := by decide +kernel
theorem dX7_does_56 : decode cX7_does 56 = .ok (.istore 4, 2) := by decide +kernel
theorem dX7_does_58 : decode cX7_does 58 = .ok (.aload_n 0, 1) := by decide +kernel
theorem dX7_does_59 : decode cX7_does 59 = .ok (.getfield 90, 3) := by decide +kernel
theorem dX7_does_62 : decode cX7_does 62 = .ok (.iload_n 2, 1) := by decide +kernel
theorem dX7_does_63 : decode cX7_does 63 = .ok (.iaload, 1) := by decide +kernel
theorem dX7_does_64 : decode cX7_does 64 = .ok (.iconst 1, 1) := by decide +kernel
theorem dX7_does_65 : decode cX7_does 65 = .ok (.iadd, 1) := by decide +kernel
theorem dX7_does_66 : decode cX7_does 66 = .ok (.istore 5, 2) := by decide +kernel
theorem dX7_does_68 : decode cX7_does 68 = .ok (.iload 5, 2) := by decide +kernel
theorem dX7_does_70 : decode cX7_does 70 = .ok (.iconst 5, 1) := by decide +kernel
theorem dX7_does_71 : decode cX7_does 71 = .ok (.if_icmp .ge 31, 3) := by decide +kernel
theorem dX7_does_74 : decode cX7_does 74 = .ok (.iload 5, 2) := by decide +kernel
theorem dX7_does_76 : decode cX7_does 76 = .ok (.aload_n 0, 1) := by decide +kernel
theorem dX7_does_77 : decode cX7_does 77 = .ok (.getfield 87, 3) := by decide +kernel
theorem dX7_does_80 : decode cX7_does 80 = .ok (.iload_n 2, 1) := by decide +kernel
theorem dX7_does_81 : decode cX7_does 81 = .ok (.iaload, 1) := by decide +kernel
theorem dX7_does_82 : decode cX7_does 82 = .ok (.if_icmp .eq 14, 3) := by decide +kernel
theorem dX7_does_85 : decode cX7_does 85 = .ok (.aload_n 0, 1) := by decide +kernel
theorem dX7_does_86 : decode cX7_does 86 = .ok (.getfield 72, 3) := by decide +kernel
theorem dX7_does_89 : decode cX7_does 89 = .ok (.iload 5, 2) := by decide +kernel
theorem dX7_does_91 : decode cX7_does 91 = .ok (.iaload, 1) := by decide +kernel
theorem dX7_does_92 : decode cX7_does 92 = .ok (.iconst 4, 1) := by decide +kernel
theorem dX7_does_93 : decode cX7_does 93 = .ok (.if_icmp .ne 9, 3) := by decide +kernel
theorem dX7_does_96 : decode cX7_does 96 = .ok (.iinc 5 1, 3) := by decide +kernel
theorem dX7_does_99 : decode cX7_does 99 = .ok (.goto (-31), 3) := by decide +kernel
theorem dX7_does_102 : decode cX7_does 102 = .ok (.iload 4, 2) := by decide +kernel
theorem dX7_does_104 : decode cX7_does 104 = .ok (.ifCond .ne 9, 3) := by decide +kernel
theorem dX7_does_107 : decode cX7_does 107 = .ok (.iload 5, 2) := by decide +kernel
theorem dX7_does_109 : decode cX7_does 109 = .ok (.iconst 5, 1) := by decide +kernel
theorem dX7_does_110 : decode cX7_does 110 = .ok (.if_icmp .ne 36, 3) := by decide +kernel
theorem dX7_does_113 : decode cX7_does 113 = .ok (.aload_n 0, 1) := by decide +kernel
theorem dX7_does_114 : decode cX7_does 114 = .ok (.iload_n 2, 1) := by decide +kernel
theorem dX7_does_115 : decode cX7_does 115 = .ok (.invokevirtual 169, 3) := by decide +kernel
theorem dX7_does_118 : decode cX7_does 118 = .ok (.iinc 2 (-1), 3) := by decide +kernel
theorem dX7_does_121 : decode cX7_does 121 = .ok (.iload_n 2, 1) := by decide +kernel
theorem dX7_does_122 : decode cX7_does 122 = .ok (.ifCond .lt 19, 3) := by decide +kernel
theorem dX7_does_125 : decode cX7_does 125 = .ok (.aload_n 0, 1) := by decide +kernel
theorem dX7_does_126 : decode cX7_does 126 = .ok (.aload_n 0, 1) := by decide +kernel
theorem dX7_does_127 : decode cX7_does 127 = .ok (.getfield 90, 3) := by decide +kernel
theorem dX7_does_130 : decode cX7_does 130 = .ok (.iload_n 2, 1) := by decide +kernel
theorem dX7_does_131 : decode cX7_does 131 = .ok (.iaload, 1) := by decide +kernel
theorem dX7_does_132 : decode cX7_does 132 = .ok (.aload_n 0, 1) := by decide +kernel
theorem dX7_does_133 : decode cX7_does 133 = .ok (.getfield 87, 3) := by decide +kernel
theorem dX7_does_136 : decode cX7_does 136 = .ok (.iload_n 2, 1) := by decide +kernel
theorem dX7_does_137 : decode cX7_does 137 = .ok (.iaload, 1) := by decide +kernel
theorem dX7_does_138 : decode cX7_does 138 = .ok (.invokevirtual 172, 3) := by decide +kernel
theorem dX7_does_141 : decode cX7_does 141 = .ok (.iconst 0, 1) := by decide +kernel
theorem dX7_does_142 : decode cX7_does 142 = .ok (.istore_n 3, 1) := by decide +kernel
theorem dX7_does_143 : decode cX7_does 143 = .ok (.goto 42, 3) := by decide +kernel
theorem dX7_does_146 : decode cX7_does 146 = .ok (.aload_n 0, 1) := by decide +kernel
theorem dX7_does_147 : decode cX7_does 147 = .ok (.getfield 90, 3) := by decide +kernel
theorem dX7_does_150 : decode cX7_does 150 = .ok (.iload_n 2, 1) := by decide +kernel
theorem dX7_does_151 : decode cX7_does 151 = .ok (.iload 5, 2) := by decide +kernel
theorem dX7_does_153 : decode cX7_does 153 = .ok (.iastore, 1) := by decide +kernel
theorem dX7_does_154 : decode cX7_does 154 = .ok (.aload_n 0, 1) := by decide +kernel
theorem dX7_does_155 : decode cX7_does 155 = .ok (.aload_n 0, 1) := by decide +kernel
theorem dX7_does_156 : decode cX7_does 156 = .ok (.getfield 87, 3) := by decide +kernel
theorem dX7_does_159 : decode cX7_does 159 = .ok (.iload_n 2, 1) := by decide +kernel
theorem dX7_does_160 : decode cX7_does 160 = .ok (.iaload, 1) := by decide +kernel
theorem dX7_does_161 : decode cX7_does 161 = .ok (.iload 5, 2) := by decide +kernel
theorem dX7_does_163 : decode cX7_does 163 = .ok (.invokevirtual 172, 3) := by decide +kernel
theorem dX7_does_166 : decode cX7_does 166 = .ok (.aload_n 0, 1) := by decide +kernel
theorem dX7_does_167 : decode cX7_does 167 = .ok (.getfield 78, 3) := by decide +kernel
theorem dX7_does_170 : decode cX7_does 170 = .ok (.iload_n 2, 1) := by decide +kernel
theorem dX7_does_171 : decode cX7_does 171 = .ok (.iconst 1, 1) := by decide +kernel
theorem dX7_does_172 : decode cX7_does 172 = .ok (.iadd, 1) := by decide +kernel
theorem dX7_does_173 : decode cX7_does 173 = .ok (.aload_n 0, 1) := by decide +kernel
theorem dX7_does_174 : decode cX7_does 174 = .ok (.getfield 81, 3) := by decide +kernel
theorem dX7_does_177 : decode cX7_does 177 = .ok (.iload_n 2, 1) := by decide +kernel
theorem dX7_does_178 : decode cX7_does 178 = .ok (.iaload, 1) := by decide +kernel
theorem dX7_does_179 : decode cX7_does 179 = .ok (.iastore, 1) := by decide +kernel
theorem dX7_does_180 : decode cX7_does 180 = .ok (.iinc 2 1, 3) := by decide +kernel
theorem dX7_does_183 : decode cX7_does 183 = .ok (.iconst 1, 1) := by decide +kernel
theorem dX7_does_184 : decode cX7_does 184 = .ok (.istore_n 3, 1) := by decide +kernel
theorem dX7_does_185 : decode cX7_does 185 = .ok (.goto (-174), 3) := by decide +kernel
theorem dX7_does_188 : decode cX7_does 188 = .ok (.iconst 0, 1) := by decide +kernel
theorem dX7_does_189 : decode cX7_does 189 = .ok (.ireturn, 1) := by decide +kernel
theorem dX7_lies_0 : decode cX7_lies 0 = .ok (.iconst 0, 1) := by decide +kernel
theorem dX7_lies_1 : decode cX7_lies 1 = .ok (.istore_n 1, 1) := by decide +kernel
theorem dX7_lies_2 : decode cX7_lies 2 = .ok (.iload_n 1, 1) := by decide +kernel
theorem dX7_lies_3 : decode cX7_lies 3 = .ok (.iconst 5, 1) := by decide +kernel
theorem dX7_lies_4 : decode cX7_lies 4 = .ok (.if_icmp .ge 21, 3) := by decide +kernel
theorem dX7_lies_7 : decode cX7_lies 7 = .ok (.aload_n 0, 1) := by decide +kernel
theorem dX7_lies_8 : decode cX7_lies 8 = .ok (.getfield 72, 3) := by decide +kernel
theorem dX7_lies_11 : decode cX7_lies 11 = .ok (.iload_n 1, 1) := by decide +kernel
theorem dX7_lies_12 : decode cX7_lies 12 = .ok (.aload_n 0, 1) := by decide +kernel
theorem dX7_lies_13 : decode cX7_lies 13 = .ok (.getfield 51, 3) := by decide +kernel
theorem dX7_lies_16 : decode cX7_lies 16 = .ok (.iload_n 1, 1) := by decide +kernel
theorem dX7_lies_17 : decode cX7_lies 17 = .ok (.iaload, 1) := by decide +kernel
theorem dX7_lies_18 : decode cX7_lies 18 = .ok (.iastore, 1) := by decide +kernel
theorem dX7_lies_19 : decode cX7_lies 19 = .ok (.iinc 1 1, 3) := by decide +kernel
theorem dX7_lies_22 : decode cX7_lies 22 = .ok (.goto (-20), 3) := by decide +kernel
theorem dX7_lies_25 : decode cX7_lies 25 = .ok (.iconst 0, 1) := by decide +kernel
theorem dX7_lies_26 : decode cX7_lies 26 = .ok (.istore_n 1, 1) := by decide +kernel
theorem dX7_lies_27 : decode cX7_lies 27 = .ok (.iload_n 1, 1) := by decide +kernel
theorem dX7_lies_28 : decode cX7_lies 28 = .ok (.bipush 20, 2) := by decide +kernel
theorem dX7_lies_30 : decode cX7_lies 30 = .ok (.if_icmp .ge 21, 3) := by decide +kernel
theorem dX7_lies_33 : decode cX7_lies 33 = .ok (.aload_n 0, 1) := by decide +kernel
theorem dX7_lies_34 : decode cX7_lies 34 = .ok (.getfield 75, 3) := by decide +kernel
theorem dX7_lies_37 : decode cX7_lies 37 = .ok (.iload_n 1, 1) := by decide +kernel
theorem dX7_lies_38 : decode cX7_lies 38 = .ok (.aload_n 0, 1) := by decide +kernel
theorem dX7_lies_39 : decode cX7_lies 39 = .ok (.getfield 54, 3) := by decide +kernel
theorem dX7_lies_42 : decode cX7_lies 42 = .ok (.iload_n 1, 1) := by decide +kernel
theorem dX7_lies_43 : decode cX7_lies 43 = .ok (.iaload, 1) := by decide +kernel
theorem dX7_lies_44 : decode cX7_lies 44 = .ok (.iastore, 1) := by decide +kernel
theorem dX7_lies_45 : decode cX7_lies 45 = .ok (.iinc 1 1, 3) := by decide +kernel
theorem dX7_lies_48 : decode cX7_lies 48 = .ok (.goto (-21), 3) := by decide +kernel
theorem dX7_lies_51 : decode cX7_lies 51 = .ok (.return_, 1) := by decide +kernel
theorem dX7_stackOf_0 : decode cX7_stackOf 0 = .ok (.iconst (-1), 1) := by decide +kernel
theorem dX7_stackOf_1 : decode cX7_stackOf 1 = .ok (.istore_n 2, 1) := by decide +kernel
theorem dX7_stackOf_2 : decode cX7_stackOf 2 = .ok (.iconst 0, 1) := by decide +kernel
theorem dX7_stackOf_3 : decode cX7_stackOf 3 = .ok (.istore_n 3, 1) := by decide +kernel
theorem dX7_stackOf_4 : decode cX7_stackOf 4 = .ok (.iload_n 3, 1) := by decide +kernel
theorem dX7_stackOf_5 : decode cX7_stackOf 5 = .ok (.iconst 5, 1) := by decide +kernel
theorem dX7_stackOf_6 : decode cX7_stackOf 6 = .ok (.if_icmp .ge 50, 3) := by decide +kernel
theorem dX7_stackOf_9 : decode cX7_stackOf 9 = .ok (.iconst 0, 1) := by decide +kernel
theorem dX7_stackOf_10 : decode cX7_stackOf 10 = .ok (.istore 4, 2) := by decide +kernel
theorem dX7_stackOf_12 : decode cX7_stackOf 12 = .ok (.iload 4, 2) := by decide +kernel
theorem dX7_stackOf_14 : decode cX7_stackOf 14 = .ok (.aload_n 0, 1) := by decide +kernel
theorem dX7_stackOf_15 : decode cX7_stackOf 15 = .ok (.getfield 72, 3) := by decide +kernel
theorem dX7_stackOf_18 : decode cX7_stackOf 18 = .ok (.iload_n 3, 1) := by decide +kernel
theorem dX7_stackOf_19 : decode cX7_stackOf 19 = .ok (.iaload, 1) := by decide +kernel
theorem dX7_stackOf_20 : decode cX7_stackOf 20 = .ok (.if_icmp .ge 30, 3) := by decide +kernel
theorem dX7_stackOf_23 : decode cX7_stackOf 23 = .ok (.aload_n 0, 1) := by decide +kernel
theorem dX7_stackOf_24 : decode cX7_stackOf 24 = .ok (.getfield 75, 3) := by decide +kernel
theorem dX7_stackOf_27 : decode cX7_stackOf 27 = .ok (.iconst 4, 1) := by decide +kernel
theorem dX7_stackOf_28 : decode cX7_stackOf 28 = .ok (.iload_n 3, 1) := by decide +kernel
theorem dX7_stackOf_29 : decode cX7_stackOf 29 = .ok (.imul, 1) := by decide +kernel
theorem dX7_stackOf_30 : decode cX7_stackOf 30 = .ok (.iload 4, 2) := by decide +kernel
theorem dX7_stackOf_32 : decode cX7_stackOf 32 = .ok (.iadd, 1) := by decide +kernel
theorem dX7_stackOf_33 : decode cX7_stackOf 33 = .ok (.iaload, 1) := by decide +kernel
theorem dX7_stackOf_34 : decode cX7_stackOf 34 = .ok (.iload_n 1, 1) := by decide +kernel
theorem dX7_stackOf_35 : decode cX7_stackOf 35 = .ok (.if_icmp .ne 7, 3) := by decide +kernel
theorem dX7_stackOf_38 : decode cX7_stackOf 38 = .ok (.iload_n 3, 1) := by decide +kernel
theorem dX7_stackOf_39 : decode cX7_stackOf 39 = .ok (.goto 4, 3) := by decide +kernel
theorem dX7_stackOf_42 : decode cX7_stackOf 42 = .ok (.iload_n 2, 1) := by decide +kernel
theorem dX7_stackOf_43 : decode cX7_stackOf 43 = .ok (.istore_n 2, 1) := by decide +kernel
theorem dX7_stackOf_44 : decode cX7_stackOf 44 = .ok (.iinc 4 1, 3) := by decide +kernel
theorem dX7_stackOf_47 : decode cX7_stackOf 47 = .ok (.goto (-35), 3) := by decide +kernel
theorem dX7_stackOf_50 : decode cX7_stackOf 50 = .ok (.iinc 3 1, 3) := by decide +kernel
theorem dX7_stackOf_53 : decode cX7_stackOf 53 = .ok (.goto (-49), 3) := by decide +kernel
theorem dX7_stackOf_56 : decode cX7_stackOf 56 = .ok (.iload_n 2, 1) := by decide +kernel
theorem dX7_stackOf_57 : decode cX7_stackOf 57 = .ok (.ireturn, 1) := by decide +kernel
theorem dX7_diggings_0 : decode cX7_diggings 0 = .ok (.iload_n 1, 1) := by decide +kernel
theorem dX7_diggings_1 : decode cX7_diggings 1 = .ok (.i2l, 1) := by decide +kernel
theorem dX7_diggings_2 : decode cX7_diggings 2 = .ok (.lconst 0, 1) := by decide +kernel
theorem dX7_diggings_3 : decode cX7_diggings 3 = .ok (.ldc2_w 175, 3) := by decide +kernel
theorem dX7_diggings_6 : decode cX7_diggings 6 = .ok (.invokestatic 96, 3) := by decide +kernel
theorem dX7_diggings_9 : decode cX7_diggings 9 = .ok (.ifCond .eq 20, 3) := by decide +kernel
theorem dX7_diggings_12 : decode cX7_diggings 12 = .ok (.lload_n 2, 1) := by decide +kernel
theorem dX7_diggings_13 : decode cX7_diggings 13 = .ok (.lconst 0, 1) := by decide +kernel
theorem dX7_diggings_14 : decode cX7_diggings 14 = .ok (.lcmp, 1) := by decide +kernel
theorem dX7_diggings_15 : decode cX7_diggings 15 = .ok (.ifCond .lt 14, 3) := by decide +kernel
theorem dX7_diggings_18 : decode cX7_diggings 18 = .ok (.lload_n 2, 1) := by decide +kernel
theorem dX7_diggings_19 : decode cX7_diggings 19 = .ok (.bipush 6, 2) := by decide +kernel
theorem dX7_diggings_21 : decode cX7_diggings 21 = .ok (.iload_n 1, 1) := by decide +kernel
theorem dX7_diggings_22 : decode cX7_diggings 22 = .ok (.imul, 1) := by decide +kernel
theorem dX7_diggings_23 : decode cX7_diggings 23 = .ok (.lushr, 1) := by decide +kernel
theorem dX7_diggings_24 : decode cX7_diggings 24 = .ok (.lconst 0, 1) := by decide +kernel
theorem dX7_diggings_25 : decode cX7_diggings 25 = .ok (.lcmp, 1) := by decide +kernel
theorem dX7_diggings_26 : decode cX7_diggings 26 = .ok (.ifCond .eq 5, 3) := by decide +kernel
theorem dX7_diggings_29 : decode cX7_diggings 29 = .ok (.iconst (-1), 1) := by decide +kernel
theorem dX7_diggings_30 : decode cX7_diggings 30 = .ok (.ireturn, 1) := by decide +kernel
theorem dX7_diggings_31 : decode cX7_diggings 31 = .ok (.aload_n 0, 1) := by decide +kernel
theorem dX7_diggings_32 : decode cX7_diggings 32 = .ok (.iload_n 1, 1) := by decide +kernel
theorem dX7_diggings_33 : decode cX7_diggings 33 = .ok (.putfield 159, 3) := by decide +kernel
theorem dX7_diggings_36 : decode cX7_diggings 36 = .ok (.iconst 0, 1) := by decide +kernel
theorem dX7_diggings_37 : decode cX7_diggings 37 = .ok (.istore 4, 2) := by decide +kernel
theorem dX7_diggings_39 : decode cX7_diggings 39 = .ok (.iload 4, 2) := by decide +kernel
theorem dX7_diggings_41 : decode cX7_diggings 41 = .ok (.iload_n 1, 1) := by decide +kernel
theorem dX7_diggings_42 : decode cX7_diggings 42 = .ok (.if_icmp .ge 97, 3) := by decide +kernel
theorem dX7_diggings_45 : decode cX7_diggings 45 = .ok (.aload_n 0, 1) := by decide +kernel
theorem dX7_diggings_46 : decode cX7_diggings 46 = .ok (.getfield 69, 3) := by decide +kernel
theorem dX7_diggings_49 : decode cX7_diggings 49 = .ok (.iload 4, 2) := by decide +kernel
theorem dX7_diggings_51 : decode cX7_diggings 51 = .ok (.lload_n 2, 1) := by decide +kernel
theorem dX7_diggings_52 : decode cX7_diggings 52 = .ok (.bipush 6, 2) := by decide +kernel
theorem dX7_diggings_54 : decode cX7_diggings 54 = .ok (.iload 4, 2) := by decide +kernel
theorem dX7_diggings_56 : decode cX7_diggings 56 = .ok (.imul, 1) := by decide +kernel
theorem dX7_diggings_57 : decode cX7_diggings 57 = .ok (.lshr, 1) := by decide +kernel
theorem dX7_diggings_58 : decode cX7_diggings 58 = .ok (.ldc2_w 177, 3) := by decide +kernel
theorem dX7_diggings_61 : decode cX7_diggings 61 = .ok (.land, 1) := by decide +kernel
theorem dX7_diggings_62 : decode cX7_diggings 62 = .ok (.l2i, 1) := by decide +kernel
theorem dX7_diggings_63 : decode cX7_diggings 63 = .ok (.iastore, 1) := by decide +kernel
theorem dX7_diggings_64 : decode cX7_diggings 64 = .ok (.iconst 0, 1) := by decide +kernel
theorem dX7_diggings_65 : decode cX7_diggings 65 = .ok (.istore 5, 2) := by decide +kernel
theorem dX7_diggings_67 : decode cX7_diggings 67 = .ok (.iconst 0, 1) := by decide +kernel
theorem dX7_diggings_68 : decode cX7_diggings 68 = .ok (.istore 6, 2) := by decide +kernel
theorem dX7_diggings_70 : decode cX7_diggings 70 = .ok (.iload 6, 2) := by decide +kernel
theorem dX7_diggings_72 : decode cX7_diggings 72 = .ok (.iload 4, 2) := by decide +kernel
theorem dX7_diggings_74 : decode cX7_diggings 74 = .ok (.if_icmp .ge 38, 3) := by decide +kernel
theorem dX7_diggings_77 : decode cX7_diggings 77 = .ok (.iload 5, 2) := by decide +kernel
theorem dX7_diggings_79 : decode cX7_diggings 79 = .ok (.ifCond .ne 20, 3) := by decide +kernel
theorem dX7_diggings_82 : decode cX7_diggings 82 = .ok (.aload_n 0, 1) := by decide +kernel
theorem dX7_diggings_83 : decode cX7_diggings 83 = .ok (.getfield 69, 3) := by decide +kernel
theorem dX7_diggings_86 : decode cX7_diggings 86 = .ok (.iload 6, 2) := by decide +kernel
theorem dX7_diggings_88 : decode cX7_diggings 88 = .ok (.iaload, 1) := by decide +kernel
theorem dX7_diggings_89 : decode cX7_diggings 89 = .ok (.aload_n 0, 1) := by decide +kernel
theorem dX7_diggings_90 : decode cX7_diggings 90 = .ok (.getfield 69, 3) := by decide +kernel
theorem dX7_diggings_93 : decode cX7_diggings 93 = .ok (.iload 4, 2) := by decide +kernel
theorem dX7_diggings_95 : decode cX7_diggings 95 = .ok (.iaload, 1) := by decide +kernel
theorem dX7_diggings_96 : decode cX7_diggings 96 = .ok (.if_icmp .ne 7, 3) := by decide +kernel
theorem dX7_diggings_99 : decode cX7_diggings 99 = .ok (.iconst 1, 1) := by decide +kernel
theorem dX7_diggings_100 : decode cX7_diggings 100 = .ok (.goto 4, 3) := by decide +kernel
theorem dX7_diggings_103 : decode cX7_diggings 103 = .ok (.iconst 0, 1) := by decide +kernel
theorem dX7_diggings_104 : decode cX7_diggings 104 = .ok (.istore 5, 2) := by decide +kernel
theorem dX7_diggings_106 : decode cX7_diggings 106 = .ok (.iinc 6 1, 3) := by decide +kernel
theorem dX7_diggings_109 : decode cX7_diggings 109 = .ok (.goto (-39), 3) := by decide +kernel
theorem dX7_diggings_112 : decode cX7_diggings 112 = .ok (.aload_n 0, 1) := by decide +kernel
theorem dX7_diggings_113 : decode cX7_diggings 113 = .ok (.aload_n 0, 1) := by decide +kernel
theorem dX7_diggings_114 : decode cX7_diggings 114 = .ok (.getfield 69, 3) := by decide +kernel
theorem dX7_diggings_117 : decode cX7_diggings 117 = .ok (.iload 4, 2) := by decide +kernel
theorem dX7_diggings_119 : decode cX7_diggings 119 = .ok (.iaload, 1) := by decide +kernel
theorem dX7_diggings_120 : decode cX7_diggings 120 = .ok (.invokevirtual 114, 3) := by decide +kernel
theorem dX7_diggings_123 : decode cX7_diggings 123 = .ok (.ifCond .eq 8, 3) := by decide +kernel
theorem dX7_diggings_126 : decode cX7_diggings 126 = .ok (.iload 5, 2) := by decide +kernel
theorem dX7_diggings_128 : decode cX7_diggings 128 = .ok (.ifCond .eq 5, 3) := by decide +kernel
theorem dX7_diggings_131 : decode cX7_diggings 131 = .ok (.iconst (-1), 1) := by decide +kernel
theorem dX7_diggings_132 : decode cX7_diggings 132 = .ok (.ireturn, 1) := by decide +kernel
theorem dX7_diggings_133 : decode cX7_diggings 133 = .ok (.iinc 4 1, 3) := by decide +kernel
theorem dX7_diggings_136 : decode cX7_diggings 136 = .ok (.goto (-97), 3) := by decide +kernel
theorem dX7_diggings_139 : decode cX7_diggings 139 = .ok (.aload_n 0, 1) := by decide +kernel
theorem dX7_diggings_140 : decode cX7_diggings 140 = .ok (.getfield 51, 3) := by decide +kernel
theorem dX7_diggings_143 : decode cX7_diggings 143 = .ok (.iconst 0, 1) := by decide +kernel
theorem dX7_diggings_144 : decode cX7_diggings 144 = .ok (.iaload, 1) := by decide +kernel
theorem dX7_diggings_145 : decode cX7_diggings 145 = .ok (.aload_n 0, 1) := by decide +kernel
theorem dX7_diggings_146 : decode cX7_diggings 146 = .ok (.getfield 51, 3) := by decide +kernel
theorem dX7_diggings_149 : decode cX7_diggings 149 = .ok (.iconst 1, 1) := by decide +kernel
theorem dX7_diggings_150 : decode cX7_diggings 150 = .ok (.iaload, 1) := by decide +kernel
theorem dX7_diggings_151 : decode cX7_diggings 151 = .ok (.iadd, 1) := by decide +kernel
theorem dX7_diggings_152 : decode cX7_diggings 152 = .ok (.aload_n 0, 1) := by decide +kernel
theorem dX7_diggings_153 : decode cX7_diggings 153 = .ok (.getfield 51, 3) := by decide +kernel
theorem dX7_diggings_156 : decode cX7_diggings 156 = .ok (.iconst 2, 1) := by decide +kernel
theorem dX7_diggings_157 : decode cX7_diggings 157 = .ok (.iaload, 1) := by decide +kernel
theorem dX7_diggings_158 : decode cX7_diggings 158 = .ok (.iadd, 1) := by decide +kernel
theorem dX7_diggings_159 : decode cX7_diggings 159 = .ok (.aload_n 0, 1) := by decide +kernel
theorem dX7_diggings_160 : decode cX7_diggings 160 = .ok (.getfield 51, 3) := by decide +kernel
theorem dX7_diggings_163 : decode cX7_diggings 163 = .ok (.iconst 3, 1) := by decide +kernel
theorem dX7_diggings_164 : decode cX7_diggings 164 = .ok (.iaload, 1) := by decide +kernel
theorem dX7_diggings_165 : decode cX7_diggings 165 = .ok (.iadd, 1) := by decide +kernel
theorem dX7_diggings_166 : decode cX7_diggings 166 = .ok (.aload_n 0, 1) := by decide +kernel
theorem dX7_diggings_167 : decode cX7_diggings 167 = .ok (.getfield 51, 3) := by decide +kernel
theorem dX7_diggings_170 : decode cX7_diggings 170 = .ok (.iconst 4, 1) := by decide +kernel
theorem dX7_diggings_171 : decode cX7_diggings 171 = .ok (.iaload, 1) := by decide +kernel
theorem dX7_diggings_172 : decode cX7_diggings 172 = .ok (.iadd, 1) := by decide +kernel
theorem dX7_diggings_173 : decode cX7_diggings 173 = .ok (.bipush 10, 2) := by decide +kernel
theorem dX7_diggings_175 : decode cX7_diggings 175 = .ok (.if_icmp .gt 7, 3) := by decide +kernel
theorem dX7_diggings_178 : decode cX7_diggings 178 = .ok (.iconst 1, 1) := by decide +kernel
theorem dX7_diggings_179 : decode cX7_diggings 179 = .ok (.goto 4, 3) := by decide +kernel
theorem dX7_diggings_182 : decode cX7_diggings 182 = .ok (.iconst 0, 1) := by decide +kernel
theorem dX7_diggings_183 : decode cX7_diggings 183 = .ok (.istore 4, 2) := by decide +kernel
theorem dX7_diggings_185 : decode cX7_diggings 185 = .ok (.iconst 0, 1) := by decide +kernel
theorem dX7_diggings_186 : decode cX7_diggings 186 = .ok (.istore 5, 2) := by decide +kernel
theorem dX7_diggings_188 : decode cX7_diggings 188 = .ok (.iload 5, 2) := by decide +kernel
theorem dX7_diggings_190 : decode cX7_diggings 190 = .ok (.iload_n 1, 1) := by decide +kernel
theorem dX7_diggings_191 : decode cX7_diggings 191 = .ok (.if_icmp .ge 37, 3) := by decide +kernel
theorem dX7_diggings_194 : decode cX7_diggings 194 = .ok (.iload 4, 2) := by decide +kernel
theorem dX7_diggings_196 : decode cX7_diggings 196 = .ok (.ifCond .eq 23, 3) := by decide +kernel
theorem dX7_diggings_199 : decode cX7_diggings 199 = .ok (.aload_n 0, 1) := by decide +kernel
theorem dX7_diggings_200 : decode cX7_diggings 200 = .ok (.getfield 22, 3) := by decide +kernel
theorem dX7_diggings_203 : decode cX7_diggings 203 = .ok (.aload_n 0, 1) := by decide +kernel
theorem dX7_diggings_204 : decode cX7_diggings 204 = .ok (.getfield 69, 3) := by decide +kernel
theorem dX7_diggings_207 : decode cX7_diggings 207 = .ok (.iload 5, 2) := by decide +kernel
theorem dX7_diggings_209 : decode cX7_diggings 209 = .ok (.iaload, 1) := by decide +kernel
theorem dX7_diggings_210 : decode cX7_diggings 210 = .ok (.iaload, 1) := by decide +kernel
theorem dX7_diggings_211 : decode cX7_diggings 211 = .ok (.iconst 3, 1) := by decide +kernel
theorem dX7_diggings_212 : decode cX7_diggings 212 = .ok (.if_icmp .ne 7, 3) := by decide +kernel
theorem dX7_diggings_215 : decode cX7_diggings 215 = .ok (.iconst 1, 1) := by decide +kernel
theorem dX7_diggings_216 : decode cX7_diggings 216 = .ok (.goto 4, 3) := by decide +kernel
theorem dX7_diggings_219 : decode cX7_diggings 219 = .ok (.iconst 0, 1) := by decide +kernel
theorem dX7_diggings_220 : decode cX7_diggings 220 = .ok (.istore 4, 2) := by decide +kernel
theorem dX7_diggings_222 : decode cX7_diggings 222 = .ok (.iinc 5 1, 3) := by decide +kernel
theorem dX7_diggings_225 : decode cX7_diggings 225 = .ok (.goto (-37), 3) := by decide +kernel
theorem dX7_diggings_228 : decode cX7_diggings 228 = .ok (.iload 4, 2) := by decide +kernel
theorem dX7_diggings_230 : decode cX7_diggings 230 = .ok (.ifCond .ne 6, 3) := by decide +kernel
theorem dX7_diggings_233 : decode cX7_diggings 233 = .ok (.bipush (-2), 2) := by decide +kernel
theorem dX7_diggings_235 : decode cX7_diggings 235 = .ok (.ireturn, 1) := by decide +kernel
theorem dX7_diggings_236 : decode cX7_diggings 236 = .ok (.iconst 0, 1) := by decide +kernel
theorem dX7_diggings_237 : decode cX7_diggings 237 = .ok (.istore 5, 2) := by decide +kernel
theorem dX7_diggings_239 : decode cX7_diggings 239 = .ok (.aload_n 0, 1) := by decide +kernel
theorem dX7_diggings_240 : decode cX7_diggings 240 = .ok (.invokevirtual 179, 3) := by decide +kernel
theorem dX7_diggings_243 : decode cX7_diggings 243 = .ok (.aload_n 0, 1) := by decide +kernel
theorem dX7_diggings_244 : decode cX7_diggings 244 = .ok (.iload 5, 2) := by decide +kernel
theorem dX7_diggings_246 : decode cX7_diggings 246 = .ok (.invokevirtual 182, 3) := by decide +kernel
theorem dX7_diggings_249 : decode cX7_diggings 249 = .ok (.ifCond .ne 13, 3) := by decide +kernel
theorem dX7_diggings_252 : decode cX7_diggings 252 = .ok (.iinc 5 1, 3) := by decide +kernel
theorem dX7_diggings_255 : decode cX7_diggings 255 = .ok (.aload_n 0, 1) := by decide +kernel
theorem dX7_diggings_256 : decode cX7_diggings 256 = .ok (.invokevirtual 179, 3) := by decide +kernel
theorem dX7_diggings_259 : decode cX7_diggings 259 = .ok (.goto (-16), 3) := by decide +kernel
theorem dX7_diggings_262 : decode cX7_diggings 262 = .ok (.iload 5, 2) := by decide +kernel
theorem dX7_diggings_264 : decode cX7_diggings 264 = .ok (.ireturn, 1) := by decide +kernel
theorem dX7_front_0 : decode cX7_front 0 = .ok (.iconst 0, 1) := by decide +kernel
theorem dX7_front_1 : decode cX7_front 1 = .ok (.istore_n 1, 1) := by decide +kernel
theorem dX7_front_2 : decode cX7_front 2 = .ok (.iconst 0, 1) := by decide +kernel
theorem dX7_front_3 : decode cX7_front 3 = .ok (.istore_n 2, 1) := by decide +kernel
theorem dX7_front_4 : decode cX7_front 4 = .ok (.iload_n 2, 1) := by decide +kernel
theorem dX7_front_5 : decode cX7_front 5 = .ok (.aload_n 0, 1) := by decide +kernel
theorem dX7_front_6 : decode cX7_front 6 = .ok (.getfield 185, 3) := by decide +kernel
theorem dX7_front_9 : decode cX7_front 9 = .ok (.if_icmp .ge 30, 3) := by decide +kernel
theorem dX7_front_12 : decode cX7_front 12 = .ok (.iload_n 1, 1) := by decide +kernel
theorem dX7_front_13 : decode cX7_front 13 = .ok (.aload_n 0, 1) := by decide +kernel
theorem dX7_front_14 : decode cX7_front 14 = .ok (.getfield 16, 3) := by decide +kernel
theorem dX7_front_17 : decode cX7_front 17 = .ok (.aload_n 0, 1) := by decide +kernel
theorem dX7_front_18 : decode cX7_front 18 = .ok (.getfield 57, 3) := by decide +kernel
theorem dX7_front_21 : decode cX7_front 21 = .ok (.iload_n 2, 1) := by decide +kernel
theorem dX7_front_22 : decode cX7_front 22 = .ok (.iaload, 1) := by decide +kernel
theorem dX7_front_23 : decode cX7_front 23 = .ok (.iaload, 1) := by decide +kernel
theorem dX7_front_24 : decode cX7_front 24 = .ok (.bipush 8, 2) := by decide +kernel
theorem dX7_front_26 : decode cX7_front 26 = .ok (.iconst 2, 1) := by decide +kernel
theorem dX7_front_27 : decode cX7_front 27 = .ok (.iload_n 2, 1) := by decide +kernel
theorem dX7_front_28 : decode cX7_front 28 = .ok (.imul, 1) := by decide +kernel
theorem dX7_front_29 : decode cX7_front 29 = .ok (.isub, 1) := by decide +kernel
theorem dX7_front_30 : decode cX7_front 30 = .ok (.imul, 1) := by decide +kernel
theorem dX7_front_31 : decode cX7_front 31 = .ok (.iadd, 1) := by decide +kernel
theorem dX7_front_32 : decode cX7_front 32 = .ok (.istore_n 1, 1) := by decide +kernel
theorem dX7_front_33 : decode cX7_front 33 = .ok (.iinc 2 1, 3) := by decide +kernel
theorem dX7_front_36 : decode cX7_front 36 = .ok (.goto (-32), 3) := by decide +kernel
theorem dX7_front_39 : decode cX7_front 39 = .ok (.iload_n 1, 1) := by decide +kernel
theorem dX7_front_40 : decode cX7_front 40 = .ok (.ireturn, 1) := by decide +kernel
theorem dX7_rear_0 : decode cX7_rear 0 = .ok (.iconst 0, 1) := by decide +kernel
theorem dX7_rear_1 : decode cX7_rear 1 = .ok (.istore_n 1, 1) := by decide +kernel
theorem dX7_rear_2 : decode cX7_rear 2 = .ok (.iconst 0, 1) := by decide +kernel
theorem dX7_rear_3 : decode cX7_rear 3 = .ok (.istore_n 2, 1) := by decide +kernel
theorem dX7_rear_4 : decode cX7_rear 4 = .ok (.iload_n 2, 1) := by decide +kernel
theorem dX7_rear_5 : decode cX7_rear 5 = .ok (.aload_n 0, 1) := by decide +kernel
theorem dX7_rear_6 : decode cX7_rear 6 = .ok (.getfield 185, 3) := by decide +kernel
theorem dX7_rear_9 : decode cX7_rear 9 = .ok (.if_icmp .ge 29, 3) := by decide +kernel
theorem dX7_rear_12 : decode cX7_rear 12 = .ok (.iload_n 1, 1) := by decide +kernel
theorem dX7_rear_13 : decode cX7_rear 13 = .ok (.aload_n 0, 1) := by decide +kernel
theorem dX7_rear_14 : decode cX7_rear 14 = .ok (.getfield 16, 3) := by decide +kernel
theorem dX7_rear_17 : decode cX7_rear 17 = .ok (.aload_n 0, 1) := by decide +kernel
theorem dX7_rear_18 : decode cX7_rear 18 = .ok (.getfield 57, 3) := by decide +kernel
theorem dX7_rear_21 : decode cX7_rear 21 = .ok (.iload_n 2, 1) := by decide +kernel
theorem dX7_rear_22 : decode cX7_rear 22 = .ok (.iaload, 1) := by decide +kernel
theorem dX7_rear_23 : decode cX7_rear 23 = .ok (.iaload, 1) := by decide +kernel
theorem dX7_rear_24 : decode cX7_rear 24 = .ok (.iconst 2, 1) := by decide +kernel
theorem dX7_rear_25 : decode cX7_rear 25 = .ok (.iload_n 2, 1) := by decide +kernel
theorem dX7_rear_26 : decode cX7_rear 26 = .ok (.imul, 1) := by decide +kernel
theorem dX7_rear_27 : decode cX7_rear 27 = .ok (.iconst 1, 1) := by decide +kernel
theorem dX7_rear_28 : decode cX7_rear 28 = .ok (.iadd, 1) := by decide +kernel
theorem dX7_rear_29 : decode cX7_rear 29 = .ok (.imul, 1) := by decide +kernel
theorem dX7_rear_30 : decode cX7_rear 30 = .ok (.iadd, 1) := by decide +kernel
theorem dX7_rear_31 : decode cX7_rear 31 = .ok (.istore_n 1, 1) := by decide +kernel
theorem dX7_rear_32 : decode cX7_rear 32 = .ok (.iinc 2 1, 3) := by decide +kernel
theorem dX7_rear_35 : decode cX7_rear 35 = .ok (.goto (-31), 3) := by decide +kernel
theorem dX7_rear_38 : decode cX7_rear 38 = .ok (.iload_n 1, 1) := by decide +kernel
theorem dX7_rear_39 : decode cX7_rear 39 = .ok (.ireturn, 1) := by decide +kernel
theorem dX7_heavy_0 : decode cX7_heavy 0 = .ok (.iconst 0, 1) := by decide +kernel
theorem dX7_heavy_1 : decode cX7_heavy 1 = .ok (.istore_n 1, 1) := by decide +kernel
theorem dX7_heavy_2 : decode cX7_heavy 2 = .ok (.iconst 0, 1) := by decide +kernel
theorem dX7_heavy_3 : decode cX7_heavy 3 = .ok (.istore_n 2, 1) := by decide +kernel
theorem dX7_heavy_4 : decode cX7_heavy 4 = .ok (.iload_n 2, 1) := by decide +kernel
theorem dX7_heavy_5 : decode cX7_heavy 5 = .ok (.aload_n 0, 1) := by decide +kernel
theorem dX7_heavy_6 : decode cX7_heavy 6 = .ok (.getfield 185, 3) := by decide +kernel
theorem dX7_heavy_9 : decode cX7_heavy 9 = .ok (.if_icmp .ge 23, 3) := by decide +kernel
theorem dX7_heavy_12 : decode cX7_heavy 12 = .ok (.iload_n 1, 1) := by decide +kernel
theorem dX7_heavy_13 : decode cX7_heavy 13 = .ok (.aload_n 0, 1) := by decide +kernel
theorem dX7_heavy_14 : decode cX7_heavy 14 = .ok (.getfield 16, 3) := by decide +kernel
theorem dX7_heavy_17 : decode cX7_heavy 17 = .ok (.aload_n 0, 1) := by decide +kernel
theorem dX7_heavy_18 : decode cX7_heavy 18 = .ok (.getfield 57, 3) := by decide +kernel
theorem dX7_heavy_21 : decode cX7_heavy 21 = .ok (.iload_n 2, 1) := by decide +kernel
theorem dX7_heavy_22 : decode cX7_heavy 22 = .ok (.iaload, 1) := by decide +kernel
theorem dX7_heavy_23 : decode cX7_heavy 23 = .ok (.iaload, 1) := by decide +kernel
theorem dX7_heavy_24 : decode cX7_heavy 24 = .ok (.iadd, 1) := by decide +kernel
theorem dX7_heavy_25 : decode cX7_heavy 25 = .ok (.istore_n 1, 1) := by decide +kernel
theorem dX7_heavy_26 : decode cX7_heavy 26 = .ok (.iinc 2 1, 3) := by decide +kernel
theorem dX7_heavy_29 : decode cX7_heavy 29 = .ok (.goto (-25), 3) := by decide +kernel
theorem dX7_heavy_32 : decode cX7_heavy 32 = .ok (.iload_n 1, 1) := by decide +kernel
theorem dX7_heavy_33 : decode cX7_heavy 33 = .ok (.ireturn, 1) := by decide +kernel
theorem dX7_load_0 : decode cX7_load 0 = .ok (.iload_n 1, 1) := by decide +kernel
theorem dX7_load_1 : decode cX7_load 1 = .ok (.invokestatic 148, 3) := by decide +kernel
theorem dX7_load_4 : decode cX7_load 4 = .ok (.ifCond .ne 5, 3) := by decide +kernel
theorem dX7_load_7 : decode cX7_load 7 = .ok (.iconst (-1), 1) := by decide +kernel
theorem dX7_load_8 : decode cX7_load 8 = .ok (.ireturn, 1) := by decide +kernel
theorem dX7_load_9 : decode cX7_load 9 = .ok (.aload_n 0, 1) := by decide +kernel
theorem dX7_load_10 : decode cX7_load 10 = .ok (.getfield 51, 3) := by decide +kernel
theorem dX7_load_13 : decode cX7_load 13 = .ok (.iload_n 1, 1) := by decide +kernel
theorem dX7_load_14 : decode cX7_load 14 = .ok (.iaload, 1) := by decide +kernel
theorem dX7_load_15 : decode cX7_load 15 = .ok (.ifCond .ne 6, 3) := by decide +kernel
theorem dX7_load_18 : decode cX7_load 18 = .ok (.bipush (-2), 2) := by decide +kernel
theorem dX7_load_20 : decode cX7_load 20 = .ok (.ireturn, 1) := by decide +kernel
theorem dX7_load_21 : decode cX7_load 21 = .ok (.aload_n 0, 1) := by decide +kernel
theorem dX7_load_22 : decode cX7_load 22 = .ok (.getfield 185, 3) := by decide +kernel
theorem dX7_load_25 : decode cX7_load 25 = .ok (.iconst 4, 1) := by decide +kernel
theorem dX7_load_26 : decode cX7_load 26 = .ok (.if_icmp .ne 6, 3) := by decide +kernel
theorem dX7_load_29 : decode cX7_load 29 = .ok (.bipush (-3), 2) := by decide +kernel
theorem dX7_load_31 : decode cX7_load 31 = .ok (.ireturn, 1) := by decide +kernel
theorem dX7_load_32 : decode cX7_load 32 = .ok (.aload_n 0, 1) := by decide +kernel
theorem dX7_load_33 : decode cX7_load 33 = .ok (.getfield 54, 3) := by decide +kernel
theorem dX7_load_36 : decode cX7_load 36 = .ok (.iconst 4, 1) := by decide +kernel
theorem dX7_load_37 : decode cX7_load 37 = .ok (.iload_n 1, 1) := by decide +kernel
theorem dX7_load_38 : decode cX7_load 38 = .ok (.imul, 1) := by decide +kernel
theorem dX7_load_39 : decode cX7_load 39 = .ok (.aload_n 0, 1) := by decide +kernel
theorem dX7_load_40 : decode cX7_load 40 = .ok (.getfield 51, 3) := by decide +kernel
theorem dX7_load_43 : decode cX7_load 43 = .ok (.iload_n 1, 1) := by decide +kernel
theorem dX7_load_44 : decode cX7_load 44 = .ok (.iaload, 1) := by decide +kernel
theorem dX7_load_45 : decode cX7_load 45 = .ok (.iadd, 1) := by decide +kernel
theorem dX7_load_46 : decode cX7_load 46 = .ok (.iconst 1, 1) := by decide +kernel
theorem dX7_load_47 : decode cX7_load 47 = .ok (.isub, 1) := by decide +kernel
theorem dX7_load_48 : decode cX7_load 48 = .ok (.iaload, 1) := by decide +kernel
theorem dX7_load_49 : decode cX7_load 49 = .ok (.istore_n 2, 1) := by decide +kernel
theorem dX7_load_50 : decode cX7_load 50 = .ok (.aload_n 0, 1) := by decide +kernel
theorem dX7_load_51 : decode cX7_load 51 = .ok (.getfield 57, 3) := by decide +kernel
theorem dX7_load_54 : decode cX7_load 54 = .ok (.aload_n 0, 1) := by decide +kernel
theorem dX7_load_55 : decode cX7_load 55 = .ok (.getfield 185, 3) := by decide +kernel
theorem dX7_load_58 : decode cX7_load 58 = .ok (.iload_n 2, 1) := by decide +kernel
theorem dX7_load_59 : decode cX7_load 59 = .ok (.iastore, 1) := by decide +kernel
theorem dX7_load_60 : decode cX7_load 60 = .ok (.aload_n 0, 1) := by decide +kernel
theorem dX7_load_61 : decode cX7_load 61 = .ok (.dup, 1) := by decide +kernel
theorem dX7_load_62 : decode cX7_load 62 = .ok (.getfield 185, 3) := by decide +kernel
theorem dX7_load_65 : decode cX7_load 65 = .ok (.iconst 1, 1) := by decide +kernel
theorem dX7_load_66 : decode cX7_load 66 = .ok (.iadd, 1) := by decide +kernel
theorem dX7_load_67 : decode cX7_load 67 = .ok (.putfield 185, 3) := by decide +kernel
theorem dX7_load_70 : decode cX7_load 70 = .ok (.aload_n 0, 1) := by decide +kernel
theorem dX7_load_71 : decode cX7_load 71 = .ok (.invokevirtual 188, 3) := by decide +kernel
theorem dX7_load_74 : decode cX7_load 74 = .ok (.bipush 120, 2) := by decide +kernel
theorem dX7_load_76 : decode cX7_load 76 = .ok (.if_icmp .gt 23, 3) := by decide +kernel
theorem dX7_load_79 : decode cX7_load 79 = .ok (.aload_n 0, 1) := by decide +kernel
theorem dX7_load_80 : decode cX7_load 80 = .ok (.invokevirtual 191, 3) := by decide +kernel
theorem dX7_load_83 : decode cX7_load 83 = .ok (.sipush 720, 3) := by decide +kernel
theorem dX7_load_86 : decode cX7_load 86 = .ok (.if_icmp .gt 13, 3) := by decide +kernel
theorem dX7_load_89 : decode cX7_load 89 = .ok (.aload_n 0, 1) := by decide +kernel
theorem dX7_load_90 : decode cX7_load 90 = .ok (.invokevirtual 194, 3) := by decide +kernel
theorem dX7_load_93 : decode cX7_load 93 = .ok (.sipush 720, 3) := by decide +kernel
theorem dX7_load_96 : decode cX7_load 96 = .ok (.if_icmp .le 16, 3) := by decide +kernel
theorem dX7_load_99 : decode cX7_load 99 = .ok (.aload_n 0, 1) := by decide +kernel
theorem dX7_load_100 : decode cX7_load 100 = .ok (.dup, 1) := by decide +kernel
theorem dX7_load_101 : decode cX7_load 101 = .ok (.getfield 185, 3) := by decide +kernel
theorem dX7_load_104 : decode cX7_load 104 = .ok (.iconst 1, 1) := by decide +kernel
theorem dX7_load_105 : decode cX7_load 105 = .ok (.isub, 1) := by decide +kernel
theorem dX7_load_106 : decode cX7_load 106 = .ok (.putfield 185, 3) := by decide +kernel
theorem dX7_load_109 : decode cX7_load 109 = .ok (.bipush (-2), 2) := by decide +kernel
theorem dX7_load_111 : decode cX7_load 111 = .ok (.ireturn, 1) := by decide +kernel
theorem dX7_load_112 : decode cX7_load 112 = .ok (.aload_n 0, 1) := by decide +kernel
theorem dX7_load_113 : decode cX7_load 113 = .ok (.getfield 51, 3) := by decide +kernel
theorem dX7_load_116 : decode cX7_load 116 = .ok (.iload_n 1, 1) := by decide +kernel
theorem dX7_load_117 : decode cX7_load 117 = .ok (.dup2, 1) := by decide +kernel
theorem dX7_load_118 : decode cX7_load 118 = .ok (.iaload, 1) := by decide +kernel
theorem dX7_load_119 : decode cX7_load 119 = .ok (.iconst 1, 1) := by decide +kernel
theorem dX7_load_120 : decode cX7_load 120 = .ok (.isub, 1) := by decide +kernel
theorem dX7_load_121 : decode cX7_load 121 = .ok (.iastore, 1) := by decide +kernel
theorem dX7_load_122 : decode cX7_load 122 = .ok (.aload_n 0, 1) := by decide +kernel
theorem dX7_load_123 : decode cX7_load 123 = .ok (.getfield 22, 3) := by decide +kernel
theorem dX7_load_126 : decode cX7_load 126 = .ok (.iload_n 2, 1) := by decide +kernel
theorem dX7_load_127 : decode cX7_load 127 = .ok (.bipush 6, 2) := by decide +kernel
theorem dX7_load_129 : decode cX7_load 129 = .ok (.iastore, 1) := by decide +kernel
theorem dX7_load_130 : decode cX7_load 130 = .ok (.aload_n 0, 1) := by decide +kernel
theorem dX7_load_131 : decode cX7_load 131 = .ok (.getfield 25, 3) := by decide +kernel
theorem dX7_load_134 : decode cX7_load 134 = .ok (.iload_n 2, 1) := by decide +kernel
theorem dX7_load_135 : decode cX7_load 135 = .ok (.bipush (-4), 2) := by decide +kernel
theorem dX7_load_137 : decode cX7_load 137 = .ok (.iastore, 1) := by decide +kernel
theorem dX7_load_138 : decode cX7_load 138 = .ok (.aload_n 0, 1) := by decide +kernel
theorem dX7_load_139 : decode cX7_load 139 = .ok (.iload_n 1, 1) := by decide +kernel
theorem dX7_load_140 : decode cX7_load 140 = .ok (.invokevirtual 155, 3) := by decide +kernel
theorem dX7_load_143 : decode cX7_load 143 = .ok (.aload_n 0, 1) := by decide +kernel
theorem dX7_load_144 : decode cX7_load 144 = .ok (.getfield 185, 3) := by decide +kernel
theorem dX7_load_147 : decode cX7_load 147 = .ok (.iconst 1, 1) := by decide +kernel
theorem dX7_load_148 : decode cX7_load 148 = .ok (.isub, 1) := by decide +kernel
theorem dX7_load_149 : decode cX7_load 149 = .ok (.ireturn, 1) := by decide +kernel
theorem dX7_go_0 : decode cX7_go 0 = .ok (.aload_n 0, 1) := by decide +kernel
theorem dX7_go_1 : decode cX7_go 1 = .ok (.getfield 185, 3) := by decide +kernel
theorem dX7_go_4 : decode cX7_go 4 = .ok (.ifCond .ne 6, 3) := by decide +kernel
theorem dX7_go_7 : decode cX7_go 7 = .ok (.bipush (-2), 2) := by decide +kernel
theorem dX7_go_9 : decode cX7_go 9 = .ok (.ireturn, 1) := by decide +kernel
theorem dX7_go_10 : decode cX7_go 10 = .ok (.aload_n 0, 1) := by decide +kernel
theorem dX7_go_11 : decode cX7_go 11 = .ok (.getfield 185, 3) := by decide +kernel
theorem dX7_go_14 : decode cX7_go 14 = .ok (.istore_n 1, 1) := by decide +kernel
theorem dX7_go_15 : decode cX7_go 15 = .ok (.iconst 0, 1) := by decide +kernel
theorem dX7_go_16 : decode cX7_go 16 = .ok (.istore_n 2, 1) := by decide +kernel
theorem dX7_go_17 : decode cX7_go 17 = .ok (.iload_n 2, 1) := by decide +kernel
theorem dX7_go_18 : decode cX7_go 18 = .ok (.iload_n 1, 1) := by decide +kernel
theorem dX7_go_19 : decode cX7_go 19 = .ok (.if_icmp .ge 36, 3) := by decide +kernel
theorem dX7_go_22 : decode cX7_go 22 = .ok (.aload_n 0, 1) := by decide +kernel
theorem dX7_go_23 : decode cX7_go 23 = .ok (.getfield 22, 3) := by decide +kernel
theorem dX7_go_26 : decode cX7_go 26 = .ok (.aload_n 0, 1) := by decide +kernel
theorem dX7_go_27 : decode cX7_go 27 = .ok (.getfield 57, 3) := by decide +kernel
theorem dX7_go_30 : decode cX7_go 30 = .ok (.iload_n 2, 1) := by decide +kernel
theorem dX7_go_31 : decode cX7_go 31 = .ok (.iaload, 1) := by decide +kernel
theorem dX7_go_32 : decode cX7_go 32 = .ok (.iconst 4, 1) := by decide +kernel
theorem dX7_go_33 : decode cX7_go 33 = .ok (.iastore, 1) := by decide +kernel
theorem dX7_go_34 : decode cX7_go 34 = .ok (.aload_n 0, 1) := by decide +kernel
theorem dX7_go_35 : decode cX7_go 35 = .ok (.getfield 25, 3) := by decide +kernel
theorem dX7_go_38 : decode cX7_go 38 = .ok (.aload_n 0, 1) := by decide +kernel
theorem dX7_go_39 : decode cX7_go 39 = .ok (.getfield 57, 3) := by decide +kernel
theorem dX7_go_42 : decode cX7_go 42 = .ok (.iload_n 2, 1) := by decide +kernel
theorem dX7_go_43 : decode cX7_go 43 = .ok (.iaload, 1) := by decide +kernel
theorem dX7_go_44 : decode cX7_go 44 = .ok (.aload_n 0, 1) := by decide +kernel
theorem dX7_go_45 : decode cX7_go 45 = .ok (.getfield 197, 3) := by decide +kernel
theorem dX7_go_48 : decode cX7_go 48 = .ok (.iastore, 1) := by decide +kernel
theorem dX7_go_49 : decode cX7_go 49 = .ok (.iinc 2 1, 3) := by decide +kernel
theorem dX7_go_52 : decode cX7_go 52 = .ok (.goto (-35), 3) := by decide +kernel
theorem dX7_go_55 : decode cX7_go 55 = .ok (.aload_n 0, 1) := by decide +kernel
theorem dX7_go_56 : decode cX7_go 56 = .ok (.iconst 0, 1) := by decide +kernel
theorem dX7_go_57 : decode cX7_go 57 = .ok (.putfield 185, 3) := by decide +kernel
theorem dX7_go_60 : decode cX7_go 60 = .ok (.aload_n 0, 1) := by decide +kernel
theorem dX7_go_61 : decode cX7_go 61 = .ok (.dup, 1) := by decide +kernel
theorem dX7_go_62 : decode cX7_go 62 = .ok (.getfield 197, 3) := by decide +kernel
theorem dX7_go_65 : decode cX7_go 65 = .ok (.iconst 1, 1) := by decide +kernel
theorem dX7_go_66 : decode cX7_go 66 = .ok (.iadd, 1) := by decide +kernel
theorem dX7_go_67 : decode cX7_go 67 = .ok (.putfield 197, 3) := by decide +kernel
theorem dX7_go_70 : decode cX7_go 70 = .ok (.iload_n 1, 1) := by decide +kernel
theorem dX7_go_71 : decode cX7_go 71 = .ok (.ireturn, 1) := by decide +kernel
theorem dX7_lorry_0 : decode cX7_lorry 0 = .ok (.iload_n 1, 1) := by decide +kernel
theorem dX7_lorry_1 : decode cX7_lorry 1 = .ok (.tableswitch 68 0 4 #[35, 40, 45, 50, 55], 35) := by decide +kernel
theorem dX7_lorry_36 : decode cX7_lorry 36 = .ok (.aload_n 0, 1) := by decide +kernel
theorem dX7_lorry_37 : decode cX7_lorry 37 = .ok (.getfield 185, 3) := by decide +kernel
theorem dX7_lorry_40 : decode cX7_lorry 40 = .ok (.ireturn, 1) := by decide +kernel
theorem dX7_lorry_41 : decode cX7_lorry 41 = .ok (.aload_n 0, 1) := by decide +kernel
theorem dX7_lorry_42 : decode cX7_lorry 42 = .ok (.invokevirtual 188, 3) := by decide +kernel
theorem dX7_lorry_45 : decode cX7_lorry 45 = .ok (.ireturn, 1) := by decide +kernel
theorem dX7_lorry_46 : decode cX7_lorry 46 = .ok (.aload_n 0, 1) := by decide +kernel
theorem dX7_lorry_47 : decode cX7_lorry 47 = .ok (.invokevirtual 191, 3) := by decide +kernel
theorem dX7_lorry_50 : decode cX7_lorry 50 = .ok (.ireturn, 1) := by decide +kernel
theorem dX7_lorry_51 : decode cX7_lorry 51 = .ok (.aload_n 0, 1) := by decide +kernel
theorem dX7_lorry_52 : decode cX7_lorry 52 = .ok (.invokevirtual 194, 3) := by decide +kernel
theorem dX7_lorry_55 : decode cX7_lorry 55 = .ok (.ireturn, 1) := by decide +kernel
theorem dX7_lorry_56 : decode cX7_lorry 56 = .ok (.aload_n 0, 1) := by decide +kernel
theorem dX7_lorry_57 : decode cX7_lorry 57 = .ok (.invokevirtual 200, 3) := by decide +kernel
theorem dX7_lorry_60 : decode cX7_lorry 60 = .ok (.ifCond .eq 7, 3) := by decide +kernel
theorem dX7_lorry_63 : decode cX7_lorry 63 = .ok (.iconst 1, 1) := by decide +kernel
theorem dX7_lorry_64 : decode cX7_lorry 64 = .ok (.goto 4, 3) := by decide +kernel
theorem dX7_lorry_67 : decode cX7_lorry 67 = .ok (.iconst 0, 1) := by decide +kernel
theorem dX7_lorry_68 : decode cX7_lorry 68 = .ok (.ireturn, 1) := by decide +kernel
theorem dX7_lorry_69 : decode cX7_lorry 69 = .ok (.iconst (-1), 1) := by decide +kernel
theorem dX7_lorry_70 : decode cX7_lorry 70 = .ok (.ireturn, 1) := by decide +kernel
theorem dX7_isRight_0 : decode cX7_isRight 0 = .ok (.iconst 1, 1) := by decide +kernel
theorem dX7_isRight_1 : decode cX7_isRight 1 = .ok (.istore_n 1, 1) := by decide +kernel
theorem dX7_isRight_2 : decode cX7_isRight 2 = .ok (.aload_n 0, 1) := by decide +kernel
theorem dX7_isRight_3 : decode cX7_isRight 3 = .ok (.getfield 185, 3) := by decide +kernel
theorem dX7_isRight_6 : decode cX7_isRight 6 = .ok (.iconst 1, 1) := by decide +kernel
theorem dX7_isRight_7 : decode cX7_isRight 7 = .ok (.isub, 1) := by decide +kernel
theorem dX7_isRight_8 : decode cX7_isRight 8 = .ok (.istore_n 2, 1) := by decide +kernel
theorem dX7_isRight_9 : decode cX7_isRight 9 = .ok (.iload_n 2, 1) := by decide +kernel
theorem dX7_isRight_10 : decode cX7_isRight 10 = .ok (.ifCond .le 46, 3) := by decide +kernel
theorem dX7_isRight_13 : decode cX7_isRight 13 = .ok (.iload_n 1, 1) := by decide +kernel
theorem dX7_isRight_14 : decode cX7_isRight 14 = .ok (.ifCond .eq 34, 3) := by decide +kernel
theorem dX7_isRight_17 : decode cX7_isRight 17 = .ok (.aload_n 0, 1) := by decide +kernel
theorem dX7_isRight_18 : decode cX7_isRight 18 = .ok (.getfield 19, 3) := by decide +kernel
theorem dX7_isRight_21 : decode cX7_isRight 21 = .ok (.aload_n 0, 1) := by decide +kernel
theorem dX7_isRight_22 : decode cX7_isRight 22 = .ok (.getfield 57, 3) := by decide +kernel
theorem dX7_isRight_25 : decode cX7_isRight 25 = .ok (.iload_n 2, 1) := by decide +kernel
theorem dX7_isRight_26 : decode cX7_isRight 26 = .ok (.iaload, 1) := by decide +kernel
theorem dX7_isRight_27 : decode cX7_isRight 27 = .ok (.iaload, 1) := by decide +kernel
theorem dX7_isRight_28 : decode cX7_isRight 28 = .ok (.aload_n 0, 1) := by decide +kernel
theorem dX7_isRight_29 : decode cX7_isRight 29 = .ok (.getfield 19, 3) := by decide +kernel
theorem dX7_isRight_32 : decode cX7_isRight 32 = .ok (.aload_n 0, 1) := by decide +kernel
theorem dX7_isRight_33 : decode cX7_isRight 33 = .ok (.getfield 57, 3) := by decide +kernel
theorem dX7_isRight_36 : decode cX7_isRight 36 = .ok (.iload_n 2, 1) := by decide +kernel
theorem dX7_isRight_37 : decode cX7_isRight 37 = .ok (.iconst 1, 1) := by decide +kernel
theorem dX7_isRight_38 : decode cX7_isRight 38 = .ok (.isub, 1) := by decide +kernel
theorem dX7_isRight_39 : decode cX7_isRight 39 = .ok (.iaload, 1) := by decide +kernel
theorem dX7_isRight_40 : decode cX7_isRight 40 = .ok (.iaload, 1) := by decide +kernel
theorem dX7_isRight_41 : decode cX7_isRight 41 = .ok (.if_icmp .gt 7, 3) := by decide +kernel
theorem dX7_isRight_44 : decode cX7_isRight 44 = .ok (.iconst 1, 1) := by decide +kernel
theorem dX7_isRight_45 : decode cX7_isRight 45 = .ok (.goto 4, 3) := by decide +kernel
theorem dX7_isRight_48 : decode cX7_isRight 48 = .ok (.iconst 0, 1) := by decide +kernel
theorem dX7_isRight_49 : decode cX7_isRight 49 = .ok (.istore_n 1, 1) := by decide +kernel
theorem dX7_isRight_50 : decode cX7_isRight 50 = .ok (.iinc 2 (-1), 3) := by decide +kernel
theorem dX7_isRight_53 : decode cX7_isRight 53 = .ok (.goto (-44), 3) := by decide +kernel
theorem dX7_isRight_56 : decode cX7_isRight 56 = .ok (.iload_n 1, 1) := by decide +kernel
theorem dX7_isRight_57 : decode cX7_isRight 57 = .ok (.ireturn, 1) := by decide +kernel
theorem dX7_change_0 : decode cX7_change 0 = .ok (.aload_n 0, 1) := by decide +kernel
theorem dX7_change_1 : decode cX7_change 1 = .ok (.iload_n 1, 1) := by decide +kernel
theorem dX7_change_2 : decode cX7_change 2 = .ok (.invokevirtual 114, 3) := by decide +kernel
theorem dX7_change_5 : decode cX7_change 5 = .ok (.ifCond .eq 13, 3) := by decide +kernel
theorem dX7_change_8 : decode cX7_change 8 = .ok (.iload_n 2, 1) := by decide +kernel
theorem dX7_change_9 : decode cX7_change 9 = .ok (.iload_n 3, 1) := by decide +kernel
theorem dX7_change_10 : decode cX7_change 10 = .ok (.iload 4, 2) := by decide +kernel
theorem dX7_change_12 : decode cX7_change 12 = .ok (.invokestatic 106, 3) := by decide +kernel
theorem dX7_change_15 : decode cX7_change 15 = .ok (.ifCond .ne 5, 3) := by decide +kernel
theorem dX7_change_18 : decode cX7_change 18 = .ok (.iconst (-1), 1) := by decide +kernel
theorem dX7_change_19 : decode cX7_change 19 = .ok (.ireturn, 1) := by decide +kernel
theorem dX7_change_20 : decode cX7_change 20 = .ok (.aload_n 0, 1) := by decide +kernel
theorem dX7_change_21 : decode cX7_change 21 = .ok (.getfield 22, 3) := by decide +kernel
theorem dX7_change_24 : decode cX7_change 24 = .ok (.iload_n 1, 1) := by decide +kernel
theorem dX7_change_25 : decode cX7_change 25 = .ok (.iaload, 1) := by decide +kernel
theorem dX7_change_26 : decode cX7_change 26 = .ok (.istore 5, 2) := by decide +kernel
theorem dX7_change_28 : decode cX7_change 28 = .ok (.iload 5, 2) := by decide +kernel
theorem dX7_change_30 : decode cX7_change 30 = .ok (.iconst 4, 1) := by decide +kernel
theorem dX7_change_31 : decode cX7_change 31 = .ok (.if_icmp .eq 25, 3) := by decide +kernel
theorem dX7_change_34 : decode cX7_change 34 = .ok (.iload 5, 2) := by decide +kernel
theorem dX7_change_36 : decode cX7_change 36 = .ok (.bipush 6, 2) := by decide +kernel
theorem dX7_change_38 : decode cX7_change 38 = .ok (.if_icmp .eq 18, 3) := by decide +kernel
theorem dX7_change_41 : decode cX7_change 41 = .ok (.iload 5, 2) := by decide +kernel
theorem dX7_change_43 : decode cX7_change 43 = .ok (.iconst 5, 1) := by decide +kernel
theorem dX7_change_44 : decode cX7_change 44 = .ok (.if_icmp .eq 12, 3) := by decide +kernel
theorem dX7_change_47 : decode cX7_change 47 = .ok (.aload_n 0, 1) := by decide +kernel
theorem dX7_change_48 : decode cX7_change 48 = .ok (.getfield 31, 3) := by decide +kernel
theorem dX7_change_51 : decode cX7_change 51 = .ok (.iload_n 1, 1) := by decide +kernel
theorem dX7_change_52 : decode cX7_change 52 = .ok (.baload, 1) := by decide +kernel
theorem dX7_change_53 : decode cX7_change 53 = .ok (.ifCond .eq 6, 3) := by decide +kernel
theorem dX7_change_56 : decode cX7_change 56 = .ok (.bipush (-2), 2) := by decide +kernel
theorem dX7_change_58 : decode cX7_change 58 = .ok (.ireturn, 1) := by decide +kernel
theorem dX7_change_59 : decode cX7_change 59 = .ok (.aload_n 0, 1) := by decide +kernel
theorem dX7_change_60 : decode cX7_change 60 = .ok (.getfield 7, 3) := by decide +kernel
theorem dX7_change_63 : decode cX7_change 63 = .ok (.iload_n 1, 1) := by decide +kernel
theorem dX7_change_64 : decode cX7_change 64 = .ok (.iaload, 1) := by decide +kernel
theorem dX7_change_65 : decode cX7_change 65 = .ok (.iload_n 2, 1) := by decide +kernel
theorem dX7_change_66 : decode cX7_change 66 = .ok (.if_icmp .ne 26, 3) := by decide +kernel
theorem dX7_change_69 : decode cX7_change 69 = .ok (.aload_n 0, 1) := by decide +kernel
theorem dX7_change_70 : decode cX7_change 70 = .ok (.getfield 13, 3) := by decide +kernel
theorem dX7_change_73 : decode cX7_change 73 = .ok (.iload_n 1, 1) := by decide +kernel
theorem dX7_change_74 : decode cX7_change 74 = .ok (.iaload, 1) := by decide +kernel
theorem dX7_change_75 : decode cX7_change 75 = .ok (.iload_n 3, 1) := by decide +kernel
theorem dX7_change_76 : decode cX7_change 76 = .ok (.if_icmp .ne 16, 3) := by decide +kernel
theorem dX7_change_79 : decode cX7_change 79 = .ok (.aload_n 0, 1) := by decide +kernel
theorem dX7_change_80 : decode cX7_change 80 = .ok (.getfield 16, 3) := by decide +kernel
theorem dX7_change_83 : decode cX7_change 83 = .ok (.iload_n 1, 1) := by decide +kernel
theorem dX7_change_84 : decode cX7_change 84 = .ok (.iaload, 1) := by decide +kernel
theorem dX7_change_85 : decode cX7_change 85 = .ok (.iload 4, 2) := by decide +kernel
theorem dX7_change_87 : decode cX7_change 87 = .ok (.if_icmp .ne 5, 3) := by decide +kernel
theorem dX7_change_90 : decode cX7_change 90 = .ok (.iconst 2, 1) := by decide +kernel
theorem dX7_change_91 : decode cX7_change 91 = .ok (.ireturn, 1) := by decide +kernel
theorem dX7_change_92 : decode cX7_change 92 = .ok (.iload 5, 2) := by decide +kernel
theorem dX7_change_94 : decode cX7_change 94 = .ok (.ifCond .ne 14, 3) := by decide +kernel
theorem dX7_change_97 : decode cX7_change 97 = .ok (.aload_n 0, 1) := by decide +kernel
theorem dX7_change_98 : decode cX7_change 98 = .ok (.iload_n 1, 1) := by decide +kernel
theorem dX7_change_99 : decode cX7_change 99 = .ok (.iload_n 2, 1) := by decide +kernel
theorem dX7_change_100 : decode cX7_change 100 = .ok (.iload_n 3, 1) := by decide +kernel
theorem dX7_change_101 : decode cX7_change 101 = .ok (.iload 4, 2) := by decide +kernel
theorem dX7_change_103 : decode cX7_change 103 = .ok (.invokevirtual 204, 3) := by decide +kernel
theorem dX7_change_106 : decode cX7_change 106 = .ok (.iconst 0, 1) := by decide +kernel
theorem dX7_change_107 : decode cX7_change 107 = .ok (.ireturn, 1) := by decide +kernel
theorem dX7_change_108 : decode cX7_change 108 = .ok (.aload_n 0, 1) := by decide +kernel
theorem dX7_change_109 : decode cX7_change 109 = .ok (.getfield 13, 3) := by decide +kernel
theorem dX7_change_112 : decode cX7_change 112 = .ok (.iload_n 1, 1) := by decide +kernel
theorem dX7_change_113 : decode cX7_change 113 = .ok (.iaload, 1) := by decide +kernel
theorem dX7_change_114 : decode cX7_change 114 = .ok (.iload_n 3, 1) := by decide +kernel
theorem dX7_change_115 : decode cX7_change 115 = .ok (.if_icmp .ne 44, 3) := by decide +kernel
theorem dX7_change_118 : decode cX7_change 118 = .ok (.iload_n 2, 1) := by decide +kernel
theorem dX7_change_119 : decode cX7_change 119 = .ok (.aload_n 0, 1) := by decide +kernel
theorem dX7_change_120 : decode cX7_change 120 = .ok (.getfield 7, 3) := by decide +kernel
theorem dX7_change_123 : decode cX7_change 123 = .ok (.iload_n 1, 1) := by decide +kernel
theorem dX7_change_124 : decode cX7_change 124 = .ok (.iaload, 1) := by decide +kernel
theorem dX7_change_125 : decode cX7_change 125 = .ok (.if_icmp .ge 34, 3) := by decide +kernel
theorem dX7_change_128 : decode cX7_change 128 = .ok (.iload 4, 2) := by decide +kernel
theorem dX7_change_130 : decode cX7_change 130 = .ok (.aload_n 0, 1) := by decide +kernel
theorem dX7_change_131 : decode cX7_change 131 = .ok (.getfield 16, 3) := by decide +kernel
theorem dX7_change_134 : decode cX7_change 134 = .ok (.iload_n 1, 1) := by decide +kernel
theorem dX7_change_135 : decode cX7_change 135 = .ok (.iaload, 1) := by decide +kernel
theorem dX7_change_136 : decode cX7_change 136 = .ok (.if_icmp .gt 23, 3) := by decide +kernel
theorem dX7_change_139 : decode cX7_change 139 = .ok (.iload 5, 2) := by decide +kernel
theorem dX7_change_141 : decode cX7_change 141 = .ok (.iconst 2, 1) := by decide +kernel
theorem dX7_change_142 : decode cX7_change 142 = .ok (.if_icmp .eq 6, 3) := by decide +kernel
theorem dX7_change_145 : decode cX7_change 145 = .ok (.bipush (-2), 2) := by decide +kernel
theorem dX7_change_147 : decode cX7_change 147 = .ok (.ireturn, 1) := by decide +kernel
theorem dX7_change_148 : decode cX7_change 148 = .ok (.aload_n 0, 1) := by decide +kernel
theorem dX7_change_149 : decode cX7_change 149 = .ok (.iload_n 1, 1) := by decide +kernel
theorem dX7_change_150 : decode cX7_change 150 = .ok (.iload_n 2, 1) := by decide +kernel
theorem dX7_change_151 : decode cX7_change 151 = .ok (.iload_n 3, 1) := by decide +kernel
theorem dX7_change_152 : decode cX7_change 152 = .ok (.iload 4, 2) := by decide +kernel
theorem dX7_change_154 : decode cX7_change 154 = .ok (.invokevirtual 204, 3) := by decide +kernel
theorem dX7_change_157 : decode cX7_change 157 = .ok (.iconst 1, 1) := by decide +kernel
theorem dX7_change_158 : decode cX7_change 158 = .ok (.ireturn, 1) := by decide +kernel
theorem dX7_change_159 : decode cX7_change 159 = .ok (.aload_n 0, 1) := by decide +kernel
theorem dX7_change_160 : decode cX7_change 160 = .ok (.getfield 93, 3) := by decide +kernel
theorem dX7_change_163 : decode cX7_change 163 = .ok (.bipush 40, 2) := by decide +kernel
theorem dX7_change_165 : decode cX7_change 165 = .ok (.if_icmp .ne 6, 3) := by decide +kernel
theorem dX7_change_168 : decode cX7_change 168 = .ok (.bipush (-3), 2) := by decide +kernel
theorem dX7_change_170 : decode cX7_change 170 = .ok (.ireturn, 1) := by decide +kernel
theorem dX7_change_171 : decode cX7_change 171 = .ok (.aload_n 0, 1) := by decide +kernel
theorem dX7_change_172 : decode cX7_change 172 = .ok (.iload_n 2, 1) := by decide +kernel
theorem dX7_change_173 : decode cX7_change 173 = .ok (.iload_n 3, 1) := by decide +kernel
theorem dX7_change_174 : decode cX7_change 174 = .ok (.iload 4, 2) := by decide +kernel
theorem dX7_change_176 : decode cX7_change 176 = .ok (.aload_n 0, 1) := by decide +kernel
theorem dX7_change_177 : decode cX7_change 177 = .ok (.getfield 19, 3) := by decide +kernel
theorem dX7_change_180 : decode cX7_change 180 = .ok (.iload_n 1, 1) := by decide +kernel
theorem dX7_change_181 : decode cX7_change 181 = .ok (.iaload, 1) := by decide +kernel
theorem dX7_change_182 : decode cX7_change 182 = .ok (.invokevirtual 110, 3) := by decide +kernel
theorem dX7_change_185 : decode cX7_change 185 = .ok (.istore 6, 2) := by decide +kernel
theorem dX7_change_187 : decode cX7_change 187 = .ok (.iload 5, 2) := by decide +kernel
theorem dX7_change_189 : decode cX7_change 189 = .ok (.iconst 2, 1) := by decide +kernel
theorem dX7_change_190 : decode cX7_change 190 = .ok (.if_icmp .ne 21, 3) := by decide +kernel
theorem dX7_change_193 : decode cX7_change 193 = .ok (.aload_n 0, 1) := by decide +kernel
theorem dX7_change_194 : decode cX7_change 194 = .ok (.getfield 22, 3) := by decide +kernel
theorem dX7_change_197 : decode cX7_change 197 = .ok (.iload_n 1, 1) := by decide +kernel
theorem dX7_change_198 : decode cX7_change 198 = .ok (.iconst 5, 1) := by decide +kernel
theorem dX7_change_199 : decode cX7_change 199 = .ok (.iastore, 1) := by decide +kernel
theorem dX7_change_200 : decode cX7_change 200 = .ok (.aload_n 0, 1) := by decide +kernel
theorem dX7_change_201 : decode cX7_change 201 = .ok (.getfield 25, 3) := by decide +kernel
theorem dX7_change_204 : decode cX7_change 204 = .ok (.iload_n 1, 1) := by decide +kernel
theorem dX7_change_205 : decode cX7_change 205 = .ok (.bipush (-4), 2) := by decide +kernel
theorem dX7_change_207 : decode cX7_change 207 = .ok (.iastore, 1) := by decide +kernel
theorem dX7_change_208 : decode cX7_change 208 = .ok (.goto 26, 3) := by decide +kernel
theorem dX7_change_211 : decode cX7_change 211 = .ok (.aload_n 0, 1) := by decide +kernel
theorem dX7_change_212 : decode cX7_change 212 = .ok (.getfield 31, 3) := by decide +kernel
theorem dX7_change_215 : decode cX7_change 215 = .ok (.iload_n 1, 1) := by decide +kernel
theorem dX7_change_216 : decode cX7_change 216 = .ok (.iconst 1, 1) := by decide +kernel
theorem dX7_change_217 : decode cX7_change 217 = .ok (.bastore, 1) := by decide +kernel
theorem dX7_change_218 : decode cX7_change 218 = .ok (.iload 5, 2) := by decide +kernel
theorem dX7_change_220 : decode cX7_change 220 = .ok (.iconst 3, 1) := by decide +kernel
theorem dX7_change_221 : decode cX7_change 221 = .ok (.if_icmp .ne 13, 3) := by decide +kernel
theorem dX7_change_224 : decode cX7_change 224 = .ok (.aload_n 0, 1) := by decide +kernel
theorem dX7_change_225 : decode cX7_change 225 = .ok (.aload_n 0, 1) := by decide +kernel
theorem dX7_change_226 : decode cX7_change 226 = .ok (.getfield 25, 3) := by decide +kernel
theorem dX7_change_229 : decode cX7_change 229 = .ok (.iload_n 1, 1) := by decide +kernel
theorem dX7_change_230 : decode cX7_change 230 = .ok (.iaload, 1) := by decide +kernel
theorem dX7_change_231 : decode cX7_change 231 = .ok (.invokevirtual 155, 3) := by decide +kernel
theorem dX7_change_234 : decode cX7_change 234 = .ok (.bipush 100, 2) := by decide +kernel
theorem dX7_change_236 : decode cX7_change 236 = .ok (.iload 6, 2) := by decide +kernel
theorem dX7_change_238 : decode cX7_change 238 = .ok (.iadd, 1) := by decide +kernel
theorem dX7_change_239 : decode cX7_change 239 = .ok (.ireturn, 1) := by decide +kernel
theorem dX7_gets_0 : decode cX7_gets 0 = .ok (.aload_n 0, 1) := by decide +kernel
theorem dX7_gets_1 : decode cX7_gets 1 = .ok (.getfield 7, 3) := by decide +kernel
theorem dX7_gets_4 : decode cX7_gets 4 = .ok (.iload_n 1, 1) := by decide +kernel
theorem dX7_gets_5 : decode cX7_gets 5 = .ok (.iload_n 2, 1) := by decide +kernel
theorem dX7_gets_6 : decode cX7_gets 6 = .ok (.iastore, 1) := by decide +kernel
theorem dX7_gets_7 : decode cX7_gets 7 = .ok (.aload_n 0, 1) := by decide +kernel
theorem dX7_gets_8 : decode cX7_gets 8 = .ok (.getfield 13, 3) := by decide +kernel
theorem dX7_gets_11 : decode cX7_gets 11 = .ok (.iload_n 1, 1) := by decide +kernel
theorem dX7_gets_12 : decode cX7_gets 12 = .ok (.iload_n 3, 1) := by decide +kernel
theorem dX7_gets_13 : decode cX7_gets 13 = .ok (.iastore, 1) := by decide +kernel
theorem dX7_gets_14 : decode cX7_gets 14 = .ok (.aload_n 0, 1) := by decide +kernel
theorem dX7_gets_15 : decode cX7_gets 15 = .ok (.getfield 16, 3) := by decide +kernel
theorem dX7_gets_18 : decode cX7_gets 18 = .ok (.iload_n 1, 1) := by decide +kernel
theorem dX7_gets_19 : decode cX7_gets 19 = .ok (.iload 4, 2) := by decide +kernel
theorem dX7_gets_21 : decode cX7_gets 21 = .ok (.iastore, 1) := by decide +kernel
theorem dX7_gets_22 : decode cX7_gets 22 = .ok (.return_, 1) := by decide +kernel
theorem dX7_told_0 : decode cX7_told 0 = .ok (.aload_n 0, 1) := by decide +kernel
theorem dX7_told_1 : decode cX7_told 1 = .ok (.iload_n 1, 1) := by decide +kernel
theorem dX7_told_2 : decode cX7_told 2 = .ok (.invokevirtual 114, 3) := by decide +kernel
theorem dX7_told_5 : decode cX7_told 5 = .ok (.ifCond .eq 15, 3) := by decide +kernel
theorem dX7_told_8 : decode cX7_told 8 = .ok (.iload_n 2, 1) := by decide +kernel
theorem dX7_told_9 : decode cX7_told 9 = .ok (.i2l, 1) := by decide +kernel
theorem dX7_told_10 : decode cX7_told 10 = .ok (.lconst 0, 1) := by decide +kernel
theorem dX7_told_11 : decode cX7_told 11 = .ok (.ldc2_w 102, 3) := by decide +kernel
theorem dX7_told_14 : decode cX7_told 14 = .ok (.invokestatic 96, 3) := by decide +kernel
theorem dX7_told_17 : decode cX7_told 17 = .ok (.ifCond .ne 5, 3) := by decide +kernel
theorem dX7_told_20 : decode cX7_told 20 = .ok (.iconst (-1), 1) := by decide +kernel
theorem dX7_told_21 : decode cX7_told 21 = .ok (.ireturn, 1) := by decide +kernel
theorem dX7_told_22 : decode cX7_told 22 = .ok (.iload_n 2, 1) := by decide +kernel
theorem dX7_told_23 : decode cX7_told 23 = .ok (.tableswitch 90 0 6 #[41, 48, 55, 62, 69, 76, 83], 41) := by decide +kernel
theorem dX7_told_64 : decode cX7_told 64 = .ok (.aload_n 0, 1) := by decide +kernel
theorem dX7_told_65 : decode cX7_told 65 = .ok (.getfield 7, 3) := by decide +kernel
theorem dX7_told_68 : decode cX7_told 68 = .ok (.iload_n 1, 1) := by decide +kernel
theorem dX7_told_69 : decode cX7_told 69 = .ok (.iaload, 1) := by decide +kernel
theorem dX7_told_70 : decode cX7_told 70 = .ok (.ireturn, 1) := by decide +kernel
theorem dX7_told_71 : decode cX7_told 71 = .ok (.aload_n 0, 1) := by decide +kernel
theorem dX7_told_72 : decode cX7_told 72 = .ok (.getfield 13, 3) := by decide +kernel
theorem dX7_told_75 : decode cX7_told 75 = .ok (.iload_n 1, 1) := by decide +kernel
theorem dX7_told_76 : decode cX7_told 76 = .ok (.iaload, 1) := by decide +kernel
theorem dX7_told_77 : decode cX7_told 77 = .ok (.ireturn, 1) := by decide +kernel
theorem dX7_told_78 : decode cX7_told 78 = .ok (.aload_n 0, 1) := by decide +kernel
theorem dX7_told_79 : decode cX7_told 79 = .ok (.getfield 16, 3) := by decide +kernel
theorem dX7_told_82 : decode cX7_told 82 = .ok (.iload_n 1, 1) := by decide +kernel
theorem dX7_told_83 : decode cX7_told 83 = .ok (.iaload, 1) := by decide +kernel
theorem dX7_told_84 : decode cX7_told 84 = .ok (.ireturn, 1) := by decide +kernel
theorem dX7_told_85 : decode cX7_told 85 = .ok (.aload_n 0, 1) := by decide +kernel
theorem dX7_told_86 : decode cX7_told 86 = .ok (.getfield 19, 3) := by decide +kernel
theorem dX7_told_89 : decode cX7_told 89 = .ok (.iload_n 1, 1) := by decide +kernel
theorem dX7_told_90 : decode cX7_told 90 = .ok (.iaload, 1) := by decide +kernel
theorem dX7_told_91 : decode cX7_told 91 = .ok (.ireturn, 1) := by decide +kernel
theorem dX7_told_92 : decode cX7_told 92 = .ok (.aload_n 0, 1) := by decide +kernel
theorem dX7_told_93 : decode cX7_told 93 = .ok (.getfield 22, 3) := by decide +kernel
theorem dX7_told_96 : decode cX7_told 96 = .ok (.iload_n 1, 1) := by decide +kernel
theorem dX7_told_97 : decode cX7_told 97 = .ok (.iaload, 1) := by decide +kernel
theorem dX7_told_98 : decode cX7_told 98 = .ok (.ireturn, 1) := by decide +kernel
theorem dX7_told_99 : decode cX7_told 99 = .ok (.aload_n 0, 1) := by decide +kernel
theorem dX7_told_100 : decode cX7_told 100 = .ok (.getfield 25, 3) := by decide +kernel
theorem dX7_told_103 : decode cX7_told 103 = .ok (.iload_n 1, 1) := by decide +kernel
theorem dX7_told_104 : decode cX7_told 104 = .ok (.iaload, 1) := by decide +kernel
theorem dX7_told_105 : decode cX7_told 105 = .ok (.ireturn, 1) := by decide +kernel
theorem dX7_told_106 : decode cX7_told 106 = .ok (.aload_n 0, 1) := by decide +kernel
theorem dX7_told_107 : decode cX7_told 107 = .ok (.getfield 28, 3) := by decide +kernel
theorem dX7_told_110 : decode cX7_told 110 = .ok (.iload_n 1, 1) := by decide +kernel
theorem dX7_told_111 : decode cX7_told 111 = .ok (.iaload, 1) := by decide +kernel
theorem dX7_told_112 : decode cX7_told 112 = .ok (.ireturn, 1) := by decide +kernel
theorem dX7_told_113 : decode cX7_told 113 = .ok (.aload_n 0, 1) := by decide +kernel
theorem dX7_told_114 : decode cX7_told 114 = .ok (.getfield 31, 3) := by decide +kernel
theorem dX7_told_117 : decode cX7_told 117 = .ok (.iload_n 1, 1) := by decide +kernel
theorem dX7_told_118 : decode cX7_told 118 = .ok (.baload, 1) := by decide +kernel
theorem dX7_told_119 : decode cX7_told 119 = .ok (.ifCond .eq 7, 3) := by decide +kernel
theorem dX7_told_122 : decode cX7_told 122 = .ok (.iconst 1, 1) := by decide +kernel
theorem dX7_told_123 : decode cX7_told 123 = .ok (.goto 4, 3) := by decide +kernel
theorem dX7_told_126 : decode cX7_told 126 = .ok (.iconst 0, 1) := by decide +kernel
theorem dX7_told_127 : decode cX7_told 127 = .ok (.ireturn, 1) := by decide +kernel
theorem dX7_at_0 : decode cX7_at 0 = .ok (.iload_n 1, 1) := by decide +kernel
theorem dX7_at_1 : decode cX7_at 1 = .ok (.invokestatic 148, 3) := by decide +kernel
theorem dX7_at_4 : decode cX7_at 4 = .ok (.ifCond .eq 7, 3) := by decide +kernel
theorem dX7_at_7 : decode cX7_at 7 = .ok (.iload_n 2, 1) := by decide +kernel
theorem dX7_at_8 : decode cX7_at 8 = .ok (.ifCond .ge 5, 3) := by decide +kernel
theorem dX7_at_11 : decode cX7_at 11 = .ok (.iconst (-1), 1) := by decide +kernel
theorem dX7_at_12 : decode cX7_at 12 = .ok (.ireturn, 1) := by decide +kernel
theorem dX7_at_13 : decode cX7_at 13 = .ok (.iload_n 2, 1) := by decide +kernel
theorem dX7_at_14 : decode cX7_at 14 = .ok (.aload_n 0, 1) := by decide +kernel
theorem dX7_at_15 : decode cX7_at 15 = .ok (.getfield 51, 3) := by decide +kernel
theorem dX7_at_18 : decode cX7_at 18 = .ok (.iload_n 1, 1) := by decide +kernel
theorem dX7_at_19 : decode cX7_at 19 = .ok (.iaload, 1) := by decide +kernel
theorem dX7_at_20 : decode cX7_at 20 = .ok (.if_icmp .ge 16, 3) := by decide +kernel
theorem dX7_at_23 : decode cX7_at 23 = .ok (.aload_n 0, 1) := by decide +kernel
theorem dX7_at_24 : decode cX7_at 24 = .ok (.getfield 54, 3) := by decide +kernel
theorem dX7_at_27 : decode cX7_at 27 = .ok (.iconst 4, 1) := by decide +kernel
theorem dX7_at_28 : decode cX7_at 28 = .ok (.iload_n 1, 1) := by decide +kernel
theorem dX7_at_29 : decode cX7_at 29 = .ok (.imul, 1) := by decide +kernel
theorem dX7_at_30 : decode cX7_at 30 = .ok (.iload_n 2, 1) := by decide +kernel
theorem dX7_at_31 : decode cX7_at 31 = .ok (.iadd, 1) := by decide +kernel
theorem dX7_at_32 : decode cX7_at 32 = .ok (.iaload, 1) := by decide +kernel
theorem dX7_at_33 : decode cX7_at 33 = .ok (.goto 5, 3) := by decide +kernel
theorem dX7_at_36 : decode cX7_at 36 = .ok (.bipush (-4), 2) := by decide +kernel
theorem dX7_at_38 : decode cX7_at 38 = .ok (.ireturn, 1) := by decide +kernel
theorem dX7_bed_0 : decode cX7_bed 0 = .ok (.iload_n 1, 1) := by decide +kernel
theorem dX7_bed_1 : decode cX7_bed 1 = .ok (.i2l, 1) := by decide +kernel
theorem dX7_bed_2 : decode cX7_bed 2 = .ok (.lconst 0, 1) := by decide +kernel
theorem dX7_bed_3 : decode cX7_bed 3 = .ok (.ldc2_w 133, 3) := by decide +kernel
theorem dX7_bed_6 : decode cX7_bed 6 = .ok (.invokestatic 96, 3) := by decide +kernel
theorem dX7_bed_9 : decode cX7_bed 9 = .ok (.ifCond .eq 15, 3) := by decide +kernel
theorem dX7_bed_12 : decode cX7_bed 12 = .ok (.iload_n 2, 1) := by decide +kernel
theorem dX7_bed_13 : decode cX7_bed 13 = .ok (.i2l, 1) := by decide +kernel
theorem dX7_bed_14 : decode cX7_bed 14 = .ok (.lconst 0, 1) := by decide +kernel
theorem dX7_bed_15 : decode cX7_bed 15 = .ok (.ldc2_w 208, 3) := by decide +kernel
theorem dX7_bed_18 : decode cX7_bed 18 = .ok (.invokestatic 96, 3) := by decide +kernel
theorem dX7_bed_21 : decode cX7_bed 21 = .ok (.ifCond .ne 5, 3) := by decide +kernel
theorem dX7_bed_24 : decode cX7_bed 24 = .ok (.iconst (-1), 1) := by decide +kernel
theorem dX7_bed_25 : decode cX7_bed 25 = .ok (.ireturn, 1) := by decide +kernel
theorem dX7_bed_26 : decode cX7_bed 26 = .ok (.aload_n 0, 1) := by decide +kernel
theorem dX7_bed_27 : decode cX7_bed 27 = .ok (.getfield 35, 3) := by decide +kernel
theorem dX7_bed_30 : decode cX7_bed 30 = .ok (.iload_n 1, 1) := by decide +kernel
theorem dX7_bed_31 : decode cX7_bed 31 = .ok (.iaload, 1) := by decide +kernel
theorem dX7_bed_32 : decode cX7_bed 32 = .ok (.ifCond .ne 7, 3) := by decide +kernel
theorem dX7_bed_35 : decode cX7_bed 35 = .ok (.iconst 0, 1) := by decide +kernel
theorem dX7_bed_36 : decode cX7_bed 36 = .ok (.goto 5, 3) := by decide +kernel
theorem dX7_bed_39 : decode cX7_bed 39 = .ok (.bipush (-4), 2) := by decide +kernel
theorem dX7_bed_41 : decode cX7_bed 41 = .ok (.istore_n 3, 1) := by decide +kernel
theorem dX7_bed_42 : decode cX7_bed 42 = .ok (.iconst 0, 1) := by decide +kernel
theorem dX7_bed_43 : decode cX7_bed 43 = .ok (.istore 4, 2) := by decide +kernel
theorem dX7_bed_45 : decode cX7_bed 45 = .ok (.iload 4, 2) := by decide +kernel
theorem dX7_bed_47 : decode cX7_bed 47 = .ok (.aload_n 0, 1) := by decide +kernel
theorem dX7_bed_48 : decode cX7_bed 48 = .ok (.getfield 35, 3) := by decide +kernel
theorem dX7_bed_51 : decode cX7_bed 51 = .ok (.iload_n 1, 1) := by decide +kernel
theorem dX7_bed_52 : decode cX7_bed 52 = .ok (.iaload, 1) := by decide +kernel
theorem dX7_bed_53 : decode cX7_bed 53 = .ok (.if_icmp .ge 31, 3) := by decide +kernel
theorem dX7_bed_56 : decode cX7_bed 56 = .ok (.iload_n 3, 1) := by decide +kernel
theorem dX7_bed_57 : decode cX7_bed 57 = .ok (.aload_n 0, 1) := by decide +kernel
theorem dX7_bed_58 : decode cX7_bed 58 = .ok (.getfield 7, 3) := by decide +kernel
theorem dX7_bed_61 : decode cX7_bed 61 = .ok (.aload_n 0, 1) := by decide +kernel
theorem dX7_bed_62 : decode cX7_bed 62 = .ok (.getfield 38, 3) := by decide +kernel
theorem dX7_bed_65 : decode cX7_bed 65 = .ok (.bipush 40, 2) := by decide +kernel
theorem dX7_bed_67 : decode cX7_bed 67 = .ok (.iload_n 1, 1) := by decide +kernel
theorem dX7_bed_68 : decode cX7_bed 68 = .ok (.imul, 1) := by decide +kernel
theorem dX7_bed_69 : decode cX7_bed 69 = .ok (.iload 4, 2) := by decide +kernel
theorem dX7_bed_71 : decode cX7_bed 71 = .ok (.iadd, 1) := by decide +kernel
theorem dX7_bed_72 : decode cX7_bed 72 = .ok (.iaload, 1) := by decide +kernel
theorem dX7_bed_73 : decode cX7_bed 73 = .ok (.iaload, 1) := by decide +kernel
theorem dX7_bed_74 : decode cX7_bed 74 = .ok (.iconst 4, 1) := by decide +kernel
theorem dX7_bed_75 : decode cX7_bed 75 = .ok (.iadd, 1) := by decide +kernel
theorem dX7_bed_76 : decode cX7_bed 76 = .ok (.iadd, 1) := by decide +kernel
theorem dX7_bed_77 : decode cX7_bed 77 = .ok (.istore_n 3, 1) := by decide +kernel
theorem dX7_bed_78 : decode cX7_bed 78 = .ok (.iinc 4 1, 3) := by decide +kernel
theorem dX7_bed_81 : decode cX7_bed 81 = .ok (.goto (-36), 3) := by decide +kernel
theorem dX7_bed_84 : decode cX7_bed 84 = .ok (.iload_n 2, 1) := by decide +kernel
theorem dX7_bed_85 : decode cX7_bed 85 = .ok (.ifCond .ne 12, 3) := by decide +kernel
theorem dX7_bed_88 : decode cX7_bed 88 = .ok (.aload_n 0, 1) := by decide +kernel
theorem dX7_bed_89 : decode cX7_bed 89 = .ok (.getfield 35, 3) := by decide +kernel
theorem dX7_bed_92 : decode cX7_bed 92 = .ok (.iload_n 1, 1) := by decide +kernel
theorem dX7_bed_93 : decode cX7_bed 93 = .ok (.iaload, 1) := by decide +kernel
theorem dX7_bed_94 : decode cX7_bed 94 = .ok (.goto 50, 3) := by decide +kernel
theorem dX7_bed_97 : decode cX7_bed 97 = .ok (.iload_n 2, 1) := by decide +kernel
theorem dX7_bed_98 : decode cX7_bed 98 = .ok (.iconst 1, 1) := by decide +kernel
theorem dX7_bed_99 : decode cX7_bed 99 = .ok (.if_icmp .ne 7, 3) := by decide +kernel
theorem dX7_bed_102 : decode cX7_bed 102 = .ok (.iload_n 3, 1) := by decide +kernel
theorem dX7_bed_103 : decode cX7_bed 103 = .ok (.goto 41, 3) := by decide +kernel
theorem dX7_bed_106 : decode cX7_bed 106 = .ok (.iload_n 2, 1) := by decide +kernel
theorem dX7_bed_107 : decode cX7_bed 107 = .ok (.iconst 2, 1) := by decide +kernel
theorem dX7_bed_108 : decode cX7_bed 108 = .ok (.if_icmp .ne 12, 3) := by decide +kernel
theorem dX7_bed_111 : decode cX7_bed 111 = .ok (.aload_n 0, 1) := by decide +kernel
theorem dX7_bed_112 : decode cX7_bed 112 = .ok (.getfield 41, 3) := by decide +kernel
theorem dX7_bed_115 : decode cX7_bed 115 = .ok (.iload_n 1, 1) := by decide +kernel
theorem dX7_bed_116 : decode cX7_bed 116 = .ok (.iaload, 1) := by decide +kernel
theorem dX7_bed_117 : decode cX7_bed 117 = .ok (.goto 27, 3) := by decide +kernel
theorem dX7_bed_120 : decode cX7_bed 120 = .ok (.aload_n 0, 1) := by decide +kernel
theorem dX7_bed_121 : decode cX7_bed 121 = .ok (.getfield 35, 3) := by decide +kernel
theorem dX7_bed_124 : decode cX7_bed 124 = .ok (.iload_n 1, 1) := by decide +kernel
theorem dX7_bed_125 : decode cX7_bed 125 = .ok (.iaload, 1) := by decide +kernel
theorem dX7_bed_126 : decode cX7_bed 126 = .ok (.ifCond .ne 7, 3) := by decide +kernel
theorem dX7_bed_129 : decode cX7_bed 129 = .ok (.iconst 0, 1) := by decide +kernel
theorem dX7_bed_130 : decode cX7_bed 130 = .ok (.goto 14, 3) := by decide +kernel
theorem dX7_bed_133 : decode cX7_bed 133 = .ok (.aload_n 0, 1) := by decide +kernel
theorem dX7_bed_134 : decode cX7_bed 134 = .ok (.getfield 135, 3) := by decide +kernel
theorem dX7_bed_137 : decode cX7_bed 137 = .ok (.aload_n 0, 1) := by decide +kernel
theorem dX7_bed_138 : decode cX7_bed 138 = .ok (.getfield 44, 3) := by decide +kernel
theorem dX7_bed_141 : decode cX7_bed 141 = .ok (.iload_n 1, 1) := by decide +kernel
theorem dX7_bed_142 : decode cX7_bed 142 = .ok (.iaload, 1) := by decide +kernel
theorem dX7_bed_143 : decode cX7_bed 143 = .ok (.isub, 1) := by decide +kernel
theorem dX7_bed_144 : decode cX7_bed 144 = .ok (.ireturn, 1) := by decide +kernel
theorem dX7_count_0 : decode cX7_count 0 = .ok (.iload_n 1, 1) := by decide +kernel
theorem dX7_count_1 : decode cX7_count 1 = .ok (.i2l, 1) := by decide +kernel
theorem dX7_count_2 : decode cX7_count 2 = .ok (.lconst 0, 1) := by decide +kernel
theorem dX7_count_3 : decode cX7_count 3 = .ok (.ldc2_w 210, 3) := by decide +kernel
theorem dX7_count_6 : decode cX7_count 6 = .ok (.invokestatic 96, 3) := by decide +kernel
theorem dX7_count_9 : decode cX7_count 9 = .ok (.ifCond .ne 5, 3) := by decide +kernel
theorem dX7_count_12 : decode cX7_count 12 = .ok (.iconst (-1), 1) := by decide +kernel
theorem dX7_count_13 : decode cX7_count 13 = .ok (.ireturn, 1) := by decide +kernel
theorem dX7_count_14 : decode cX7_count 14 = .ok (.iload_n 1, 1) := by decide +kernel
theorem dX7_count_15 : decode cX7_count 15 = .ok (.iconst 4, 1) := by decide +kernel
theorem dX7_count_16 : decode cX7_count 16 = .ok (.if_icmp .ge 43, 3) := by decide +kernel
theorem dX7_count_19 : decode cX7_count 19 = .ok (.iload_n 1, 1) := by decide +kernel
theorem dX7_count_20 : decode cX7_count 20 = .ok (.ifCond .ne 10, 3) := by decide +kernel
theorem dX7_count_23 : decode cX7_count 23 = .ok (.aload_n 0, 1) := by decide +kernel
theorem dX7_count_24 : decode cX7_count 24 = .ok (.getfield 93, 3) := by decide +kernel
theorem dX7_count_27 : decode cX7_count 27 = .ok (.goto 31, 3) := by decide +kernel
theorem dX7_count_30 : decode cX7_count 30 = .ok (.iload_n 1, 1) := by decide +kernel
theorem dX7_count_31 : decode cX7_count 31 = .ok (.iconst 1, 1) := by decide +kernel
theorem dX7_count_32 : decode cX7_count 32 = .ok (.if_icmp .ne 10, 3) := by decide +kernel
theorem dX7_count_35 : decode cX7_count 35 = .ok (.aload_n 0, 1) := by decide +kernel
theorem dX7_count_36 : decode cX7_count 36 = .ok (.getfield 135, 3) := by decide +kernel
theorem dX7_count_39 : decode cX7_count 39 = .ok (.goto 19, 3) := by decide +kernel
theorem dX7_count_42 : decode cX7_count 42 = .ok (.iload_n 1, 1) := by decide +kernel
theorem dX7_count_43 : decode cX7_count 43 = .ok (.iconst 2, 1) := by decide +kernel
theorem dX7_count_44 : decode cX7_count 44 = .ok (.if_icmp .ne 10, 3) := by decide +kernel
theorem dX7_count_47 : decode cX7_count 47 = .ok (.aload_n 0, 1) := by decide +kernel
theorem dX7_count_48 : decode cX7_count 48 = .ok (.getfield 197, 3) := by decide +kernel
theorem dX7_count_51 : decode cX7_count 51 = .ok (.goto 7, 3) := by decide +kernel
theorem dX7_count_54 : decode cX7_count 54 = .ok (.aload_n 0, 1) := by decide +kernel
theorem dX7_count_55 : decode cX7_count 55 = .ok (.getfield 138, 3) := by decide +kernel
theorem dX7_count_58 : decode cX7_count 58 = .ok (.ireturn, 1) := by decide +kernel
theorem dX7_count_59 : decode cX7_count 59 = .ok (.iconst 0, 1) := by decide +kernel
theorem dX7_count_60 : decode cX7_count 60 = .ok (.istore_n 2, 1) := by decide +kernel
theorem dX7_count_61 : decode cX7_count 61 = .ok (.iconst 0, 1) := by decide +kernel
theorem dX7_count_62 : decode cX7_count 62 = .ok (.istore_n 3, 1) := by decide +kernel
theorem dX7_count_63 : decode cX7_count 63 = .ok (.iload_n 3, 1) := by decide +kernel
theorem dX7_count_64 : decode cX7_count 64 = .ok (.aload_n 0, 1) := by decide +kernel
theorem dX7_count_65 : decode cX7_count 65 = .ok (.getfield 93, 3) := by decide +kernel
theorem dX7_count_68 : decode cX7_count 68 = .ok (.if_icmp .ge 29, 3) := by decide +kernel
theorem dX7_count_71 : decode cX7_count 71 = .ok (.iload_n 2, 1) := by decide +kernel
theorem dX7_count_72 : decode cX7_count 72 = .ok (.aload_n 0, 1) := by decide +kernel
theorem dX7_count_73 : decode cX7_count 73 = .ok (.getfield 22, 3) := by decide +kernel
theorem dX7_count_76 : decode cX7_count 76 = .ok (.iload_n 3, 1) := by decide +kernel
theorem dX7_count_77 : decode cX7_count 77 = .ok (.iaload, 1) := by decide +kernel
theorem dX7_count_78 : decode cX7_count 78 = .ok (.iload_n 1, 1) := by decide +kernel
theorem dX7_count_79 : decode cX7_count 79 = .ok (.iconst 4, 1) := by decide +kernel
theorem dX7_count_80 : decode cX7_count 80 = .ok (.isub, 1) := by decide +kernel
theorem dX7_count_81 : decode cX7_count 81 = .ok (.if_icmp .ne 7, 3) := by decide +kernel
theorem dX7_count_84 : decode cX7_count 84 = .ok (.iconst 1, 1) := by decide +kernel
theorem dX7_count_85 : decode cX7_count 85 = .ok (.goto 4, 3) := by decide +kernel
theorem dX7_count_88 : decode cX7_count 88 = .ok (.iconst 0, 1) := by decide +kernel
theorem dX7_count_89 : decode cX7_count 89 = .ok (.iadd, 1) := by decide +kernel
theorem dX7_count_90 : decode cX7_count 90 = .ok (.istore_n 2, 1) := by decide +kernel
theorem dX7_count_91 : decode cX7_count 91 = .ok (.iinc 3 1, 3) := by decide +kernel
theorem dX7_count_94 : decode cX7_count 94 = .ok (.goto (-31), 3) := by decide +kernel
theorem dX7_count_97 : decode cX7_count 97 = .ok (.iload_n 2, 1) := by decide +kernel
theorem dX7_count_98 : decode cX7_count 98 = .ok (.ireturn, 1) := by decide +kernel
theorem dL_law_0 : decode cL_law 0 = .ok (.new 7, 3) := by decide +kernel
theorem dL_law_3 : decode cL_law 3 = .ok (.dup, 1) := by decide +kernel
theorem dL_law_4 : decode cL_law 4 = .ok (.invokespecial 9, 3) := by decide +kernel
theorem dL_law_7 : decode cL_law 7 = .ok (.astore_n 1, 1) := by decide +kernel
theorem dL_law_8 : decode cL_law 8 = .ok (.new 10, 3) := by decide +kernel
theorem dL_law_11 : decode cL_law 11 = .ok (.dup, 1) := by decide +kernel
theorem dL_law_12 : decode cL_law 12 = .ok (.invokespecial 12, 3) := by decide +kernel
theorem dL_law_15 : decode cL_law 15 = .ok (.astore_n 2, 1) := by decide +kernel
theorem dL_law_16 : decode cL_law 16 = .ok (.iconst 0, 1) := by decide +kernel
theorem dL_law_17 : decode cL_law 17 = .ok (.istore_n 3, 1) := by decide +kernel
theorem dL_law_18 : decode cL_law 18 = .ok (.iload_n 3, 1) := by decide +kernel
theorem dL_law_19 : decode cL_law 19 = .ok (.aload_n 0, 1) := by decide +kernel
theorem dL_law_20 : decode cL_law 20 = .ok (.arraylength, 1) := by decide +kernel
theorem dL_law_21 : decode cL_law 21 = .ok (.iconst 5, 1) := by decide +kernel
theorem dL_law_22 : decode cL_law 22 = .ok (.isub, 1) := by decide +kernel
theorem dL_law_23 : decode cL_law 23 = .ok (.if_icmp .gt 697, 3) := by decide +kernel
theorem dL_law_26 : decode cL_law 26 = .ok (.aload_n 0, 1) := by decide +kernel
theorem dL_law_27 : decode cL_law 27 = .ok (.iload_n 3, 1) := by decide +kernel
theorem dL_law_28 : decode cL_law 28 = .ok (.iaload, 1) := by decide +kernel
theorem dL_law_29 : decode cL_law 29 = .ok (.bipush 31, 2) := by decide +kernel
theorem dL_law_31 : decode cL_law 31 = .ok (.iand, 1) := by decide +kernel
theorem dL_law_32 : decode cL_law 32 = .ok (.tableswitch 682 0 17 #[88, 131, 164, 207, 250, 273, 296, 319, 352, 385, 448, 471, 484, 507, 560, 593, 626, 659], 88) := by decide +kernel
theorem dL_law_120 : decode cL_law 120 = .ok (.aload_n 1, 1) := by decide +kernel
theorem dL_law_121 : decode cL_law 121 = .ok (.aload_n 0, 1) := by decide +kernel
theorem dL_law_122 : decode cL_law 122 = .ok (.iload_n 3, 1) := by decide +kernel
theorem dL_law_123 : decode cL_law 123 = .ok (.iconst 1, 1) := by decide +kernel
theorem dL_law_124 : decode cL_law 124 = .ok (.iadd, 1) := by decide +kernel
theorem dL_law_125 : decode cL_law 125 = .ok (.iaload, 1) := by decide +kernel
theorem dL_law_126 : decode cL_law 126 = .ok (.aload_n 0, 1) := by decide +kernel
theorem dL_law_127 : decode cL_law 127 = .ok (.iload_n 3, 1) := by decide +kernel
theorem dL_law_128 : decode cL_law 128 = .ok (.iconst 2, 1) := by decide +kernel
theorem dL_law_129 : decode cL_law 129 = .ok (.iadd, 1) := by decide +kernel
theorem dL_law_130 : decode cL_law 130 = .ok (.iaload, 1) := by decide +kernel
theorem dL_law_131 : decode cL_law 131 = .ok (.aload_n 0, 1) := by decide +kernel
theorem dL_law_132 : decode cL_law 132 = .ok (.iload_n 3, 1) := by decide +kernel
theorem dL_law_133 : decode cL_law 133 = .ok (.iconst 3, 1) := by decide +kernel
theorem dL_law_134 : decode cL_law 134 = .ok (.iadd, 1) := by decide +kernel
theorem dL_law_135 : decode cL_law 135 = .ok (.iaload, 1) := by decide +kernel
theorem dL_law_136 : decode cL_law 136 = .ok (.invokevirtual 13, 3) := by decide +kernel
theorem dL_law_139 : decode cL_law 139 = .ok (.aload_n 2, 1) := by decide +kernel
theorem dL_law_140 : decode cL_law 140 = .ok (.aload_n 0, 1) := by decide +kernel
theorem dL_law_141 : decode cL_law 141 = .ok (.iload_n 3, 1) := by decide +kernel
theorem dL_law_142 : decode cL_law 142 = .ok (.iconst 1, 1) := by decide +kernel
theorem dL_law_143 : decode cL_law 143 = .ok (.iadd, 1) := by decide +kernel
theorem dL_law_144 : decode cL_law 144 = .ok (.iaload, 1) := by decide +kernel
theorem dL_law_145 : decode cL_law 145 = .ok (.aload_n 0, 1) := by decide +kernel
theorem dL_law_146 : decode cL_law 146 = .ok (.iload_n 3, 1) := by decide +kernel
theorem dL_law_147 : decode cL_law 147 = .ok (.iconst 2, 1) := by decide +kernel
theorem dL_law_148 : decode cL_law 148 = .ok (.iadd, 1) := by decide +kernel
theorem dL_law_149 : decode cL_law 149 = .ok (.iaload, 1) := by decide +kernel
theorem dL_law_150 : decode cL_law 150 = .ok (.aload_n 0, 1) := by decide +kernel
theorem dL_law_151 : decode cL_law 151 = .ok (.iload_n 3, 1) := by decide +kernel
theorem dL_law_152 : decode cL_law 152 = .ok (.iconst 3, 1) := by decide +kernel
theorem dL_law_153 : decode cL_law 153 = .ok (.iadd, 1) := by decide +kernel
theorem dL_law_154 : decode cL_law 154 = .ok (.iaload, 1) := by decide +kernel
theorem dL_law_155 : decode cL_law 155 = .ok (.invokevirtual 17, 3) := by decide +kernel
theorem dL_law_158 : decode cL_law 158 = .ok (.if_icmp .eq 556, 3) := by decide +kernel
theorem dL_law_161 : decode cL_law 161 = .ok (.iconst 0, 1) := by decide +kernel
theorem dL_law_162 : decode cL_law 162 = .ok (.ireturn, 1) := by decide +kernel
theorem dL_law_163 : decode cL_law 163 = .ok (.aload_n 1, 1) := by decide +kernel
theorem dL_law_164 : decode cL_law 164 = .ok (.aload_n 0, 1) := by decide +kernel
theorem dL_law_165 : decode cL_law 165 = .ok (.iload_n 3, 1) := by decide +kernel
theorem dL_law_166 : decode cL_law 166 = .ok (.iconst 1, 1) := by decide +kernel
theorem dL_law_167 : decode cL_law 167 = .ok (.iadd, 1) := by decide +kernel
theorem dL_law_168 : decode cL_law 168 = .ok (.iaload, 1) := by decide +kernel
theorem dL_law_169 : decode cL_law 169 = .ok (.aload_n 0, 1) := by decide +kernel
theorem dL_law_170 : decode cL_law 170 = .ok (.iload_n 3, 1) := by decide +kernel
theorem dL_law_171 : decode cL_law 171 = .ok (.iconst 2, 1) := by decide +kernel
theorem dL_law_172 : decode cL_law 172 = .ok (.iadd, 1) := by decide +kernel
theorem dL_law_173 : decode cL_law 173 = .ok (.iaload, 1) := by decide +kernel
theorem dL_law_174 : decode cL_law 174 = .ok (.invokevirtual 18, 3) := by decide +kernel
theorem dL_law_177 : decode cL_law 177 = .ok (.aload_n 2, 1) := by decide +kernel
theorem dL_law_178 : decode cL_law 178 = .ok (.aload_n 0, 1) := by decide +kernel
theorem dL_law_179 : decode cL_law 179 = .ok (.iload_n 3, 1) := by decide +kernel
theorem dL_law_180 : decode cL_law 180 = .ok (.iconst 1, 1) := by decide +kernel
theorem dL_law_181 : decode cL_law 181 = .ok (.iadd, 1) := by decide +kernel
theorem dL_law_182 : decode cL_law 182 = .ok (.iaload, 1) := by decide +kernel
theorem dL_law_183 : decode cL_law 183 = .ok (.aload_n 0, 1) := by decide +kernel
theorem dL_law_184 : decode cL_law 184 = .ok (.iload_n 3, 1) := by decide +kernel
theorem dL_law_185 : decode cL_law 185 = .ok (.iconst 2, 1) := by decide +kernel
theorem dL_law_186 : decode cL_law 186 = .ok (.iadd, 1) := by decide +kernel
theorem dL_law_187 : decode cL_law 187 = .ok (.iaload, 1) := by decide +kernel
theorem dL_law_188 : decode cL_law 188 = .ok (.invokevirtual 22, 3) := by decide +kernel
theorem dL_law_191 : decode cL_law 191 = .ok (.if_icmp .eq 523, 3) := by decide +kernel
theorem dL_law_194 : decode cL_law 194 = .ok (.iconst 0, 1) := by decide +kernel
theorem dL_law_195 : decode cL_law 195 = .ok (.ireturn, 1) := by decide +kernel
theorem dL_law_196 : decode cL_law 196 = .ok (.aload_n 1, 1) := by decide +kernel
theorem dL_law_197 : decode cL_law 197 = .ok (.aload_n 0, 1) := by decide +kernel
theorem dL_law_198 : decode cL_law 198 = .ok (.iload_n 3, 1) := by decide +kernel
theorem dL_law_199 : decode cL_law 199 = .ok (.iconst 1, 1) := by decide +kernel
theorem dL_law_200 : decode cL_law 200 = .ok (.iadd, 1) := by decide +kernel
theorem dL_law_201 : decode cL_law 201 = .ok (.iaload, 1) := by decide +kernel
theorem dL_law_202 : decode cL_law 202 = .ok (.aload_n 0, 1) := by decide +kernel
theorem dL_law_203 : decode cL_law 203 = .ok (.iload_n 3, 1) := by decide +kernel
theorem dL_law_204 : decode cL_law 204 = .ok (.iconst 2, 1) := by decide +kernel
theorem dL_law_205 : decode cL_law 205 = .ok (.iadd, 1) := by decide +kernel
theorem dL_law_206 : decode cL_law 206 = .ok (.iaload, 1) := by decide +kernel
theorem dL_law_207 : decode cL_law 207 = .ok (.aload_n 0, 1) := by decide +kernel
theorem dL_law_208 : decode cL_law 208 = .ok (.iload_n 3, 1) := by decide +kernel
theorem dL_law_209 : decode cL_law 209 = .ok (.iconst 3, 1) := by decide +kernel
theorem dL_law_210 : decode cL_law 210 = .ok (.iadd, 1) := by decide +kernel
theorem dL_law_211 : decode cL_law 211 = .ok (.iaload, 1) := by decide +kernel
theorem dL_law_212 : decode cL_law 212 = .ok (.invokevirtual 23, 3) := by decide +kernel
theorem dL_law_215 : decode cL_law 215 = .ok (.aload_n 2, 1) := by decide +kernel
theorem dL_law_216 : decode cL_law 216 = .ok (.aload_n 0, 1) := by decide +kernel
theorem dL_law_217 : decode cL_law 217 = .ok (.iload_n 3, 1) := by decide +kernel
theorem dL_law_218 : decode cL_law 218 = .ok (.iconst 1, 1) := by decide +kernel
theorem dL_law_219 : decode cL_law 219 = .ok (.iadd, 1) := by decide +kernel
theorem dL_law_220 : decode cL_law 220 = .ok (.iaload, 1) := by decide +kernel
theorem dL_law_221 : decode cL_law 221 = .ok (.aload_n 0, 1) := by decide +kernel
theorem dL_law_222 : decode cL_law 222 = .ok (.iload_n 3, 1) := by decide +kernel
theorem dL_law_223 : decode cL_law 223 = .ok (.iconst 2, 1) := by decide +kernel
theorem dL_law_224 : decode cL_law 224 = .ok (.iadd, 1) := by decide +kernel
theorem dL_law_225 : decode cL_law 225 = .ok (.iaload, 1) := by decide +kernel
theorem dL_law_226 : decode cL_law 226 = .ok (.aload_n 0, 1) := by decide +kernel
theorem dL_law_227 : decode cL_law 227 = .ok (.iload_n 3, 1) := by decide +kernel
theorem dL_law_228 : decode cL_law 228 = .ok (.iconst 3, 1) := by decide +kernel
theorem dL_law_229 : decode cL_law 229 = .ok (.iadd, 1) := by decide +kernel
theorem dL_law_230 : decode cL_law 230 = .ok (.iaload, 1) := by decide +kernel
theorem dL_law_231 : decode cL_law 231 = .ok (.invokevirtual 26, 3) := by decide +kernel
theorem dL_law_234 : decode cL_law 234 = .ok (.if_icmp .eq 480, 3) := by decide +kernel
theorem dL_law_237 : decode cL_law 237 = .ok (.iconst 0, 1) := by decide +kernel
theorem dL_law_238 : decode cL_law 238 = .ok (.ireturn, 1) := by decide +kernel
theorem dL_law_239 : decode cL_law 239 = .ok (.aload_n 1, 1) := by decide +kernel
theorem dL_law_240 : decode cL_law 240 = .ok (.aload_n 0, 1) := by decide +kernel
theorem dL_law_241 : decode cL_law 241 = .ok (.iload_n 3, 1) := by decide +kernel
theorem dL_law_242 : decode cL_law 242 = .ok (.iconst 1, 1) := by decide +kernel
theorem dL_law_243 : decode cL_law 243 = .ok (.iadd, 1) := by decide +kernel
theorem dL_law_244 : decode cL_law 244 = .ok (.iaload, 1) := by decide +kernel
theorem dL_law_245 : decode cL_law 245 = .ok (.aload_n 0, 1) := by decide +kernel
theorem dL_law_246 : decode cL_law 246 = .ok (.iload_n 3, 1) := by decide +kernel
theorem dL_law_247 : decode cL_law 247 = .ok (.iconst 2, 1) := by decide +kernel
theorem dL_law_248 : decode cL_law 248 = .ok (.iadd, 1) := by decide +kernel
theorem dL_law_249 : decode cL_law 249 = .ok (.iaload, 1) := by decide +kernel
theorem dL_law_250 : decode cL_law 250 = .ok (.aload_n 0, 1) := by decide +kernel
theorem dL_law_251 : decode cL_law 251 = .ok (.iload_n 3, 1) := by decide +kernel
theorem dL_law_252 : decode cL_law 252 = .ok (.iconst 3, 1) := by decide +kernel
theorem dL_law_253 : decode cL_law 253 = .ok (.iadd, 1) := by decide +kernel
theorem dL_law_254 : decode cL_law 254 = .ok (.iaload, 1) := by decide +kernel
theorem dL_law_255 : decode cL_law 255 = .ok (.invokevirtual 27, 3) := by decide +kernel
theorem dL_law_258 : decode cL_law 258 = .ok (.aload_n 2, 1) := by decide +kernel
theorem dL_law_259 : decode cL_law 259 = .ok (.aload_n 0, 1) := by decide +kernel
theorem dL_law_260 : decode cL_law 260 = .ok (.iload_n 3, 1) := by decide +kernel
theorem dL_law_261 : decode cL_law 261 = .ok (.iconst 1, 1) := by decide +kernel
theorem dL_law_262 : decode cL_law 262 = .ok (.iadd, 1) := by decide +kernel
theorem dL_law_263 : decode cL_law 263 = .ok (.iaload, 1) := by decide +kernel
theorem dL_law_264 : decode cL_law 264 = .ok (.aload_n 0, 1) := by decide +kernel
theorem dL_law_265 : decode cL_law 265 = .ok (.iload_n 3, 1) := by decide +kernel
theorem dL_law_266 : decode cL_law 266 = .ok (.iconst 2, 1) := by decide +kernel
theorem dL_law_267 : decode cL_law 267 = .ok (.iadd, 1) := by decide +kernel
theorem dL_law_268 : decode cL_law 268 = .ok (.iaload, 1) := by decide +kernel
theorem dL_law_269 : decode cL_law 269 = .ok (.aload_n 0, 1) := by decide +kernel
theorem dL_law_270 : decode cL_law 270 = .ok (.iload_n 3, 1) := by decide +kernel
theorem dL_law_271 : decode cL_law 271 = .ok (.iconst 3, 1) := by decide +kernel
theorem dL_law_272 : decode cL_law 272 = .ok (.iadd, 1) := by decide +kernel
theorem dL_law_273 : decode cL_law 273 = .ok (.iaload, 1) := by decide +kernel
theorem dL_law_274 : decode cL_law 274 = .ok (.invokevirtual 30, 3) := by decide +kernel
theorem dL_law_277 : decode cL_law 277 = .ok (.if_icmp .eq 437, 3) := by decide +kernel
theorem dL_law_280 : decode cL_law 280 = .ok (.iconst 0, 1) := by decide +kernel
theorem dL_law_281 : decode cL_law 281 = .ok (.ireturn, 1) := by decide +kernel
theorem dL_law_282 : decode cL_law 282 = .ok (.aload_n 1, 1) := by decide +kernel
theorem dL_law_283 : decode cL_law 283 = .ok (.aload_n 0, 1) := by decide +kernel
theorem dL_law_284 : decode cL_law 284 = .ok (.iload_n 3, 1) := by decide +kernel
theorem dL_law_285 : decode cL_law 285 = .ok (.iconst 1, 1) := by decide +kernel
theorem dL_law_286 : decode cL_law 286 = .ok (.iadd, 1) := by decide +kernel
theorem dL_law_287 : decode cL_law 287 = .ok (.iaload, 1) := by decide +kernel
theorem dL_law_288 : decode cL_law 288 = .ok (.invokevirtual 31, 3) := by decide +kernel
theorem dL_law_291 : decode cL_law 291 = .ok (.aload_n 2, 1) := by decide +kernel
theorem dL_law_292 : decode cL_law 292 = .ok (.aload_n 0, 1) := by decide +kernel
theorem dL_law_293 : decode cL_law 293 = .ok (.iload_n 3, 1) := by decide +kernel
theorem dL_law_294 : decode cL_law 294 = .ok (.iconst 1, 1) := by decide +kernel
theorem dL_law_295 : decode cL_law 295 = .ok (.iadd, 1) := by decide +kernel
theorem dL_law_296 : decode cL_law 296 = .ok (.iaload, 1) := by decide +kernel
theorem dL_law_297 : decode cL_law 297 = .ok (.invokevirtual 35, 3) := by decide +kernel
theorem dL_law_300 : decode cL_law 300 = .ok (.if_icmp .eq 414, 3) := by decide +kernel
theorem dL_law_303 : decode cL_law 303 = .ok (.iconst 0, 1) := by decide +kernel
theorem dL_law_304 : decode cL_law 304 = .ok (.ireturn, 1) := by decide +kernel
theorem dL_law_305 : decode cL_law 305 = .ok (.aload_n 1, 1) := by decide +kernel
theorem dL_law_306 : decode cL_law 306 = .ok (.aload_n 0, 1) := by decide +kernel
theorem dL_law_307 : decode cL_law 307 = .ok (.iload_n 3, 1) := by decide +kernel
theorem dL_law_308 : decode cL_law 308 = .ok (.iconst 1, 1) := by decide +kernel
theorem dL_law_309 : decode cL_law 309 = .ok (.iadd, 1) := by decide +kernel
theorem dL_law_310 : decode cL_law 310 = .ok (.iaload, 1) := by decide +kernel
theorem dL_law_311 : decode cL_law 311 = .ok (.invokevirtual 36, 3) := by decide +kernel
theorem dL_law_314 : decode cL_law 314 = .ok (.aload_n 2, 1) := by decide +kernel
theorem dL_law_315 : decode cL_law 315 = .ok (.aload_n 0, 1) := by decide +kernel
theorem dL_law_316 : decode cL_law 316 = .ok (.iload_n 3, 1) := by decide +kernel
theorem dL_law_317 : decode cL_law 317 = .ok (.iconst 1, 1) := by decide +kernel
theorem dL_law_318 : decode cL_law 318 = .ok (.iadd, 1) := by decide +kernel
theorem dL_law_319 : decode cL_law 319 = .ok (.iaload, 1) := by decide +kernel
theorem dL_law_320 : decode cL_law 320 = .ok (.invokevirtual 39, 3) := by decide +kernel
theorem dL_law_323 : decode cL_law 323 = .ok (.if_icmp .eq 391, 3) := by decide +kernel
theorem dL_law_326 : decode cL_law 326 = .ok (.iconst 0, 1) := by decide +kernel
theorem dL_law_327 : decode cL_law 327 = .ok (.ireturn, 1) := by decide +kernel
theorem dL_law_328 : decode cL_law 328 = .ok (.aload_n 1, 1) := by decide +kernel
theorem dL_law_329 : decode cL_law 329 = .ok (.aload_n 0, 1) := by decide +kernel
theorem dL_law_330 : decode cL_law 330 = .ok (.iload_n 3, 1) := by decide +kernel
theorem dL_law_331 : decode cL_law 331 = .ok (.iconst 1, 1) := by decide +kernel
theorem dL_law_332 : decode cL_law 332 = .ok (.iadd, 1) := by decide +kernel
theorem dL_law_333 : decode cL_law 333 = .ok (.iaload, 1) := by decide +kernel
theorem dL_law_334 : decode cL_law 334 = .ok (.invokevirtual 40, 3) := by decide +kernel
theorem dL_law_337 : decode cL_law 337 = .ok (.aload_n 2, 1) := by decide +kernel
theorem dL_law_338 : decode cL_law 338 = .ok (.aload_n 0, 1) := by decide +kernel
theorem dL_law_339 : decode cL_law 339 = .ok (.iload_n 3, 1) := by decide +kernel
theorem dL_law_340 : decode cL_law 340 = .ok (.iconst 1, 1) := by decide +kernel
theorem dL_law_341 : decode cL_law 341 = .ok (.iadd, 1) := by decide +kernel
theorem dL_law_342 : decode cL_law 342 = .ok (.iaload, 1) := by decide +kernel
theorem dL_law_343 : decode cL_law 343 = .ok (.invokevirtual 43, 3) := by decide +kernel
theorem dL_law_346 : decode cL_law 346 = .ok (.if_icmp .eq 368, 3) := by decide +kernel
theorem dL_law_349 : decode cL_law 349 = .ok (.iconst 0, 1) := by decide +kernel
theorem dL_law_350 : decode cL_law 350 = .ok (.ireturn, 1) := by decide +kernel
theorem dL_law_351 : decode cL_law 351 = .ok (.aload_n 1, 1) := by decide +kernel
theorem dL_law_352 : decode cL_law 352 = .ok (.aload_n 0, 1) := by decide +kernel
theorem dL_law_353 : decode cL_law 353 = .ok (.iload_n 3, 1) := by decide +kernel
theorem dL_law_354 : decode cL_law 354 = .ok (.iconst 1, 1) := by decide +kernel
theorem dL_law_355 : decode cL_law 355 = .ok (.iadd, 1) := by decide +kernel
theorem dL_law_356 : decode cL_law 356 = .ok (.iaload, 1) := by decide +kernel
theorem dL_law_357 : decode cL_law 357 = .ok (.aload_n 0, 1) := by decide +kernel
theorem dL_law_358 : decode cL_law 358 = .ok (.iload_n 3, 1) := by decide +kernel
theorem dL_law_359 : decode cL_law 359 = .ok (.iconst 2, 1) := by decide +kernel
theorem dL_law_360 : decode cL_law 360 = .ok (.iadd, 1) := by decide +kernel
theorem dL_law_361 : decode cL_law 361 = .ok (.iaload, 1) := by decide +kernel
theorem dL_law_362 : decode cL_law 362 = .ok (.invokevirtual 44, 3) := by decide +kernel
theorem dL_law_365 : decode cL_law 365 = .ok (.aload_n 2, 1) := by decide +kernel
theorem dL_law_366 : decode cL_law 366 = .ok (.aload_n 0, 1) := by decide +kernel
theorem dL_law_367 : decode cL_law 367 = .ok (.iload_n 3, 1) := by decide +kernel
theorem dL_law_368 : decode cL_law 368 = .ok (.iconst 1, 1) := by decide +kernel
theorem dL_law_369 : decode cL_law 369 = .ok (.iadd, 1) := by decide +kernel
theorem dL_law_370 : decode cL_law 370 = .ok (.iaload, 1) := by decide +kernel
theorem dL_law_371 : decode cL_law 371 = .ok (.aload_n 0, 1) := by decide +kernel
theorem dL_law_372 : decode cL_law 372 = .ok (.iload_n 3, 1) := by decide +kernel
theorem dL_law_373 : decode cL_law 373 = .ok (.iconst 2, 1) := by decide +kernel
theorem dL_law_374 : decode cL_law 374 = .ok (.iadd, 1) := by decide +kernel
theorem dL_law_375 : decode cL_law 375 = .ok (.iaload, 1) := by decide +kernel
theorem dL_law_376 : decode cL_law 376 = .ok (.invokevirtual 47, 3) := by decide +kernel
theorem dL_law_379 : decode cL_law 379 = .ok (.if_icmp .eq 335, 3) := by decide +kernel
theorem dL_law_382 : decode cL_law 382 = .ok (.iconst 0, 1) := by decide +kernel
theorem dL_law_383 : decode cL_law 383 = .ok (.ireturn, 1) := by decide +kernel
theorem dL_law_384 : decode cL_law 384 = .ok (.aload_n 1, 1) := by decide +kernel
theorem dL_law_385 : decode cL_law 385 = .ok (.aload_n 0, 1) := by decide +kernel
theorem dL_law_386 : decode cL_law 386 = .ok (.iload_n 3, 1) := by decide +kernel
theorem dL_law_387 : decode cL_law 387 = .ok (.iconst 1, 1) := by decide +kernel
theorem dL_law_388 : decode cL_law 388 = .ok (.iadd, 1) := by decide +kernel
theorem dL_law_389 : decode cL_law 389 = .ok (.iaload, 1) := by decide +kernel
theorem dL_law_390 : decode cL_law 390 = .ok (.aload_n 0, 1) := by decide +kernel
theorem dL_law_391 : decode cL_law 391 = .ok (.iload_n 3, 1) := by decide +kernel
theorem dL_law_392 : decode cL_law 392 = .ok (.iconst 2, 1) := by decide +kernel
theorem dL_law_393 : decode cL_law 393 = .ok (.iadd, 1) := by decide +kernel
theorem dL_law_394 : decode cL_law 394 = .ok (.iaload, 1) := by decide +kernel
theorem dL_law_395 : decode cL_law 395 = .ok (.invokevirtual 48, 3) := by decide +kernel
theorem dL_law_398 : decode cL_law 398 = .ok (.aload_n 2, 1) := by decide +kernel
theorem dL_law_399 : decode cL_law 399 = .ok (.aload_n 0, 1) := by decide +kernel
theorem dL_law_400 : decode cL_law 400 = .ok (.iload_n 3, 1) := by decide +kernel
theorem dL_law_401 : decode cL_law 401 = .ok (.iconst 1, 1) := by decide +kernel
theorem dL_law_402 : decode cL_law 402 = .ok (.iadd, 1) := by decide +kernel
theorem dL_law_403 : decode cL_law 403 = .ok (.iaload, 1) := by decide +kernel
theorem dL_law_404 : decode cL_law 404 = .ok (.aload_n 0, 1) := by decide +kernel
theorem dL_law_405 : decode cL_law 405 = .ok (.iload_n 3, 1) := by decide +kernel
theorem dL_law_406 : decode cL_law 406 = .ok (.iconst 2, 1) := by decide +kernel
theorem dL_law_407 : decode cL_law 407 = .ok (.iadd, 1) := by decide +kernel
theorem dL_law_408 : decode cL_law 408 = .ok (.iaload, 1) := by decide +kernel
theorem dL_law_409 : decode cL_law 409 = .ok (.invokevirtual 51, 3) := by decide +kernel
theorem dL_law_412 : decode cL_law 412 = .ok (.if_icmp .eq 302, 3) := by decide +kernel
theorem dL_law_415 : decode cL_law 415 = .ok (.iconst 0, 1) := by decide +kernel
theorem dL_law_416 : decode cL_law 416 = .ok (.ireturn, 1) := by decide +kernel
theorem dL_law_417 : decode cL_law 417 = .ok (.aload_n 1, 1) := by decide +kernel
theorem dL_law_418 : decode cL_law 418 = .ok (.aload_n 0, 1) := by decide +kernel
theorem dL_law_419 : decode cL_law 419 = .ok (.iload_n 3, 1) := by decide +kernel
theorem dL_law_420 : decode cL_law 420 = .ok (.iconst 1, 1) := by decide +kernel
theorem dL_law_421 : decode cL_law 421 = .ok (.iadd, 1) := by decide +kernel
theorem dL_law_422 : decode cL_law 422 = .ok (.iaload, 1) := by decide +kernel
theorem dL_law_423 : decode cL_law 423 = .ok (.aload_n 0, 1) := by decide +kernel
theorem dL_law_424 : decode cL_law 424 = .ok (.iload_n 3, 1) := by decide +kernel
theorem dL_law_425 : decode cL_law 425 = .ok (.iconst 2, 1) := by decide +kernel
theorem dL_law_426 : decode cL_law 426 = .ok (.iadd, 1) := by decide +kernel
theorem dL_law_427 : decode cL_law 427 = .ok (.iaload, 1) := by decide +kernel
theorem dL_law_428 : decode cL_law 428 = .ok (.i2l, 1) := by decide +kernel
theorem dL_law_429 : decode cL_law 429 = .ok (.bipush 32, 2) := by decide +kernel
theorem dL_law_431 : decode cL_law 431 = .ok (.lshl, 1) := by decide +kernel
theorem dL_law_432 : decode cL_law 432 = .ok (.aload_n 0, 1) := by decide +kernel
theorem dL_law_433 : decode cL_law 433 = .ok (.iload_n 3, 1) := by decide +kernel
theorem dL_law_434 : decode cL_law 434 = .ok (.iconst 3, 1) := by decide +kernel
theorem dL_law_435 : decode cL_law 435 = .ok (.iadd, 1) := by decide +kernel
theorem dL_law_436 : decode cL_law 436 = .ok (.iaload, 1) := by decide +kernel
theorem dL_law_437 : decode cL_law 437 = .ok (.i2l, 1) := by decide +kernel
theorem dL_law_438 : decode cL_law 438 = .ok (.ldc2_w 52, 3) := by decide +kernel
theorem dL_law_441 : decode cL_law 441 = .ok (.land, 1) := by decide +kernel
theorem dL_law_442 : decode cL_law 442 = .ok (.lor, 1) := by decide +kernel
theorem dL_law_443 : decode cL_law 443 = .ok (.invokevirtual 54, 3) := by decide +kernel
theorem dL_law_446 : decode cL_law 446 = .ok (.aload_n 2, 1) := by decide +kernel
theorem dL_law_447 : decode cL_law 447 = .ok (.aload_n 0, 1) := by decide +kernel
theorem dL_law_448 : decode cL_law 448 = .ok (.iload_n 3, 1) := by decide +kernel
theorem dL_law_449 : decode cL_law 449 = .ok (.iconst 1, 1) := by decide +kernel
theorem dL_law_450 : decode cL_law 450 = .ok (.iadd, 1) := by decide +kernel
theorem dL_law_451 : decode cL_law 451 = .ok (.iaload, 1) := by decide +kernel
theorem dL_law_452 : decode cL_law 452 = .ok (.aload_n 0, 1) := by decide +kernel
theorem dL_law_453 : decode cL_law 453 = .ok (.iload_n 3, 1) := by decide +kernel
theorem dL_law_454 : decode cL_law 454 = .ok (.iconst 2, 1) := by decide +kernel
theorem dL_law_455 : decode cL_law 455 = .ok (.iadd, 1) := by decide +kernel
theorem dL_law_456 : decode cL_law 456 = .ok (.iaload, 1) := by decide +kernel
theorem dL_law_457 : decode cL_law 457 = .ok (.i2l, 1) := by decide +kernel
theorem dL_law_458 : decode cL_law 458 = .ok (.bipush 32, 2) := by decide +kernel
theorem dL_law_460 : decode cL_law 460 = .ok (.lshl, 1) := by decide +kernel
theorem dL_law_461 : decode cL_law 461 = .ok (.aload_n 0, 1) := by decide +kernel
theorem dL_law_462 : decode cL_law 462 = .ok (.iload_n 3, 1) := by decide +kernel
theorem dL_law_463 : decode cL_law 463 = .ok (.iconst 3, 1) := by decide +kernel
theorem dL_law_464 : decode cL_law 464 = .ok (.iadd, 1) := by decide +kernel
theorem dL_law_465 : decode cL_law 465 = .ok (.iaload, 1) := by decide +kernel
theorem dL_law_466 : decode cL_law 466 = .ok (.i2l, 1) := by decide +kernel
theorem dL_law_467 : decode cL_law 467 = .ok (.ldc2_w 52, 3) := by decide +kernel
theorem dL_law_470 : decode cL_law 470 = .ok (.land, 1) := by decide +kernel
theorem dL_law_471 : decode cL_law 471 = .ok (.lor, 1) := by decide +kernel
theorem dL_law_472 : decode cL_law 472 = .ok (.invokevirtual 58, 3) := by decide +kernel
theorem dL_law_475 : decode cL_law 475 = .ok (.if_icmp .eq 239, 3) := by decide +kernel
theorem dL_law_478 : decode cL_law 478 = .ok (.iconst 0, 1) := by decide +kernel
theorem dL_law_479 : decode cL_law 479 = .ok (.ireturn, 1) := by decide +kernel
theorem dL_law_480 : decode cL_law 480 = .ok (.aload_n 1, 1) := by decide +kernel
theorem dL_law_481 : decode cL_law 481 = .ok (.aload_n 0, 1) := by decide +kernel
theorem dL_law_482 : decode cL_law 482 = .ok (.iload_n 3, 1) := by decide +kernel
theorem dL_law_483 : decode cL_law 483 = .ok (.iconst 1, 1) := by decide +kernel
theorem dL_law_484 : decode cL_law 484 = .ok (.iadd, 1) := by decide +kernel
theorem dL_law_485 : decode cL_law 485 = .ok (.iaload, 1) := by decide +kernel
theorem dL_law_486 : decode cL_law 486 = .ok (.invokevirtual 59, 3) := by decide +kernel
theorem dL_law_489 : decode cL_law 489 = .ok (.aload_n 2, 1) := by decide +kernel
theorem dL_law_490 : decode cL_law 490 = .ok (.aload_n 0, 1) := by decide +kernel
theorem dL_law_491 : decode cL_law 491 = .ok (.iload_n 3, 1) := by decide +kernel
theorem dL_law_492 : decode cL_law 492 = .ok (.iconst 1, 1) := by decide +kernel
theorem dL_law_493 : decode cL_law 493 = .ok (.iadd, 1) := by decide +kernel
theorem dL_law_494 : decode cL_law 494 = .ok (.iaload, 1) := by decide +kernel
theorem dL_law_495 : decode cL_law 495 = .ok (.invokevirtual 62, 3) := by decide +kernel
theorem dL_law_498 : decode cL_law 498 = .ok (.if_icmp .eq 216, 3) := by decide +kernel
theorem dL_law_501 : decode cL_law 501 = .ok (.iconst 0, 1) := by decide +kernel
theorem dL_law_502 : decode cL_law 502 = .ok (.ireturn, 1) := by decide +kernel
theorem dL_law_503 : decode cL_law 503 = .ok (.aload_n 1, 1) := by decide +kernel
theorem dL_law_504 : decode cL_law 504 = .ok (.invokevirtual 63, 3) := by decide +kernel
theorem dL_law_507 : decode cL_law 507 = .ok (.aload_n 2, 1) := by decide +kernel
theorem dL_law_508 : decode cL_law 508 = .ok (.invokevirtual 67, 3) := by decide +kernel
theorem dL_law_511 : decode cL_law 511 = .ok (.if_icmp .eq 203, 3) := by decide +kernel
theorem dL_law_514 : decode cL_law 514 = .ok (.iconst 0, 1) := by decide +kernel
theorem dL_law_515 : decode cL_law 515 = .ok (.ireturn, 1) := by decide +kernel
theorem dL_law_516 : decode cL_law 516 = .ok (.aload_n 1, 1) := by decide +kernel
theorem dL_law_517 : decode cL_law 517 = .ok (.aload_n 0, 1) := by decide +kernel
theorem dL_law_518 : decode cL_law 518 = .ok (.iload_n 3, 1) := by decide +kernel
theorem dL_law_519 : decode cL_law 519 = .ok (.iconst 1, 1) := by decide +kernel
theorem dL_law_520 : decode cL_law 520 = .ok (.iadd, 1) := by decide +kernel
theorem dL_law_521 : decode cL_law 521 = .ok (.iaload, 1) := by decide +kernel
theorem dL_law_522 : decode cL_law 522 = .ok (.invokevirtual 68, 3) := by decide +kernel
theorem dL_law_525 : decode cL_law 525 = .ok (.aload_n 2, 1) := by decide +kernel
theorem dL_law_526 : decode cL_law 526 = .ok (.aload_n 0, 1) := by decide +kernel
theorem dL_law_527 : decode cL_law 527 = .ok (.iload_n 3, 1) := by decide +kernel
theorem dL_law_528 : decode cL_law 528 = .ok (.iconst 1, 1) := by decide +kernel
theorem dL_law_529 : decode cL_law 529 = .ok (.iadd, 1) := by decide +kernel
theorem dL_law_530 : decode cL_law 530 = .ok (.iaload, 1) := by decide +kernel
theorem dL_law_531 : decode cL_law 531 = .ok (.invokevirtual 71, 3) := by decide +kernel
theorem dL_law_534 : decode cL_law 534 = .ok (.if_icmp .eq 180, 3) := by decide +kernel
theorem dL_law_537 : decode cL_law 537 = .ok (.iconst 0, 1) := by decide +kernel
theorem dL_law_538 : decode cL_law 538 = .ok (.ireturn, 1) := by decide +kernel
theorem dL_law_539 : decode cL_law 539 = .ok (.aload_n 1, 1) := by decide +kernel
theorem dL_law_540 : decode cL_law 540 = .ok (.aload_n 0, 1) := by decide +kernel
theorem dL_law_541 : decode cL_law 541 = .ok (.iload_n 3, 1) := by decide +kernel
theorem dL_law_542 : decode cL_law 542 = .ok (.iconst 1, 1) := by decide +kernel
theorem dL_law_543 : decode cL_law 543 = .ok (.iadd, 1) := by decide +kernel
theorem dL_law_544 : decode cL_law 544 = .ok (.iaload, 1) := by decide +kernel
theorem dL_law_545 : decode cL_law 545 = .ok (.aload_n 0, 1) := by decide +kernel
theorem dL_law_546 : decode cL_law 546 = .ok (.iload_n 3, 1) := by decide +kernel
theorem dL_law_547 : decode cL_law 547 = .ok (.iconst 2, 1) := by decide +kernel
theorem dL_law_548 : decode cL_law 548 = .ok (.iadd, 1) := by decide +kernel
theorem dL_law_549 : decode cL_law 549 = .ok (.iaload, 1) := by decide +kernel
theorem dL_law_550 : decode cL_law 550 = .ok (.aload_n 0, 1) := by decide +kernel
theorem dL_law_551 : decode cL_law 551 = .ok (.iload_n 3, 1) := by decide +kernel
theorem dL_law_552 : decode cL_law 552 = .ok (.iconst 3, 1) := by decide +kernel
theorem dL_law_553 : decode cL_law 553 = .ok (.iadd, 1) := by decide +kernel
theorem dL_law_554 : decode cL_law 554 = .ok (.iaload, 1) := by decide +kernel
theorem dL_law_555 : decode cL_law 555 = .ok (.aload_n 0, 1) := by decide +kernel
theorem dL_law_556 : decode cL_law 556 = .ok (.iload_n 3, 1) := by decide +kernel
theorem dL_law_557 : decode cL_law 557 = .ok (.iconst 4, 1) := by decide +kernel
theorem dL_law_558 : decode cL_law 558 = .ok (.iadd, 1) := by decide +kernel
theorem dL_law_559 : decode cL_law 559 = .ok (.iaload, 1) := by decide +kernel
theorem dL_law_560 : decode cL_law 560 = .ok (.invokevirtual 72, 3) := by decide +kernel
theorem dL_law_563 : decode cL_law 563 = .ok (.aload_n 2, 1) := by decide +kernel
theorem dL_law_564 : decode cL_law 564 = .ok (.aload_n 0, 1) := by decide +kernel
theorem dL_law_565 : decode cL_law 565 = .ok (.iload_n 3, 1) := by decide +kernel
theorem dL_law_566 : decode cL_law 566 = .ok (.iconst 1, 1) := by decide +kernel
theorem dL_law_567 : decode cL_law 567 = .ok (.iadd, 1) := by decide +kernel
theorem dL_law_568 : decode cL_law 568 = .ok (.iaload, 1) := by decide +kernel
theorem dL_law_569 : decode cL_law 569 = .ok (.aload_n 0, 1) := by decide +kernel
theorem dL_law_570 : decode cL_law 570 = .ok (.iload_n 3, 1) := by decide +kernel
theorem dL_law_571 : decode cL_law 571 = .ok (.iconst 2, 1) := by decide +kernel
theorem dL_law_572 : decode cL_law 572 = .ok (.iadd, 1) := by decide +kernel
theorem dL_law_573 : decode cL_law 573 = .ok (.iaload, 1) := by decide +kernel
theorem dL_law_574 : decode cL_law 574 = .ok (.aload_n 0, 1) := by decide +kernel
theorem dL_law_575 : decode cL_law 575 = .ok (.iload_n 3, 1) := by decide +kernel
theorem dL_law_576 : decode cL_law 576 = .ok (.iconst 3, 1) := by decide +kernel
theorem dL_law_577 : decode cL_law 577 = .ok (.iadd, 1) := by decide +kernel
theorem dL_law_578 : decode cL_law 578 = .ok (.iaload, 1) := by decide +kernel
theorem dL_law_579 : decode cL_law 579 = .ok (.aload_n 0, 1) := by decide +kernel
theorem dL_law_580 : decode cL_law 580 = .ok (.iload_n 3, 1) := by decide +kernel
theorem dL_law_581 : decode cL_law 581 = .ok (.iconst 4, 1) := by decide +kernel
theorem dL_law_582 : decode cL_law 582 = .ok (.iadd, 1) := by decide +kernel
theorem dL_law_583 : decode cL_law 583 = .ok (.iaload, 1) := by decide +kernel
theorem dL_law_584 : decode cL_law 584 = .ok (.invokevirtual 76, 3) := by decide +kernel
theorem dL_law_587 : decode cL_law 587 = .ok (.if_icmp .eq 127, 3) := by decide +kernel
theorem dL_law_590 : decode cL_law 590 = .ok (.iconst 0, 1) := by decide +kernel
theorem dL_law_591 : decode cL_law 591 = .ok (.ireturn, 1) := by decide +kernel
theorem dL_law_592 : decode cL_law 592 = .ok (.aload_n 1, 1) := by decide +kernel
theorem dL_law_593 : decode cL_law 593 = .ok (.aload_n 0, 1) := by decide +kernel
theorem dL_law_594 : decode cL_law 594 = .ok (.iload_n 3, 1) := by decide +kernel
theorem dL_law_595 : decode cL_law 595 = .ok (.iconst 1, 1) := by decide +kernel
theorem dL_law_596 : decode cL_law 596 = .ok (.iadd, 1) := by decide +kernel
theorem dL_law_597 : decode cL_law 597 = .ok (.iaload, 1) := by decide +kernel
theorem dL_law_598 : decode cL_law 598 = .ok (.aload_n 0, 1) := by decide +kernel
theorem dL_law_599 : decode cL_law 599 = .ok (.iload_n 3, 1) := by decide +kernel
theorem dL_law_600 : decode cL_law 600 = .ok (.iconst 2, 1) := by decide +kernel
theorem dL_law_601 : decode cL_law 601 = .ok (.iadd, 1) := by decide +kernel
theorem dL_law_602 : decode cL_law 602 = .ok (.iaload, 1) := by decide +kernel
theorem dL_law_603 : decode cL_law 603 = .ok (.invokevirtual 77, 3) := by decide +kernel
theorem dL_law_606 : decode cL_law 606 = .ok (.aload_n 2, 1) := by decide +kernel
theorem dL_law_607 : decode cL_law 607 = .ok (.aload_n 0, 1) := by decide +kernel
theorem dL_law_608 : decode cL_law 608 = .ok (.iload_n 3, 1) := by decide +kernel
theorem dL_law_609 : decode cL_law 609 = .ok (.iconst 1, 1) := by decide +kernel
theorem dL_law_610 : decode cL_law 610 = .ok (.iadd, 1) := by decide +kernel
theorem dL_law_611 : decode cL_law 611 = .ok (.iaload, 1) := by decide +kernel
theorem dL_law_612 : decode cL_law 612 = .ok (.aload_n 0, 1) := by decide +kernel
theorem dL_law_613 : decode cL_law 613 = .ok (.iload_n 3, 1) := by decide +kernel
theorem dL_law_614 : decode cL_law 614 = .ok (.iconst 2, 1) := by decide +kernel
theorem dL_law_615 : decode cL_law 615 = .ok (.iadd, 1) := by decide +kernel
theorem dL_law_616 : decode cL_law 616 = .ok (.iaload, 1) := by decide +kernel
theorem dL_law_617 : decode cL_law 617 = .ok (.invokevirtual 80, 3) := by decide +kernel
theorem dL_law_620 : decode cL_law 620 = .ok (.if_icmp .eq 94, 3) := by decide +kernel
theorem dL_law_623 : decode cL_law 623 = .ok (.iconst 0, 1) := by decide +kernel
theorem dL_law_624 : decode cL_law 624 = .ok (.ireturn, 1) := by decide +kernel
theorem dL_law_625 : decode cL_law 625 = .ok (.aload_n 1, 1) := by decide +kernel
theorem dL_law_626 : decode cL_law 626 = .ok (.aload_n 0, 1) := by decide +kernel
theorem dL_law_627 : decode cL_law 627 = .ok (.iload_n 3, 1) := by decide +kernel
theorem dL_law_628 : decode cL_law 628 = .ok (.iconst 1, 1) := by decide +kernel
theorem dL_law_629 : decode cL_law 629 = .ok (.iadd, 1) := by decide +kernel
theorem dL_law_630 : decode cL_law 630 = .ok (.iaload, 1) := by decide +kernel
theorem dL_law_631 : decode cL_law 631 = .ok (.aload_n 0, 1) := by decide +kernel
theorem dL_law_632 : decode cL_law 632 = .ok (.iload_n 3, 1) := by decide +kernel
theorem dL_law_633 : decode cL_law 633 = .ok (.iconst 2, 1) := by decide +kernel
theorem dL_law_634 : decode cL_law 634 = .ok (.iadd, 1) := by decide +kernel
theorem dL_law_635 : decode cL_law 635 = .ok (.iaload, 1) := by decide +kernel
theorem dL_law_636 : decode cL_law 636 = .ok (.invokevirtual 81, 3) := by decide +kernel
theorem dL_law_639 : decode cL_law 639 = .ok (.aload_n 2, 1) := by decide +kernel
theorem dL_law_640 : decode cL_law 640 = .ok (.aload_n 0, 1) := by decide +kernel
theorem dL_law_641 : decode cL_law 641 = .ok (.iload_n 3, 1) := by decide +kernel
theorem dL_law_642 : decode cL_law 642 = .ok (.iconst 1, 1) := by decide +kernel
theorem dL_law_643 : decode cL_law 643 = .ok (.iadd, 1) := by decide +kernel
theorem dL_law_644 : decode cL_law 644 = .ok (.iaload, 1) := by decide +kernel
theorem dL_law_645 : decode cL_law 645 = .ok (.aload_n 0, 1) := by decide +kernel
theorem dL_law_646 : decode cL_law 646 = .ok (.iload_n 3, 1) := by decide +kernel
theorem dL_law_647 : decode cL_law 647 = .ok (.iconst 2, 1) := by decide +kernel
theorem dL_law_648 : decode cL_law 648 = .ok (.iadd, 1) := by decide +kernel
theorem dL_law_649 : decode cL_law 649 = .ok (.iaload, 1) := by decide +kernel
theorem dL_law_650 : decode cL_law 650 = .ok (.invokevirtual 84, 3) := by decide +kernel
theorem dL_law_653 : decode cL_law 653 = .ok (.if_icmp .eq 61, 3) := by decide +kernel
theorem dL_law_656 : decode cL_law 656 = .ok (.iconst 0, 1) := by decide +kernel
theorem dL_law_657 : decode cL_law 657 = .ok (.ireturn, 1) := by decide +kernel
theorem dL_law_658 : decode cL_law 658 = .ok (.aload_n 1, 1) := by decide +kernel
theorem dL_law_659 : decode cL_law 659 = .ok (.aload_n 0, 1) := by decide +kernel
theorem dL_law_660 : decode cL_law 660 = .ok (.iload_n 3, 1) := by decide +kernel
theorem dL_law_661 : decode cL_law 661 = .ok (.iconst 1, 1) := by decide +kernel
theorem dL_law_662 : decode cL_law 662 = .ok (.iadd, 1) := by decide +kernel
theorem dL_law_663 : decode cL_law 663 = .ok (.iaload, 1) := by decide +kernel
theorem dL_law_664 : decode cL_law 664 = .ok (.aload_n 0, 1) := by decide +kernel
theorem dL_law_665 : decode cL_law 665 = .ok (.iload_n 3, 1) := by decide +kernel
theorem dL_law_666 : decode cL_law 666 = .ok (.iconst 2, 1) := by decide +kernel
theorem dL_law_667 : decode cL_law 667 = .ok (.iadd, 1) := by decide +kernel
theorem dL_law_668 : decode cL_law 668 = .ok (.iaload, 1) := by decide +kernel
theorem dL_law_669 : decode cL_law 669 = .ok (.invokevirtual 85, 3) := by decide +kernel
theorem dL_law_672 : decode cL_law 672 = .ok (.aload_n 2, 1) := by decide +kernel
theorem dL_law_673 : decode cL_law 673 = .ok (.aload_n 0, 1) := by decide +kernel
theorem dL_law_674 : decode cL_law 674 = .ok (.iload_n 3, 1) := by decide +kernel
theorem dL_law_675 : decode cL_law 675 = .ok (.iconst 1, 1) := by decide +kernel
theorem dL_law_676 : decode cL_law 676 = .ok (.iadd, 1) := by decide +kernel
theorem dL_law_677 : decode cL_law 677 = .ok (.iaload, 1) := by decide +kernel
theorem dL_law_678 : decode cL_law 678 = .ok (.aload_n 0, 1) := by decide +kernel
theorem dL_law_679 : decode cL_law 679 = .ok (.iload_n 3, 1) := by decide +kernel
theorem dL_law_680 : decode cL_law 680 = .ok (.iconst 2, 1) := by decide +kernel
theorem dL_law_681 : decode cL_law 681 = .ok (.iadd, 1) := by decide +kernel
theorem dL_law_682 : decode cL_law 682 = .ok (.iaload, 1) := by decide +kernel
theorem dL_law_683 : decode cL_law 683 = .ok (.invokevirtual 88, 3) := by decide +kernel
theorem dL_law_686 : decode cL_law 686 = .ok (.if_icmp .eq 28, 3) := by decide +kernel
theorem dL_law_689 : decode cL_law 689 = .ok (.iconst 0, 1) := by decide +kernel
theorem dL_law_690 : decode cL_law 690 = .ok (.ireturn, 1) := by decide +kernel
theorem dL_law_691 : decode cL_law 691 = .ok (.aload_n 1, 1) := by decide +kernel
theorem dL_law_692 : decode cL_law 692 = .ok (.aload_n 0, 1) := by decide +kernel
theorem dL_law_693 : decode cL_law 693 = .ok (.iload_n 3, 1) := by decide +kernel
theorem dL_law_694 : decode cL_law 694 = .ok (.iconst 1, 1) := by decide +kernel
theorem dL_law_695 : decode cL_law 695 = .ok (.iadd, 1) := by decide +kernel
theorem dL_law_696 : decode cL_law 696 = .ok (.iaload, 1) := by decide +kernel
theorem dL_law_697 : decode cL_law 697 = .ok (.invokevirtual 89, 3) := by decide +kernel
theorem dL_law_700 : decode cL_law 700 = .ok (.aload_n 2, 1) := by decide +kernel
theorem dL_law_701 : decode cL_law 701 = .ok (.aload_n 0, 1) := by decide +kernel
theorem dL_law_702 : decode cL_law 702 = .ok (.iload_n 3, 1) := by decide +kernel
theorem dL_law_703 : decode cL_law 703 = .ok (.iconst 1, 1) := by decide +kernel
theorem dL_law_704 : decode cL_law 704 = .ok (.iadd, 1) := by decide +kernel
theorem dL_law_705 : decode cL_law 705 = .ok (.iaload, 1) := by decide +kernel
theorem dL_law_706 : decode cL_law 706 = .ok (.invokevirtual 92, 3) := by decide +kernel
theorem dL_law_709 : decode cL_law 709 = .ok (.if_icmp .eq 5, 3) := by decide +kernel
theorem dL_law_712 : decode cL_law 712 = .ok (.iconst 0, 1) := by decide +kernel
theorem dL_law_713 : decode cL_law 713 = .ok (.ireturn, 1) := by decide +kernel
theorem dL_law_714 : decode cL_law 714 = .ok (.iinc 3 5, 3) := by decide +kernel
theorem dL_law_717 : decode cL_law 717 = .ok (.goto (-699), 3) := by decide +kernel
theorem dL_law_720 : decode cL_law 720 = .ok (.iconst 1, 1) := by decide +kernel
theorem dL_law_721 : decode cL_law 721 = .ok (.ireturn, 1) := by decide +kernel

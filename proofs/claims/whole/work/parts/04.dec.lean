theorem dX6_change_13 : decode cX6_change 13 = .ok (.iload_n 3, 1) := by decide +kernel
theorem dX6_change_14 : decode cX6_change 14 = .ok (.iload 4, 2) := by decide +kernel
theorem dX6_change_16 : decode cX6_change 16 = .ok (.invokestatic 55, 3) := by decide +kernel
theorem dX6_change_19 : decode cX6_change 19 = .ok (.ifCond .ne 5, 3) := by decide +kernel
theorem dX6_change_22 : decode cX6_change 22 = .ok (.iconst (-1), 1) := by decide +kernel
theorem dX6_change_23 : decode cX6_change 23 = .ok (.ireturn, 1) := by decide +kernel
theorem dX6_change_24 : decode cX6_change 24 = .ok (.aload 5, 2) := by decide +kernel
theorem dX6_change_26 : decode cX6_change 26 = .ok (.getfield 133, 3) := by decide +kernel
theorem dX6_change_29 : decode cX6_change 29 = .ok (.iconst 4, 1) := by decide +kernel
theorem dX6_change_30 : decode cX6_change 30 = .ok (.if_icmp .eq 30, 3) := by decide +kernel
theorem dX6_change_33 : decode cX6_change 33 = .ok (.aload 5, 2) := by decide +kernel
theorem dX6_change_35 : decode cX6_change 35 = .ok (.getfield 133, 3) := by decide +kernel
theorem dX6_change_38 : decode cX6_change 38 = .ok (.bipush 6, 2) := by decide +kernel
theorem dX6_change_40 : decode cX6_change 40 = .ok (.if_icmp .eq 20, 3) := by decide +kernel
theorem dX6_change_43 : decode cX6_change 43 = .ok (.aload 5, 2) := by decide +kernel
theorem dX6_change_45 : decode cX6_change 45 = .ok (.getfield 133, 3) := by decide +kernel
theorem dX6_change_48 : decode cX6_change 48 = .ok (.iconst 5, 1) := by decide +kernel
theorem dX6_change_49 : decode cX6_change 49 = .ok (.if_icmp .eq 11, 3) := by decide +kernel
theorem dX6_change_52 : decode cX6_change 52 = .ok (.aload 5, 2) := by decide +kernel
theorem dX6_change_54 : decode cX6_change 54 = .ok (.getfield 146, 3) := by decide +kernel
theorem dX6_change_57 : decode cX6_change 57 = .ok (.ifCond .eq 6, 3) := by decide +kernel
theorem dX6_change_60 : decode cX6_change 60 = .ok (.bipush (-2), 2) := by decide +kernel
theorem dX6_change_62 : decode cX6_change 62 = .ok (.ireturn, 1) := by decide +kernel
theorem dX6_change_63 : decode cX6_change 63 = .ok (.aload 5, 2) := by decide +kernel
theorem dX6_change_65 : decode cX6_change 65 = .ok (.getfield 108, 3) := by decide +kernel
theorem dX6_change_68 : decode cX6_change 68 = .ok (.iload_n 2, 1) := by decide +kernel
theorem dX6_change_69 : decode cX6_change 69 = .ok (.if_icmp .ne 24, 3) := by decide +kernel
theorem dX6_change_72 : decode cX6_change 72 = .ok (.aload 5, 2) := by decide +kernel
theorem dX6_change_74 : decode cX6_change 74 = .ok (.getfield 230, 3) := by decide +kernel
theorem dX6_change_77 : decode cX6_change 77 = .ok (.iload_n 3, 1) := by decide +kernel
theorem dX6_change_78 : decode cX6_change 78 = .ok (.if_icmp .ne 15, 3) := by decide +kernel
theorem dX6_change_81 : decode cX6_change 81 = .ok (.aload 5, 2) := by decide +kernel
theorem dX6_change_83 : decode cX6_change 83 = .ok (.getfield 204, 3) := by decide +kernel
theorem dX6_change_86 : decode cX6_change 86 = .ok (.iload 4, 2) := by decide +kernel
theorem dX6_change_88 : decode cX6_change 88 = .ok (.if_icmp .ne 5, 3) := by decide +kernel
theorem dX6_change_91 : decode cX6_change 91 = .ok (.iconst 2, 1) := by decide +kernel
theorem dX6_change_92 : decode cX6_change 92 = .ok (.ireturn, 1) := by decide +kernel
theorem dX6_change_93 : decode cX6_change 93 = .ok (.aload 5, 2) := by decide +kernel
theorem dX6_change_95 : decode cX6_change 95 = .ok (.getfield 133, 3) := by decide +kernel
theorem dX6_change_98 : decode cX6_change 98 = .ok (.ifCond .ne 14, 3) := by decide +kernel
theorem dX6_change_101 : decode cX6_change 101 = .ok (.aload 5, 2) := by decide +kernel
theorem dX6_change_103 : decode cX6_change 103 = .ok (.iload_n 2, 1) := by decide +kernel
theorem dX6_change_104 : decode cX6_change 104 = .ok (.iload_n 3, 1) := by decide +kernel
theorem dX6_change_105 : decode cX6_change 105 = .ok (.iload 4, 2) := by decide +kernel
theorem dX6_change_107 : decode cX6_change 107 = .ok (.invokevirtual 233, 3) := by decide +kernel
theorem dX6_change_110 : decode cX6_change 110 = .ok (.iconst 0, 1) := by decide +kernel
theorem dX6_change_111 : decode cX6_change 111 = .ok (.ireturn, 1) := by decide +kernel
theorem dX6_change_112 : decode cX6_change 112 = .ok (.aload 5, 2) := by decide +kernel
theorem dX6_change_114 : decode cX6_change 114 = .ok (.getfield 230, 3) := by decide +kernel
theorem dX6_change_117 : decode cX6_change 117 = .ok (.iload_n 3, 1) := by decide +kernel
theorem dX6_change_118 : decode cX6_change 118 = .ok (.if_icmp .ne 45, 3) := by decide +kernel
theorem dX6_change_121 : decode cX6_change 121 = .ok (.iload_n 2, 1) := by decide +kernel
theorem dX6_change_122 : decode cX6_change 122 = .ok (.aload 5, 2) := by decide +kernel
theorem dX6_change_124 : decode cX6_change 124 = .ok (.getfield 108, 3) := by decide +kernel
theorem dX6_change_127 : decode cX6_change 127 = .ok (.if_icmp .ge 36, 3) := by decide +kernel
theorem dX6_change_130 : decode cX6_change 130 = .ok (.iload 4, 2) := by decide +kernel
theorem dX6_change_132 : decode cX6_change 132 = .ok (.aload 5, 2) := by decide +kernel
theorem dX6_change_134 : decode cX6_change 134 = .ok (.getfield 204, 3) := by decide +kernel
theorem dX6_change_137 : decode cX6_change 137 = .ok (.if_icmp .gt 26, 3) := by decide +kernel
theorem dX6_change_140 : decode cX6_change 140 = .ok (.aload 5, 2) := by decide +kernel
theorem dX6_change_142 : decode cX6_change 142 = .ok (.getfield 133, 3) := by decide +kernel
theorem dX6_change_145 : decode cX6_change 145 = .ok (.iconst 2, 1) := by decide +kernel
theorem dX6_change_146 : decode cX6_change 146 = .ok (.if_icmp .eq 6, 3) := by decide +kernel
theorem dX6_change_149 : decode cX6_change 149 = .ok (.bipush (-2), 2) := by decide +kernel
theorem dX6_change_151 : decode cX6_change 151 = .ok (.ireturn, 1) := by decide +kernel
theorem dX6_change_152 : decode cX6_change 152 = .ok (.aload 5, 2) := by decide +kernel
theorem dX6_change_154 : decode cX6_change 154 = .ok (.iload_n 2, 1) := by decide +kernel
theorem dX6_change_155 : decode cX6_change 155 = .ok (.iload_n 3, 1) := by decide +kernel
theorem dX6_change_156 : decode cX6_change 156 = .ok (.iload 4, 2) := by decide +kernel
theorem dX6_change_158 : decode cX6_change 158 = .ok (.invokevirtual 233, 3) := by decide +kernel
theorem dX6_change_161 : decode cX6_change 161 = .ok (.iconst 1, 1) := by decide +kernel
theorem dX6_change_162 : decode cX6_change 162 = .ok (.ireturn, 1) := by decide +kernel
theorem dX6_change_163 : decode cX6_change 163 = .ok (.aload_n 0, 1) := by decide +kernel
theorem dX6_change_164 : decode cX6_change 164 = .ok (.getfield 59, 3) := by decide +kernel
theorem dX6_change_167 : decode cX6_change 167 = .ok (.bipush 40, 2) := by decide +kernel
theorem dX6_change_169 : decode cX6_change 169 = .ok (.if_icmp .lt 6, 3) := by decide +kernel
theorem dX6_change_172 : decode cX6_change 172 = .ok (.bipush (-3), 2) := by decide +kernel
theorem dX6_change_174 : decode cX6_change 174 = .ok (.ireturn, 1) := by decide +kernel
theorem dX6_change_175 : decode cX6_change 175 = .ok (.aload_n 0, 1) := by decide +kernel
theorem dX6_change_176 : decode cX6_change 176 = .ok (.iload_n 2, 1) := by decide +kernel
theorem dX6_change_177 : decode cX6_change 177 = .ok (.iload_n 3, 1) := by decide +kernel
theorem dX6_change_178 : decode cX6_change 178 = .ok (.iload 4, 2) := by decide +kernel
theorem dX6_change_180 : decode cX6_change 180 = .ok (.aload 5, 2) := by decide +kernel
theorem dX6_change_182 : decode cX6_change 182 = .ok (.getfield 70, 3) := by decide +kernel
theorem dX6_change_185 : decode cX6_change 185 = .ok (.invokevirtual 62, 3) := by decide +kernel
theorem dX6_change_188 : decode cX6_change 188 = .ok (.istore 6, 2) := by decide +kernel
theorem dX6_change_190 : decode cX6_change 190 = .ok (.aload_n 0, 1) := by decide +kernel
theorem dX6_change_191 : decode cX6_change 191 = .ok (.aload 5, 2) := by decide +kernel
theorem dX6_change_193 : decode cX6_change 193 = .ok (.invokevirtual 236, 3) := by decide +kernel
theorem dX6_change_196 : decode cX6_change 196 = .ok (.bipush 100, 2) := by decide +kernel
theorem dX6_change_198 : decode cX6_change 198 = .ok (.iload 6, 2) := by decide +kernel
theorem dX6_change_200 : decode cX6_change 200 = .ok (.iadd, 1) := by decide +kernel
theorem dX6_change_201 : decode cX6_change 201 = .ok (.ireturn, 1) := by decide +kernel
theorem dX6_told_0 : decode cX6_told 0 = .ok (.aload_n 0, 1) := by decide +kernel
theorem dX6_told_1 : decode cX6_told 1 = .ok (.iload_n 1, 1) := by decide +kernel
theorem dX6_told_2 : decode cX6_told 2 = .ok (.invokevirtual 66, 3) := by decide +kernel
theorem dX6_told_5 : decode cX6_told 5 = .ok (.astore_n 3, 1) := by decide +kernel
theorem dX6_told_6 : decode cX6_told 6 = .ok (.aload_n 3, 1) := by decide +kernel
theorem dX6_told_7 : decode cX6_told 7 = .ok (.ifnonnull 5, 3) := by decide +kernel
theorem dX6_told_10 : decode cX6_told 10 = .ok (.iconst (-1), 1) := by decide +kernel
theorem dX6_told_11 : decode cX6_told 11 = .ok (.ireturn, 1) := by decide +kernel
theorem dX6_told_12 : decode cX6_told 12 = .ok (.iload_n 2, 1) := by decide +kernel
theorem dX6_told_13 : decode cX6_told 13 = .ok (.tableswitch 95 0 7 #[47, 52, 57, 62, 67, 72, 77, 82], 47) := by decide +kernel
theorem dX6_told_60 : decode cX6_told 60 = .ok (.aload_n 3, 1) := by decide +kernel
theorem dX6_told_61 : decode cX6_told 61 = .ok (.getfield 108, 3) := by decide +kernel
theorem dX6_told_64 : decode cX6_told 64 = .ok (.ireturn, 1) := by decide +kernel
theorem dX6_told_65 : decode cX6_told 65 = .ok (.aload_n 3, 1) := by decide +kernel
theorem dX6_told_66 : decode cX6_told 66 = .ok (.getfield 230, 3) := by decide +kernel
theorem dX6_told_69 : decode cX6_told 69 = .ok (.ireturn, 1) := by decide +kernel
theorem dX6_told_70 : decode cX6_told 70 = .ok (.aload_n 3, 1) := by decide +kernel
theorem dX6_told_71 : decode cX6_told 71 = .ok (.getfield 204, 3) := by decide +kernel
theorem dX6_told_74 : decode cX6_told 74 = .ok (.ireturn, 1) := by decide +kernel
theorem dX6_told_75 : decode cX6_told 75 = .ok (.aload_n 3, 1) := by decide +kernel
theorem dX6_told_76 : decode cX6_told 76 = .ok (.getfield 70, 3) := by decide +kernel
theorem dX6_told_79 : decode cX6_told 79 = .ok (.ireturn, 1) := by decide +kernel
theorem dX6_told_80 : decode cX6_told 80 = .ok (.aload_n 3, 1) := by decide +kernel
theorem dX6_told_81 : decode cX6_told 81 = .ok (.getfield 133, 3) := by decide +kernel
theorem dX6_told_84 : decode cX6_told 84 = .ok (.ireturn, 1) := by decide +kernel
theorem dX6_told_85 : decode cX6_told 85 = .ok (.aload_n 3, 1) := by decide +kernel
theorem dX6_told_86 : decode cX6_told 86 = .ok (.getfield 136, 3) := by decide +kernel
theorem dX6_told_89 : decode cX6_told 89 = .ok (.ireturn, 1) := by decide +kernel
theorem dX6_told_90 : decode cX6_told 90 = .ok (.aload_n 3, 1) := by decide +kernel
theorem dX6_told_91 : decode cX6_told 91 = .ok (.getfield 143, 3) := by decide +kernel
theorem dX6_told_94 : decode cX6_told 94 = .ok (.ireturn, 1) := by decide +kernel
theorem dX6_told_95 : decode cX6_told 95 = .ok (.aload_n 3, 1) := by decide +kernel
theorem dX6_told_96 : decode cX6_told 96 = .ok (.getfield 146, 3) := by decide +kernel
theorem dX6_told_99 : decode cX6_told 99 = .ok (.ifCond .eq 7, 3) := by decide +kernel
theorem dX6_told_102 : decode cX6_told 102 = .ok (.iconst 1, 1) := by decide +kernel
theorem dX6_told_103 : decode cX6_told 103 = .ok (.goto 4, 3) := by decide +kernel
theorem dX6_told_106 : decode cX6_told 106 = .ok (.iconst 0, 1) := by decide +kernel
theorem dX6_told_107 : decode cX6_told 107 = .ok (.ireturn, 1) := by decide +kernel
theorem dX6_told_108 : decode cX6_told 108 = .ok (.iconst (-1), 1) := by decide +kernel
theorem dX6_told_109 : decode cX6_told 109 = .ok (.ireturn, 1) := by decide +kernel
theorem dX6_at_0 : decode cX6_at 0 = .ok (.aload_n 0, 1) := by decide +kernel
theorem dX6_at_1 : decode cX6_at 1 = .ok (.iload_n 1, 1) := by decide +kernel
theorem dX6_at_2 : decode cX6_at 2 = .ok (.invokevirtual 156, 3) := by decide +kernel
theorem dX6_at_5 : decode cX6_at 5 = .ok (.astore_n 3, 1) := by decide +kernel
theorem dX6_at_6 : decode cX6_at 6 = .ok (.aload_n 3, 1) := by decide +kernel
theorem dX6_at_7 : decode cX6_at 7 = .ok (.ifnull 7, 3) := by decide +kernel
theorem dX6_at_10 : decode cX6_at 10 = .ok (.iload_n 2, 1) := by decide +kernel
theorem dX6_at_11 : decode cX6_at 11 = .ok (.ifCond .ge 7, 3) := by decide +kernel
theorem dX6_at_14 : decode cX6_at 14 = .ok (.iconst (-1), 1) := by decide +kernel
theorem dX6_at_15 : decode cX6_at 15 = .ok (.goto 8, 3) := by decide +kernel
theorem dX6_at_18 : decode cX6_at 18 = .ok (.aload_n 3, 1) := by decide +kernel
theorem dX6_at_19 : decode cX6_at 19 = .ok (.iload_n 2, 1) := by decide +kernel
theorem dX6_at_20 : decode cX6_at 20 = .ok (.invokevirtual 240, 3) := by decide +kernel
theorem dX6_at_23 : decode cX6_at 23 = .ok (.ireturn, 1) := by decide +kernel
theorem dX6_bed_0 : decode cX6_bed 0 = .ok (.aload_n 0, 1) := by decide +kernel
theorem dX6_bed_1 : decode cX6_bed 1 = .ok (.iload_n 1, 1) := by decide +kernel
theorem dX6_bed_2 : decode cX6_bed 2 = .ok (.invokevirtual 88, 3) := by decide +kernel
theorem dX6_bed_5 : decode cX6_bed 5 = .ok (.astore_n 3, 1) := by decide +kernel
theorem dX6_bed_6 : decode cX6_bed 6 = .ok (.aload_n 3, 1) := by decide +kernel
theorem dX6_bed_7 : decode cX6_bed 7 = .ok (.ifnonnull 5, 3) := by decide +kernel
theorem dX6_bed_10 : decode cX6_bed 10 = .ok (.iconst (-1), 1) := by decide +kernel
theorem dX6_bed_11 : decode cX6_bed 11 = .ok (.ireturn, 1) := by decide +kernel
theorem dX6_bed_12 : decode cX6_bed 12 = .ok (.iload_n 2, 1) := by decide +kernel
theorem dX6_bed_13 : decode cX6_bed 13 = .ok (.tableswitch 67 0 3 #[31, 36, 41, 46], 31) := by decide +kernel
theorem dX6_bed_44 : decode cX6_bed 44 = .ok (.aload_n 3, 1) := by decide +kernel
theorem dX6_bed_45 : decode cX6_bed 45 = .ok (.getfield 96, 3) := by decide +kernel
theorem dX6_bed_48 : decode cX6_bed 48 = .ok (.ireturn, 1) := by decide +kernel
theorem dX6_bed_49 : decode cX6_bed 49 = .ok (.aload_n 3, 1) := by decide +kernel
theorem dX6_bed_50 : decode cX6_bed 50 = .ok (.getfield 243, 3) := by decide +kernel
theorem dX6_bed_53 : decode cX6_bed 53 = .ok (.ireturn, 1) := by decide +kernel
theorem dX6_bed_54 : decode cX6_bed 54 = .ok (.aload_n 3, 1) := by decide +kernel
theorem dX6_bed_55 : decode cX6_bed 55 = .ok (.getfield 127, 3) := by decide +kernel
theorem dX6_bed_58 : decode cX6_bed 58 = .ok (.ireturn, 1) := by decide +kernel
theorem dX6_bed_59 : decode cX6_bed 59 = .ok (.aload_n 3, 1) := by decide +kernel
theorem dX6_bed_60 : decode cX6_bed 60 = .ok (.getfield 96, 3) := by decide +kernel
theorem dX6_bed_63 : decode cX6_bed 63 = .ok (.ifCond .ne 7, 3) := by decide +kernel
theorem dX6_bed_66 : decode cX6_bed 66 = .ok (.iconst 0, 1) := by decide +kernel
theorem dX6_bed_67 : decode cX6_bed 67 = .ok (.goto 12, 3) := by decide +kernel
theorem dX6_bed_70 : decode cX6_bed 70 = .ok (.aload_n 0, 1) := by decide +kernel
theorem dX6_bed_71 : decode cX6_bed 71 = .ok (.getfield 111, 3) := by decide +kernel
theorem dX6_bed_74 : decode cX6_bed 74 = .ok (.aload_n 3, 1) := by decide +kernel
theorem dX6_bed_75 : decode cX6_bed 75 = .ok (.getfield 130, 3) := by decide +kernel
theorem dX6_bed_78 : decode cX6_bed 78 = .ok (.isub, 1) := by decide +kernel
theorem dX6_bed_79 : decode cX6_bed 79 = .ok (.ireturn, 1) := by decide +kernel
theorem dX6_bed_80 : decode cX6_bed 80 = .ok (.iconst (-1), 1) := by decide +kernel
theorem dX6_bed_81 : decode cX6_bed 81 = .ok (.ireturn, 1) := by decide +kernel
theorem dX6_count_0 : decode cX6_count 0 = .ok (.iload_n 1, 1) := by decide +kernel
theorem dX6_count_1 : decode cX6_count 1 = .ok (.tableswitch 51 0 3 #[31, 36, 41, 46], 31) := by decide +kernel
theorem dX6_count_32 : decode cX6_count 32 = .ok (.aload_n 0, 1) := by decide +kernel
theorem dX6_count_33 : decode cX6_count 33 = .ok (.getfield 59, 3) := by decide +kernel
theorem dX6_count_36 : decode cX6_count 36 = .ok (.ireturn, 1) := by decide +kernel
theorem dX6_count_37 : decode cX6_count 37 = .ok (.aload_n 0, 1) := by decide +kernel
theorem dX6_count_38 : decode cX6_count 38 = .ok (.getfield 111, 3) := by decide +kernel
theorem dX6_count_41 : decode cX6_count 41 = .ok (.ireturn, 1) := by decide +kernel
theorem dX6_count_42 : decode cX6_count 42 = .ok (.aload_n 0, 1) := by decide +kernel
theorem dX6_count_43 : decode cX6_count 43 = .ok (.getfield 216, 3) := by decide +kernel
theorem dX6_count_46 : decode cX6_count 46 = .ok (.ireturn, 1) := by decide +kernel
theorem dX6_count_47 : decode cX6_count 47 = .ok (.aload_n 0, 1) := by decide +kernel
theorem dX6_count_48 : decode cX6_count 48 = .ok (.getfield 117, 3) := by decide +kernel
theorem dX6_count_51 : decode cX6_count 51 = .ok (.ireturn, 1) := by decide +kernel
theorem dX6_count_52 : decode cX6_count 52 = .ok (.iload_n 1, 1) := by decide +kernel
theorem dX6_count_53 : decode cX6_count 53 = .ok (.iconst 4, 1) := by decide +kernel
theorem dX6_count_54 : decode cX6_count 54 = .ok (.if_icmp .lt 19, 3) := by decide +kernel
theorem dX6_count_57 : decode cX6_count 57 = .ok (.iload_n 1, 1) := by decide +kernel
theorem dX6_count_58 : decode cX6_count 58 = .ok (.bipush 10, 2) := by decide +kernel
theorem dX6_count_60 : decode cX6_count 60 = .ok (.if_icmp .gt 13, 3) := by decide +kernel
theorem dX6_count_63 : decode cX6_count 63 = .ok (.aload_n 0, 1) := by decide +kernel
theorem dX6_count_64 : decode cX6_count 64 = .ok (.iload_n 1, 1) := by decide +kernel
theorem dX6_count_65 : decode cX6_count 65 = .ok (.iconst 4, 1) := by decide +kernel
theorem dX6_count_66 : decode cX6_count 66 = .ok (.isub, 1) := by decide +kernel
theorem dX6_count_67 : decode cX6_count 67 = .ok (.invokevirtual 190, 3) := by decide +kernel
theorem dX6_count_70 : decode cX6_count 70 = .ok (.goto 4, 3) := by decide +kernel
theorem dX6_count_73 : decode cX6_count 73 = .ok (.iconst (-1), 1) := by decide +kernel
theorem dX6_count_74 : decode cX6_count 74 = .ok (.ireturn, 1) := by decide +kernel
theorem dX6_partOf_0 : decode cX6_partOf 0 = .ok (.iload_n 1, 1) := by decide +kernel
theorem dX6_partOf_1 : decode cX6_partOf 1 = .ok (.ifCond .lt 20, 3) := by decide +kernel
theorem dX6_partOf_4 : decode cX6_partOf 4 = .ok (.iload_n 1, 1) := by decide +kernel
theorem dX6_partOf_5 : decode cX6_partOf 5 = .ok (.aload_n 0, 1) := by decide +kernel
theorem dX6_partOf_6 : decode cX6_partOf 6 = .ok (.getfield 59, 3) := by decide +kernel
theorem dX6_partOf_9 : decode cX6_partOf 9 = .ok (.if_icmp .ge 12, 3) := by decide +kernel
theorem dX6_partOf_12 : decode cX6_partOf 12 = .ok (.iload_n 1, 1) := by decide +kernel
theorem dX6_partOf_13 : decode cX6_partOf 13 = .ok (.aload_n 0, 1) := by decide +kernel
theorem dX6_partOf_14 : decode cX6_partOf 14 = .ok (.getfield 11, 3) := by decide +kernel
theorem dX6_partOf_17 : decode cX6_partOf 17 = .ok (.arraylength, 1) := by decide +kernel
theorem dX6_partOf_18 : decode cX6_partOf 18 = .ok (.if_icmp .lt 7, 3) := by decide +kernel
theorem dX6_partOf_21 : decode cX6_partOf 21 = .ok (.aconst_null, 1) := by decide +kernel
theorem dX6_partOf_22 : decode cX6_partOf 22 = .ok (.goto 9, 3) := by decide +kernel
theorem dX6_partOf_25 : decode cX6_partOf 25 = .ok (.aload_n 0, 1) := by decide +kernel
theorem dX6_partOf_26 : decode cX6_partOf 26 = .ok (.getfield 11, 3) := by decide +kernel
theorem dX6_partOf_29 : decode cX6_partOf 29 = .ok (.iload_n 1, 1) := by decide +kernel
theorem dX6_partOf_30 : decode cX6_partOf 30 = .ok (.aaload, 1) := by decide +kernel
theorem dX6_partOf_31 : decode cX6_partOf 31 = .ok (.areturn, 1) := by decide +kernel
theorem dX6_bedOf_0 : decode cX6_bedOf 0 = .ok (.iload_n 1, 1) := by decide +kernel
theorem dX6_bedOf_1 : decode cX6_bedOf 1 = .ok (.ifCond .lt 12, 3) := by decide +kernel
theorem dX6_bedOf_4 : decode cX6_bedOf 4 = .ok (.iload_n 1, 1) := by decide +kernel
theorem dX6_bedOf_5 : decode cX6_bedOf 5 = .ok (.aload_n 0, 1) := by decide +kernel
theorem dX6_bedOf_6 : decode cX6_bedOf 6 = .ok (.getfield 17, 3) := by decide +kernel
theorem dX6_bedOf_9 : decode cX6_bedOf 9 = .ok (.arraylength, 1) := by decide +kernel
theorem dX6_bedOf_10 : decode cX6_bedOf 10 = .ok (.if_icmp .lt 7, 3) := by decide +kernel
theorem dX6_bedOf_13 : decode cX6_bedOf 13 = .ok (.aconst_null, 1) := by decide +kernel
theorem dX6_bedOf_14 : decode cX6_bedOf 14 = .ok (.goto 9, 3) := by decide +kernel
theorem dX6_bedOf_17 : decode cX6_bedOf 17 = .ok (.aload_n 0, 1) := by decide +kernel
theorem dX6_bedOf_18 : decode cX6_bedOf 18 = .ok (.getfield 17, 3) := by decide +kernel
theorem dX6_bedOf_21 : decode cX6_bedOf 21 = .ok (.iload_n 1, 1) := by decide +kernel
theorem dX6_bedOf_22 : decode cX6_bedOf 22 = .ok (.aaload, 1) := by decide +kernel
theorem dX6_bedOf_23 : decode cX6_bedOf 23 = .ok (.areturn, 1) := by decide +kernel
theorem dX6_stackOf_0 : decode cX6_stackOf 0 = .ok (.iload_n 1, 1) := by decide +kernel
theorem dX6_stackOf_1 : decode cX6_stackOf 1 = .ok (.ifCond .lt 12, 3) := by decide +kernel
theorem dX6_stackOf_4 : decode cX6_stackOf 4 = .ok (.iload_n 1, 1) := by decide +kernel
theorem dX6_stackOf_5 : decode cX6_stackOf 5 = .ok (.aload_n 0, 1) := by decide +kernel
theorem dX6_stackOf_6 : decode cX6_stackOf 6 = .ok (.getfield 23, 3) := by decide +kernel
theorem dX6_stackOf_9 : decode cX6_stackOf 9 = .ok (.arraylength, 1) := by decide +kernel
theorem dX6_stackOf_10 : decode cX6_stackOf 10 = .ok (.if_icmp .lt 7, 3) := by decide +kernel
theorem dX6_stackOf_13 : decode cX6_stackOf 13 = .ok (.aconst_null, 1) := by decide +kernel
theorem dX6_stackOf_14 : decode cX6_stackOf 14 = .ok (.goto 9, 3) := by decide +kernel
theorem dX6_stackOf_17 : decode cX6_stackOf 17 = .ok (.aload_n 0, 1) := by decide +kernel
theorem dX6_stackOf_18 : decode cX6_stackOf 18 = .ok (.getfield 23, 3) := by decide +kernel
theorem dX6_stackOf_21 : decode cX6_stackOf 21 = .ok (.iload_n 1, 1) := by decide +kernel
theorem dX6_stackOf_22 : decode cX6_stackOf 22 = .ok (.aaload, 1) := by decide +kernel
theorem dX6_stackOf_23 : decode cX6_stackOf 23 = .ok (.areturn, 1) := by decide +kernel
theorem dX6_areMeasures_0 : decode cX6_areMeasures 0 = .ok (.iload_n 0, 1) := by decide +kernel
theorem dX6_areMeasures_1 : decode cX6_areMeasures 1 = .ok (.iconst 1, 1) := by decide +kernel
theorem dX6_areMeasures_2 : decode cX6_areMeasures 2 = .ok (.if_icmp .lt 35, 3) := by decide +kernel
theorem dX6_areMeasures_5 : decode cX6_areMeasures 5 = .ok (.iload_n 0, 1) := by decide +kernel
theorem dX6_areMeasures_6 : decode cX6_areMeasures 6 = .ok (.sipush 200, 3) := by decide +kernel
theorem dX6_areMeasures_9 : decode cX6_areMeasures 9 = .ok (.if_icmp .gt 28, 3) := by decide +kernel
theorem dX6_areMeasures_12 : decode cX6_areMeasures 12 = .ok (.iload_n 1, 1) := by decide +kernel
theorem dX6_areMeasures_13 : decode cX6_areMeasures 13 = .ok (.ifCond .lt 24, 3) := by decide +kernel
theorem dX6_areMeasures_16 : decode cX6_areMeasures 16 = .ok (.iload_n 1, 1) := by decide +kernel
theorem dX6_areMeasures_17 : decode cX6_areMeasures 17 = .ok (.bipush 8, 2) := by decide +kernel
theorem dX6_areMeasures_19 : decode cX6_areMeasures 19 = .ok (.if_icmp .ge 18, 3) := by decide +kernel
theorem dX6_areMeasures_22 : decode cX6_areMeasures 22 = .ok (.iload_n 2, 1) := by decide +kernel
theorem dX6_areMeasures_23 : decode cX6_areMeasures 23 = .ok (.iconst 1, 1) := by decide +kernel
theorem dX6_areMeasures_24 : decode cX6_areMeasures 24 = .ok (.if_icmp .lt 13, 3) := by decide +kernel
theorem dX6_areMeasures_27 : decode cX6_areMeasures 27 = .ok (.iload_n 2, 1) := by decide +kernel
theorem dX6_areMeasures_28 : decode cX6_areMeasures 28 = .ok (.bipush 100, 2) := by decide +kernel
theorem dX6_areMeasures_30 : decode cX6_areMeasures 30 = .ok (.if_icmp .gt 7, 3) := by decide +kernel
theorem dX6_areMeasures_33 : decode cX6_areMeasures 33 = .ok (.iconst 1, 1) := by decide +kernel
theorem dX6_areMeasures_34 : decode cX6_areMeasures 34 = .ok (.goto 4, 3) := by decide +kernel
theorem dX6_areMeasures_37 : decode cX6_areMeasures 37 = .ok (.iconst 0, 1) := by decide +kernel
theorem dX6_areMeasures_38 : decode cX6_areMeasures 38 = .ok (.ireturn, 1) := by decide +kernel
theorem dX6_hasBit_0 : decode cX6_hasBit 0 = .ok (.iload_n 0, 1) := by decide +kernel
theorem dX6_hasBit_1 : decode cX6_hasBit 1 = .ok (.iload_n 1, 1) := by decide +kernel
theorem dX6_hasBit_2 : decode cX6_hasBit 2 = .ok (.iushr, 1) := by decide +kernel
theorem dX6_hasBit_3 : decode cX6_hasBit 3 = .ok (.iconst 1, 1) := by decide +kernel
theorem dX6_hasBit_4 : decode cX6_hasBit 4 = .ok (.iand, 1) := by decide +kernel
theorem dX6_hasBit_5 : decode cX6_hasBit 5 = .ok (.ifCond .eq 7, 3) := by decide +kernel
theorem dX6_hasBit_8 : decode cX6_hasBit 8 = .ok (.iconst 1, 1) := by decide +kernel
theorem dX6_hasBit_9 : decode cX6_hasBit 9 = .ok (.goto 4, 3) := by decide +kernel
theorem dX6_hasBit_12 : decode cX6_hasBit 12 = .ok (.iconst 0, 1) := by decide +kernel
theorem dX6_hasBit_13 : decode cX6_hasBit 13 = .ok (.ireturn, 1) := by decide +kernel
theorem dX6_ordered_0 : decode cX6_ordered 0 = .ok (.lload_n 0, 1) := by decide +kernel
theorem dX6_ordered_1 : decode cX6_ordered 1 = .ok (.iload_n 2, 1) := by decide +kernel
theorem dX6_ordered_2 : decode cX6_ordered 2 = .ok (.bipush 6, 2) := by decide +kernel
theorem dX6_ordered_4 : decode cX6_ordered 4 = .ok (.imul, 1) := by decide +kernel
theorem dX6_ordered_5 : decode cX6_ordered 5 = .ok (.lushr, 1) := by decide +kernel
theorem dX6_ordered_6 : decode cX6_ordered 6 = .ok (.l2i, 1) := by decide +kernel
theorem dX6_ordered_7 : decode cX6_ordered 7 = .ok (.bipush 63, 2) := by decide +kernel
theorem dX6_ordered_9 : decode cX6_ordered 9 = .ok (.iand, 1) := by decide +kernel
theorem dX6_ordered_10 : decode cX6_ordered 10 = .ok (.ireturn, 1) := by decide +kernel
theorem dX6_isDrawn_0 : decode cX6_isDrawn 0 = .ok (.aload_n 0, 1) := by decide +kernel
theorem dX6_isDrawn_1 : decode cX6_isDrawn 1 = .ok (.ifnull 14, 3) := by decide +kernel
theorem dX6_isDrawn_4 : decode cX6_isDrawn 4 = .ok (.aload_n 0, 1) := by decide +kernel
theorem dX6_isDrawn_5 : decode cX6_isDrawn 5 = .ok (.getfield 133, 3) := by decide +kernel
theorem dX6_isDrawn_8 : decode cX6_isDrawn 8 = .ok (.ifCond .ne 7, 3) := by decide +kernel
theorem dX6_isDrawn_11 : decode cX6_isDrawn 11 = .ok (.iconst 1, 1) := by decide +kernel
theorem dX6_isDrawn_12 : decode cX6_isDrawn 12 = .ok (.goto 4, 3) := by decide +kernel
theorem dX6_isDrawn_15 : decode cX6_isDrawn 15 = .ok (.iconst 0, 1) := by decide +kernel
theorem dX6_isDrawn_16 : decode cX6_isDrawn 16 = .ok (.ireturn, 1) := by decide +kernel
theorem dX6_camberOf_0 : decode cX6_camberOf 0 = .ok (.iload_n 1, 1) := by decide +kernel
theorem dX6_camberOf_1 : decode cX6_camberOf 1 = .ok (.sipush 1000, 3) := by decide +kernel
theorem dX6_camberOf_4 : decode cX6_camberOf 4 = .ok (.iadd, 1) := by decide +kernel
theorem dX6_camberOf_5 : decode cX6_camberOf 5 = .ok (.istore_n 2, 1) := by decide +kernel
theorem dX6_camberOf_6 : decode cX6_camberOf 6 = .ok (.iload_n 2, 1) := by decide +kernel
theorem dX6_camberOf_7 : decode cX6_camberOf 7 = .ok (.ifCond .gt 7, 3) := by decide +kernel
theorem dX6_camberOf_10 : decode cX6_camberOf 10 = .ok (.iconst 0, 1) := by decide +kernel
theorem dX6_camberOf_11 : decode cX6_camberOf 11 = .ok (.goto 21, 3) := by decide +kernel
theorem dX6_camberOf_14 : decode cX6_camberOf 14 = .ok (.aload_n 0, 1) := by decide +kernel
theorem dX6_camberOf_15 : decode cX6_camberOf 15 = .ok (.getfield 108, 3) := by decide +kernel
theorem dX6_camberOf_18 : decode cX6_camberOf 18 = .ok (.aload_n 0, 1) := by decide +kernel
theorem dX6_camberOf_19 : decode cX6_camberOf 19 = .ok (.getfield 108, 3) := by decide +kernel
theorem dX6_camberOf_22 : decode cX6_camberOf 22 = .ok (.imul, 1) := by decide +kernel
theorem dX6_camberOf_23 : decode cX6_camberOf 23 = .ok (.aload_n 0, 1) := by decide +kernel
theorem dX6_camberOf_24 : decode cX6_camberOf 24 = .ok (.getfield 230, 3) := by decide +kernel
theorem dX6_camberOf_27 : decode cX6_camberOf 27 = .ok (.iconst 1, 1) := by decide +kernel
theorem dX6_camberOf_28 : decode cX6_camberOf 28 = .ok (.iadd, 1) := by decide +kernel
theorem dX6_camberOf_29 : decode cX6_camberOf 29 = .ok (.imul, 1) := by decide +kernel
theorem dX6_camberOf_30 : decode cX6_camberOf 30 = .ok (.iload_n 2, 1) := by decide +kernel
theorem dX6_camberOf_31 : decode cX6_camberOf 31 = .ok (.idiv, 1) := by decide +kernel
theorem dX6_camberOf_32 : decode cX6_camberOf 32 = .ok (.ireturn, 1) := by decide +kernel
theorem dX6_draw_0 : decode cX6_draw 0 = .ok (.aload_n 0, 1) := by decide +kernel
theorem dX6_draw_1 : decode cX6_draw 1 = .ok (.getfield 59, 3) := by decide +kernel
theorem dX6_draw_4 : decode cX6_draw 4 = .ok (.istore 5, 2) := by decide +kernel
theorem dX6_draw_6 : decode cX6_draw 6 = .ok (.aload_n 0, 1) := by decide +kernel
theorem dX6_draw_7 : decode cX6_draw 7 = .ok (.dup, 1) := by decide +kernel
theorem dX6_draw_8 : decode cX6_draw 8 = .ok (.getfield 59, 3) := by decide +kernel
theorem dX6_draw_11 : decode cX6_draw 11 = .ok (.iconst 1, 1) := by decide +kernel
theorem dX6_draw_12 : decode cX6_draw 12 = .ok (.iadd, 1) := by decide +kernel
theorem dX6_draw_13 : decode cX6_draw 13 = .ok (.putfield 59, 3) := by decide +kernel
theorem dX6_draw_16 : decode cX6_draw 16 = .ok (.aload_n 0, 1) := by decide +kernel
theorem dX6_draw_17 : decode cX6_draw 17 = .ok (.iload 5, 2) := by decide +kernel
theorem dX6_draw_19 : decode cX6_draw 19 = .ok (.invokevirtual 66, 3) := by decide +kernel
theorem dX6_draw_22 : decode cX6_draw 22 = .ok (.astore 6, 2) := by decide +kernel
theorem dX6_draw_24 : decode cX6_draw 24 = .ok (.aload 6, 2) := by decide +kernel
theorem dX6_draw_26 : decode cX6_draw 26 = .ok (.ifnull 18, 3) := by decide +kernel
theorem dX6_draw_29 : decode cX6_draw 29 = .ok (.aload 6, 2) := by decide +kernel
theorem dX6_draw_31 : decode cX6_draw 31 = .ok (.iload_n 1, 1) := by decide +kernel
theorem dX6_draw_32 : decode cX6_draw 32 = .ok (.iload_n 2, 1) := by decide +kernel
theorem dX6_draw_33 : decode cX6_draw 33 = .ok (.iload_n 3, 1) := by decide +kernel
theorem dX6_draw_34 : decode cX6_draw 34 = .ok (.invokevirtual 233, 3) := by decide +kernel
theorem dX6_draw_37 : decode cX6_draw 37 = .ok (.aload 6, 2) := by decide +kernel
theorem dX6_draw_39 : decode cX6_draw 39 = .ok (.iload 4, 2) := by decide +kernel
theorem dX6_draw_41 : decode cX6_draw 41 = .ok (.putfield 70, 3) := by decide +kernel
theorem dX6_draw_44 : decode cX6_draw 44 = .ok (.iload 5, 2) := by decide +kernel
theorem dX6_draw_46 : decode cX6_draw 46 = .ok (.ireturn, 1) := by decide +kernel
theorem dX6_countWhere_0 : decode cX6_countWhere 0 = .ok (.iconst 0, 1) := by decide +kernel
theorem dX6_countWhere_1 : decode cX6_countWhere 1 = .ok (.istore_n 2, 1) := by decide +kernel
theorem dX6_countWhere_2 : decode cX6_countWhere 2 = .ok (.iconst 0, 1) := by decide +kernel
theorem dX6_countWhere_3 : decode cX6_countWhere 3 = .ok (.istore_n 3, 1) := by decide +kernel
theorem dX6_countWhere_4 : decode cX6_countWhere 4 = .ok (.iload_n 3, 1) := by decide +kernel
theorem dX6_countWhere_5 : decode cX6_countWhere 5 = .ok (.aload_n 0, 1) := by decide +kernel
theorem dX6_countWhere_6 : decode cX6_countWhere 6 = .ok (.getfield 59, 3) := by decide +kernel
theorem dX6_countWhere_9 : decode cX6_countWhere 9 = .ok (.if_icmp .ge 33, 3) := by decide +kernel
theorem dX6_countWhere_12 : decode cX6_countWhere 12 = .ok (.aload_n 0, 1) := by decide +kernel
theorem dX6_countWhere_13 : decode cX6_countWhere 13 = .ok (.iload_n 3, 1) := by decide +kernel
theorem dX6_countWhere_14 : decode cX6_countWhere 14 = .ok (.invokevirtual 66, 3) := by decide +kernel
theorem dX6_countWhere_17 : decode cX6_countWhere 17 = .ok (.astore 4, 2) := by decide +kernel
theorem dX6_countWhere_19 : decode cX6_countWhere 19 = .ok (.aload 4, 2) := by decide +kernel
theorem dX6_countWhere_21 : decode cX6_countWhere 21 = .ok (.ifnull 15, 3) := by decide +kernel
theorem dX6_countWhere_24 : decode cX6_countWhere 24 = .ok (.aload 4, 2) := by decide +kernel
theorem dX6_countWhere_26 : decode cX6_countWhere 26 = .ok (.getfield 133, 3) := by decide +kernel
theorem dX6_countWhere_29 : decode cX6_countWhere 29 = .ok (.iload_n 1, 1) := by decide +kernel
theorem dX6_countWhere_30 : decode cX6_countWhere 30 = .ok (.if_icmp .ne 6, 3) := by decide +kernel
theorem dX6_countWhere_33 : decode cX6_countWhere 33 = .ok (.iinc 2 1, 3) := by decide +kernel
theorem dX6_countWhere_36 : decode cX6_countWhere 36 = .ok (.iinc 3 1, 3) := by decide +kernel
theorem dX6_countWhere_39 : decode cX6_countWhere 39 = .ok (.goto (-35), 3) := by decide +kernel
theorem dX6_countWhere_42 : decode cX6_countWhere 42 = .ok (.iload_n 2, 1) := by decide +kernel
theorem dX6_countWhere_43 : decode cX6_countWhere 43 = .ok (.ireturn, 1) := by decide +kernel
theorem dX6_givePacker_0 : decode cX6_givePacker 0 = .ok (.aload_n 0, 1) := by decide +kernel
theorem dX6_givePacker_1 : decode cX6_givePacker 1 = .ok (.getfield 37, 3) := by decide +kernel
theorem dX6_givePacker_4 : decode cX6_givePacker 4 = .ok (.invokevirtual 244, 3) := by decide +kernel
theorem dX6_givePacker_7 : decode cX6_givePacker 7 = .ok (.iload_n 1, 1) := by decide +kernel
theorem dX6_givePacker_8 : decode cX6_givePacker 8 = .ok (.istore 4, 2) := by decide +kernel
theorem dX6_givePacker_10 : decode cX6_givePacker 10 = .ok (.iload 4, 2) := by decide +kernel
theorem dX6_givePacker_12 : decode cX6_givePacker 12 = .ok (.iload_n 2, 1) := by decide +kernel
theorem dX6_givePacker_13 : decode cX6_givePacker 13 = .ok (.if_icmp .gt 51, 3) := by decide +kernel
theorem dX6_givePacker_16 : decode cX6_givePacker 16 = .ok (.aload_n 0, 1) := by decide +kernel
theorem dX6_givePacker_17 : decode cX6_givePacker 17 = .ok (.iload 4, 2) := by decide +kernel
theorem dX6_givePacker_19 : decode cX6_givePacker 19 = .ok (.invokevirtual 66, 3) := by decide +kernel
theorem dX6_givePacker_22 : decode cX6_givePacker 22 = .ok (.astore 5, 2) := by decide +kernel
theorem dX6_givePacker_24 : decode cX6_givePacker 24 = .ok (.aload 5, 2) := by decide +kernel
theorem dX6_givePacker_26 : decode cX6_givePacker 26 = .ok (.ifnull 32, 3) := by decide +kernel
theorem dX6_givePacker_29 : decode cX6_givePacker 29 = .ok (.aload 5, 2) := by decide +kernel
theorem dX6_givePacker_31 : decode cX6_givePacker 31 = .ok (.getfield 133, 3) := by decide +kernel
theorem dX6_givePacker_34 : decode cX6_givePacker 34 = .ok (.ifCond .ne 24, 3) := by decide +kernel
theorem dX6_givePacker_37 : decode cX6_givePacker 37 = .ok (.aload 5, 2) := by decide +kernel
theorem dX6_givePacker_39 : decode cX6_givePacker 39 = .ok (.getfield 230, 3) := by decide +kernel
theorem dX6_givePacker_42 : decode cX6_givePacker 42 = .ok (.iload_n 3, 1) := by decide +kernel
theorem dX6_givePacker_43 : decode cX6_givePacker 43 = .ok (.if_icmp .ne 15, 3) := by decide +kernel
theorem dX6_givePacker_46 : decode cX6_givePacker 46 = .ok (.aload_n 0, 1) := by decide +kernel
theorem dX6_givePacker_47 : decode cX6_givePacker 47 = .ok (.getfield 37, 3) := by decide +kernel
theorem dX6_givePacker_50 : decode cX6_givePacker 50 = .ok (.aload 5, 2) := by decide +kernel
theorem dX6_givePacker_52 : decode cX6_givePacker 52 = .ok (.getfield 108, 3) := by decide +kernel
theorem dX6_givePacker_55 : decode cX6_givePacker 55 = .ok (.invokevirtual 245, 3) := by decide +kernel
theorem dX6_givePacker_58 : decode cX6_givePacker 58 = .ok (.iinc 4 1, 3) := by decide +kernel
theorem dX6_givePacker_61 : decode cX6_givePacker 61 = .ok (.goto (-51), 3) := by decide +kernel
theorem dX6_givePacker_64 : decode cX6_givePacker 64 = .ok (.return_, 1) := by decide +kernel
theorem dX6_areParts_0 : decode cX6_areParts 0 = .ok (.iconst 0, 1) := by decide +kernel
theorem dX6_areParts_1 : decode cX6_areParts 1 = .ok (.istore_n 3, 1) := by decide +kernel
theorem dX6_areParts_2 : decode cX6_areParts 2 = .ok (.iload_n 3, 1) := by decide +kernel
theorem dX6_areParts_3 : decode cX6_areParts 3 = .ok (.bipush 32, 2) := by decide +kernel
theorem dX6_areParts_5 : decode cX6_areParts 5 = .ok (.if_icmp .ge 29, 3) := by decide +kernel
theorem dX6_areParts_8 : decode cX6_areParts 8 = .ok (.iload_n 2, 1) := by decide +kernel
theorem dX6_areParts_9 : decode cX6_areParts 9 = .ok (.iload_n 3, 1) := by decide +kernel
theorem dX6_areParts_10 : decode cX6_areParts 10 = .ok (.invokestatic 101, 3) := by decide +kernel
theorem dX6_areParts_13 : decode cX6_areParts 13 = .ok (.ifCond .eq 15, 3) := by decide +kernel
theorem dX6_areParts_16 : decode cX6_areParts 16 = .ok (.aload_n 0, 1) := by decide +kernel
theorem dX6_areParts_17 : decode cX6_areParts 17 = .ok (.iload_n 1, 1) := by decide +kernel
theorem dX6_areParts_18 : decode cX6_areParts 18 = .ok (.iload_n 3, 1) := by decide +kernel
theorem dX6_areParts_19 : decode cX6_areParts 19 = .ok (.iadd, 1) := by decide +kernel
theorem dX6_areParts_20 : decode cX6_areParts 20 = .ok (.invokevirtual 66, 3) := by decide +kernel
theorem dX6_areParts_23 : decode cX6_areParts 23 = .ok (.ifnonnull 5, 3) := by decide +kernel
theorem dX6_areParts_26 : decode cX6_areParts 26 = .ok (.iconst 0, 1) := by decide +kernel
theorem dX6_areParts_27 : decode cX6_areParts 27 = .ok (.ireturn, 1) := by decide +kernel
theorem dX6_areParts_28 : decode cX6_areParts 28 = .ok (.iinc 3 1, 3) := by decide +kernel
theorem dX6_areParts_31 : decode cX6_areParts 31 = .ok (.goto (-29), 3) := by decide +kernel
theorem dX6_areParts_34 : decode cX6_areParts 34 = .ok (.iconst 1, 1) := by decide +kernel
theorem dX6_areParts_35 : decode cX6_areParts 35 = .ok (.ireturn, 1) := by decide +kernel
theorem dX6_areDrawnAndFit_0 : decode cX6_areDrawnAndFit 0 = .ok (.bipush (-4), 2) := by decide +kernel
theorem dX6_areDrawnAndFit_2 : decode cX6_areDrawnAndFit 2 = .ok (.istore_n 3, 1) := by decide +kernel
theorem dX6_areDrawnAndFit_3 : decode cX6_areDrawnAndFit 3 = .ok (.bipush (-4), 2) := by decide +kernel
theorem dX6_areDrawnAndFit_5 : decode cX6_areDrawnAndFit 5 = .ok (.istore 4, 2) := by decide +kernel
theorem dX6_areDrawnAndFit_7 : decode cX6_areDrawnAndFit 7 = .ok (.iconst 0, 1) := by decide +kernel
theorem dX6_areDrawnAndFit_8 : decode cX6_areDrawnAndFit 8 = .ok (.istore 5, 2) := by decide +kernel
theorem dX6_areDrawnAndFit_10 : decode cX6_areDrawnAndFit 10 = .ok (.iload 5, 2) := by decide +kernel
theorem dX6_areDrawnAndFit_12 : decode cX6_areDrawnAndFit 12 = .ok (.bipush 32, 2) := by decide +kernel
theorem dX6_areDrawnAndFit_14 : decode cX6_areDrawnAndFit 14 = .ok (.if_icmp .ge 79, 3) := by decide +kernel
theorem dX6_areDrawnAndFit_17 : decode cX6_areDrawnAndFit 17 = .ok (.iload_n 2, 1) := by decide +kernel
theorem dX6_areDrawnAndFit_18 : decode cX6_areDrawnAndFit 18 = .ok (.iload 5, 2) := by decide +kernel
theorem dX6_areDrawnAndFit_20 : decode cX6_areDrawnAndFit 20 = .ok (.invokestatic 101, 3) := by decide +kernel
theorem dX6_areDrawnAndFit_23 : decode cX6_areDrawnAndFit 23 = .ok (.ifCond .ne 6, 3) := by decide +kernel
theorem dX6_areDrawnAndFit_26 : decode cX6_areDrawnAndFit 26 = .ok (.goto 61, 3) := by decide +kernel
theorem dX6_areDrawnAndFit_29 : decode cX6_areDrawnAndFit 29 = .ok (.aload_n 0, 1) := by decide +kernel
theorem dX6_areDrawnAndFit_30 : decode cX6_areDrawnAndFit 30 = .ok (.iload_n 1, 1) := by decide +kernel
theorem dX6_areDrawnAndFit_31 : decode cX6_areDrawnAndFit 31 = .ok (.iload 5, 2) := by decide +kernel
theorem dX6_areDrawnAndFit_33 : decode cX6_areDrawnAndFit 33 = .ok (.iadd, 1) := by decide +kernel
theorem dX6_areDrawnAndFit_34 : decode cX6_areDrawnAndFit 34 = .ok (.invokevirtual 66, 3) := by decide +kernel
theorem dX6_areDrawnAndFit_37 : decode cX6_areDrawnAndFit 37 = .ok (.astore 6, 2) := by decide +kernel
theorem dX6_areDrawnAndFit_39 : decode cX6_areDrawnAndFit 39 = .ok (.aload 6, 2) := by decide +kernel
theorem dX6_areDrawnAndFit_41 : decode cX6_areDrawnAndFit 41 = .ok (.ifnull 26, 3) := by decide +kernel
theorem dX6_areDrawnAndFit_44 : decode cX6_areDrawnAndFit 44 = .ok (.aload 6, 2) := by decide +kernel
theorem dX6_areDrawnAndFit_46 : decode cX6_areDrawnAndFit 46 = .ok (.getfield 133, 3) := by decide +kernel
theorem dX6_areDrawnAndFit_49 : decode cX6_areDrawnAndFit 49 = .ok (.ifCond .ne 18, 3) := by decide +kernel
theorem dX6_areDrawnAndFit_52 : decode cX6_areDrawnAndFit 52 = .ok (.iload_n 3, 1) := by decide +kernel
theorem dX6_areDrawnAndFit_53 : decode cX6_areDrawnAndFit 53 = .ok (.bipush (-4), 2) := by decide +kernel
theorem dX6_areDrawnAndFit_55 : decode cX6_areDrawnAndFit 55 = .ok (.if_icmp .eq 14, 3) := by decide +kernel
theorem dX6_areDrawnAndFit_58 : decode cX6_areDrawnAndFit 58 = .ok (.aload 6, 2) := by decide +kernel
theorem dX6_areDrawnAndFit_60 : decode cX6_areDrawnAndFit 60 = .ok (.getfield 230, 3) := by decide +kernel
theorem dX6_areDrawnAndFit_63 : decode cX6_areDrawnAndFit 63 = .ok (.iload_n 3, 1) := by decide +kernel
theorem dX6_areDrawnAndFit_64 : decode cX6_areDrawnAndFit 64 = .ok (.if_icmp .eq 5, 3) := by decide +kernel
theorem dX6_areDrawnAndFit_67 : decode cX6_areDrawnAndFit 67 = .ok (.iconst 0, 1) := by decide +kernel
theorem dX6_areDrawnAndFit_68 : decode cX6_areDrawnAndFit 68 = .ok (.ireturn, 1) := by decide +kernel
theorem dX6_areDrawnAndFit_69 : decode cX6_areDrawnAndFit 69 = .ok (.aload 6, 2) := by decide +kernel
theorem dX6_areDrawnAndFit_71 : decode cX6_areDrawnAndFit 71 = .ok (.getfield 230, 3) := by decide +kernel
theorem dX6_areDrawnAndFit_74 : decode cX6_areDrawnAndFit 74 = .ok (.istore_n 3, 1) := by decide +kernel
theorem dX6_areDrawnAndFit_75 : decode cX6_areDrawnAndFit 75 = .ok (.iload 4, 2) := by decide +kernel
theorem dX6_areDrawnAndFit_77 : decode cX6_areDrawnAndFit 77 = .ok (.iconst 4, 1) := by decide +kernel
theorem dX6_areDrawnAndFit_78 : decode cX6_areDrawnAndFit 78 = .ok (.aload 6, 2) := by decide +kernel
theorem dX6_areDrawnAndFit_80 : decode cX6_areDrawnAndFit 80 = .ok (.getfield 108, 3) := by decide +kernel
theorem dX6_areDrawnAndFit_83 : decode cX6_areDrawnAndFit 83 = .ok (.iadd, 1) := by decide +kernel
theorem dX6_areDrawnAndFit_84 : decode cX6_areDrawnAndFit 84 = .ok (.iadd, 1) := by decide +kernel
theorem dX6_areDrawnAndFit_85 : decode cX6_areDrawnAndFit 85 = .ok (.istore 4, 2) := by decide +kernel
theorem dX6_areDrawnAndFit_87 : decode cX6_areDrawnAndFit 87 = .ok (.iinc 5 1, 3) := by decide +kernel
theorem dX6_areDrawnAndFit_90 : decode cX6_areDrawnAndFit 90 = .ok (.goto (-80), 3) := by decide +kernel
theorem dX6_areDrawnAndFit_93 : decode cX6_areDrawnAndFit 93 = .ok (.iload 4, 2) := by decide +kernel
theorem dX6_areDrawnAndFit_95 : decode cX6_areDrawnAndFit 95 = .ok (.sipush 300, 3) := by decide +kernel
theorem dX6_areDrawnAndFit_98 : decode cX6_areDrawnAndFit 98 = .ok (.if_icmp .gt 7, 3) := by decide +kernel
theorem dX6_areDrawnAndFit_101 : decode cX6_areDrawnAndFit 101 = .ok (.iconst 1, 1) := by decide +kernel
theorem dX6_areDrawnAndFit_102 : decode cX6_areDrawnAndFit 102 = .ok (.goto 4, 3) := by decide +kernel
theorem dX6_areDrawnAndFit_105 : decode cX6_areDrawnAndFit 105 = .ok (.iconst 0, 1) := by decide +kernel
theorem dX6_areDrawnAndFit_106 : decode cX6_areDrawnAndFit 106 = .ok (.ireturn, 1) := by decide +kernel
theorem dX6_isRight_0 : decode cX6_isRight 0 = .ok (.iconst 1, 1) := by decide +kernel
theorem dX6_isRight_1 : decode cX6_isRight 1 = .ok (.istore_n 1, 1) := by decide +kernel
theorem dX6_isRight_2 : decode cX6_isRight 2 = .ok (.iload_n 1, 1) := by decide +kernel
theorem dX6_isRight_3 : decode cX6_isRight 3 = .ok (.aload_n 0, 1) := by decide +kernel
theorem dX6_isRight_4 : decode cX6_isRight 4 = .ok (.getfield 30, 3) := by decide +kernel
theorem dX6_isRight_7 : decode cX6_isRight 7 = .ok (.getfield 212, 3) := by decide +kernel
theorem dX6_isRight_10 : decode cX6_isRight 10 = .ok (.if_icmp .ge 58, 3) := by decide +kernel
theorem dX6_isRight_13 : decode cX6_isRight 13 = .ok (.aload_n 0, 1) := by decide +kernel
theorem dX6_isRight_14 : decode cX6_isRight 14 = .ok (.aload_n 0, 1) := by decide +kernel
theorem dX6_isRight_15 : decode cX6_isRight 15 = .ok (.getfield 30, 3) := by decide +kernel
theorem dX6_isRight_18 : decode cX6_isRight 18 = .ok (.iload_n 1, 1) := by decide +kernel
theorem dX6_isRight_19 : decode cX6_isRight 19 = .ok (.iconst 1, 1) := by decide +kernel
theorem dX6_isRight_20 : decode cX6_isRight 20 = .ok (.isub, 1) := by decide +kernel
theorem dX6_isRight_21 : decode cX6_isRight 21 = .ok (.invokevirtual 213, 3) := by decide +kernel
theorem dX6_isRight_24 : decode cX6_isRight 24 = .ok (.invokevirtual 66, 3) := by decide +kernel
theorem dX6_isRight_27 : decode cX6_isRight 27 = .ok (.astore_n 2, 1) := by decide +kernel
theorem dX6_isRight_28 : decode cX6_isRight 28 = .ok (.aload_n 0, 1) := by decide +kernel
theorem dX6_isRight_29 : decode cX6_isRight 29 = .ok (.aload_n 0, 1) := by decide +kernel
theorem dX6_isRight_30 : decode cX6_isRight 30 = .ok (.getfield 30, 3) := by decide +kernel
theorem dX6_isRight_33 : decode cX6_isRight 33 = .ok (.iload_n 1, 1) := by decide +kernel
theorem dX6_isRight_34 : decode cX6_isRight 34 = .ok (.invokevirtual 213, 3) := by decide +kernel
theorem dX6_isRight_37 : decode cX6_isRight 37 = .ok (.invokevirtual 66, 3) := by decide +kernel
theorem dX6_isRight_40 : decode cX6_isRight 40 = .ok (.astore_n 3, 1) := by decide +kernel
theorem dX6_isRight_41 : decode cX6_isRight 41 = .ok (.aload_n 2, 1) := by decide +kernel
theorem dX6_isRight_42 : decode cX6_isRight 42 = .ok (.ifnull 20, 3) := by decide +kernel
theorem dX6_isRight_45 : decode cX6_isRight 45 = .ok (.aload_n 3, 1) := by decide +kernel
theorem dX6_isRight_46 : decode cX6_isRight 46 = .ok (.ifnull 16, 3) := by decide +kernel
theorem dX6_isRight_49 : decode cX6_isRight 49 = .ok (.aload_n 3, 1) := by decide +kernel
theorem dX6_isRight_50 : decode cX6_isRight 50 = .ok (.getfield 70, 3) := by decide +kernel
theorem dX6_isRight_53 : decode cX6_isRight 53 = .ok (.aload_n 2, 1) := by decide +kernel
theorem dX6_isRight_54 : decode cX6_isRight 54 = .ok (.getfield 70, 3) := by decide +kernel
theorem dX6_isRight_57 : decode cX6_isRight 57 = .ok (.if_icmp .le 5, 3) := by decide +kernel
theorem dX6_isRight_60 : decode cX6_isRight 60 = .ok (.iconst 0, 1) := by decide +kernel
theorem dX6_isRight_61 : decode cX6_isRight 61 = .ok (.ireturn, 1) := by decide +kernel
theorem dX6_isRight_62 : decode cX6_isRight 62 = .ok (.iinc 1 1, 3) := by decide +kernel
theorem dX6_isRight_65 : decode cX6_isRight 65 = .ok (.goto (-63), 3) := by decide +kernel
theorem dX6_isRight_68 : decode cX6_isRight 68 = .ok (.iconst 1, 1) := by decide +kernel
theorem dX6_isRight_69 : decode cX6_isRight 69 = .ok (.ireturn, 1) := by decide +kernel
theorem dX6_strikeWhereItIs_0 : decode cX6_strikeWhereItIs 0 = .ok (.aload_n 1, 1) := by decide +kernel
theorem dX6_strikeWhereItIs_1 : decode cX6_strikeWhereItIs 1 = .ok (.getfield 133, 3) := by decide +kernel
theorem dX6_strikeWhereItIs_4 : decode cX6_strikeWhereItIs 4 = .ok (.iconst 2, 1) := by decide +kernel
theorem dX6_strikeWhereItIs_5 : decode cX6_strikeWhereItIs 5 = .ok (.if_icmp .ne 8, 3) := by decide +kernel
theorem dX6_strikeWhereItIs_8 : decode cX6_strikeWhereItIs 8 = .ok (.aload_n 1, 1) := by decide +kernel
theorem dX6_strikeWhereItIs_9 : decode cX6_strikeWhereItIs 9 = .ok (.invokevirtual 150, 3) := by decide +kernel
theorem dX6_strikeWhereItIs_12 : decode cX6_strikeWhereItIs 12 = .ok (.return_, 1) := by decide +kernel
theorem dX6_strikeWhereItIs_13 : decode cX6_strikeWhereItIs 13 = .ok (.aload_n 1, 1) := by decide +kernel
theorem dX6_strikeWhereItIs_14 : decode cX6_strikeWhereItIs 14 = .ok (.iconst 1, 1) := by decide +kernel
theorem dX6_strikeWhereItIs_15 : decode cX6_strikeWhereItIs 15 = .ok (.putfield 146, 3) := by decide +kernel
theorem dX6_strikeWhereItIs_18 : decode cX6_strikeWhereItIs 18 = .ok (.aload_n 1, 1) := by decide +kernel
theorem dX6_strikeWhereItIs_19 : decode cX6_strikeWhereItIs 19 = .ok (.getfield 133, 3) := by decide +kernel
theorem dX6_strikeWhereItIs_22 : decode cX6_strikeWhereItIs 22 = .ok (.iconst 3, 1) := by decide +kernel
theorem dX6_strikeWhereItIs_23 : decode cX6_strikeWhereItIs 23 = .ok (.if_icmp .ne 15, 3) := by decide +kernel
theorem dX6_strikeWhereItIs_26 : decode cX6_strikeWhereItIs 26 = .ok (.aload_n 0, 1) := by decide +kernel
theorem dX6_strikeWhereItIs_27 : decode cX6_strikeWhereItIs 27 = .ok (.aload_n 0, 1) := by decide +kernel
theorem dX6_strikeWhereItIs_28 : decode cX6_strikeWhereItIs 28 = .ok (.aload_n 1, 1) := by decide +kernel
theorem dX6_strikeWhereItIs_29 : decode cX6_strikeWhereItIs 29 = .ok (.getfield 136, 3) := by decide +kernel
theorem dX6_strikeWhereItIs_32 : decode cX6_strikeWhereItIs 32 = .ok (.invokevirtual 156, 3) := by decide +kernel
theorem dX6_strikeWhereItIs_35 : decode cX6_strikeWhereItIs 35 = .ok (.invokevirtual 177, 3) := by decide +kernel
theorem dX6_strikeWhereItIs_38 : decode cX6_strikeWhereItIs 38 = .ok (.return_, 1) := by decide +kernel
theorem dX6_strikeTops_0 : decode cX6_strikeTops 0 = .ok (.iconst 0, 1) := by decide +kernel
theorem dX6_strikeTops_1 : decode cX6_strikeTops 1 = .ok (.istore_n 2, 1) := by decide +kernel
theorem dX6_strikeTops_2 : decode cX6_strikeTops 2 = .ok (.aload_n 1, 1) := by decide +kernel
theorem dX6_strikeTops_3 : decode cX6_strikeTops 3 = .ok (.ifnull 44, 3) := by decide +kernel
theorem dX6_strikeTops_6 : decode cX6_strikeTops 6 = .ok (.iload_n 2, 1) := by decide +kernel
theorem dX6_strikeTops_7 : decode cX6_strikeTops 7 = .ok (.iconst 4, 1) := by decide +kernel
theorem dX6_strikeTops_8 : decode cX6_strikeTops 8 = .ok (.if_icmp .ge 39, 3) := by decide +kernel
theorem dX6_strikeTops_11 : decode cX6_strikeTops 11 = .ok (.aload_n 0, 1) := by decide +kernel
theorem dX6_strikeTops_12 : decode cX6_strikeTops 12 = .ok (.aload_n 1, 1) := by decide +kernel
theorem dX6_strikeTops_13 : decode cX6_strikeTops 13 = .ok (.invokevirtual 171, 3) := by decide +kernel
theorem dX6_strikeTops_16 : decode cX6_strikeTops 16 = .ok (.invokevirtual 66, 3) := by decide +kernel
theorem dX6_strikeTops_19 : decode cX6_strikeTops 19 = .ok (.astore_n 3, 1) := by decide +kernel
theorem dX6_strikeTops_20 : decode cX6_strikeTops 20 = .ok (.aload_n 3, 1) := by decide +kernel
theorem dX6_strikeTops_21 : decode cX6_strikeTops 21 = .ok (.ifnull 10, 3) := by decide +kernel
theorem dX6_strikeTops_24 : decode cX6_strikeTops 24 = .ok (.aload_n 3, 1) := by decide +kernel
theorem dX6_strikeTops_25 : decode cX6_strikeTops 25 = .ok (.getfield 146, 3) := by decide +kernel
theorem dX6_strikeTops_28 : decode cX6_strikeTops 28 = .ok (.ifCond .ne 4, 3) := by decide +kernel
theorem dX6_strikeTops_31 : decode cX6_strikeTops 31 = .ok (.return_, 1) := by decide +kernel
theorem dX6_strikeTops_32 : decode cX6_strikeTops 32 = .ok (.aload_n 1, 1) := by decide +kernel
theorem dX6_strikeTops_33 : decode cX6_strikeTops 33 = .ok (.invokevirtual 174, 3) := by decide +kernel
theorem dX6_strikeTops_36 : decode cX6_strikeTops 36 = .ok (.pop, 1) := by decide +kernel
theorem dX6_strikeTops_37 : decode cX6_strikeTops 37 = .ok (.aload_n 3, 1) := by decide +kernel
theorem dX6_strikeTops_38 : decode cX6_strikeTops 38 = .ok (.invokevirtual 150, 3) := by decide +kernel
theorem dX6_strikeTops_41 : decode cX6_strikeTops 41 = .ok (.iinc 2 1, 3) := by decide +kernel
theorem dX6_strikeTops_44 : decode cX6_strikeTops 44 = .ok (.goto (-42), 3) := by decide +kernel
theorem dX6_strikeTops_47 : decode cX6_strikeTops 47 = .ok (.return_, 1) := by decide +kernel
theorem dX7_init_0 : decode cX7_init 0 = .ok (.aload_n 0, 1) := by decide +kernel
theorem dX7_init_1 : decode cX7_init 1 = .ok (.invokespecial 1, 3) := by decide +kernel
theorem dX7_init_4 : decode cX7_init 4 = .ok (.aload_n 0, 1) := by decide +kernel
theorem dX7_init_5 : decode cX7_init 5 = .ok (.bipush 40, 2) := by decide +kernel
theorem dX7_init_7 : decode cX7_init 7 = .ok (.newarray .int, 2) := by decide +kernel
theorem dX7_init_9 : decode cX7_init 9 = .ok (.putfield 7, 3) := by decide +kernel
theorem dX7_init_12 : decode cX7_init 12 = .ok (.aload_n 0, 1) := by decide +kernel
theorem dX7_init_13 : decode cX7_init 13 = .ok (.bipush 40, 2) := by decide +kernel
theorem dX7_init_15 : decode cX7_init 15 = .ok (.newarray .int, 2) := by decide +kernel
theorem dX7_init_17 : decode cX7_init 17 = .ok (.putfield 13, 3) := by decide +kernel
theorem dX7_init_20 : decode cX7_init 20 = .ok (.aload_n 0, 1) := by decide +kernel
theorem dX7_init_21 : decode cX7_init 21 = .ok (.bipush 40, 2) := by decide +kernel
theorem dX7_init_23 : decode cX7_init 23 = .ok (.newarray .int, 2) := by decide +kernel
theorem dX7_init_25 : decode cX7_init 25 = .ok (.putfield 16, 3) := by decide +kernel
theorem dX7_init_28 : decode cX7_init 28 = .ok (.aload_n 0, 1) := by decide +kernel
theorem dX7_init_29 : decode cX7_init 29 = .ok (.bipush 40, 2) := by decide +kernel
theorem dX7_init_31 : decode cX7_init 31 = .ok (.newarray .int, 2) := by decide +kernel
theorem dX7_init_33 : decode cX7_init 33 = .ok (.putfield 19, 3) := by decide +kernel
theorem dX7_init_36 : decode cX7_init 36 = .ok (.aload_n 0, 1) := by decide +kernel
theorem dX7_init_37 : decode cX7_init 37 = .ok (.bipush 40, 2) := by decide +kernel
theorem dX7_init_39 : decode cX7_init 39 = .ok (.newarray .int, 2) := by decide +kernel
theorem dX7_init_41 : decode cX7_init 41 = .ok (.putfield 22, 3) := by decide +kernel
theorem dX7_init_44 : decode cX7_init 44 = .ok (.aload_n 0, 1) := by decide +kernel
theorem dX7_init_45 : decode cX7_init 45 = .ok (.bipush 40, 2) := by decide +kernel
theorem dX7_init_47 : decode cX7_init 47 = .ok (.newarray .int, 2) := by decide +kernel
theorem dX7_init_49 : decode cX7_init 49 = .ok (.putfield 25, 3) := by decide +kernel
theorem dX7_init_52 : decode cX7_init 52 = .ok (.aload_n 0, 1) := by decide +kernel
theorem dX7_init_53 : decode cX7_init 53 = .ok (.bipush 40, 2) := by decide +kernel
theorem dX7_init_55 : decode cX7_init 55 = .ok (.newarray .int, 2) := by decide +kernel
theorem dX7_init_57 : decode cX7_init 57 = .ok (.putfield 28, 3) := by decide +kernel
theorem dX7_init_60 : decode cX7_init 60 = .ok (.aload_n 0, 1) := by decide +kernel
theorem dX7_init_61 : decode cX7_init 61 = .ok (.bipush 40, 2) := by decide +kernel
theorem dX7_init_63 : decode cX7_init 63 = .ok (.newarray .boolean, 2) := by decide +kernel
theorem dX7_init_65 : decode cX7_init 65 = .ok (.putfield 31, 3) := by decide +kernel
theorem dX7_init_68 : decode cX7_init 68 = .ok (.aload_n 0, 1) := by decide +kernel
theorem dX7_init_69 : decode cX7_init 69 = .ok (.iconst 3, 1) := by decide +kernel
theorem dX7_init_70 : decode cX7_init 70 = .ok (.newarray .int, 2) := by decide +kernel
theorem dX7_init_72 : decode cX7_init 72 = .ok (.putfield 35, 3) := by decide +kernel
theorem dX7_init_75 : decode cX7_init 75 = .ok (.aload_n 0, 1) := by decide +kernel
theorem dX7_init_76 : decode cX7_init 76 = .ok (.bipush 120, 2) := by decide +kernel
theorem dX7_init_78 : decode cX7_init 78 = .ok (.newarray .int, 2) := by decide +kernel
theorem dX7_init_80 : decode cX7_init 80 = .ok (.putfield 38, 3) := by decide +kernel
theorem dX7_init_83 : decode cX7_init 83 = .ok (.aload_n 0, 1) := by decide +kernel
theorem dX7_init_84 : decode cX7_init 84 = .ok (.iconst 3, 1) := by decide +kernel
theorem dX7_init_85 : decode cX7_init 85 = .ok (.newarray .int, 2) := by decide +kernel
theorem dX7_init_87 : decode cX7_init 87 = .ok (.putfield 41, 3) := by decide +kernel
theorem dX7_init_90 : decode cX7_init 90 = .ok (.aload_n 0, 1) := by decide +kernel
theorem dX7_init_91 : decode cX7_init 91 = .ok (.iconst 3, 1) := by decide +kernel
theorem dX7_init_92 : decode cX7_init 92 = .ok (.newarray .int, 2) := by decide +kernel
theorem dX7_init_94 : decode cX7_init 94 = .ok (.putfield 44, 3) := by decide +kernel
theorem dX7_init_97 : decode cX7_init 97 = .ok (.aload_n 0, 1) := by decide +kernel
theorem dX7_init_98 : decode cX7_init 98 = .ok (.bipush 15, 2) := by decide +kernel
theorem dX7_init_100 : decode cX7_init 100 = .ok (.putfield 47, 3) := by decide +kernel
theorem dX7_init_103 : decode cX7_init 103 = .ok (.aload_n 0, 1) := by decide +kernel
theorem dX7_init_104 : decode cX7_init 104 = .ok (.iconst 5, 1) := by decide +kernel
theorem dX7_init_105 : decode cX7_init 105 = .ok (.newarray .int, 2) := by decide +kernel
theorem dX7_init_107 : decode cX7_init 107 = .ok (.putfield 51, 3) := by decide +kernel
theorem dX7_init_110 : decode cX7_init 110 = .ok (.aload_n 0, 1) := by decide +kernel
theorem dX7_init_111 : decode cX7_init 111 = .ok (.bipush 20, 2) := by decide +kernel
theorem dX7_init_113 : decode cX7_init 113 = .ok (.newarray .int, 2) := by decide +kernel
theorem dX7_init_115 : decode cX7_init 115 = .ok (.putfield 54, 3) := by decide +kernel
theorem dX7_init_118 : decode cX7_init 118 = .ok (.aload_n 0, 1) := by decide +kernel
theorem dX7_init_119 : decode cX7_init 119 = .ok (.iconst 4, 1) := by decide +kernel
theorem dX7_init_120 : decode cX7_init 120 = .ok (.newarray .int, 2) := by decide +kernel
theorem dX7_init_122 : decode cX7_init 122 = .ok (.putfield 57, 3) := by decide +kernel
theorem dX7_init_125 : decode cX7_init 125 = .ok (.aload_n 0, 1) := by decide +kernel
theorem dX7_init_126 : decode cX7_init 126 = .ok (.bipush 12, 2) := by decide +kernel
theorem dX7_init_128 : decode cX7_init 128 = .ok (.newarray .int, 2) := by decide +kernel
theorem dX7_init_130 : decode cX7_init 130 = .ok (.putfield 60, 3) := by decide +kernel
theorem dX7_init_133 : decode cX7_init 133 = .ok (.aload_n 0, 1) := by decide +kernel
theorem dX7_init_134 : decode cX7_init 134 = .ok (.sipush 4096, 3) := by decide +kernel
theorem dX7_init_137 : decode cX7_init 137 = .ok (.newarray .int, 2) := by decide +kernel
theorem dX7_init_139 : decode cX7_init 139 = .ok (.putfield 63, 3) := by decide +kernel
theorem dX7_init_142 : decode cX7_init 142 = .ok (.aload_n 0, 1) := by decide +kernel
theorem dX7_init_143 : decode cX7_init 143 = .ok (.bipush 12, 2) := by decide +kernel
theorem dX7_init_145 : decode cX7_init 145 = .ok (.newarray .int, 2) := by decide +kernel
theorem dX7_init_147 : decode cX7_init 147 = .ok (.putfield 66, 3) := by decide +kernel
theorem dX7_init_150 : decode cX7_init 150 = .ok (.aload_n 0, 1) := by decide +kernel
theorem dX7_init_151 : decode cX7_init 151 = .ok (.bipush 6, 2) := by decide +kernel
theorem dX7_init_153 : decode cX7_init 153 = .ok (.newarray .int, 2) := by decide +kernel
theorem dX7_init_155 : decode cX7_init 155 = .ok (.putfield 69, 3) := by decide +kernel
theorem dX7_init_158 : decode cX7_init 158 = .ok (.aload_n 0, 1) := by decide +kernel
theorem dX7_init_159 : decode cX7_init 159 = .ok (.iconst 5, 1) := by decide +kernel
theorem dX7_init_160 : decode cX7_init 160 = .ok (.newarray .int, 2) := by decide +kernel
theorem dX7_init_162 : decode cX7_init 162 = .ok (.putfield 72, 3) := by decide +kernel
theorem dX7_init_165 : decode cX7_init 165 = .ok (.aload_n 0, 1) := by decide +kernel
theorem dX7_init_166 : decode cX7_init 166 = .ok (.bipush 20, 2) := by decide +kernel
theorem dX7_init_168 : decode cX7_init 168 = .ok (.newarray .int, 2) := by decide +kernel
theorem dX7_init_170 : decode cX7_init 170 = .ok (.putfield 75, 3) := by decide +kernel
theorem dX7_init_173 : decode cX7_init 173 = .ok (.aload_n 0, 1) := by decide +kernel
theorem dX7_init_174 : decode cX7_init 174 = .ok (.bipush 32, 2) := by decide +kernel
theorem dX7_init_176 : decode cX7_init 176 = .ok (.newarray .int, 2) := by decide +kernel
theorem dX7_init_178 : decode cX7_init 178 = .ok (.putfield 78, 3) := by decide +kernel
theorem dX7_init_181 : decode cX7_init 181 = .ok (.aload_n 0, 1) := by decide +kernel
theorem dX7_init_182 : decode cX7_init 182 = .ok (.bipush 32, 2) := by decide +kernel
theorem dX7_init_184 : decode cX7_init 184 = .ok (.newarray .int, 2) := by decide +kernel
theorem dX7_init_186 : decode cX7_init 186 = .ok (.putfield 81, 3) := by decide +kernel
theorem dX7_init_189 : decode cX7_init 189 = .ok (.aload_n 0, 1) := by decide +kernel
theorem dX7_init_190 : decode cX7_init 190 = .ok (.sipush 192, 3) := by decide +kernel
theorem dX7_init_193 : decode cX7_init 193 = .ok (.newarray .int, 2) := by decide +kernel
theorem dX7_init_195 : decode cX7_init 195 = .ok (.putfield 84, 3) := by decide +kernel
theorem dX7_init_198 : decode cX7_init 198 = .ok (.aload_n 0, 1) := by decide +kernel
theorem dX7_init_199 : decode cX7_init 199 = .ok (.bipush 32, 2) := by decide +kernel
theorem dX7_init_201 : decode cX7_init 201 = .ok (.newarray .int, 2) := by decide +kernel
theorem dX7_init_203 : decode cX7_init 203 = .ok (.putfield 87, 3) := by decide +kernel
theorem dX7_init_206 : decode cX7_init 206 = .ok (.aload_n 0, 1) := by decide +kernel
theorem dX7_init_207 : decode cX7_init 207 = .ok (.bipush 32, 2) := by decide +kernel
theorem dX7_init_209 : decode cX7_init 209 = .ok (.newarray .int, 2) := by decide +kernel
theorem dX7_init_211 : decode cX7_init 211 = .ok (.putfield 90, 3) := by decide +kernel
theorem dX7_init_214 : decode cX7_init 214 = .ok (.return_, 1) := by decide +kernel
theorem dX7_in_0 : decode cX7_in 0 = .ok (.lload_n 0, 1) := by decide +kernel
theorem dX7_in_1 : decode cX7_in 1 = .ok (.lload_n 2, 1) := by decide +kernel
theorem dX7_in_2 : decode cX7_in 2 = .ok (.lcmp, 1) := by decide +kernel
theorem dX7_in_3 : decode cX7_in 3 = .ok (.ifCond .lt 14, 3) := by decide +kernel
theorem dX7_in_6 : decode cX7_in 6 = .ok (.lload_n 0, 1) := by decide +kernel
theorem dX7_in_7 : decode cX7_in 7 = .ok (.lload 4, 2) := by decide +kernel
theorem dX7_in_9 : decode cX7_in 9 = .ok (.lcmp, 1) := by decide +kernel
theorem dX7_in_10 : decode cX7_in 10 = .ok (.ifCond .gt 7, 3) := by decide +kernel
theorem dX7_in_13 : decode cX7_in 13 = .ok (.iconst 1, 1) := by decide +kernel
theorem dX7_in_14 : decode cX7_in 14 = .ok (.goto 4, 3) := by decide +kernel
theorem dX7_in_17 : decode cX7_in 17 = .ok (.iconst 0, 1) := by decide +kernel
theorem dX7_in_18 : decode cX7_in 18 = .ok (.ireturn, 1) := by decide +kernel
theorem dX7_isPart_0 : decode cX7_isPart 0 = .ok (.iload_n 1, 1) := by decide +kernel
theorem dX7_isPart_1 : decode cX7_isPart 1 = .ok (.i2l, 1) := by decide +kernel
theorem dX7_isPart_2 : decode cX7_isPart 2 = .ok (.lconst 0, 1) := by decide +kernel
theorem dX7_isPart_3 : decode cX7_isPart 3 = .ok (.aload_n 0, 1) := by decide +kernel
theorem dX7_isPart_4 : decode cX7_isPart 4 = .ok (.getfield 93, 3) := by decide +kernel
theorem dX7_isPart_7 : decode cX7_isPart 7 = .ok (.iconst 1, 1) := by decide +kernel
theorem dX7_isPart_8 : decode cX7_isPart 8 = .ok (.isub, 1) := by decide +kernel
theorem dX7_isPart_9 : decode cX7_isPart 9 = .ok (.i2l, 1) := by decide +kernel
theorem dX7_isPart_10 : decode cX7_isPart 10 = .ok (.invokestatic 96, 3) := by decide +kernel
theorem dX7_isPart_13 : decode cX7_isPart 13 = .ok (.ireturn, 1) := by decide +kernel
theorem dX7_areWell_0 : decode cX7_areWell 0 = .ok (.iload_n 0, 1) := by decide +kernel
theorem dX7_areWell_1 : decode cX7_areWell 1 = .ok (.i2l, 1) := by decide +kernel
theorem dX7_areWell_2 : decode cX7_areWell 2 = .ok (.lconst 1, 1) := by decide +kernel
theorem dX7_areWell_3 : decode cX7_areWell 3 = .ok (.ldc2_w 100, 3) := by decide +kernel
theorem dX7_areWell_6 : decode cX7_areWell 6 = .ok (.invokestatic 96, 3) := by decide +kernel
theorem dX7_areWell_9 : decode cX7_areWell 9 = .ok (.ifCond .eq 31, 3) := by decide +kernel
theorem dX7_areWell_12 : decode cX7_areWell 12 = .ok (.iload_n 1, 1) := by decide +kernel
theorem dX7_areWell_13 : decode cX7_areWell 13 = .ok (.i2l, 1) := by decide +kernel
theorem dX7_areWell_14 : decode cX7_areWell 14 = .ok (.lconst 0, 1) := by decide +kernel
theorem dX7_areWell_15 : decode cX7_areWell 15 = .ok (.ldc2_w 102, 3) := by decide +kernel
theorem dX7_areWell_18 : decode cX7_areWell 18 = .ok (.invokestatic 96, 3) := by decide +kernel
theorem dX7_areWell_21 : decode cX7_areWell 21 = .ok (.ifCond .eq 19, 3) := by decide +kernel
theorem dX7_areWell_24 : decode cX7_areWell 24 = .ok (.iload_n 2, 1) := by decide +kernel
theorem dX7_areWell_25 : decode cX7_areWell 25 = .ok (.i2l, 1) := by decide +kernel
theorem dX7_areWell_26 : decode cX7_areWell 26 = .ok (.lconst 1, 1) := by decide +kernel
theorem dX7_areWell_27 : decode cX7_areWell 27 = .ok (.ldc2_w 104, 3) := by decide +kernel
theorem dX7_areWell_30 : decode cX7_areWell 30 = .ok (.invokestatic 96, 3) := by decide +kernel
theorem dX7_areWell_33 : decode cX7_areWell 33 = .ok (.ifCond .eq 7, 3) := by decide +kernel
theorem dX7_areWell_36 : decode cX7_areWell 36 = .ok (.iconst 1, 1) := by decide +kernel
theorem dX7_areWell_37 : decode cX7_areWell 37 = .ok (.goto 4, 3) := by decide +kernel
theorem dX7_areWell_40 : decode cX7_areWell 40 = .ok (.iconst 0, 1) := by decide +kernel
theorem dX7_areWell_41 : decode cX7_areWell 41 = .ok (.ireturn, 1) := by decide +kernel
theorem dX7_comes_0 : decode cX7_comes 0 = .ok (.aload_n 0, 1) := by decide +kernel
theorem dX7_comes_1 : decode cX7_comes 1 = .ok (.getfield 7, 3) := by decide +kernel
theorem dX7_comes_4 : decode cX7_comes 4 = .ok (.aload_n 0, 1) := by decide +kernel
theorem dX7_comes_5 : decode cX7_comes 5 = .ok (.getfield 93, 3) := by decide +kernel
theorem dX7_comes_8 : decode cX7_comes 8 = .ok (.iload_n 1, 1) := by decide +kernel
theorem dX7_comes_9 : decode cX7_comes 9 = .ok (.iastore, 1) := by decide +kernel
theorem dX7_comes_10 : decode cX7_comes 10 = .ok (.aload_n 0, 1) := by decide +kernel
theorem dX7_comes_11 : decode cX7_comes 11 = .ok (.getfield 13, 3) := by decide +kernel
theorem dX7_comes_14 : decode cX7_comes 14 = .ok (.aload_n 0, 1) := by decide +kernel
theorem dX7_comes_15 : decode cX7_comes 15 = .ok (.getfield 93, 3) := by decide +kernel
theorem dX7_comes_18 : decode cX7_comes 18 = .ok (.iload_n 2, 1) := by decide +kernel
theorem dX7_comes_19 : decode cX7_comes 19 = .ok (.iastore, 1) := by decide +kernel
theorem dX7_comes_20 : decode cX7_comes 20 = .ok (.aload_n 0, 1) := by decide +kernel
theorem dX7_comes_21 : decode cX7_comes 21 = .ok (.getfield 16, 3) := by decide +kernel
theorem dX7_comes_24 : decode cX7_comes 24 = .ok (.aload_n 0, 1) := by decide +kernel
theorem dX7_comes_25 : decode cX7_comes 25 = .ok (.getfield 93, 3) := by decide +kernel
theorem dX7_comes_28 : decode cX7_comes 28 = .ok (.iload_n 3, 1) := by decide +kernel
theorem dX7_comes_29 : decode cX7_comes 29 = .ok (.iastore, 1) := by decide +kernel
theorem dX7_comes_30 : decode cX7_comes 30 = .ok (.aload_n 0, 1) := by decide +kernel
theorem dX7_comes_31 : decode cX7_comes 31 = .ok (.getfield 19, 3) := by decide +kernel
theorem dX7_comes_34 : decode cX7_comes 34 = .ok (.aload_n 0, 1) := by decide +kernel
theorem dX7_comes_35 : decode cX7_comes 35 = .ok (.getfield 93, 3) := by decide +kernel
theorem dX7_comes_38 : decode cX7_comes 38 = .ok (.iload 4, 2) := by decide +kernel
theorem dX7_comes_40 : decode cX7_comes 40 = .ok (.iastore, 1) := by decide +kernel
theorem dX7_comes_41 : decode cX7_comes 41 = .ok (.aload_n 0, 1) := by decide +kernel
theorem dX7_comes_42 : decode cX7_comes 42 = .ok (.getfield 22, 3) := by decide +kernel
theorem dX7_comes_45 : decode cX7_comes 45 = .ok (.aload_n 0, 1) := by decide +kernel
theorem dX7_comes_46 : decode cX7_comes 46 = .ok (.getfield 93, 3) := by decide +kernel
theorem dX7_comes_49 : decode cX7_comes 49 = .ok (.iconst 0, 1) := by decide +kernel
theorem dX7_comes_50 : decode cX7_comes 50 = .ok (.iastore, 1) := by decide +kernel
theorem dX7_comes_51 : decode cX7_comes 51 = .ok (.aload_n 0, 1) := by decide +kernel
theorem dX7_comes_52 : decode cX7_comes 52 = .ok (.getfield 25, 3) := by decide +kernel
theorem dX7_comes_55 : decode cX7_comes 55 = .ok (.aload_n 0, 1) := by decide +kernel
theorem dX7_comes_56 : decode cX7_comes 56 = .ok (.getfield 93, 3) := by decide +kernel
theorem dX7_comes_59 : decode cX7_comes 59 = .ok (.bipush (-4), 2) := by decide +kernel
theorem dX7_comes_61 : decode cX7_comes 61 = .ok (.iastore, 1) := by decide +kernel
theorem dX7_comes_62 : decode cX7_comes 62 = .ok (.aload_n 0, 1) := by decide +kernel
theorem dX7_comes_63 : decode cX7_comes 63 = .ok (.dup, 1) := by decide +kernel
theorem dX7_comes_64 : decode cX7_comes 64 = .ok (.getfield 93, 3) := by decide +kernel
theorem dX7_comes_67 : decode cX7_comes 67 = .ok (.iconst 1, 1) := by decide +kernel
theorem dX7_comes_68 : decode cX7_comes 68 = .ok (.iadd, 1) := by decide +kernel
theorem dX7_comes_69 : decode cX7_comes 69 = .ok (.putfield 93, 3) := by decide +kernel
theorem dX7_comes_72 : decode cX7_comes 72 = .ok (.aload_n 0, 1) := by decide +kernel
theorem dX7_comes_73 : decode cX7_comes 73 = .ok (.getfield 93, 3) := by decide +kernel
theorem dX7_comes_76 : decode cX7_comes 76 = .ok (.iconst 1, 1) := by decide +kernel
theorem dX7_comes_77 : decode cX7_comes 77 = .ok (.isub, 1) := by decide +kernel
theorem dX7_comes_78 : decode cX7_comes 78 = .ok (.ireturn, 1) := by decide +kernel
theorem dX7_part_0 : decode cX7_part 0 = .ok (.iload_n 1, 1) := by decide +kernel
theorem dX7_part_1 : decode cX7_part 1 = .ok (.iload_n 2, 1) := by decide +kernel
theorem dX7_part_2 : decode cX7_part 2 = .ok (.iload_n 3, 1) := by decide +kernel
theorem dX7_part_3 : decode cX7_part 3 = .ok (.invokestatic 106, 3) := by decide +kernel
theorem dX7_part_6 : decode cX7_part 6 = .ok (.ifCond .ne 5, 3) := by decide +kernel
theorem dX7_part_9 : decode cX7_part 9 = .ok (.iconst (-1), 1) := by decide +kernel
theorem dX7_part_10 : decode cX7_part 10 = .ok (.ireturn, 1) := by decide +kernel
theorem dX7_part_11 : decode cX7_part 11 = .ok (.aload_n 0, 1) := by decide +kernel
theorem dX7_part_12 : decode cX7_part 12 = .ok (.getfield 93, 3) := by decide +kernel
theorem dX7_part_15 : decode cX7_part 15 = .ok (.bipush 40, 2) := by decide +kernel
theorem dX7_part_17 : decode cX7_part 17 = .ok (.if_icmp .ne 8, 3) := by decide +kernel
theorem dX7_part_20 : decode cX7_part 20 = .ok (.bipush (-3), 2) := by decide +kernel
theorem dX7_part_22 : decode cX7_part 22 = .ok (.goto 11, 3) := by decide +kernel
theorem dX7_part_25 : decode cX7_part 25 = .ok (.aload_n 0, 1) := by decide +kernel
theorem dX7_part_26 : decode cX7_part 26 = .ok (.iload_n 1, 1) := by decide +kernel
theorem dX7_part_27 : decode cX7_part 27 = .ok (.iload_n 2, 1) := by decide +kernel
theorem dX7_part_28 : decode cX7_part 28 = .ok (.iload_n 3, 1) := by decide +kernel
theorem dX7_part_29 : decode cX7_part 29 = .ok (.iconst 0, 1) := by decide +kernel
theorem dX7_part_30 : decode cX7_part 30 = .ok (.invokevirtual 110, 3) := by decide +kernel
theorem dX7_part_33 : decode cX7_part 33 = .ok (.ireturn, 1) := by decide +kernel
theorem dX7_need_0 : decode cX7_need 0 = .ok (.aload_n 0, 1) := by decide +kernel
theorem dX7_need_1 : decode cX7_need 1 = .ok (.iload_n 1, 1) := by decide +kernel
theorem dX7_need_2 : decode cX7_need 2 = .ok (.invokevirtual 114, 3) := by decide +kernel
theorem dX7_need_5 : decode cX7_need 5 = .ok (.ifCond .eq 15, 3) := by decide +kernel
theorem dX7_need_8 : decode cX7_need 8 = .ok (.iload_n 2, 1) := by decide +kernel
theorem dX7_need_9 : decode cX7_need 9 = .ok (.i2l, 1) := by decide +kernel
theorem dX7_need_10 : decode cX7_need 10 = .ok (.lconst 0, 1) := by decide +kernel
theorem dX7_need_11 : decode cX7_need 11 = .ok (.ldc2_w 118, 3) := by decide +kernel
theorem dX7_need_14 : decode cX7_need 14 = .ok (.invokestatic 96, 3) := by decide +kernel
theorem dX7_need_17 : decode cX7_need 17 = .ok (.ifCond .ne 5, 3) := by decide +kernel
theorem dX7_need_20 : decode cX7_need 20 = .ok (.iconst (-1), 1) := by decide +kernel
theorem dX7_need_21 : decode cX7_need 21 = .ok (.ireturn, 1) := by decide +kernel
theorem dX7_need_22 : decode cX7_need 22 = .ok (.aload_n 0, 1) := by decide +kernel
theorem dX7_need_23 : decode cX7_need 23 = .ok (.getfield 19, 3) := by decide +kernel
theorem dX7_need_26 : decode cX7_need 26 = .ok (.iload_n 1, 1) := by decide +kernel
theorem dX7_need_27 : decode cX7_need 27 = .ok (.iaload, 1) := by decide +kernel
theorem dX7_need_28 : decode cX7_need 28 = .ok (.istore_n 3, 1) := by decide +kernel
theorem dX7_need_29 : decode cX7_need 29 = .ok (.aload_n 0, 1) := by decide +kernel
theorem dX7_need_30 : decode cX7_need 30 = .ok (.getfield 19, 3) := by decide +kernel
theorem dX7_need_33 : decode cX7_need 33 = .ok (.iload_n 1, 1) := by decide +kernel
theorem dX7_need_34 : decode cX7_need 34 = .ok (.iload_n 2, 1) := by decide +kernel
theorem dX7_need_35 : decode cX7_need 35 = .ok (.iastore, 1) := by decide +kernel
theorem dX7_need_36 : decode cX7_need 36 = .ok (.iload_n 3, 1) := by decide +kernel
theorem dX7_need_37 : decode cX7_need 37 = .ok (.ireturn, 1) := by decide +kernel
theorem dX7_fits_0 : decode cX7_fits 0 = .ok (.bipush (-4), 2) := by decide +kernel
theorem dX7_fits_2 : decode cX7_fits 2 = .ok (.istore_n 2, 1) := by decide +kernel
theorem dX7_fits_3 : decode cX7_fits 3 = .ok (.iconst (-1), 1) := by decide +kernel
theorem dX7_fits_4 : decode cX7_fits 4 = .ok (.istore_n 3, 1) := by decide +kernel
theorem dX7_fits_5 : decode cX7_fits 5 = .ok (.iconst 1, 1) := by decide +kernel
theorem dX7_fits_6 : decode cX7_fits 6 = .ok (.istore 4, 2) := by decide +kernel
theorem dX7_fits_8 : decode cX7_fits 8 = .ok (.iconst 0, 1) := by decide +kernel
theorem dX7_fits_9 : decode cX7_fits 9 = .ok (.istore 5, 2) := by decide +kernel
theorem dX7_fits_11 : decode cX7_fits 11 = .ok (.iload 5, 2) := by decide +kernel
theorem dX7_fits_13 : decode cX7_fits 13 = .ok (.aload_n 0, 1) := by decide +kernel
theorem dX7_fits_14 : decode cX7_fits 14 = .ok (.getfield 120, 3) := by decide +kernel
theorem dX7_fits_17 : decode cX7_fits 17 = .ok (.if_icmp .ge 81, 3) := by decide +kernel
theorem dX7_fits_20 : decode cX7_fits 20 = .ok (.iload_n 1, 1) := by decide +kernel
theorem dX7_fits_21 : decode cX7_fits 21 = .ok (.iload 5, 2) := by decide +kernel
theorem dX7_fits_23 : decode cX7_fits 23 = .ok (.ishr, 1) := by decide +kernel
theorem dX7_fits_24 : decode cX7_fits 24 = .ok (.iconst 1, 1) := by decide +kernel
theorem dX7_fits_25 : decode cX7_fits 25 = .ok (.iand, 1) := by decide +kernel
theorem dX7_fits_26 : decode cX7_fits 26 = .ok (.iconst 1, 1) := by decide +kernel
theorem dX7_fits_27 : decode cX7_fits 27 = .ok (.if_icmp .ne 65, 3) := by decide +kernel
theorem dX7_fits_30 : decode cX7_fits 30 = .ok (.iload_n 2, 1) := by decide +kernel
theorem dX7_fits_31 : decode cX7_fits 31 = .ok (.aload_n 0, 1) := by decide +kernel
theorem dX7_fits_32 : decode cX7_fits 32 = .ok (.getfield 7, 3) := by decide +kernel
theorem dX7_fits_35 : decode cX7_fits 35 = .ok (.aload_n 0, 1) := by decide +kernel
theorem dX7_fits_36 : decode cX7_fits 36 = .ok (.getfield 60, 3) := by decide +kernel
theorem dX7_fits_39 : decode cX7_fits 39 = .ok (.iload 5, 2) := by decide +kernel
theorem dX7_fits_41 : decode cX7_fits 41 = .ok (.iaload, 1) := by decide +kernel
theorem dX7_fits_42 : decode cX7_fits 42 = .ok (.iaload, 1) := by decide +kernel
theorem dX7_fits_43 : decode cX7_fits 43 = .ok (.iconst 4, 1) := by decide +kernel
theorem dX7_fits_44 : decode cX7_fits 44 = .ok (.iadd, 1) := by decide +kernel
theorem dX7_fits_45 : decode cX7_fits 45 = .ok (.iadd, 1) := by decide +kernel
theorem dX7_fits_46 : decode cX7_fits 46 = .ok (.istore_n 2, 1) := by decide +kernel
theorem dX7_fits_47 : decode cX7_fits 47 = .ok (.iload 4, 2) := by decide +kernel
theorem dX7_fits_49 : decode cX7_fits 49 = .ok (.ifCond .eq 27, 3) := by decide +kernel
theorem dX7_fits_52 : decode cX7_fits 52 = .ok (.iload_n 3, 1) := by decide +kernel
theorem dX7_fits_53 : decode cX7_fits 53 = .ok (.ifCond .lt 19, 3) := by decide +kernel
theorem dX7_fits_56 : decode cX7_fits 56 = .ok (.aload_n 0, 1) := by decide +kernel
theorem dX7_fits_57 : decode cX7_fits 57 = .ok (.getfield 13, 3) := by decide +kernel
theorem dX7_fits_60 : decode cX7_fits 60 = .ok (.aload_n 0, 1) := by decide +kernel
theorem dX7_fits_61 : decode cX7_fits 61 = .ok (.getfield 60, 3) := by decide +kernel
theorem dX7_fits_64 : decode cX7_fits 64 = .ok (.iload 5, 2) := by decide +kernel
theorem dX7_fits_66 : decode cX7_fits 66 = .ok (.iaload, 1) := by decide +kernel
theorem dX7_fits_67 : decode cX7_fits 67 = .ok (.iaload, 1) := by decide +kernel
theorem dX7_fits_68 : decode cX7_fits 68 = .ok (.iload_n 3, 1) := by decide +kernel
theorem dX7_fits_69 : decode cX7_fits 69 = .ok (.if_icmp .ne 7, 3) := by decide +kernel
theorem dX7_fits_72 : decode cX7_fits 72 = .ok (.iconst 1, 1) := by decide +kernel
theorem dX7_fits_73 : decode cX7_fits 73 = .ok (.goto 4, 3) := by decide +kernel
theorem dX7_fits_76 : decode cX7_fits 76 = .ok (.iconst 0, 1) := by decide +kernel
theorem dX7_fits_77 : decode cX7_fits 77 = .ok (.istore 4, 2) := by decide +kernel
theorem dX7_fits_79 : decode cX7_fits 79 = .ok (.aload_n 0, 1) := by decide +kernel
theorem dX7_fits_80 : decode cX7_fits 80 = .ok (.getfield 13, 3) := by decide +kernel
theorem dX7_fits_83 : decode cX7_fits 83 = .ok (.aload_n 0, 1) := by decide +kernel
theorem dX7_fits_84 : decode cX7_fits 84 = .ok (.getfield 60, 3) := by decide +kernel
theorem dX7_fits_87 : decode cX7_fits 87 = .ok (.iload 5, 2) := by decide +kernel
theorem dX7_fits_89 : decode cX7_fits 89 = .ok (.iaload, 1) := by decide +kernel
theorem dX7_fits_90 : decode cX7_fits 90 = .ok (.iaload, 1) := by decide +kernel
theorem dX7_fits_91 : decode cX7_fits 91 = .ok (.istore_n 3, 1) := by decide +kernel
theorem dX7_fits_92 : decode cX7_fits 92 = .ok (.iinc 5 1, 3) := by decide +kernel
theorem dX7_fits_95 : decode cX7_fits 95 = .ok (.goto (-84), 3) := by decide +kernel
theorem dX7_fits_98 : decode cX7_fits 98 = .ok (.iload 4, 2) := by decide +kernel
theorem dX7_fits_100 : decode cX7_fits 100 = .ok (.ifCond .eq 14, 3) := by decide +kernel
theorem dX7_fits_103 : decode cX7_fits 103 = .ok (.iload_n 2, 1) := by decide +kernel
theorem dX7_fits_104 : decode cX7_fits 104 = .ok (.sipush 300, 3) := by decide +kernel
theorem dX7_fits_107 : decode cX7_fits 107 = .ok (.if_icmp .gt 7, 3) := by decide +kernel
theorem dX7_fits_110 : decode cX7_fits 110 = .ok (.iconst 1, 1) := by decide +kernel
theorem dX7_fits_111 : decode cX7_fits 111 = .ok (.goto 4, 3) := by decide +kernel
theorem dX7_fits_114 : decode cX7_fits 114 = .ok (.iconst 0, 1) := by decide +kernel
theorem dX7_fits_115 : decode cX7_fits 115 = .ok (.ireturn, 1) := by decide +kernel
theorem dX7_fewestCasts_0 : decode cX7_fewestCasts 0 = .ok (.iconst 1, 1) := by decide +kernel
theorem dX7_fewestCasts_1 : decode cX7_fewestCasts 1 = .ok (.istore_n 1, 1) := by decide +kernel
theorem dX7_fewestCasts_2 : decode cX7_fewestCasts 2 = .ok (.iload_n 1, 1) := by decide +kernel
theorem dX7_fewestCasts_3 : decode cX7_fewestCasts 3 = .ok (.iconst 1, 1) := by decide +kernel
theorem dX7_fewestCasts_4 : decode cX7_fewestCasts 4 = .ok (.aload_n 0, 1) := by decide +kernel
theorem dX7_fewestCasts_5 : decode cX7_fewestCasts 5 = .ok (.getfield 120, 3) := by decide +kernel
theorem dX7_fewestCasts_8 : decode cX7_fewestCasts 8 = .ok (.ishl, 1) := by decide +kernel
theorem dX7_fewestCasts_9 : decode cX7_fewestCasts 9 = .ok (.if_icmp .ge 90, 3) := by decide +kernel
theorem dX7_fewestCasts_12 : decode cX7_fewestCasts 12 = .ok (.bipush 99, 2) := by decide +kernel
theorem dX7_fewestCasts_14 : decode cX7_fewestCasts 14 = .ok (.istore_n 2, 1) := by decide +kernel
theorem dX7_fewestCasts_15 : decode cX7_fewestCasts 15 = .ok (.iload_n 1, 1) := by decide +kernel
theorem dX7_fewestCasts_16 : decode cX7_fewestCasts 16 = .ok (.iload_n 1, 1) := by decide +kernel
theorem dX7_fewestCasts_17 : decode cX7_fewestCasts 17 = .ok (.ineg, 1) := by decide +kernel
theorem dX7_fewestCasts_18 : decode cX7_fewestCasts 18 = .ok (.iand, 1) := by decide +kernel
theorem dX7_fewestCasts_19 : decode cX7_fewestCasts 19 = .ok (.istore_n 3, 1) := by decide +kernel
theorem dX7_fewestCasts_20 : decode cX7_fewestCasts 20 = .ok (.iload_n 1, 1) := by decide +kernel
theorem dX7_fewestCasts_21 : decode cX7_fewestCasts 21 = .ok (.istore 4, 2) := by decide +kernel
theorem dX7_fewestCasts_23 : decode cX7_fewestCasts 23 = .ok (.iload 4, 2) := by decide +kernel
theorem dX7_fewestCasts_25 : decode cX7_fewestCasts 25 = .ok (.ifCond .le 61, 3) := by decide +kernel
theorem dX7_fewestCasts_28 : decode cX7_fewestCasts 28 = .ok (.iload 4, 2) := by decide +kernel
theorem dX7_fewestCasts_30 : decode cX7_fewestCasts 30 = .ok (.iload_n 3, 1) := by decide +kernel
theorem dX7_fewestCasts_31 : decode cX7_fewestCasts 31 = .ok (.iand, 1) := by decide +kernel
theorem dX7_fewestCasts_32 : decode cX7_fewestCasts 32 = .ok (.ifCond .le 43, 3) := by decide +kernel
theorem dX7_fewestCasts_35 : decode cX7_fewestCasts 35 = .ok (.aload_n 0, 1) := by decide +kernel
theorem dX7_fewestCasts_36 : decode cX7_fewestCasts 36 = .ok (.getfield 63, 3) := by decide +kernel
theorem dX7_fewestCasts_39 : decode cX7_fewestCasts 39 = .ok (.iload_n 1, 1) := by decide +kernel
theorem dX7_fewestCasts_40 : decode cX7_fewestCasts 40 = .ok (.iload 4, 2) := by decide +kernel
theorem dX7_fewestCasts_42 : decode cX7_fewestCasts 42 = .ok (.iconst (-1), 1) := by decide +kernel
theorem dX7_fewestCasts_43 : decode cX7_fewestCasts 43 = .ok (.ixor, 1) := by decide +kernel
theorem dX7_fewestCasts_44 : decode cX7_fewestCasts 44 = .ok (.iand, 1) := by decide +kernel
theorem dX7_fewestCasts_45 : decode cX7_fewestCasts 45 = .ok (.iaload, 1) := by decide +kernel
theorem dX7_fewestCasts_46 : decode cX7_fewestCasts 46 = .ok (.iconst 1, 1) := by decide +kernel
theorem dX7_fewestCasts_47 : decode cX7_fewestCasts 47 = .ok (.iadd, 1) := by decide +kernel
theorem dX7_fewestCasts_48 : decode cX7_fewestCasts 48 = .ok (.iload_n 2, 1) := by decide +kernel
theorem dX7_fewestCasts_49 : decode cX7_fewestCasts 49 = .ok (.if_icmp .ge 26, 3) := by decide +kernel
theorem dX7_fewestCasts_52 : decode cX7_fewestCasts 52 = .ok (.aload_n 0, 1) := by decide +kernel
theorem dX7_fewestCasts_53 : decode cX7_fewestCasts 53 = .ok (.iload 4, 2) := by decide +kernel
theorem dX7_fewestCasts_55 : decode cX7_fewestCasts 55 = .ok (.invokevirtual 123, 3) := by decide +kernel
theorem dX7_fewestCasts_58 : decode cX7_fewestCasts 58 = .ok (.ifCond .eq 17, 3) := by decide +kernel
theorem dX7_fewestCasts_61 : decode cX7_fewestCasts 61 = .ok (.aload_n 0, 1) := by decide +kernel
theorem dX7_fewestCasts_62 : decode cX7_fewestCasts 62 = .ok (.getfield 63, 3) := by decide +kernel
theorem dX7_fewestCasts_65 : decode cX7_fewestCasts 65 = .ok (.iload_n 1, 1) := by decide +kernel
theorem dX7_fewestCasts_66 : decode cX7_fewestCasts 66 = .ok (.iload 4, 2) := by decide +kernel
theorem dX7_fewestCasts_68 : decode cX7_fewestCasts 68 = .ok (.iconst (-1), 1) := by decide +kernel
theorem dX7_fewestCasts_69 : decode cX7_fewestCasts 69 = .ok (.ixor, 1) := by decide +kernel
theorem dX7_fewestCasts_70 : decode cX7_fewestCasts 70 = .ok (.iand, 1) := by decide +kernel
theorem dX7_fewestCasts_71 : decode cX7_fewestCasts 71 = .ok (.iaload, 1) := by decide +kernel
theorem dX7_fewestCasts_72 : decode cX7_fewestCasts 72 = .ok (.iconst 1, 1) := by decide +kernel
theorem dX7_fewestCasts_73 : decode cX7_fewestCasts 73 = .ok (.iadd, 1) := by decide +kernel
theorem dX7_fewestCasts_74 : decode cX7_fewestCasts 74 = .ok (.istore_n 2, 1) := by decide +kernel
theorem dX7_fewestCasts_75 : decode cX7_fewestCasts 75 = .ok (.iload 4, 2) := by decide +kernel
theorem dX7_fewestCasts_77 : decode cX7_fewestCasts 77 = .ok (.iconst 1, 1) := by decide +kernel
theorem dX7_fewestCasts_78 : decode cX7_fewestCasts 78 = .ok (.isub, 1) := by decide +kernel
theorem dX7_fewestCasts_79 : decode cX7_fewestCasts 79 = .ok (.iload_n 1, 1) := by decide +kernel
theorem dX7_fewestCasts_80 : decode cX7_fewestCasts 80 = .ok (.iand, 1) := by decide +kernel
theorem dX7_fewestCasts_81 : decode cX7_fewestCasts 81 = .ok (.istore 4, 2) := by decide +kernel
theorem dX7_fewestCasts_83 : decode cX7_fewestCasts 83 = .ok (.goto (-60), 3) := by decide +kernel
theorem dX7_fewestCasts_86 : decode cX7_fewestCasts 86 = .ok (.aload_n 0, 1) := by decide +kernel
theorem dX7_fewestCasts_87 : decode cX7_fewestCasts 87 = .ok (.getfield 63, 3) := by decide +kernel
theorem dX7_fewestCasts_90 : decode cX7_fewestCasts 90 = .ok (.iload_n 1, 1) := by decide +kernel
theorem dX7_fewestCasts_91 : decode cX7_fewestCasts 91 = .ok (.iload_n 2, 1) := by decide +kernel
theorem dX7_fewestCasts_92 : decode cX7_fewestCasts 92 = .ok (.iastore, 1) := by decide +kernel
theorem dX7_fewestCasts_93 : decode cX7_fewestCasts 93 = .ok (.iinc 1 1, 3) := by decide +kernel
theorem dX7_fewestCasts_96 : decode cX7_fewestCasts 96 = .ok (.goto (-94), 3) := by decide +kernel
theorem dX7_fewestCasts_99 : decode cX7_fewestCasts 99 = .ok (.aload_n 0, 1) := by decide +kernel
theorem dX7_fewestCasts_100 : decode cX7_fewestCasts 100 = .ok (.getfield 63, 3) := by decide +kernel
theorem dX7_fewestCasts_103 : decode cX7_fewestCasts 103 = .ok (.iconst 1, 1) := by decide +kernel
theorem dX7_fewestCasts_104 : decode cX7_fewestCasts 104 = .ok (.aload_n 0, 1) := by decide +kernel
theorem dX7_fewestCasts_105 : decode cX7_fewestCasts 105 = .ok (.getfield 120, 3) := by decide +kernel
theorem dX7_fewestCasts_108 : decode cX7_fewestCasts 108 = .ok (.ishl, 1) := by decide +kernel
theorem dX7_fewestCasts_109 : decode cX7_fewestCasts 109 = .ok (.iconst 1, 1) := by decide +kernel
theorem dX7_fewestCasts_110 : decode cX7_fewestCasts 110 = .ok (.isub, 1) := by decide +kernel
theorem dX7_fewestCasts_111 : decode cX7_fewestCasts 111 = .ok (.iaload, 1) := by decide +kernel
theorem dX7_fewestCasts_112 : decode cX7_fewestCasts 112 = .ok (.ireturn, 1) := by decide +kernel
theorem dX7_plainCasts_0 : decode cX7_plainCasts 0 = .ok (.iconst 0, 1) := by decide +kernel
theorem dX7_plainCasts_1 : decode cX7_plainCasts 1 = .ok (.istore_n 1, 1) := by decide +kernel
theorem dX7_plainCasts_2 : decode cX7_plainCasts 2 = .ok (.iconst 0, 1) := by decide +kernel
theorem dX7_plainCasts_3 : decode cX7_plainCasts 3 = .ok (.istore_n 2, 1) := by decide +kernel
theorem dX7_plainCasts_4 : decode cX7_plainCasts 4 = .ok (.iload_n 2, 1) := by decide +kernel
theorem dX7_plainCasts_5 : decode cX7_plainCasts 5 = .ok (.bipush 8, 2) := by decide +kernel
theorem dX7_plainCasts_7 : decode cX7_plainCasts 7 = .ok (.if_icmp .ge 262, 3) := by decide +kernel
theorem dX7_plainCasts_10 : decode cX7_plainCasts 10 = .ok (.iconst 0, 1) := by decide +kernel
theorem dX7_plainCasts_11 : decode cX7_plainCasts 11 = .ok (.istore_n 3, 1) := by decide +kernel
theorem dX7_plainCasts_12 : decode cX7_plainCasts 12 = .ok (.iconst 0, 1) := by decide +kernel
theorem dX7_plainCasts_13 : decode cX7_plainCasts 13 = .ok (.istore 4, 2) := by decide +kernel
theorem dX7_plainCasts_15 : decode cX7_plainCasts 15 = .ok (.iconst 1, 1) := by decide +kernel
theorem dX7_plainCasts_16 : decode cX7_plainCasts 16 = .ok (.istore 5, 2) := by decide +kernel
theorem dX7_plainCasts_18 : decode cX7_plainCasts 18 = .ok (.iload 5, 2) := by decide +kernel
theorem dX7_plainCasts_20 : decode cX7_plainCasts 20 = .ok (.ifCond .eq 239, 3) := by decide +kernel
theorem dX7_plainCasts_23 : decode cX7_plainCasts 23 = .ok (.iconst (-1), 1) := by decide +kernel
theorem dX7_plainCasts_24 : decode cX7_plainCasts 24 = .ok (.istore 6, 2) := by decide +kernel
theorem dX7_plainCasts_26 : decode cX7_plainCasts 26 = .ok (.iconst 0, 1) := by decide +kernel
theorem dX7_plainCasts_27 : decode cX7_plainCasts 27 = .ok (.istore 7, 2) := by decide +kernel
theorem dX7_plainCasts_29 : decode cX7_plainCasts 29 = .ok (.iload 7, 2) := by decide +kernel
theorem dX7_plainCasts_31 : decode cX7_plainCasts 31 = .ok (.aload_n 0, 1) := by decide +kernel
theorem dX7_plainCasts_32 : decode cX7_plainCasts 32 = .ok (.getfield 120, 3) := by decide +kernel
theorem dX7_plainCasts_35 : decode cX7_plainCasts 35 = .ok (.if_icmp .ge 88, 3) := by decide +kernel
theorem dX7_plainCasts_38 : decode cX7_plainCasts 38 = .ok (.aload_n 0, 1) := by decide +kernel
theorem dX7_plainCasts_39 : decode cX7_plainCasts 39 = .ok (.getfield 13, 3) := by decide +kernel
theorem dX7_plainCasts_42 : decode cX7_plainCasts 42 = .ok (.aload_n 0, 1) := by decide +kernel
theorem dX7_plainCasts_43 : decode cX7_plainCasts 43 = .ok (.getfield 60, 3) := by decide +kernel
theorem dX7_plainCasts_46 : decode cX7_plainCasts 46 = .ok (.iload 7, 2) := by decide +kernel
theorem dX7_plainCasts_48 : decode cX7_plainCasts 48 = .ok (.iaload, 1) := by decide +kernel
theorem dX7_plainCasts_49 : decode cX7_plainCasts 49 = .ok (.iaload, 1) := by decide +kernel
theorem dX7_plainCasts_50 : decode cX7_plainCasts 50 = .ok (.iload_n 2, 1) := by decide +kernel
theorem dX7_plainCasts_51 : decode cX7_plainCasts 51 = .ok (.if_icmp .ne 17, 3) := by decide +kernel
theorem dX7_plainCasts_54 : decode cX7_plainCasts 54 = .ok (.iload 4, 2) := by decide +kernel
theorem dX7_plainCasts_56 : decode cX7_plainCasts 56 = .ok (.iload 7, 2) := by decide +kernel
theorem dX7_plainCasts_58 : decode cX7_plainCasts 58 = .ok (.ishr, 1) := by decide +kernel
theorem dX7_plainCasts_59 : decode cX7_plainCasts 59 = .ok (.iconst 1, 1) := by decide +kernel
theorem dX7_plainCasts_60 : decode cX7_plainCasts 60 = .ok (.iand, 1) := by decide +kernel
theorem dX7_plainCasts_61 : decode cX7_plainCasts 61 = .ok (.ifCond .ne 7, 3) := by decide +kernel
theorem dX7_plainCasts_64 : decode cX7_plainCasts 64 = .ok (.iconst 1, 1) := by decide +kernel
theorem dX7_plainCasts_65 : decode cX7_plainCasts 65 = .ok (.goto 4, 3) := by decide +kernel
theorem dX7_plainCasts_68 : decode cX7_plainCasts 68 = .ok (.iconst 0, 1) := by decide +kernel
theorem dX7_plainCasts_69 : decode cX7_plainCasts 69 = .ok (.istore 8, 2) := by decide +kernel
theorem dX7_plainCasts_71 : decode cX7_plainCasts 71 = .ok (.iload 8, 2) := by decide +kernel
theorem dX7_plainCasts_73 : decode cX7_plainCasts 73 = .ok (.ifCond .eq 40, 3) := by decide +kernel
theorem dX7_plainCasts_76 : decode cX7_plainCasts 76 = .ok (.iload 6, 2) := by decide +kernel
theorem dX7_plainCasts_78 : decode cX7_plainCasts 78 = .ok (.ifCond .lt 30, 3) := by decide +kernel
theorem dX7_plainCasts_81 : decode cX7_plainCasts 81 = .ok (.aload_n 0, 1) := by decide +kernel
theorem dX7_plainCasts_82 : decode cX7_plainCasts 82 = .ok (.getfield 7, 3) := by decide +kernel
theorem dX7_plainCasts_85 : decode cX7_plainCasts 85 = .ok (.aload_n 0, 1) := by decide +kernel
theorem dX7_plainCasts_86 : decode cX7_plainCasts 86 = .ok (.getfield 60, 3) := by decide +kernel
theorem dX7_plainCasts_89 : decode cX7_plainCasts 89 = .ok (.iload 7, 2) := by decide +kernel
theorem dX7_plainCasts_91 : decode cX7_plainCasts 91 = .ok (.iaload, 1) := by decide +kernel
theorem dX7_plainCasts_92 : decode cX7_plainCasts 92 = .ok (.iaload, 1) := by decide +kernel
theorem dX7_plainCasts_93 : decode cX7_plainCasts 93 = .ok (.aload_n 0, 1) := by decide +kernel
theorem dX7_plainCasts_94 : decode cX7_plainCasts 94 = .ok (.getfield 7, 3) := by decide +kernel
theorem dX7_plainCasts_97 : decode cX7_plainCasts 97 = .ok (.aload_n 0, 1) := by decide +kernel
theorem dX7_plainCasts_98 : decode cX7_plainCasts 98 = .ok (.getfield 60, 3) := by decide +kernel
theorem dX7_plainCasts_101 : decode cX7_plainCasts 101 = .ok (.iload 6, 2) := by decide +kernel
theorem dX7_plainCasts_103 : decode cX7_plainCasts 103 = .ok (.iaload, 1) := by decide +kernel
theorem dX7_plainCasts_104 : decode cX7_plainCasts 104 = .ok (.iaload, 1) := by decide +kernel
theorem dX7_plainCasts_105 : decode cX7_plainCasts 105 = .ok (.if_icmp .le 8, 3) := by decide +kernel
theorem dX7_plainCasts_108 : decode cX7_plainCasts 108 = .ok (.iload 7, 2) := by decide +kernel
theorem dX7_plainCasts_110 : decode cX7_plainCasts 110 = .ok (.goto 5, 3) := by decide +kernel
theorem dX7_plainCasts_113 : decode cX7_plainCasts 113 = .ok (.iload 6, 2) := by decide +kernel
theorem dX7_plainCasts_115 : decode cX7_plainCasts 115 = .ok (.istore 6, 2) := by decide +kernel
theorem dX7_plainCasts_117 : decode cX7_plainCasts 117 = .ok (.iinc 7 1, 3) := by decide +kernel
theorem dX7_plainCasts_120 : decode cX7_plainCasts 120 = .ok (.goto (-91), 3) := by decide +kernel
theorem dX7_plainCasts_123 : decode cX7_plainCasts 123 = .ok (.iload 6, 2) := by decide +kernel
theorem dX7_plainCasts_125 : decode cX7_plainCasts 125 = .ok (.ifCond .lt 7, 3) := by decide +kernel
theorem dX7_plainCasts_128 : decode cX7_plainCasts 128 = .ok (.iconst 1, 1) := by decide +kernel
theorem dX7_plainCasts_129 : decode cX7_plainCasts 129 = .ok (.goto 4, 3) := by decide +kernel
theorem dX7_plainCasts_132 : decode cX7_plainCasts 132 = .ok (.iconst 0, 1) := by decide +kernel
theorem dX7_plainCasts_133 : decode cX7_plainCasts 133 = .ok (.istore 5, 2) := by decide +kernel
theorem dX7_plainCasts_135 : decode cX7_plainCasts 135 = .ok (.iload 5, 2) := by decide +kernel
theorem dX7_plainCasts_137 : decode cX7_plainCasts 137 = .ok (.ifCond .eq 119, 3) := by decide +kernel
theorem dX7_plainCasts_140 : decode cX7_plainCasts 140 = .ok (.iload 4, 2) := by decide +kernel
theorem dX7_plainCasts_142 : decode cX7_plainCasts 142 = .ok (.iconst 1, 1) := by decide +kernel
theorem dX7_plainCasts_143 : decode cX7_plainCasts 143 = .ok (.iload 6, 2) := by decide +kernel
theorem dX7_plainCasts_145 : decode cX7_plainCasts 145 = .ok (.ishl, 1) := by decide +kernel
theorem dX7_plainCasts_146 : decode cX7_plainCasts 146 = .ok (.ior, 1) := by decide +kernel
theorem dX7_plainCasts_147 : decode cX7_plainCasts 147 = .ok (.istore 4, 2) := by decide +kernel
theorem dX7_plainCasts_149 : decode cX7_plainCasts 149 = .ok (.iconst 0, 1) := by decide +kernel
theorem dX7_plainCasts_150 : decode cX7_plainCasts 150 = .ok (.istore 7, 2) := by decide +kernel
theorem dX7_plainCasts_152 : decode cX7_plainCasts 152 = .ok (.iload 7, 2) := by decide +kernel
theorem dX7_plainCasts_154 : decode cX7_plainCasts 154 = .ok (.iload_n 3, 1) := by decide +kernel
theorem dX7_plainCasts_155 : decode cX7_plainCasts 155 = .ok (.if_icmp .ge 33, 3) := by decide +kernel
theorem dX7_plainCasts_158 : decode cX7_plainCasts 158 = .ok (.aload_n 0, 1) := by decide +kernel
theorem dX7_plainCasts_159 : decode cX7_plainCasts 159 = .ok (.getfield 66, 3) := by decide +kernel
theorem dX7_plainCasts_162 : decode cX7_plainCasts 162 = .ok (.iload 7, 2) := by decide +kernel
theorem dX7_plainCasts_164 : decode cX7_plainCasts 164 = .ok (.iaload, 1) := by decide +kernel
theorem dX7_plainCasts_165 : decode cX7_plainCasts 165 = .ok (.aload_n 0, 1) := by decide +kernel
theorem dX7_plainCasts_166 : decode cX7_plainCasts 166 = .ok (.getfield 7, 3) := by decide +kernel
theorem dX7_plainCasts_169 : decode cX7_plainCasts 169 = .ok (.aload_n 0, 1) := by decide +kernel
theorem dX7_plainCasts_170 : decode cX7_plainCasts 170 = .ok (.getfield 60, 3) := by decide +kernel
theorem dX7_plainCasts_173 : decode cX7_plainCasts 173 = .ok (.iload 6, 2) := by decide +kernel
theorem dX7_plainCasts_175 : decode cX7_plainCasts 175 = .ok (.iaload, 1) := by decide +kernel
theorem dX7_plainCasts_176 : decode cX7_plainCasts 176 = .ok (.iaload, 1) := by decide +kernel
theorem dX7_plainCasts_177 : decode cX7_plainCasts 177 = .ok (.iconst 4, 1) := by decide +kernel
theorem dX7_plainCasts_178 : decode cX7_plainCasts 178 = .ok (.iadd, 1) := by decide +kernel
theorem dX7_plainCasts_179 : decode cX7_plainCasts 179 = .ok (.if_icmp .ge 9, 3) := by decide +kernel
theorem dX7_plainCasts_182 : decode cX7_plainCasts 182 = .ok (.iinc 7 1, 3) := by decide +kernel
theorem dX7_plainCasts_185 : decode cX7_plainCasts 185 = .ok (.goto (-33), 3) := by decide +kernel
theorem dX7_plainCasts_188 : decode cX7_plainCasts 188 = .ok (.aload_n 0, 1) := by decide +kernel
theorem dX7_plainCasts_189 : decode cX7_plainCasts 189 = .ok (.getfield 66, 3) := by decide +kernel
theorem dX7_plainCasts_192 : decode cX7_plainCasts 192 = .ok (.iload 7, 2) := by decide +kernel
theorem dX7_plainCasts_194 : decode cX7_plainCasts 194 = .ok (.iload 7, 2) := by decide +kernel
theorem dX7_plainCasts_196 : decode cX7_plainCasts 196 = .ok (.iload_n 3, 1) := by decide +kernel
theorem dX7_plainCasts_197 : decode cX7_plainCasts 197 = .ok (.if_icmp .ne 22, 3) := by decide +kernel
theorem dX7_plainCasts_200 : decode cX7_plainCasts 200 = .ok (.sipush 300, 3) := by decide +kernel
theorem dX7_plainCasts_203 : decode cX7_plainCasts 203 = .ok (.aload_n 0, 1) := by decide +kernel
theorem dX7_plainCasts_204 : decode cX7_plainCasts 204 = .ok (.getfield 7, 3) := by decide +kernel
theorem dX7_plainCasts_207 : decode cX7_plainCasts 207 = .ok (.aload_n 0, 1) := by decide +kernel
theorem dX7_plainCasts_208 : decode cX7_plainCasts 208 = .ok (.getfield 60, 3) := by decide +kernel
theorem dX7_plainCasts_211 : decode cX7_plainCasts 211 = .ok (.iload 6, 2) := by decide +kernel
theorem dX7_plainCasts_213 : decode cX7_plainCasts 213 = .ok (.iaload, 1) := by decide +kernel
theorem dX7_plainCasts_214 : decode cX7_plainCasts 214 = .ok (.iaload, 1) := by decide +kernel
theorem dX7_plainCasts_215 : decode cX7_plainCasts 215 = .ok (.isub, 1) := by decide +kernel
theorem dX7_plainCasts_216 : decode cX7_plainCasts 216 = .ok (.goto 25, 3) := by decide +kernel
theorem dX7_plainCasts_219 : decode cX7_plainCasts 219 = .ok (.aload_n 0, 1) := by decide +kernel
theorem dX7_plainCasts_220 : decode cX7_plainCasts 220 = .ok (.getfield 66, 3) := by decide +kernel
theorem dX7_plainCasts_223 : decode cX7_plainCasts 223 = .ok (.iload 7, 2) := by decide +kernel
theorem dX7_plainCasts_225 : decode cX7_plainCasts 225 = .ok (.iaload, 1) := by decide +kernel
theorem dX7_plainCasts_226 : decode cX7_plainCasts 226 = .ok (.aload_n 0, 1) := by decide +kernel
theorem dX7_plainCasts_227 : decode cX7_plainCasts 227 = .ok (.getfield 7, 3) := by decide +kernel
theorem dX7_plainCasts_230 : decode cX7_plainCasts 230 = .ok (.aload_n 0, 1) := by decide +kernel
theorem dX7_plainCasts_231 : decode cX7_plainCasts 231 = .ok (.getfield 60, 3) := by decide +kernel
theorem dX7_plainCasts_234 : decode cX7_plainCasts 234 = .ok (.iload 6, 2) := by decide +kernel
theorem dX7_plainCasts_236 : decode cX7_plainCasts 236 = .ok (.iaload, 1) := by decide +kernel
theorem dX7_plainCasts_237 : decode cX7_plainCasts 237 = .ok (.iaload, 1) := by decide +kernel
theorem dX7_plainCasts_238 : decode cX7_plainCasts 238 = .ok (.isub, 1) := by decide +kernel
theorem dX7_plainCasts_239 : decode cX7_plainCasts 239 = .ok (.iconst 4, 1) := by decide +kernel
theorem dX7_plainCasts_240 : decode cX7_plainCasts 240 = .ok (.isub, 1) := by decide +kernel
theorem dX7_plainCasts_241 : decode cX7_plainCasts 241 = .ok (.iastore, 1) := by decide +kernel
theorem dX7_plainCasts_242 : decode cX7_plainCasts 242 = .ok (.iload 7, 2) := by decide +kernel
theorem dX7_plainCasts_244 : decode cX7_plainCasts 244 = .ok (.iload_n 3, 1) := by decide +kernel
theorem dX7_plainCasts_245 : decode cX7_plainCasts 245 = .ok (.if_icmp .ne 9, 3) := by decide +kernel
theorem dX7_plainCasts_248 : decode cX7_plainCasts 248 = .ok (.iload_n 3, 1) := by decide +kernel
theorem dX7_plainCasts_249 : decode cX7_plainCasts 249 = .ok (.iconst 1, 1) := by decide +kernel
theorem dX7_plainCasts_250 : decode cX7_plainCasts 250 = .ok (.iadd, 1) := by decide +kernel
theorem dX7_plainCasts_251 : decode cX7_plainCasts 251 = .ok (.goto 4, 3) := by decide +kernel
theorem dX7_plainCasts_254 : decode cX7_plainCasts 254 = .ok (.iload_n 3, 1) := by decide +kernel
theorem dX7_plainCasts_255 : decode cX7_plainCasts 255 = .ok (.istore_n 3, 1) := by decide +kernel
theorem dX7_plainCasts_256 : decode cX7_plainCasts 256 = .ok (.goto (-238), 3) := by decide +kernel
theorem dX7_plainCasts_259 : decode cX7_plainCasts 259 = .ok (.iload_n 1, 1) := by decide +kernel
theorem dX7_plainCasts_260 : decode cX7_plainCasts 260 = .ok (.iload_n 3, 1) := by decide +kernel
theorem dX7_plainCasts_261 : decode cX7_plainCasts 261 = .ok (.iadd, 1) := by decide +kernel
theorem dX7_plainCasts_262 : decode cX7_plainCasts 262 = .ok (.istore_n 1, 1) := by decide +kernel
theorem dX7_plainCasts_263 : decode cX7_plainCasts 263 = .ok (.iinc 2 1, 3) := by decide +kernel
theorem dX7_plainCasts_266 : decode cX7_plainCasts 266 = .ok (.goto (-262), 3) := by decide +kernel
theorem dX7_plainCasts_269 : decode cX7_plainCasts 269 = .ok (.iload_n 1, 1) := by decide +kernel
theorem dX7_plainCasts_270 : decode cX7_plainCasts 270 = .ok (.ireturn, 1) := by decide +kernel
theorem dX7_casts_0 : decode cX7_casts 0 = .ok (.aload_n 0, 1) := by decide +kernel
theorem dX7_casts_1 : decode cX7_casts 1 = .ok (.iload_n 1, 1) := by decide +kernel
theorem dX7_casts_2 : decode cX7_casts 2 = .ok (.invokevirtual 114, 3) := by decide +kernel
theorem dX7_casts_5 : decode cX7_casts 5 = .ok (.ifCond .eq 26, 3) := by decide +kernel
theorem dX7_casts_8 : decode cX7_casts 8 = .ok (.aload_n 0, 1) := by decide +kernel
theorem dX7_casts_9 : decode cX7_casts 9 = .ok (.iload_n 2, 1) := by decide +kernel
theorem dX7_casts_10 : decode cX7_casts 10 = .ok (.invokevirtual 114, 3) := by decide +kernel
theorem dX7_casts_13 : decode cX7_casts 13 = .ok (.ifCond .eq 18, 3) := by decide +kernel
theorem dX7_casts_16 : decode cX7_casts 16 = .ok (.iload_n 2, 1) := by decide +kernel
theorem dX7_casts_17 : decode cX7_casts 17 = .ok (.iload_n 1, 1) := by decide +kernel
theorem dX7_casts_18 : decode cX7_casts 18 = .ok (.if_icmp .lt 13, 3) := by decide +kernel
theorem dX7_casts_21 : decode cX7_casts 21 = .ok (.iload_n 3, 1) := by decide +kernel
theorem dX7_casts_22 : decode cX7_casts 22 = .ok (.i2l, 1) := by decide +kernel
theorem dX7_casts_23 : decode cX7_casts 23 = .ok (.lconst 0, 1) := by decide +kernel
theorem dX7_casts_24 : decode cX7_casts 24 = .ok (.lconst 1, 1) := by decide +kernel
theorem dX7_casts_25 : decode cX7_casts 25 = .ok (.invokestatic 96, 3) := by decide +kernel
theorem dX7_casts_28 : decode cX7_casts 28 = .ok (.ifCond .ne 5, 3) := by decide +kernel
theorem dX7_casts_31 : decode cX7_casts 31 = .ok (.iconst (-1), 1) := by decide +kernel
theorem dX7_casts_32 : decode cX7_casts 32 = .ok (.ireturn, 1) := by decide +kernel
theorem dX7_casts_33 : decode cX7_casts 33 = .ok (.aload_n 0, 1) := by decide +kernel
theorem dX7_casts_34 : decode cX7_casts 34 = .ok (.iconst 0, 1) := by decide +kernel
theorem dX7_casts_35 : decode cX7_casts 35 = .ok (.putfield 120, 3) := by decide +kernel
theorem dX7_casts_38 : decode cX7_casts 38 = .ok (.iconst 0, 1) := by decide +kernel
theorem dX7_casts_39 : decode cX7_casts 39 = .ok (.istore 4, 2) := by decide +kernel
theorem dX7_casts_41 : decode cX7_casts 41 = .ok (.iload_n 1, 1) := by decide +kernel
theorem dX7_casts_42 : decode cX7_casts 42 = .ok (.istore 5, 2) := by decide +kernel
theorem dX7_casts_44 : decode cX7_casts 44 = .ok (.iload 5, 2) := by decide +kernel
theorem dX7_casts_46 : decode cX7_casts 46 = .ok (.iload_n 2, 1) := by decide +kernel
theorem dX7_casts_47 : decode cX7_casts 47 = .ok (.if_icmp .gt 52, 3) := by decide +kernel
theorem dX7_casts_50 : decode cX7_casts 50 = .ok (.aload_n 0, 1) := by decide +kernel
theorem dX7_casts_51 : decode cX7_casts 51 = .ok (.getfield 22, 3) := by decide +kernel
theorem dX7_casts_54 : decode cX7_casts 54 = .ok (.iload 5, 2) := by decide +kernel
theorem dX7_casts_56 : decode cX7_casts 56 = .ok (.iaload, 1) := by decide +kernel
theorem dX7_casts_57 : decode cX7_casts 57 = .ok (.ifCond .ne 36, 3) := by decide +kernel
theorem dX7_casts_60 : decode cX7_casts 60 = .ok (.aload_n 0, 1) := by decide +kernel
theorem dX7_casts_61 : decode cX7_casts 61 = .ok (.getfield 120, 3) := by decide +kernel
theorem dX7_casts_64 : decode cX7_casts 64 = .ok (.bipush 12, 2) := by decide +kernel
theorem dX7_casts_66 : decode cX7_casts 66 = .ok (.if_icmp .ge 24, 3) := by decide +kernel
theorem dX7_casts_69 : decode cX7_casts 69 = .ok (.aload_n 0, 1) := by decide +kernel
theorem dX7_casts_70 : decode cX7_casts 70 = .ok (.getfield 60, 3) := by decide +kernel
theorem dX7_casts_73 : decode cX7_casts 73 = .ok (.aload_n 0, 1) := by decide +kernel
theorem dX7_casts_74 : decode cX7_casts 74 = .ok (.getfield 120, 3) := by decide +kernel
theorem dX7_casts_77 : decode cX7_casts 77 = .ok (.iload 5, 2) := by decide +kernel
theorem dX7_casts_79 : decode cX7_casts 79 = .ok (.iastore, 1) := by decide +kernel
theorem dX7_casts_80 : decode cX7_casts 80 = .ok (.aload_n 0, 1) := by decide +kernel
theorem dX7_casts_81 : decode cX7_casts 81 = .ok (.dup, 1) := by decide +kernel
theorem dX7_casts_82 : decode cX7_casts 82 = .ok (.getfield 120, 3) := by decide +kernel
theorem dX7_casts_85 : decode cX7_casts 85 = .ok (.iconst 1, 1) := by decide +kernel
theorem dX7_casts_86 : decode cX7_casts 86 = .ok (.iadd, 1) := by decide +kernel
theorem dX7_casts_87 : decode cX7_casts 87 = .ok (.putfield 120, 3) := by decide +kernel
theorem dX7_casts_90 : decode cX7_casts 90 = .ok (.iinc 4 1, 3) := by decide +kernel
theorem dX7_casts_93 : decode cX7_casts 93 = .ok (.iinc 5 1, 3) := by decide +kernel
theorem dX7_casts_96 : decode cX7_casts 96 = .ok (.goto (-52), 3) := by decide +kernel
theorem dX7_casts_99 : decode cX7_casts 99 = .ok (.iload 4, 2) := by decide +kernel
theorem dX7_casts_101 : decode cX7_casts 101 = .ok (.bipush 12, 2) := by decide +kernel
theorem dX7_casts_103 : decode cX7_casts 103 = .ok (.if_icmp .le 5, 3) := by decide +kernel
theorem dX7_casts_106 : decode cX7_casts 106 = .ok (.iconst (-1), 1) := by decide +kernel
theorem dX7_casts_107 : decode cX7_casts 107 = .ok (.ireturn, 1) := by decide +kernel
theorem dX7_casts_108 : decode cX7_casts 108 = .ok (.iload_n 3, 1) := by decide +kernel
theorem dX7_casts_109 : decode cX7_casts 109 = .ok (.ifCond .ne 10, 3) := by decide +kernel
theorem dX7_casts_112 : decode cX7_casts 112 = .ok (.aload_n 0, 1) := by decide +kernel
theorem dX7_casts_113 : decode cX7_casts 113 = .ok (.invokevirtual 126, 3) := by decide +kernel
theorem dX7_casts_116 : decode cX7_casts 116 = .ok (.goto 7, 3) := by decide +kernel
theorem dX7_casts_119 : decode cX7_casts 119 = .ok (.aload_n 0, 1) := by decide +kernel
theorem dX7_casts_120 : decode cX7_casts 120 = .ok (.invokevirtual 130, 3) := by decide +kernel
theorem dX7_casts_123 : decode cX7_casts 123 = .ok (.ireturn, 1) := by decide +kernel
theorem dX7_cast_0 : decode cX7_cast 0 = .ok (.iload_n 1, 1) := by decide +kernel
theorem dX7_cast_1 : decode cX7_cast 1 = .ok (.i2l, 1) := by decide +kernel
theorem dX7_cast_2 : decode cX7_cast 2 = .ok (.lconst 0, 1) := by decide +kernel
theorem dX7_cast_3 : decode cX7_cast 3 = .ok (.ldc2_w 133, 3) := by decide +kernel
theorem dX7_cast_6 : decode cX7_cast 6 = .ok (.invokestatic 96, 3) := by decide +kernel
theorem dX7_cast_9 : decode cX7_cast 9 = .ok (.ifCond .eq 30, 3) := by decide +kernel
theorem dX7_cast_12 : decode cX7_cast 12 = .ok (.aload_n 0, 1) := by decide +kernel
theorem dX7_cast_13 : decode cX7_cast 13 = .ok (.iload_n 2, 1) := by decide +kernel
theorem dX7_cast_14 : decode cX7_cast 14 = .ok (.invokevirtual 114, 3) := by decide +kernel
theorem dX7_cast_17 : decode cX7_cast 17 = .ok (.ifCond .eq 22, 3) := by decide +kernel
theorem dX7_cast_20 : decode cX7_cast 20 = .ok (.iload_n 3, 1) := by decide +kernel
theorem dX7_cast_21 : decode cX7_cast 21 = .ok (.ifCond .eq 18, 3) := by decide +kernel
theorem dX7_cast_24 : decode cX7_cast 24 = .ok (.iload_n 3, 1) := by decide +kernel
theorem dX7_cast_25 : decode cX7_cast 25 = .ok (.ifCond .ge 16, 3) := by decide +kernel
theorem dX7_cast_28 : decode cX7_cast 28 = .ok (.iload_n 2, 1) := by decide +kernel
theorem dX7_cast_29 : decode cX7_cast 29 = .ok (.bipush 31, 2) := by decide +kernel
theorem dX7_cast_31 : decode cX7_cast 31 = .ok (.iadd, 1) := by decide +kernel
theorem dX7_cast_32 : decode cX7_cast 32 = .ok (.aload_n 0, 1) := by decide +kernel
theorem dX7_cast_33 : decode cX7_cast 33 = .ok (.getfield 93, 3) := by decide +kernel
theorem dX7_cast_36 : decode cX7_cast 36 = .ok (.if_icmp .lt 5, 3) := by decide +kernel
theorem dX7_cast_39 : decode cX7_cast 39 = .ok (.iconst (-1), 1) := by decide +kernel
theorem dX7_cast_40 : decode cX7_cast 40 = .ok (.ireturn, 1) := by decide +kernel
theorem dX7_cast_41 : decode cX7_cast 41 = .ok (.iconst 0, 1) := by decide +kernel
theorem dX7_cast_42 : decode cX7_cast 42 = .ok (.istore 4, 2) := by decide +kernel
theorem dX7_cast_44 : decode cX7_cast 44 = .ok (.iload 4, 2) := by decide +kernel
theorem dX7_cast_46 : decode cX7_cast 46 = .ok (.bipush 32, 2) := by decide +kernel
theorem dX7_cast_48 : decode cX7_cast 48 = .ok (.if_icmp .ge 32, 3) := by decide +kernel
theorem dX7_cast_51 : decode cX7_cast 51 = .ok (.iload_n 3, 1) := by decide +kernel
theorem dX7_cast_52 : decode cX7_cast 52 = .ok (.iload 4, 2) := by decide +kernel
theorem dX7_cast_54 : decode cX7_cast 54 = .ok (.ishr, 1) := by decide +kernel
theorem dX7_cast_55 : decode cX7_cast 55 = .ok (.iconst 1, 1) := by decide +kernel
theorem dX7_cast_56 : decode cX7_cast 56 = .ok (.iand, 1) := by decide +kernel
theorem dX7_cast_57 : decode cX7_cast 57 = .ok (.iconst 1, 1) := by decide +kernel
theorem dX7_cast_58 : decode cX7_cast 58 = .ok (.if_icmp .ne 16, 3) := by decide +kernel
theorem dX7_cast_61 : decode cX7_cast 61 = .ok (.iload_n 2, 1) := by decide +kernel
theorem dX7_cast_62 : decode cX7_cast 62 = .ok (.iload 4, 2) := by decide +kernel
theorem dX7_cast_64 : decode cX7_cast 64 = .ok (.iadd, 1) := by decide +kernel
theorem dX7_cast_65 : decode cX7_cast 65 = .ok (.aload_n 0, 1) := by decide +kernel
theorem dX7_cast_66 : decode cX7_cast 66 = .ok (.getfield 93, 3) := by decide +kernel
theorem dX7_cast_69 : decode cX7_cast 69 = .ok (.if_icmp .lt 5, 3) := by decide +kernel
theorem dX7_cast_72 : decode cX7_cast 72 = .ok (.iconst (-1), 1) := by decide +kernel
theorem dX7_cast_73 : decode cX7_cast 73 = .ok (.ireturn, 1) := by decide +kernel
theorem dX7_cast_74 : decode cX7_cast 74 = .ok (.iinc 4 1, 3) := by decide +kernel
theorem dX7_cast_77 : decode cX7_cast 77 = .ok (.goto (-33), 3) := by decide +kernel
theorem dX7_cast_80 : decode cX7_cast 80 = .ok (.bipush (-4), 2) := by decide +kernel
theorem dX7_cast_82 : decode cX7_cast 82 = .ok (.istore 4, 2) := by decide +kernel
theorem dX7_cast_84 : decode cX7_cast 84 = .ok (.iconst (-1), 1) := by decide +kernel
theorem dX7_cast_85 : decode cX7_cast 85 = .ok (.istore 5, 2) := by decide +kernel
theorem dX7_cast_87 : decode cX7_cast 87 = .ok (.aload_n 0, 1) := by decide +kernel
theorem dX7_cast_88 : decode cX7_cast 88 = .ok (.getfield 35, 3) := by decide +kernel
theorem dX7_cast_91 : decode cX7_cast 91 = .ok (.iload_n 1, 1) := by decide +kernel
theorem dX7_cast_92 : decode cX7_cast 92 = .ok (.iaload, 1) := by decide +kernel
theorem dX7_cast_93 : decode cX7_cast 93 = .ok (.ifCond .ne 7, 3) := by decide +kernel
theorem dX7_cast_96 : decode cX7_cast 96 = .ok (.iconst 1, 1) := by decide +kernel
theorem dX7_cast_97 : decode cX7_cast 97 = .ok (.goto 4, 3) := by decide +kernel
theorem dX7_cast_100 : decode cX7_cast 100 = .ok (.iconst 0, 1) := by decide +kernel
theorem dX7_cast_101 : decode cX7_cast 101 = .ok (.istore 6, 2) := by decide +kernel
theorem dX7_cast_103 : decode cX7_cast 103 = .ok (.iconst 0, 1) := by decide +kernel
theorem dX7_cast_104 : decode cX7_cast 104 = .ok (.istore 7, 2) := by decide +kernel
theorem dX7_cast_106 : decode cX7_cast 106 = .ok (.iconst 0, 1) := by decide +kernel
theorem dX7_cast_107 : decode cX7_cast 107 = .ok (.istore 8, 2) := by decide +kernel
theorem dX7_cast_109 : decode cX7_cast 109 = .ok (.iload 8, 2) := by decide +kernel
theorem dX7_cast_111 : decode cX7_cast 111 = .ok (.bipush 32, 2) := by decide +kernel
theorem dX7_cast_113 : decode cX7_cast 113 = .ok (.if_icmp .ge 90, 3) := by decide +kernel
theorem dX7_cast_116 : decode cX7_cast 116 = .ok (.iload_n 3, 1) := by decide +kernel
theorem dX7_cast_117 : decode cX7_cast 117 = .ok (.iload 8, 2) := by decide +kernel
theorem dX7_cast_119 : decode cX7_cast 119 = .ok (.ishr, 1) := by decide +kernel
theorem dX7_cast_120 : decode cX7_cast 120 = .ok (.iconst 1, 1) := by decide +kernel
theorem dX7_cast_121 : decode cX7_cast 121 = .ok (.iand, 1) := by decide +kernel
theorem dX7_cast_122 : decode cX7_cast 122 = .ok (.iconst 1, 1) := by decide +kernel
theorem dX7_cast_123 : decode cX7_cast 123 = .ok (.if_icmp .ne 74, 3) := by decide +kernel
theorem dX7_cast_126 : decode cX7_cast 126 = .ok (.iload_n 2, 1) := by decide +kernel
theorem dX7_cast_127 : decode cX7_cast 127 = .ok (.iload 8, 2) := by decide +kernel
theorem dX7_cast_129 : decode cX7_cast 129 = .ok (.iadd, 1) := by decide +kernel
theorem dX7_cast_130 : decode cX7_cast 130 = .ok (.istore 9, 2) := by decide +kernel
theorem dX7_cast_132 : decode cX7_cast 132 = .ok (.iload 6, 2) := by decide +kernel
theorem dX7_cast_134 : decode cX7_cast 134 = .ok (.ifCond .eq 34, 3) := by decide +kernel
theorem dX7_cast_137 : decode cX7_cast 137 = .ok (.aload_n 0, 1) := by decide +kernel
theorem dX7_cast_138 : decode cX7_cast 138 = .ok (.getfield 22, 3) := by decide +kernel
theorem dX7_cast_141 : decode cX7_cast 141 = .ok (.iload 9, 2) := by decide +kernel
theorem dX7_cast_143 : decode cX7_cast 143 = .ok (.iaload, 1) := by decide +kernel
theorem dX7_cast_144 : decode cX7_cast 144 = .ok (.ifCond .ne 24, 3) := by decide +kernel
theorem dX7_cast_147 : decode cX7_cast 147 = .ok (.iload 5, 2) := by decide +kernel
theorem dX7_cast_149 : decode cX7_cast 149 = .ok (.ifCond .lt 15, 3) := by decide +kernel
theorem dX7_cast_152 : decode cX7_cast 152 = .ok (.aload_n 0, 1) := by decide +kernel
theorem dX7_cast_153 : decode cX7_cast 153 = .ok (.getfield 13, 3) := by decide +kernel
theorem dX7_cast_156 : decode cX7_cast 156 = .ok (.iload 9, 2) := by decide +kernel
theorem dX7_cast_158 : decode cX7_cast 158 = .ok (.iaload, 1) := by decide +kernel
theorem dX7_cast_159 : decode cX7_cast 159 = .ok (.iload 5, 2) := by decide +kernel
theorem dX7_cast_161 : decode cX7_cast 161 = .ok (.if_icmp .ne 7, 3) := by decide +kernel
theorem dX7_cast_164 : decode cX7_cast 164 = .ok (.iconst 1, 1) := by decide +kernel
theorem dX7_cast_165 : decode cX7_cast 165 = .ok (.goto 4, 3) := by decide +kernel
theorem dX7_cast_168 : decode cX7_cast 168 = .ok (.iconst 0, 1) := by decide +kernel
theorem dX7_cast_169 : decode cX7_cast 169 = .ok (.istore 6, 2) := by decide +kernel
theorem dX7_cast_171 : decode cX7_cast 171 = .ok (.aload_n 0, 1) := by decide +kernel
theorem dX7_cast_172 : decode cX7_cast 172 = .ok (.getfield 13, 3) := by decide +kernel
theorem dX7_cast_175 : decode cX7_cast 175 = .ok (.iload 9, 2) := by decide +kernel
theorem dX7_cast_177 : decode cX7_cast 177 = .ok (.iaload, 1) := by decide +kernel
theorem dX7_cast_178 : decode cX7_cast 178 = .ok (.istore 5, 2) := by decide +kernel
theorem dX7_cast_180 : decode cX7_cast 180 = .ok (.iload 4, 2) := by decide +kernel
theorem dX7_cast_182 : decode cX7_cast 182 = .ok (.aload_n 0, 1) := by decide +kernel
theorem dX7_cast_183 : decode cX7_cast 183 = .ok (.getfield 7, 3) := by decide +kernel
theorem dX7_cast_186 : decode cX7_cast 186 = .ok (.iload 9, 2) := by decide +kernel
theorem dX7_cast_188 : decode cX7_cast 188 = .ok (.iaload, 1) := by decide +kernel
theorem dX7_cast_189 : decode cX7_cast 189 = .ok (.iconst 4, 1) := by decide +kernel
theorem dX7_cast_190 : decode cX7_cast 190 = .ok (.iadd, 1) := by decide +kernel
theorem dX7_cast_191 : decode cX7_cast 191 = .ok (.iadd, 1) := by decide +kernel
theorem dX7_cast_192 : decode cX7_cast 192 = .ok (.istore 4, 2) := by decide +kernel
theorem dX7_cast_194 : decode cX7_cast 194 = .ok (.iinc 7 1, 3) := by decide +kernel
theorem dX7_cast_197 : decode cX7_cast 197 = .ok (.iinc 8 1, 3) := by decide +kernel
theorem dX7_cast_200 : decode cX7_cast 200 = .ok (.goto (-91), 3) := by decide +kernel
theorem dX7_cast_203 : decode cX7_cast 203 = .ok (.iload 6, 2) := by decide +kernel
theorem dX7_cast_205 : decode cX7_cast 205 = .ok (.ifCond .eq 11, 3) := by decide +kernel
theorem dX7_cast_208 : decode cX7_cast 208 = .ok (.iload 4, 2) := by decide +kernel
theorem dX7_cast_210 : decode cX7_cast 210 = .ok (.sipush 300, 3) := by decide +kernel
theorem dX7_cast_213 : decode cX7_cast 213 = .ok (.if_icmp .le 6, 3) := by decide +kernel
theorem dX7_cast_216 : decode cX7_cast 216 = .ok (.bipush (-2), 2) := by decide +kernel
theorem dX7_cast_218 : decode cX7_cast 218 = .ok (.ireturn, 1) := by decide +kernel
theorem dX7_cast_219 : decode cX7_cast 219 = .ok (.iconst 0, 1) := by decide +kernel
theorem dX7_cast_220 : decode cX7_cast 220 = .ok (.istore 7, 2) := by decide +kernel
theorem dX7_cast_222 : decode cX7_cast 222 = .ok (.iconst 0, 1) := by decide +kernel
theorem dX7_cast_223 : decode cX7_cast 223 = .ok (.istore 8, 2) := by decide +kernel
theorem dX7_cast_225 : decode cX7_cast 225 = .ok (.iload 8, 2) := by decide +kernel
theorem dX7_cast_227 : decode cX7_cast 227 = .ok (.bipush 32, 2) := by decide +kernel
theorem dX7_cast_229 : decode cX7_cast 229 = .ok (.if_icmp .ge 58, 3) := by decide +kernel
theorem dX7_cast_232 : decode cX7_cast 232 = .ok (.iload_n 3, 1) := by decide +kernel
theorem dX7_cast_233 : decode cX7_cast 233 = .ok (.iload 8, 2) := by decide +kernel
theorem dX7_cast_235 : decode cX7_cast 235 = .ok (.ishr, 1) := by decide +kernel
theorem dX7_cast_236 : decode cX7_cast 236 = .ok (.iconst 1, 1) := by decide +kernel
theorem dX7_cast_237 : decode cX7_cast 237 = .ok (.iand, 1) := by decide +kernel
theorem dX7_cast_238 : decode cX7_cast 238 = .ok (.iconst 1, 1) := by decide +kernel
theorem dX7_cast_239 : decode cX7_cast 239 = .ok (.if_icmp .ne 42, 3) := by decide +kernel
theorem dX7_cast_242 : decode cX7_cast 242 = .ok (.aload_n 0, 1) := by decide +kernel
theorem dX7_cast_243 : decode cX7_cast 243 = .ok (.getfield 22, 3) := by decide +kernel
theorem dX7_cast_246 : decode cX7_cast 246 = .ok (.iload_n 2, 1) := by decide +kernel
theorem dX7_cast_247 : decode cX7_cast 247 = .ok (.iload 8, 2) := by decide +kernel
theorem dX7_cast_249 : decode cX7_cast 249 = .ok (.iadd, 1) := by decide +kernel
theorem dX7_cast_250 : decode cX7_cast 250 = .ok (.iconst 1, 1) := by decide +kernel
theorem dX7_cast_251 : decode cX7_cast 251 = .ok (.iastore, 1) := by decide +kernel
theorem dX7_cast_252 : decode cX7_cast 252 = .ok (.aload_n 0, 1) := by decide +kernel
theorem dX7_cast_253 : decode cX7_cast 253 = .ok (.getfield 25, 3) := by decide +kernel
theorem dX7_cast_256 : decode cX7_cast 256 = .ok (.iload_n 2, 1) := by decide +kernel
theorem dX7_cast_257 : decode cX7_cast 257 = .ok (.iload 8, 2) := by decide +kernel
theorem dX7_cast_259 : decode cX7_cast 259 = .ok (.iadd, 1) := by decide +kernel
theorem dX7_cast_260 : decode cX7_cast 260 = .ok (.iload_n 1, 1) := by decide +kernel
theorem dX7_cast_261 : decode cX7_cast 261 = .ok (.iastore, 1) := by decide +kernel
theorem dX7_cast_262 : decode cX7_cast 262 = .ok (.aload_n 0, 1) := by decide +kernel
theorem dX7_cast_263 : decode cX7_cast 263 = .ok (.getfield 38, 3) := by decide +kernel
theorem dX7_cast_266 : decode cX7_cast 266 = .ok (.bipush 40, 2) := by decide +kernel
theorem dX7_cast_268 : decode cX7_cast 268 = .ok (.iload_n 1, 1) := by decide +kernel
theorem dX7_cast_269 : decode cX7_cast 269 = .ok (.imul, 1) := by decide +kernel
theorem dX7_cast_270 : decode cX7_cast 270 = .ok (.iload 7, 2) := by decide +kernel
theorem dX7_cast_272 : decode cX7_cast 272 = .ok (.iadd, 1) := by decide +kernel
theorem dX7_cast_273 : decode cX7_cast 273 = .ok (.iload_n 2, 1) := by decide +kernel
theorem dX7_cast_274 : decode cX7_cast 274 = .ok (.iload 8, 2) := by decide +kernel
theorem dX7_cast_276 : decode cX7_cast 276 = .ok (.iadd, 1) := by decide +kernel
theorem dX7_cast_277 : decode cX7_cast 277 = .ok (.iastore, 1) := by decide +kernel
theorem dX7_cast_278 : decode cX7_cast 278 = .ok (.iinc 7 1, 3) := by decide +kernel
theorem dX7_cast_281 : decode cX7_cast 281 = .ok (.iinc 8 1, 3) := by decide +kernel
theorem dX7_cast_284 : decode cX7_cast 284 = .ok (.goto (-59), 3) := by decide +kernel
theorem dX7_cast_287 : decode cX7_cast 287 = .ok (.aload_n 0, 1) := by decide +kernel
theorem dX7_cast_288 : decode cX7_cast 288 = .ok (.getfield 35, 3) := by decide +kernel
theorem dX7_cast_291 : decode cX7_cast 291 = .ok (.iload_n 1, 1) := by decide +kernel
theorem dX7_cast_292 : decode cX7_cast 292 = .ok (.iload 7, 2) := by decide +kernel
theorem dX7_cast_294 : decode cX7_cast 294 = .ok (.iastore, 1) := by decide +kernel
theorem dX7_cast_295 : decode cX7_cast 295 = .ok (.aload_n 0, 1) := by decide +kernel
theorem dX7_cast_296 : decode cX7_cast 296 = .ok (.getfield 41, 3) := by decide +kernel
theorem dX7_cast_299 : decode cX7_cast 299 = .ok (.iload_n 1, 1) := by decide +kernel
theorem dX7_cast_300 : decode cX7_cast 300 = .ok (.iconst 0, 1) := by decide +kernel
theorem dX7_cast_301 : decode cX7_cast 301 = .ok (.iastore, 1) := by decide +kernel
theorem dX7_cast_302 : decode cX7_cast 302 = .ok (.aload_n 0, 1) := by decide +kernel
theorem dX7_cast_303 : decode cX7_cast 303 = .ok (.getfield 44, 3) := by decide +kernel
theorem dX7_cast_306 : decode cX7_cast 306 = .ok (.iload_n 1, 1) := by decide +kernel
theorem dX7_cast_307 : decode cX7_cast 307 = .ok (.aload_n 0, 1) := by decide +kernel
theorem dX7_cast_308 : decode cX7_cast 308 = .ok (.getfield 135, 3) := by decide +kernel
theorem dX7_cast_311 : decode cX7_cast 311 = .ok (.iastore, 1) := by decide +kernel
theorem dX7_cast_312 : decode cX7_cast 312 = .ok (.aload_n 0, 1) := by decide +kernel
theorem dX7_cast_313 : decode cX7_cast 313 = .ok (.dup, 1) := by decide +kernel
theorem dX7_cast_314 : decode cX7_cast 314 = .ok (.getfield 138, 3) := by decide +kernel
theorem dX7_cast_317 : decode cX7_cast 317 = .ok (.iconst 1, 1) := by decide +kernel
theorem dX7_cast_318 : decode cX7_cast 318 = .ok (.iadd, 1) := by decide +kernel
theorem dX7_cast_319 : decode cX7_cast 319 = .ok (.putfield 138, 3) := by decide +kernel
theorem dX7_cast_322 : decode cX7_cast 322 = .ok (.iload 7, 2) := by decide +kernel
theorem dX7_cast_324 : decode cX7_cast 324 = .ok (.ireturn, 1) := by decide +kernel
theorem dX7_warmth_0 : decode cX7_warmth 0 = .ok (.iload_n 1, 1) := by decide +kernel
theorem dX7_warmth_1 : decode cX7_warmth 1 = .ok (.i2l, 1) := by decide +kernel
theorem dX7_warmth_2 : decode cX7_warmth 2 = .ok (.ldc2_w 141, 3) := by decide +kernel
theorem dX7_warmth_5 : decode cX7_warmth 5 = .ok (.ldc2_w 143, 3) := by decide +kernel
theorem dX7_warmth_8 : decode cX7_warmth 8 = .ok (.invokestatic 96, 3) := by decide +kernel
theorem dX7_warmth_11 : decode cX7_warmth 11 = .ok (.ifCond .ne 6, 3) := by decide +kernel
theorem dX7_warmth_14 : decode cX7_warmth 14 = .ok (.bipush (-100), 2) := by decide +kernel
theorem dX7_warmth_16 : decode cX7_warmth 16 = .ok (.ireturn, 1) := by decide +kernel
theorem dX7_warmth_17 : decode cX7_warmth 17 = .ok (.aload_n 0, 1) := by decide +kernel
theorem dX7_warmth_18 : decode cX7_warmth 18 = .ok (.getfield 47, 3) := by decide +kernel
theorem dX7_warmth_21 : decode cX7_warmth 21 = .ok (.istore_n 2, 1) := by decide +kernel
theorem dX7_warmth_22 : decode cX7_warmth 22 = .ok (.aload_n 0, 1) := by decide +kernel
theorem dX7_warmth_23 : decode cX7_warmth 23 = .ok (.iload_n 1, 1) := by decide +kernel
theorem dX7_warmth_24 : decode cX7_warmth 24 = .ok (.putfield 47, 3) := by decide +kernel
theorem dX7_warmth_27 : decode cX7_warmth 27 = .ok (.iload_n 2, 1) := by decide +kernel
theorem dX7_warmth_28 : decode cX7_warmth 28 = .ok (.ireturn, 1) := by decide +kernel
theorem dX7_hours_0 : decode cX7_hours 0 = .ok (.iload_n 1, 1) := by decide +kernel
theorem dX7_hours_1 : decode cX7_hours 1 = .ok (.i2l, 1) := by decide +kernel
theorem dX7_hours_2 : decode cX7_hours 2 = .ok (.lconst 1, 1) := by decide +kernel
theorem dX7_hours_3 : decode cX7_hours 3 = .ok (.ldc2_w 100, 3) := by decide +kernel
theorem dX7_hours_6 : decode cX7_hours 6 = .ok (.invokestatic 96, 3) := by decide +kernel
theorem dX7_hours_9 : decode cX7_hours 9 = .ok (.ifCond .ne 5, 3) := by decide +kernel
theorem dX7_hours_12 : decode cX7_hours 12 = .ok (.iconst (-1), 1) := by decide +kernel
theorem dX7_hours_13 : decode cX7_hours 13 = .ok (.ireturn, 1) := by decide +kernel
theorem dX7_hours_14 : decode cX7_hours 14 = .ok (.aload_n 0, 1) := by decide +kernel
theorem dX7_hours_15 : decode cX7_hours 15 = .ok (.getfield 135, 3) := by decide +kernel
theorem dX7_hours_18 : decode cX7_hours 18 = .ok (.iload_n 1, 1) := by decide +kernel
theorem dX7_hours_19 : decode cX7_hours 19 = .ok (.iadd, 1) := by decide +kernel
theorem dX7_hours_20 : decode cX7_hours 20 = .ok (.ldc 145, 2) := by decide +kernel
theorem dX7_hours_22 : decode cX7_hours 22 = .ok (.if_icmp .le 6, 3) := by decide +kernel
theorem dX7_hours_25 : decode cX7_hours 25 = .ok (.bipush (-3), 2) := by decide +kernel
theorem dX7_hours_27 : decode cX7_hours 27 = .ok (.ireturn, 1) := by decide +kernel
theorem dX7_hours_28 : decode cX7_hours 28 = .ok (.iconst 0, 1) := by decide +kernel
theorem dX7_hours_29 : decode cX7_hours 29 = .ok (.istore_n 2, 1) := by decide +kernel
theorem dX7_hours_30 : decode cX7_hours 30 = .ok (.iload_n 2, 1) := by decide +kernel
theorem dX7_hours_31 : decode cX7_hours 31 = .ok (.iconst 3, 1) := by decide +kernel
theorem dX7_hours_32 : decode cX7_hours 32 = .ok (.if_icmp .ge 50, 3) := by decide +kernel
theorem dX7_hours_35 : decode cX7_hours 35 = .ok (.aload_n 0, 1) := by decide +kernel
theorem dX7_hours_36 : decode cX7_hours 36 = .ok (.getfield 41, 3) := by decide +kernel
theorem dX7_hours_39 : decode cX7_hours 39 = .ok (.iload_n 2, 1) := by decide +kernel
theorem dX7_hours_40 : decode cX7_hours 40 = .ok (.dup2, 1) := by decide +kernel
theorem dX7_hours_41 : decode cX7_hours 41 = .ok (.iaload, 1) := by decide +kernel
theorem dX7_hours_42 : decode cX7_hours 42 = .ok (.aload_n 0, 1) := by decide +kernel
theorem dX7_hours_43 : decode cX7_hours 43 = .ok (.getfield 35, 3) := by decide +kernel
theorem dX7_hours_46 : decode cX7_hours 46 = .ok (.iload_n 2, 1) := by decide +kernel
theorem dX7_hours_47 : decode cX7_hours 47 = .ok (.iaload, 1) := by decide +kernel
theorem dX7_hours_48 : decode cX7_hours 48 = .ok (.ifCond .le 25, 3) := by decide +kernel
theorem dX7_hours_51 : decode cX7_hours 51 = .ok (.aload_n 0, 1) := by decide +kernel
theorem dX7_hours_52 : decode cX7_hours 52 = .ok (.getfield 47, 3) := by decide +kernel
theorem dX7_hours_55 : decode cX7_hours 55 = .ok (.bipush 10, 2) := by decide +kernel
theorem dX7_hours_57 : decode cX7_hours 57 = .ok (.iadd, 1) := by decide +kernel
theorem dX7_hours_58 : decode cX7_hours 58 = .ok (.ifCond .le 15, 3) := by decide +kernel
theorem dX7_hours_61 : decode cX7_hours 61 = .ok (.iload_n 1, 1) := by decide +kernel
theorem dX7_hours_62 : decode cX7_hours 62 = .ok (.aload_n 0, 1) := by decide +kernel
theorem dX7_hours_63 : decode cX7_hours 63 = .ok (.getfield 47, 3) := by decide +kernel
theorem dX7_hours_66 : decode cX7_hours 66 = .ok (.bipush 10, 2) := by decide +kernel
theorem dX7_hours_68 : decode cX7_hours 68 = .ok (.iadd, 1) := by decide +kernel
theorem dX7_hours_69 : decode cX7_hours 69 = .ok (.imul, 1) := by decide +kernel
theorem dX7_hours_70 : decode cX7_hours 70 = .ok (.goto 4, 3) := by decide +kernel
theorem dX7_hours_73 : decode cX7_hours 73 = .ok (.iconst 0, 1) := by decide +kernel
theorem dX7_hours_74 : decode cX7_hours 74 = .ok (.iadd, 1) := by decide +kernel
theorem dX7_hours_75 : decode cX7_hours 75 = .ok (.iastore, 1) := by decide +kernel
theorem dX7_hours_76 : decode cX7_hours 76 = .ok (.iinc 2 1, 3) := by decide +kernel
theorem dX7_hours_79 : decode cX7_hours 79 = .ok (.goto (-49), 3) := by decide +kernel
theorem dX7_hours_82 : decode cX7_hours 82 = .ok (.aload_n 0, 1) := by decide +kernel
theorem dX7_hours_83 : decode cX7_hours 83 = .ok (.dup, 1) := by decide +kernel
theorem dX7_hours_84 : decode cX7_hours 84 = .ok (.getfield 135, 3) := by decide +kernel
theorem dX7_hours_87 : decode cX7_hours 87 = .ok (.iload_n 1, 1) := by decide +kernel
theorem dX7_hours_88 : decode cX7_hours 88 = .ok (.iadd, 1) := by decide +kernel
theorem dX7_hours_89 : decode cX7_hours 89 = .ok (.putfield 135, 3) := by decide +kernel
theorem dX7_hours_92 : decode cX7_hours 92 = .ok (.aload_n 0, 1) := by decide +kernel
theorem dX7_hours_93 : decode cX7_hours 93 = .ok (.getfield 135, 3) := by decide +kernel
theorem dX7_hours_96 : decode cX7_hours 96 = .ok (.ireturn, 1) := by decide +kernel
theorem dX7_letGo_0 : decode cX7_letGo 0 = .ok (.iload_n 1, 1) := by decide +kernel
theorem dX7_letGo_1 : decode cX7_letGo 1 = .ok (.i2l, 1) := by decide +kernel
theorem dX7_letGo_2 : decode cX7_letGo 2 = .ok (.lconst 0, 1) := by decide +kernel
theorem dX7_letGo_3 : decode cX7_letGo 3 = .ok (.ldc2_w 133, 3) := by decide +kernel
theorem dX7_letGo_6 : decode cX7_letGo 6 = .ok (.invokestatic 96, 3) := by decide +kernel
theorem dX7_letGo_9 : decode cX7_letGo 9 = .ok (.ifCond .ne 5, 3) := by decide +kernel
theorem dX7_letGo_12 : decode cX7_letGo 12 = .ok (.iconst (-1), 1) := by decide +kernel
theorem dX7_letGo_13 : decode cX7_letGo 13 = .ok (.ireturn, 1) := by decide +kernel
theorem dX7_letGo_14 : decode cX7_letGo 14 = .ok (.aload_n 0, 1) := by decide +kernel
theorem dX7_letGo_15 : decode cX7_letGo 15 = .ok (.getfield 35, 3) := by decide +kernel
theorem dX7_letGo_18 : decode cX7_letGo 18 = .ok (.iload_n 1, 1) := by decide +kernel
theorem dX7_letGo_19 : decode cX7_letGo 19 = .ok (.iaload, 1) := by decide +kernel
theorem dX7_letGo_20 : decode cX7_letGo 20 = .ok (.ifCond .eq 31, 3) := by decide +kernel
theorem dX7_letGo_23 : decode cX7_letGo 23 = .ok (.aload_n 0, 1) := by decide +kernel
theorem dX7_letGo_24 : decode cX7_letGo 24 = .ok (.getfield 41, 3) := by decide +kernel
theorem dX7_letGo_27 : decode cX7_letGo 27 = .ok (.iload_n 1, 1) := by decide +kernel
theorem dX7_letGo_28 : decode cX7_letGo 28 = .ok (.iaload, 1) := by decide +kernel
theorem dX7_letGo_29 : decode cX7_letGo 29 = .ok (.sipush 500, 3) := by decide +kernel
theorem dX7_letGo_32 : decode cX7_letGo 32 = .ok (.if_icmp .lt 19, 3) := by decide +kernel
theorem dX7_letGo_35 : decode cX7_letGo 35 = .ok (.aload_n 0, 1) := by decide +kernel
theorem dX7_letGo_36 : decode cX7_letGo 36 = .ok (.getfield 135, 3) := by decide +kernel
theorem dX7_letGo_39 : decode cX7_letGo 39 = .ok (.aload_n 0, 1) := by decide +kernel
theorem dX7_letGo_40 : decode cX7_letGo 40 = .ok (.getfield 44, 3) := by decide +kernel
theorem dX7_letGo_43 : decode cX7_letGo 43 = .ok (.iload_n 1, 1) := by decide +kernel
theorem dX7_letGo_44 : decode cX7_letGo 44 = .ok (.iaload, 1) := by decide +kernel
theorem dX7_letGo_45 : decode cX7_letGo 45 = .ok (.isub, 1) := by decide +kernel
theorem dX7_letGo_46 : decode cX7_letGo 46 = .ok (.bipush 12, 2) := by decide +kernel
theorem dX7_letGo_48 : decode cX7_letGo 48 = .ok (.if_icmp .ge 6, 3) := by decide +kernel
theorem dX7_letGo_51 : decode cX7_letGo 51 = .ok (.bipush (-2), 2) := by decide +kernel
theorem dX7_letGo_53 : decode cX7_letGo 53 = .ok (.ireturn, 1) := by decide +kernel
theorem dX7_letGo_54 : decode cX7_letGo 54 = .ok (.iconst 0, 1) := by decide +kernel
theorem dX7_letGo_55 : decode cX7_letGo 55 = .ok (.istore_n 2, 1) := by decide +kernel
theorem dX7_letGo_56 : decode cX7_letGo 56 = .ok (.iconst 0, 1) := by decide +kernel
theorem dX7_letGo_57 : decode cX7_letGo 57 = .ok (.istore_n 3, 1) := by decide +kernel
theorem dX7_letGo_58 : decode cX7_letGo 58 = .ok (.iload_n 3, 1) := by decide +kernel
theorem dX7_letGo_59 : decode cX7_letGo 59 = .ok (.aload_n 0, 1) := by decide +kernel
theorem dX7_letGo_60 : decode cX7_letGo 60 = .ok (.getfield 35, 3) := by decide +kernel
theorem dX7_letGo_63 : decode cX7_letGo 63 = .ok (.iload_n 1, 1) := by decide +kernel
theorem dX7_letGo_64 : decode cX7_letGo 64 = .ok (.iaload, 1) := by decide +kernel
theorem dX7_letGo_65 : decode cX7_letGo 65 = .ok (.if_icmp .ge 122, 3) := by decide +kernel
theorem dX7_letGo_68 : decode cX7_letGo 68 = .ok (.aload_n 0, 1) := by decide +kernel
theorem dX7_letGo_69 : decode cX7_letGo 69 = .ok (.getfield 38, 3) := by decide +kernel
theorem dX7_letGo_72 : decode cX7_letGo 72 = .ok (.bipush 40, 2) := by decide +kernel
theorem dX7_letGo_74 : decode cX7_letGo 74 = .ok (.iload_n 1, 1) := by decide +kernel
theorem dX7_letGo_75 : decode cX7_letGo 75 = .ok (.imul, 1) := by decide +kernel
theorem dX7_letGo_76 : decode cX7_letGo 76 = .ok (.iload_n 3, 1) := by decide +kernel
theorem dX7_letGo_77 : decode cX7_letGo 77 = .ok (.iadd, 1) := by decide +kernel
theorem dX7_letGo_78 : decode cX7_letGo 78 = .ok (.iaload, 1) := by decide +kernel
theorem dX7_letGo_79 : decode cX7_letGo 79 = .ok (.istore 4, 2) := by decide +kernel
theorem dX7_letGo_81 : decode cX7_letGo 81 = .ok (.aload_n 0, 1) := by decide +kernel
theorem dX7_letGo_82 : decode cX7_letGo 82 = .ok (.getfield 28, 3) := by decide +kernel
theorem dX7_letGo_85 : decode cX7_letGo 85 = .ok (.iload 4, 2) := by decide +kernel
theorem dX7_letGo_87 : decode cX7_letGo 87 = .ok (.aload_n 0, 1) := by decide +kernel
theorem dX7_letGo_88 : decode cX7_letGo 88 = .ok (.getfield 7, 3) := by decide +kernel
theorem dX7_letGo_91 : decode cX7_letGo 91 = .ok (.iload 4, 2) := by decide +kernel
theorem dX7_letGo_93 : decode cX7_letGo 93 = .ok (.iaload, 1) := by decide +kernel
theorem dX7_letGo_94 : decode cX7_letGo 94 = .ok (.aload_n 0, 1) := by decide +kernel
theorem dX7_letGo_95 : decode cX7_letGo 95 = .ok (.getfield 7, 3) := by decide +kernel
theorem dX7_letGo_98 : decode cX7_letGo 98 = .ok (.iload 4, 2) := by decide +kernel
theorem dX7_letGo_100 : decode cX7_letGo 100 = .ok (.iaload, 1) := by decide +kernel
theorem dX7_letGo_101 : decode cX7_letGo 101 = .ok (.imul, 1) := by decide +kernel
theorem dX7_letGo_102 : decode cX7_letGo 102 = .ok (.aload_n 0, 1) := by decide +kernel
theorem dX7_letGo_103 : decode cX7_letGo 103 = .ok (.getfield 13, 3) := by decide +kernel
theorem dX7_letGo_106 : decode cX7_letGo 106 = .ok (.iload 4, 2) := by decide +kernel
theorem dX7_letGo_108 : decode cX7_letGo 108 = .ok (.iaload, 1) := by decide +kernel
theorem dX7_letGo_109 : decode cX7_letGo 109 = .ok (.iconst 1, 1) := by decide +kernel
theorem dX7_letGo_110 : decode cX7_letGo 110 = .ok (.iadd, 1) := by decide +kernel
theorem dX7_letGo_111 : decode cX7_letGo 111 = .ok (.imul, 1) := by decide +kernel
theorem dX7_letGo_112 : decode cX7_letGo 112 = .ok (.aload_n 0, 1) := by decide +kernel
theorem dX7_letGo_113 : decode cX7_letGo 113 = .ok (.getfield 41, 3) := by decide +kernel
theorem dX7_letGo_116 : decode cX7_letGo 116 = .ok (.iload_n 1, 1) := by decide +kernel
theorem dX7_letGo_117 : decode cX7_letGo 117 = .ok (.iaload, 1) := by decide +kernel
theorem dX7_letGo_118 : decode cX7_letGo 118 = .ok (.sipush 1000, 3) := by decide +kernel
theorem dX7_letGo_121 : decode cX7_letGo 121 = .ok (.iadd, 1) := by decide +kernel
theorem dX7_letGo_122 : decode cX7_letGo 122 = .ok (.idiv, 1) := by decide +kernel
theorem dX7_letGo_123 : decode cX7_letGo 123 = .ok (.iastore, 1) := by decide +kernel
theorem dX7_letGo_124 : decode cX7_letGo 124 = .ok (.aload_n 0, 1) := by decide +kernel
theorem dX7_letGo_125 : decode cX7_letGo 125 = .ok (.getfield 25, 3) := by decide +kernel
theorem dX7_letGo_128 : decode cX7_letGo 128 = .ok (.iload 4, 2) := by decide +kernel
theorem dX7_letGo_130 : decode cX7_letGo 130 = .ok (.bipush (-4), 2) := by decide +kernel
theorem dX7_letGo_132 : decode cX7_letGo 132 = .ok (.iastore, 1) := by decide +kernel
theorem dX7_letGo_133 : decode cX7_letGo 133 = .ok (.aload_n 0, 1) := by decide +kernel
theorem dX7_letGo_134 : decode cX7_letGo 134 = .ok (.getfield 22, 3) := by decide +kernel
theorem dX7_letGo_137 : decode cX7_letGo 137 = .ok (.iload 4, 2) := by decide +kernel
theorem dX7_letGo_139 : decode cX7_letGo 139 = .ok (.aload_n 0, 1) := by decide +kernel
theorem dX7_letGo_140 : decode cX7_letGo 140 = .ok (.getfield 31, 3) := by decide +kernel
theorem dX7_letGo_143 : decode cX7_letGo 143 = .ok (.iload 4, 2) := by decide +kernel
theorem dX7_letGo_145 : decode cX7_letGo 145 = .ok (.baload, 1) := by decide +kernel
theorem dX7_letGo_146 : decode cX7_letGo 146 = .ok (.ifCond .eq 7, 3) := by decide +kernel
theorem dX7_letGo_149 : decode cX7_letGo 149 = .ok (.iconst 5, 1) := by decide +kernel
theorem dX7_letGo_150 : decode cX7_letGo 150 = .ok (.goto 4, 3) := by decide +kernel
theorem dX7_letGo_153 : decode cX7_letGo 153 = .ok (.iconst 2, 1) := by decide +kernel
theorem dX7_letGo_154 : decode cX7_letGo 154 = .ok (.iastore, 1) := by decide +kernel
theorem dX7_letGo_155 : decode cX7_letGo 155 = .ok (.iload_n 2, 1) := by decide +kernel
theorem dX7_letGo_156 : decode cX7_letGo 156 = .ok (.aload_n 0, 1) := by decide +kernel
theorem dX7_letGo_157 : decode cX7_letGo 157 = .ok (.getfield 31, 3) := by decide +kernel
theorem dX7_letGo_160 : decode cX7_letGo 160 = .ok (.iload 4, 2) := by decide +kernel
theorem dX7_letGo_162 : decode cX7_letGo 162 = .ok (.baload, 1) := by decide +kernel
theorem dX7_letGo_163 : decode cX7_letGo 163 = .ok (.ifCond .eq 7, 3) := by decide +kernel
theorem dX7_letGo_166 : decode cX7_letGo 166 = .ok (.iconst 0, 1) := by decide +kernel
theorem dX7_letGo_167 : decode cX7_letGo 167 = .ok (.goto 4, 3) := by decide +kernel
theorem dX7_letGo_170 : decode cX7_letGo 170 = .ok (.iconst 1, 1) := by decide +kernel
theorem dX7_letGo_171 : decode cX7_letGo 171 = .ok (.iadd, 1) := by decide +kernel
theorem dX7_letGo_172 : decode cX7_letGo 172 = .ok (.istore_n 2, 1) := by decide +kernel
theorem dX7_letGo_173 : decode cX7_letGo 173 = .ok (.aload_n 0, 1) := by decide +kernel
theorem dX7_letGo_174 : decode cX7_letGo 174 = .ok (.getfield 31, 3) := by decide +kernel
theorem dX7_letGo_177 : decode cX7_letGo 177 = .ok (.iload 4, 2) := by decide +kernel
theorem dX7_letGo_179 : decode cX7_letGo 179 = .ok (.iconst 0, 1) := by decide +kernel
theorem dX7_letGo_180 : decode cX7_letGo 180 = .ok (.bastore, 1) := by decide +kernel
theorem dX7_letGo_181 : decode cX7_letGo 181 = .ok (.iinc 3 1, 3) := by decide +kernel
theorem dX7_letGo_184 : decode cX7_letGo 184 = .ok (.goto (-126), 3) := by decide +kernel
theorem dX7_letGo_187 : decode cX7_letGo 187 = .ok (.aload_n 0, 1) := by decide +kernel
theorem dX7_letGo_188 : decode cX7_letGo 188 = .ok (.getfield 35, 3) := by decide +kernel
theorem dX7_letGo_191 : decode cX7_letGo 191 = .ok (.iload_n 1, 1) := by decide +kernel
theorem dX7_letGo_192 : decode cX7_letGo 192 = .ok (.iconst 0, 1) := by decide +kernel
theorem dX7_letGo_193 : decode cX7_letGo 193 = .ok (.iastore, 1) := by decide +kernel
theorem dX7_letGo_194 : decode cX7_letGo 194 = .ok (.aload_n 0, 1) := by decide +kernel
theorem dX7_letGo_195 : decode cX7_letGo 195 = .ok (.getfield 41, 3) := by decide +kernel
theorem dX7_letGo_198 : decode cX7_letGo 198 = .ok (.iload_n 1, 1) := by decide +kernel
theorem dX7_letGo_199 : decode cX7_letGo 199 = .ok (.iconst 0, 1) := by decide +kernel
theorem dX7_letGo_200 : decode cX7_letGo 200 = .ok (.iastore, 1) := by decide +kernel
theorem dX7_letGo_201 : decode cX7_letGo 201 = .ok (.iload_n 2, 1) := by decide +kernel
theorem dX7_letGo_202 : decode cX7_letGo 202 = .ok (.ireturn, 1) := by decide +kernel
theorem dX7_isStack_0 : decode cX7_isStack 0 = .ok (.iload_n 0, 1) := by decide +kernel
theorem dX7_isStack_1 : decode cX7_isStack 1 = .ok (.i2l, 1) := by decide +kernel
theorem dX7_isStack_2 : decode cX7_isStack 2 = .ok (.lconst 0, 1) := by decide +kernel
theorem dX7_isStack_3 : decode cX7_isStack 3 = .ok (.ldc2_w 146, 3) := by decide +kernel
theorem dX7_isStack_6 : decode cX7_isStack 6 = .ok (.invokestatic 96, 3) := by decide +kernel
theorem dX7_isStack_9 : decode cX7_isStack 9 = .ok (.ireturn, 1) := by decide +kernel
theorem dX7_clears_0 : decode cX7_clears 0 = .ok (.aload_n 0, 1) := by decide +kernel
theorem dX7_clears_1 : decode cX7_clears 1 = .ok (.getfield 51, 3) := by decide +kernel
theorem dX7_clears_4 : decode cX7_clears 4 = .ok (.iload_n 1, 1) := by decide +kernel
theorem dX7_clears_5 : decode cX7_clears 5 = .ok (.iaload, 1) := by decide +kernel
theorem dX7_clears_6 : decode cX7_clears 6 = .ok (.ifCond .le 81, 3) := by decide +kernel
theorem dX7_clears_9 : decode cX7_clears 9 = .ok (.aload_n 0, 1) := by decide +kernel
theorem dX7_clears_10 : decode cX7_clears 10 = .ok (.getfield 31, 3) := by decide +kernel
theorem dX7_clears_13 : decode cX7_clears 13 = .ok (.aload_n 0, 1) := by decide +kernel
theorem dX7_clears_14 : decode cX7_clears 14 = .ok (.getfield 54, 3) := by decide +kernel
theorem dX7_clears_17 : decode cX7_clears 17 = .ok (.iconst 4, 1) := by decide +kernel
theorem dX7_clears_18 : decode cX7_clears 18 = .ok (.iload_n 1, 1) := by decide +kernel
theorem dX7_clears_19 : decode cX7_clears 19 = .ok (.imul, 1) := by decide +kernel
theorem dX7_clears_20 : decode cX7_clears 20 = .ok (.aload_n 0, 1) := by decide +kernel
theorem dX7_clears_21 : decode cX7_clears 21 = .ok (.getfield 51, 3) := by decide +kernel
theorem dX7_clears_24 : decode cX7_clears 24 = .ok (.iload_n 1, 1) := by decide +kernel
theorem dX7_clears_25 : decode cX7_clears 25 = .ok (.iaload, 1) := by decide +kernel
theorem dX7_clears_26 : decode cX7_clears 26 = .ok (.iadd, 1) := by decide +kernel
theorem dX7_clears_27 : decode cX7_clears 27 = .ok (.iconst 1, 1) := by decide +kernel
theorem dX7_clears_28 : decode cX7_clears 28 = .ok (.isub, 1) := by decide +kernel
theorem dX7_clears_29 : decode cX7_clears 29 = .ok (.iaload, 1) := by decide +kernel
theorem dX7_clears_30 : decode cX7_clears 30 = .ok (.baload, 1) := by decide +kernel
theorem dX7_clears_31 : decode cX7_clears 31 = .ok (.ifCond .eq 56, 3) := by decide +kernel
theorem dX7_clears_34 : decode cX7_clears 34 = .ok (.aload_n 0, 1) := by decide +kernel
theorem dX7_clears_35 : decode cX7_clears 35 = .ok (.getfield 54, 3) := by decide +kernel
theorem dX7_clears_38 : decode cX7_clears 38 = .ok (.iconst 4, 1) := by decide +kernel
theorem dX7_clears_39 : decode cX7_clears 39 = .ok (.iload_n 1, 1) := by decide +kernel
theorem dX7_clears_40 : decode cX7_clears 40 = .ok (.imul, 1) := by decide +kernel
theorem dX7_clears_41 : decode cX7_clears 41 = .ok (.aload_n 0, 1) := by decide +kernel
theorem dX7_clears_42 : decode cX7_clears 42 = .ok (.getfield 51, 3) := by decide +kernel
theorem dX7_clears_45 : decode cX7_clears 45 = .ok (.iload_n 1, 1) := by decide +kernel
theorem dX7_clears_46 : decode cX7_clears 46 = .ok (.iaload, 1) := by decide +kernel
theorem dX7_clears_47 : decode cX7_clears 47 = .ok (.iadd, 1) := by decide +kernel
theorem dX7_clears_48 : decode cX7_clears 48 = .ok (.iconst 1, 1) := by decide +kernel
theorem dX7_clears_49 : decode cX7_clears 49 = .ok (.isub, 1) := by decide +kernel
theorem dX7_clears_50 : decode cX7_clears 50 = .ok (.iaload, 1) := by decide +kernel
theorem dX7_clears_51 : decode cX7_clears 51 = .ok (.istore_n 2, 1) := by decide +kernel
theorem dX7_clears_52 : decode cX7_clears 52 = .ok (.aload_n 0, 1) := by decide +kernel
theorem dX7_clears_53 : decode cX7_clears 53 = .ok (.getfield 51, 3) := by decide +kernel
theorem dX7_clears_56 : decode cX7_clears 56 = .ok (.iload_n 1, 1) := by decide +kernel
theorem dX7_clears_57 : decode cX7_clears 57 = .ok (.dup2, 1) := by decide +kernel
theorem dX7_clears_58 : decode cX7_clears 58 = .ok (.iaload, 1) := by decide +kernel
theorem dX7_clears_59 : decode cX7_clears 59 = .ok (.iconst 1, 1) := by decide +kernel
theorem dX7_clears_60 : decode cX7_clears 60 = .ok (.isub, 1) := by decide +kernel
theorem dX7_clears_61 : decode cX7_clears 61 = .ok (.iastore, 1) := by decide +kernel
theorem dX7_clears_62 : decode cX7_clears 62 = .ok (.aload_n 0, 1) := by decide +kernel
theorem dX7_clears_63 : decode cX7_clears 63 = .ok (.getfield 31, 3) := by decide +kernel
theorem dX7_clears_66 : decode cX7_clears 66 = .ok (.iload_n 2, 1) := by decide +kernel
theorem dX7_clears_67 : decode cX7_clears 67 = .ok (.iconst 0, 1) := by decide +kernel
theorem dX7_clears_68 : decode cX7_clears 68 = .ok (.bastore, 1) := by decide +kernel
theorem dX7_clears_69 : decode cX7_clears 69 = .ok (.aload_n 0, 1) := by decide +kernel
theorem dX7_clears_70 : decode cX7_clears 70 = .ok (.getfield 22, 3) := by decide +kernel
theorem dX7_clears_73 : decode cX7_clears 73 = .ok (.iload_n 2, 1) := by decide +kernel
theorem dX7_clears_74 : decode cX7_clears 74 = .ok (.iconst 5, 1) := by decide +kernel
theorem dX7_clears_75 : decode cX7_clears 75 = .ok (.iastore, 1) := by decide +kernel
theorem dX7_clears_76 : decode cX7_clears 76 = .ok (.aload_n 0, 1) := by decide +kernel
theorem dX7_clears_77 : decode cX7_clears 77 = .ok (.getfield 25, 3) := by decide +kernel
theorem dX7_clears_80 : decode cX7_clears 80 = .ok (.iload_n 2, 1) := by decide +kernel
theorem dX7_clears_81 : decode cX7_clears 81 = .ok (.bipush (-4), 2) := by decide +kernel
theorem dX7_clears_83 : decode cX7_clears 83 = .ok (.iastore, 1) := by decide +kernel
theorem dX7_clears_84 : decode cX7_clears 84 = .ok (.goto (-84), 3) := by decide +kernel
theorem dX7_clears_87 : decode cX7_clears 87 = .ok (.return_, 1) := by decide +kernel
theorem dX7_lays_0 : decode cX7_lays 0 = .ok (.aload_n 0, 1) := by decide +kernel
theorem dX7_lays_1 : decode cX7_lays 1 = .ok (.getfield 54, 3) := by decide +kernel
theorem dX7_lays_4 : decode cX7_lays 4 = .ok (.iconst 4, 1) := by decide +kernel
theorem dX7_lays_5 : decode cX7_lays 5 = .ok (.iload_n 2, 1) := by decide +kernel
theorem dX7_lays_6 : decode cX7_lays 6 = .ok (.imul, 1) := by decide +kernel
theorem dX7_lays_7 : decode cX7_lays 7 = .ok (.aload_n 0, 1) := by decide +kernel
theorem dX7_lays_8 : decode cX7_lays 8 = .ok (.getfield 51, 3) := by decide +kernel
theorem dX7_lays_11 : decode cX7_lays 11 = .ok (.iload_n 2, 1) := by decide +kernel
theorem dX7_lays_12 : decode cX7_lays 12 = .ok (.iaload, 1) := by decide +kernel
theorem dX7_lays_13 : decode cX7_lays 13 = .ok (.iadd, 1) := by decide +kernel
theorem dX7_lays_14 : decode cX7_lays 14 = .ok (.iload_n 1, 1) := by decide +kernel
theorem dX7_lays_15 : decode cX7_lays 15 = .ok (.iastore, 1) := by decide +kernel
theorem dX7_lays_16 : decode cX7_lays 16 = .ok (.aload_n 0, 1) := by decide +kernel
theorem dX7_lays_17 : decode cX7_lays 17 = .ok (.getfield 51, 3) := by decide +kernel
theorem dX7_lays_20 : decode cX7_lays 20 = .ok (.iload_n 2, 1) := by decide +kernel
theorem dX7_lays_21 : decode cX7_lays 21 = .ok (.dup2, 1) := by decide +kernel
theorem dX7_lays_22 : decode cX7_lays 22 = .ok (.iaload, 1) := by decide +kernel
theorem dX7_lays_23 : decode cX7_lays 23 = .ok (.iconst 1, 1) := by decide +kernel
theorem dX7_lays_24 : decode cX7_lays 24 = .ok (.iadd, 1) := by decide +kernel
theorem dX7_lays_25 : decode cX7_lays 25 = .ok (.iastore, 1) := by decide +kernel
theorem dX7_lays_26 : decode cX7_lays 26 = .ok (.aload_n 0, 1) := by decide +kernel
theorem dX7_lays_27 : decode cX7_lays 27 = .ok (.getfield 22, 3) := by decide +kernel
theorem dX7_lays_30 : decode cX7_lays 30 = .ok (.iload_n 1, 1) := by decide +kernel
theorem dX7_lays_31 : decode cX7_lays 31 = .ok (.iconst 3, 1) := by decide +kernel
theorem dX7_lays_32 : decode cX7_lays 32 = .ok (.iastore, 1) := by decide +kernel
theorem dX7_lays_33 : decode cX7_lays 33 = .ok (.aload_n 0, 1) := by decide +kernel
theorem dX7_lays_34 : decode cX7_lays 34 = .ok (.getfield 25, 3) := by decide +kernel
theorem dX7_lays_37 : decode cX7_lays 37 = .ok (.iload_n 1, 1) := by decide +kernel
theorem dX7_lays_38 : decode cX7_lays 38 = .ok (.iload_n 2, 1) := by decide +kernel
theorem dX7_lays_39 : decode cX7_lays 39 = .ok (.iastore, 1) := by decide +kernel
theorem dX7_lays_40 : decode cX7_lays 40 = .ok (.return_, 1) := by decide +kernel
theorem dX7_stack_0 : decode cX7_stack 0 = .ok (.aload_n 0, 1) := by decide +kernel
theorem dX7_stack_1 : decode cX7_stack 1 = .ok (.iload_n 1, 1) := by decide +kernel
theorem dX7_stack_2 : decode cX7_stack 2 = .ok (.invokevirtual 114, 3) := by decide +kernel
theorem dX7_stack_5 : decode cX7_stack 5 = .ok (.ifCond .eq 10, 3) := by decide +kernel
theorem dX7_stack_8 : decode cX7_stack 8 = .ok (.iload_n 2, 1) := by decide +kernel
theorem dX7_stack_9 : decode cX7_stack 9 = .ok (.invokestatic 148, 3) := by decide +kernel
theorem dX7_stack_12 : decode cX7_stack 12 = .ok (.ifCond .ne 5, 3) := by decide +kernel
theorem dX7_stack_15 : decode cX7_stack 15 = .ok (.iconst (-1), 1) := by decide +kernel
theorem dX7_stack_16 : decode cX7_stack 16 = .ok (.ireturn, 1) := by decide +kernel
theorem dX7_stack_17 : decode cX7_stack 17 = .ok (.aload_n 0, 1) := by decide +kernel
theorem dX7_stack_18 : decode cX7_stack 18 = .ok (.getfield 22, 3) := by decide +kernel
theorem dX7_stack_21 : decode cX7_stack 21 = .ok (.iload_n 1, 1) := by decide +kernel
theorem dX7_stack_22 : decode cX7_stack 22 = .ok (.iaload, 1) := by decide +kernel
theorem dX7_stack_23 : decode cX7_stack 23 = .ok (.iconst 2, 1) := by decide +kernel
theorem dX7_stack_24 : decode cX7_stack 24 = .ok (.if_icmp .eq 6, 3) := by decide +kernel
theorem dX7_stack_27 : decode cX7_stack 27 = .ok (.bipush (-2), 2) := by decide +kernel
theorem dX7_stack_29 : decode cX7_stack 29 = .ok (.ireturn, 1) := by decide +kernel
theorem dX7_stack_30 : decode cX7_stack 30 = .ok (.aload_n 0, 1) := by decide +kernel
theorem dX7_stack_31 : decode cX7_stack 31 = .ok (.getfield 51, 3) := by decide +kernel
theorem dX7_stack_34 : decode cX7_stack 34 = .ok (.iload_n 2, 1) := by decide +kernel
theorem dX7_stack_35 : decode cX7_stack 35 = .ok (.iaload, 1) := by decide +kernel
theorem dX7_stack_36 : decode cX7_stack 36 = .ok (.iconst 4, 1) := by decide +kernel
theorem dX7_stack_37 : decode cX7_stack 37 = .ok (.if_icmp .ne 6, 3) := by decide +kernel
theorem dX7_stack_40 : decode cX7_stack 40 = .ok (.bipush (-3), 2) := by decide +kernel
theorem dX7_stack_42 : decode cX7_stack 42 = .ok (.ireturn, 1) := by decide +kernel
theorem dX7_stack_43 : decode cX7_stack 43 = .ok (.aload_n 0, 1) := by decide +kernel
theorem dX7_stack_44 : decode cX7_stack 44 = .ok (.iload_n 1, 1) := by decide +kernel
theorem dX7_stack_45 : decode cX7_stack 45 = .ok (.iload_n 2, 1) := by decide +kernel
theorem dX7_stack_46 : decode cX7_stack 46 = .ok (.invokevirtual 151, 3) := by decide +kernel
theorem dX7_stack_49 : decode cX7_stack 49 = .ok (.aload_n 0, 1) := by decide +kernel
theorem dX7_stack_50 : decode cX7_stack 50 = .ok (.getfield 51, 3) := by decide +kernel
theorem dX7_stack_53 : decode cX7_stack 53 = .ok (.iload_n 2, 1) := by decide +kernel
theorem dX7_stack_54 : decode cX7_stack 54 = .ok (.iaload, 1) := by decide +kernel
theorem dX7_stack_55 : decode cX7_stack 55 = .ok (.ireturn, 1) := by decide +kernel
theorem dX7_move_0 : decode cX7_move 0 = .ok (.iload_n 1, 1) := by decide +kernel
theorem dX7_move_1 : decode cX7_move 1 = .ok (.invokestatic 148, 3) := by decide +kernel
theorem dX7_move_4 : decode cX7_move 4 = .ok (.ifCond .eq 15, 3) := by decide +kernel
theorem dX7_move_7 : decode cX7_move 7 = .ok (.iload_n 2, 1) := by decide +kernel
theorem dX7_move_8 : decode cX7_move 8 = .ok (.invokestatic 148, 3) := by decide +kernel
theorem dX7_move_11 : decode cX7_move 11 = .ok (.ifCond .eq 8, 3) := by decide +kernel
theorem dX7_move_14 : decode cX7_move 14 = .ok (.iload_n 1, 1) := by decide +kernel
theorem dX7_move_15 : decode cX7_move 15 = .ok (.iload_n 2, 1) := by decide +kernel
theorem dX7_move_16 : decode cX7_move 16 = .ok (.if_icmp .ne 5, 3) := by decide +kernel
theorem dX7_move_19 : decode cX7_move 19 = .ok (.iconst (-1), 1) := by decide +kernel
theorem dX7_move_20 : decode cX7_move 20 = .ok (.ireturn, 1) := by decide +kernel
theorem dX7_move_21 : decode cX7_move 21 = .ok (.aload_n 0, 1) := by decide +kernel
theorem dX7_move_22 : decode cX7_move 22 = .ok (.getfield 51, 3) := by decide +kernel
theorem dX7_move_25 : decode cX7_move 25 = .ok (.iload_n 1, 1) := by decide +kernel
theorem dX7_move_26 : decode cX7_move 26 = .ok (.iaload, 1) := by decide +kernel
theorem dX7_move_27 : decode cX7_move 27 = .ok (.ifCond .ne 6, 3) := by decide +kernel
theorem dX7_move_30 : decode cX7_move 30 = .ok (.bipush (-2), 2) := by decide +kernel
theorem dX7_move_32 : decode cX7_move 32 = .ok (.ireturn, 1) := by decide +kernel
theorem dX7_move_33 : decode cX7_move 33 = .ok (.aload_n 0, 1) := by decide +kernel
theorem dX7_move_34 : decode cX7_move 34 = .ok (.getfield 51, 3) := by decide +kernel

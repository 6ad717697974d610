theorem dL_cell_0 : decode cL_cell 0 = .ok (.iload_n 1, 1) := by decide +kernel
theorem dL_cell_1 : decode cL_cell 1 = .ok (.aload_n 0, 1) := by decide +kernel
theorem dL_cell_2 : decode cL_cell 2 = .ok (.arraylength, 1) := by decide +kernel
theorem dL_cell_3 : decode cL_cell 3 = .ok (.if_icmp .ge 9, 3) := by decide +kernel
theorem dL_cell_6 : decode cL_cell 6 = .ok (.aload_n 0, 1) := by decide +kernel
theorem dL_cell_7 : decode cL_cell 7 = .ok (.iload_n 1, 1) := by decide +kernel
theorem dL_cell_8 : decode cL_cell 8 = .ok (.iaload, 1) := by decide +kernel
theorem dL_cell_9 : decode cL_cell 9 = .ok (.goto 9, 3) := by decide +kernel
theorem dL_cell_12 : decode cL_cell 12 = .ok (.ldc 7, 2) := by decide +kernel
theorem dL_cell_14 : decode cL_cell 14 = .ok (.iload_n 1, 1) := by decide +kernel
theorem dL_cell_15 : decode cL_cell 15 = .ok (.iconst 1, 1) := by decide +kernel
theorem dL_cell_16 : decode cL_cell 16 = .ok (.iadd, 1) := by decide +kernel
theorem dL_cell_17 : decode cL_cell 17 = .ok (.imul, 1) := by decide +kernel
theorem dL_cell_18 : decode cL_cell 18 = .ok (.ireturn, 1) := by decide +kernel
theorem dL_low_0 : decode cL_low 0 = .ok (.iload_n 0, 1) := by decide +kernel
theorem dL_low_1 : decode cL_low 1 = .ok (.ldc 8, 2) := by decide +kernel
theorem dL_low_3 : decode cL_low 3 = .ok (.iand, 1) := by decide +kernel
theorem dL_low_4 : decode cL_low 4 = .ok (.iload_n 1, 1) := by decide +kernel
theorem dL_low_5 : decode cL_low 5 = .ok (.irem, 1) := by decide +kernel
theorem dL_low_6 : decode cL_low 6 = .ok (.ireturn, 1) := by decide +kernel
theorem dL_fee_0 : decode cL_fee 0 = .ok (.iload_n 0, 1) := by decide +kernel
theorem dL_fee_1 : decode cL_fee 1 = .ok (.ifCond .ne 7, 3) := by decide +kernel
theorem dL_fee_4 : decode cL_fee 4 = .ok (.iconst 5, 1) := by decide +kernel
theorem dL_fee_5 : decode cL_fee 5 = .ok (.goto 9, 3) := by decide +kernel
theorem dL_fee_8 : decode cL_fee 8 = .ok (.bipush 10, 2) := by decide +kernel
theorem dL_fee_10 : decode cL_fee 10 = .ok (.iload_n 0, 1) := by decide +kernel
theorem dL_fee_11 : decode cL_fee 11 = .ok (.iconst 1, 1) := by decide +kernel
theorem dL_fee_12 : decode cL_fee 12 = .ok (.isub, 1) := by decide +kernel
theorem dL_fee_13 : decode cL_fee 13 = .ok (.ishl, 1) := by decide +kernel
theorem dL_fee_14 : decode cL_fee 14 = .ok (.ireturn, 1) := by decide +kernel
theorem dL_principals_0 : decode cL_principals 0 = .ok (.iconst 0, 1) := by decide +kernel
theorem dL_principals_1 : decode cL_principals 1 = .ok (.istore 4, 2) := by decide +kernel
theorem dL_principals_3 : decode cL_principals 3 = .ok (.iconst 0, 1) := by decide +kernel
theorem dL_principals_4 : decode cL_principals 4 = .ok (.istore 5, 2) := by decide +kernel
theorem dL_principals_6 : decode cL_principals 6 = .ok (.iload 5, 2) := by decide +kernel
theorem dL_principals_8 : decode cL_principals 8 = .ok (.aload_n 0, 1) := by decide +kernel
theorem dL_principals_9 : decode cL_principals 9 = .ok (.iconst 2, 1) := by decide +kernel
theorem dL_principals_10 : decode cL_principals 10 = .ok (.iaload, 1) := by decide +kernel
theorem dL_principals_11 : decode cL_principals 11 = .ok (.if_icmp .ge 57, 3) := by decide +kernel
theorem dL_principals_14 : decode cL_principals 14 = .ok (.iload 4, 2) := by decide +kernel
theorem dL_principals_16 : decode cL_principals 16 = .ok (.aload_n 1, 1) := by decide +kernel
theorem dL_principals_17 : decode cL_principals 17 = .ok (.bipush 6, 2) := by decide +kernel
theorem dL_principals_19 : decode cL_principals 19 = .ok (.iload 5, 2) := by decide +kernel
theorem dL_principals_21 : decode cL_principals 21 = .ok (.imul, 1) := by decide +kernel
theorem dL_principals_22 : decode cL_principals 22 = .ok (.iconst 1, 1) := by decide +kernel
theorem dL_principals_23 : decode cL_principals 23 = .ok (.iadd, 1) := by decide +kernel
theorem dL_principals_24 : decode cL_principals 24 = .ok (.iaload, 1) := by decide +kernel
theorem dL_principals_25 : decode cL_principals 25 = .ok (.iload_n 2, 1) := by decide +kernel
theorem dL_principals_26 : decode cL_principals 26 = .ok (.if_icmp .ne 32, 3) := by decide +kernel
theorem dL_principals_29 : decode cL_principals 29 = .ok (.iload_n 3, 1) := by decide +kernel
theorem dL_principals_30 : decode cL_principals 30 = .ok (.ifCond .lt 16, 3) := by decide +kernel
theorem dL_principals_33 : decode cL_principals 33 = .ok (.aload_n 1, 1) := by decide +kernel
theorem dL_principals_34 : decode cL_principals 34 = .ok (.bipush 6, 2) := by decide +kernel
theorem dL_principals_36 : decode cL_principals 36 = .ok (.iload 5, 2) := by decide +kernel
theorem dL_principals_38 : decode cL_principals 38 = .ok (.imul, 1) := by decide +kernel
theorem dL_principals_39 : decode cL_principals 39 = .ok (.iconst 2, 1) := by decide +kernel
theorem dL_principals_40 : decode cL_principals 40 = .ok (.iadd, 1) := by decide +kernel
theorem dL_principals_41 : decode cL_principals 41 = .ok (.iaload, 1) := by decide +kernel
theorem dL_principals_42 : decode cL_principals 42 = .ok (.iload_n 3, 1) := by decide +kernel
theorem dL_principals_43 : decode cL_principals 43 = .ok (.if_icmp .ne 15, 3) := by decide +kernel
theorem dL_principals_46 : decode cL_principals 46 = .ok (.aload_n 1, 1) := by decide +kernel
theorem dL_principals_47 : decode cL_principals 47 = .ok (.bipush 6, 2) := by decide +kernel
theorem dL_principals_49 : decode cL_principals 49 = .ok (.iload 5, 2) := by decide +kernel
theorem dL_principals_51 : decode cL_principals 51 = .ok (.imul, 1) := by decide +kernel
theorem dL_principals_52 : decode cL_principals 52 = .ok (.iconst 3, 1) := by decide +kernel
theorem dL_principals_53 : decode cL_principals 53 = .ok (.iadd, 1) := by decide +kernel
theorem dL_principals_54 : decode cL_principals 54 = .ok (.iaload, 1) := by decide +kernel
theorem dL_principals_55 : decode cL_principals 55 = .ok (.goto 4, 3) := by decide +kernel
theorem dL_principals_58 : decode cL_principals 58 = .ok (.iconst 0, 1) := by decide +kernel
theorem dL_principals_59 : decode cL_principals 59 = .ok (.iadd, 1) := by decide +kernel
theorem dL_principals_60 : decode cL_principals 60 = .ok (.istore 4, 2) := by decide +kernel
theorem dL_principals_62 : decode cL_principals 62 = .ok (.iinc 5 1, 3) := by decide +kernel
theorem dL_principals_65 : decode cL_principals 65 = .ok (.goto (-59), 3) := by decide +kernel
theorem dL_principals_68 : decode cL_principals 68 = .ok (.iload 4, 2) := by decide +kernel
theorem dL_principals_70 : decode cL_principals 70 = .ok (.ireturn, 1) := by decide +kernel
theorem dL_share_0 : decode cL_share 0 = .ok (.aload_n 0, 1) := by decide +kernel
theorem dL_share_1 : decode cL_share 1 = .ok (.aload_n 1, 1) := by decide +kernel
theorem dL_share_2 : decode cL_share 2 = .ok (.iload_n 2, 1) := by decide +kernel
theorem dL_share_3 : decode cL_share 3 = .ok (.iload_n 3, 1) := by decide +kernel
theorem dL_share_4 : decode cL_share 4 = .ok (.invokestatic 9, 3) := by decide +kernel
theorem dL_share_7 : decode cL_share 7 = .ok (.istore 6, 2) := by decide +kernel
theorem dL_share_9 : decode cL_share 9 = .ok (.iconst 0, 1) := by decide +kernel
theorem dL_share_10 : decode cL_share 10 = .ok (.istore 7, 2) := by decide +kernel
theorem dL_share_12 : decode cL_share 12 = .ok (.iconst 0, 1) := by decide +kernel
theorem dL_share_13 : decode cL_share 13 = .ok (.istore 8, 2) := by decide +kernel
theorem dL_share_15 : decode cL_share 15 = .ok (.iload 8, 2) := by decide +kernel
theorem dL_share_17 : decode cL_share 17 = .ok (.aload_n 0, 1) := by decide +kernel
theorem dL_share_18 : decode cL_share 18 = .ok (.iconst 2, 1) := by decide +kernel
theorem dL_share_19 : decode cL_share 19 = .ok (.iaload, 1) := by decide +kernel
theorem dL_share_20 : decode cL_share 20 = .ok (.if_icmp .ge 110, 3) := by decide +kernel
theorem dL_share_23 : decode cL_share 23 = .ok (.aload_n 1, 1) := by decide +kernel
theorem dL_share_24 : decode cL_share 24 = .ok (.bipush 6, 2) := by decide +kernel
theorem dL_share_26 : decode cL_share 26 = .ok (.iload 8, 2) := by decide +kernel
theorem dL_share_28 : decode cL_share 28 = .ok (.imul, 1) := by decide +kernel
theorem dL_share_29 : decode cL_share 29 = .ok (.iconst 1, 1) := by decide +kernel
theorem dL_share_30 : decode cL_share 30 = .ok (.iadd, 1) := by decide +kernel
theorem dL_share_31 : decode cL_share 31 = .ok (.iaload, 1) := by decide +kernel
theorem dL_share_32 : decode cL_share 32 = .ok (.iload_n 2, 1) := by decide +kernel
theorem dL_share_33 : decode cL_share 33 = .ok (.if_icmp .ne 36, 3) := by decide +kernel
theorem dL_share_36 : decode cL_share 36 = .ok (.iload_n 3, 1) := by decide +kernel
theorem dL_share_37 : decode cL_share 37 = .ok (.ifCond .lt 16, 3) := by decide +kernel
theorem dL_share_40 : decode cL_share 40 = .ok (.aload_n 1, 1) := by decide +kernel
theorem dL_share_41 : decode cL_share 41 = .ok (.bipush 6, 2) := by decide +kernel
theorem dL_share_43 : decode cL_share 43 = .ok (.iload 8, 2) := by decide +kernel
theorem dL_share_45 : decode cL_share 45 = .ok (.imul, 1) := by decide +kernel
theorem dL_share_46 : decode cL_share 46 = .ok (.iconst 2, 1) := by decide +kernel
theorem dL_share_47 : decode cL_share 47 = .ok (.iadd, 1) := by decide +kernel
theorem dL_share_48 : decode cL_share 48 = .ok (.iaload, 1) := by decide +kernel
theorem dL_share_49 : decode cL_share 49 = .ok (.iload_n 3, 1) := by decide +kernel
theorem dL_share_50 : decode cL_share 50 = .ok (.if_icmp .ne 19, 3) := by decide +kernel
theorem dL_share_53 : decode cL_share 53 = .ok (.aload_n 1, 1) := by decide +kernel
theorem dL_share_54 : decode cL_share 54 = .ok (.bipush 6, 2) := by decide +kernel
theorem dL_share_56 : decode cL_share 56 = .ok (.iload 8, 2) := by decide +kernel
theorem dL_share_58 : decode cL_share 58 = .ok (.imul, 1) := by decide +kernel
theorem dL_share_59 : decode cL_share 59 = .ok (.iconst 3, 1) := by decide +kernel
theorem dL_share_60 : decode cL_share 60 = .ok (.iadd, 1) := by decide +kernel
theorem dL_share_61 : decode cL_share 61 = .ok (.iaload, 1) := by decide +kernel
theorem dL_share_62 : decode cL_share 62 = .ok (.ifCond .le 7, 3) := by decide +kernel
theorem dL_share_65 : decode cL_share 65 = .ok (.iconst 1, 1) := by decide +kernel
theorem dL_share_66 : decode cL_share 66 = .ok (.goto 4, 3) := by decide +kernel
theorem dL_share_69 : decode cL_share 69 = .ok (.iconst 0, 1) := by decide +kernel
theorem dL_share_70 : decode cL_share 70 = .ok (.istore 9, 2) := by decide +kernel
theorem dL_share_72 : decode cL_share 72 = .ok (.aload 5, 2) := by decide +kernel
theorem dL_share_74 : decode cL_share 74 = .ok (.iload 8, 2) := by decide +kernel
theorem dL_share_76 : decode cL_share 76 = .ok (.iload 9, 2) := by decide +kernel
theorem dL_share_78 : decode cL_share 78 = .ok (.ifCond .eq 25, 3) := by decide +kernel
theorem dL_share_81 : decode cL_share 81 = .ok (.iload 4, 2) := by decide +kernel
theorem dL_share_83 : decode cL_share 83 = .ok (.i2l, 1) := by decide +kernel
theorem dL_share_84 : decode cL_share 84 = .ok (.aload_n 1, 1) := by decide +kernel
theorem dL_share_85 : decode cL_share 85 = .ok (.bipush 6, 2) := by decide +kernel
theorem dL_share_87 : decode cL_share 87 = .ok (.iload 8, 2) := by decide +kernel
theorem dL_share_89 : decode cL_share 89 = .ok (.imul, 1) := by decide +kernel
theorem dL_share_90 : decode cL_share 90 = .ok (.iconst 3, 1) := by decide +kernel
theorem dL_share_91 : decode cL_share 91 = .ok (.iadd, 1) := by decide +kernel
theorem dL_share_92 : decode cL_share 92 = .ok (.iaload, 1) := by decide +kernel
theorem dL_share_93 : decode cL_share 93 = .ok (.i2l, 1) := by decide +kernel
theorem dL_share_94 : decode cL_share 94 = .ok (.lmul, 1) := by decide +kernel
theorem dL_share_95 : decode cL_share 95 = .ok (.iload 6, 2) := by decide +kernel
theorem dL_share_97 : decode cL_share 97 = .ok (.i2l, 1) := by decide +kernel
theorem dL_share_98 : decode cL_share 98 = .ok (.ldiv, 1) := by decide +kernel
theorem dL_share_99 : decode cL_share 99 = .ok (.l2i, 1) := by decide +kernel
theorem dL_share_100 : decode cL_share 100 = .ok (.goto 4, 3) := by decide +kernel
theorem dL_share_103 : decode cL_share 103 = .ok (.iconst (-1), 1) := by decide +kernel
theorem dL_share_104 : decode cL_share 104 = .ok (.iastore, 1) := by decide +kernel
theorem dL_share_105 : decode cL_share 105 = .ok (.iload 7, 2) := by decide +kernel
theorem dL_share_107 : decode cL_share 107 = .ok (.iload 9, 2) := by decide +kernel
theorem dL_share_109 : decode cL_share 109 = .ok (.ifCond .eq 11, 3) := by decide +kernel
theorem dL_share_112 : decode cL_share 112 = .ok (.aload 5, 2) := by decide +kernel
theorem dL_share_114 : decode cL_share 114 = .ok (.iload 8, 2) := by decide +kernel
theorem dL_share_116 : decode cL_share 116 = .ok (.iaload, 1) := by decide +kernel
theorem dL_share_117 : decode cL_share 117 = .ok (.goto 4, 3) := by decide +kernel
theorem dL_share_120 : decode cL_share 120 = .ok (.iconst 0, 1) := by decide +kernel
theorem dL_share_121 : decode cL_share 121 = .ok (.iadd, 1) := by decide +kernel
theorem dL_share_122 : decode cL_share 122 = .ok (.istore 7, 2) := by decide +kernel
theorem dL_share_124 : decode cL_share 124 = .ok (.iinc 8 1, 3) := by decide +kernel
theorem dL_share_127 : decode cL_share 127 = .ok (.goto (-112), 3) := by decide +kernel
theorem dL_share_130 : decode cL_share 130 = .ok (.iconst 0, 1) := by decide +kernel
theorem dL_share_131 : decode cL_share 131 = .ok (.istore 8, 2) := by decide +kernel
theorem dL_share_133 : decode cL_share 133 = .ok (.iload 8, 2) := by decide +kernel
theorem dL_share_135 : decode cL_share 135 = .ok (.aload_n 0, 1) := by decide +kernel
theorem dL_share_136 : decode cL_share 136 = .ok (.iconst 2, 1) := by decide +kernel
theorem dL_share_137 : decode cL_share 137 = .ok (.iaload, 1) := by decide +kernel
theorem dL_share_138 : decode cL_share 138 = .ok (.if_icmp .ge 45, 3) := by decide +kernel
theorem dL_share_141 : decode cL_share 141 = .ok (.aload 5, 2) := by decide +kernel
theorem dL_share_143 : decode cL_share 143 = .ok (.iload 8, 2) := by decide +kernel
theorem dL_share_145 : decode cL_share 145 = .ok (.iaload, 1) := by decide +kernel
theorem dL_share_146 : decode cL_share 146 = .ok (.ifCond .ge 12, 3) := by decide +kernel
theorem dL_share_149 : decode cL_share 149 = .ok (.aload 5, 2) := by decide +kernel
theorem dL_share_151 : decode cL_share 151 = .ok (.iload 8, 2) := by decide +kernel
theorem dL_share_153 : decode cL_share 153 = .ok (.iconst 0, 1) := by decide +kernel
theorem dL_share_154 : decode cL_share 154 = .ok (.iastore, 1) := by decide +kernel
theorem dL_share_155 : decode cL_share 155 = .ok (.goto 22, 3) := by decide +kernel
theorem dL_share_158 : decode cL_share 158 = .ok (.iload 7, 2) := by decide +kernel
theorem dL_share_160 : decode cL_share 160 = .ok (.iload 4, 2) := by decide +kernel
theorem dL_share_162 : decode cL_share 162 = .ok (.if_icmp .ge 15, 3) := by decide +kernel
theorem dL_share_165 : decode cL_share 165 = .ok (.aload 5, 2) := by decide +kernel
theorem dL_share_167 : decode cL_share 167 = .ok (.iload 8, 2) := by decide +kernel
theorem dL_share_169 : decode cL_share 169 = .ok (.dup2, 1) := by decide +kernel
theorem dL_share_170 : decode cL_share 170 = .ok (.iaload, 1) := by decide +kernel
theorem dL_share_171 : decode cL_share 171 = .ok (.iconst 1, 1) := by decide +kernel
theorem dL_share_172 : decode cL_share 172 = .ok (.iadd, 1) := by decide +kernel
theorem dL_share_173 : decode cL_share 173 = .ok (.iastore, 1) := by decide +kernel
theorem dL_share_174 : decode cL_share 174 = .ok (.iinc 7 1, 3) := by decide +kernel
theorem dL_share_177 : decode cL_share 177 = .ok (.iinc 8 1, 3) := by decide +kernel
theorem dL_share_180 : decode cL_share 180 = .ok (.goto (-47), 3) := by decide +kernel
theorem dL_share_183 : decode cL_share 183 = .ok (.return_, 1) := by decide +kernel
theorem dL_repays_0 : decode cL_repays 0 = .ok (.aload_n 0, 1) := by decide +kernel
theorem dL_repays_1 : decode cL_repays 1 = .ok (.aload_n 2, 1) := by decide +kernel
theorem dL_repays_2 : decode cL_repays 2 = .ok (.iload_n 3, 1) := by decide +kernel
theorem dL_repays_3 : decode cL_repays 3 = .ok (.iload 4, 2) := by decide +kernel
theorem dL_repays_5 : decode cL_repays 5 = .ok (.invokestatic 9, 3) := by decide +kernel
theorem dL_repays_8 : decode cL_repays 8 = .ok (.istore 7, 2) := by decide +kernel
theorem dL_repays_10 : decode cL_repays 10 = .ok (.iload 5, 2) := by decide +kernel
theorem dL_repays_12 : decode cL_repays 12 = .ok (.iload 7, 2) := by decide +kernel
theorem dL_repays_14 : decode cL_repays 14 = .ok (.if_icmp .le 8, 3) := by decide +kernel
theorem dL_repays_17 : decode cL_repays 17 = .ok (.iload 7, 2) := by decide +kernel
theorem dL_repays_19 : decode cL_repays 19 = .ok (.goto 5, 3) := by decide +kernel
theorem dL_repays_22 : decode cL_repays 22 = .ok (.iload 5, 2) := by decide +kernel
theorem dL_repays_24 : decode cL_repays 24 = .ok (.istore 8, 2) := by decide +kernel
theorem dL_repays_26 : decode cL_repays 26 = .ok (.aload_n 0, 1) := by decide +kernel
theorem dL_repays_27 : decode cL_repays 27 = .ok (.aload_n 2, 1) := by decide +kernel
theorem dL_repays_28 : decode cL_repays 28 = .ok (.iload_n 3, 1) := by decide +kernel
theorem dL_repays_29 : decode cL_repays 29 = .ok (.iload 4, 2) := by decide +kernel
theorem dL_repays_31 : decode cL_repays 31 = .ok (.iload 8, 2) := by decide +kernel
theorem dL_repays_33 : decode cL_repays 33 = .ok (.aload 6, 2) := by decide +kernel
theorem dL_repays_35 : decode cL_repays 35 = .ok (.invokestatic 15, 3) := by decide +kernel
theorem dL_repays_38 : decode cL_repays 38 = .ok (.iconst 0, 1) := by decide +kernel
theorem dL_repays_39 : decode cL_repays 39 = .ok (.istore 9, 2) := by decide +kernel
theorem dL_repays_41 : decode cL_repays 41 = .ok (.iload 9, 2) := by decide +kernel
theorem dL_repays_43 : decode cL_repays 43 = .ok (.aload_n 0, 1) := by decide +kernel
theorem dL_repays_44 : decode cL_repays 44 = .ok (.iconst 2, 1) := by decide +kernel
theorem dL_repays_45 : decode cL_repays 45 = .ok (.iaload, 1) := by decide +kernel
theorem dL_repays_46 : decode cL_repays 46 = .ok (.if_icmp .ge 45, 3) := by decide +kernel
theorem dL_repays_49 : decode cL_repays 49 = .ok (.aload_n 1, 1) := by decide +kernel
theorem dL_repays_50 : decode cL_repays 50 = .ok (.iconst 3, 1) := by decide +kernel
theorem dL_repays_51 : decode cL_repays 51 = .ok (.aload_n 2, 1) := by decide +kernel
theorem dL_repays_52 : decode cL_repays 52 = .ok (.bipush 6, 2) := by decide +kernel
theorem dL_repays_54 : decode cL_repays 54 = .ok (.iload 9, 2) := by decide +kernel
theorem dL_repays_56 : decode cL_repays 56 = .ok (.imul, 1) := by decide +kernel
theorem dL_repays_57 : decode cL_repays 57 = .ok (.iaload, 1) := by decide +kernel
theorem dL_repays_58 : decode cL_repays 58 = .ok (.imul, 1) := by decide +kernel
theorem dL_repays_59 : decode cL_repays 59 = .ok (.dup2, 1) := by decide +kernel
theorem dL_repays_60 : decode cL_repays 60 = .ok (.iaload, 1) := by decide +kernel
theorem dL_repays_61 : decode cL_repays 61 = .ok (.aload 6, 2) := by decide +kernel
theorem dL_repays_63 : decode cL_repays 63 = .ok (.iload 9, 2) := by decide +kernel
theorem dL_repays_65 : decode cL_repays 65 = .ok (.iaload, 1) := by decide +kernel
theorem dL_repays_66 : decode cL_repays 66 = .ok (.iadd, 1) := by decide +kernel
theorem dL_repays_67 : decode cL_repays 67 = .ok (.iastore, 1) := by decide +kernel
theorem dL_repays_68 : decode cL_repays 68 = .ok (.aload_n 2, 1) := by decide +kernel
theorem dL_repays_69 : decode cL_repays 69 = .ok (.bipush 6, 2) := by decide +kernel
theorem dL_repays_71 : decode cL_repays 71 = .ok (.iload 9, 2) := by decide +kernel
theorem dL_repays_73 : decode cL_repays 73 = .ok (.imul, 1) := by decide +kernel
theorem dL_repays_74 : decode cL_repays 74 = .ok (.iconst 3, 1) := by decide +kernel
theorem dL_repays_75 : decode cL_repays 75 = .ok (.iadd, 1) := by decide +kernel
theorem dL_repays_76 : decode cL_repays 76 = .ok (.dup2, 1) := by decide +kernel
theorem dL_repays_77 : decode cL_repays 77 = .ok (.iaload, 1) := by decide +kernel
theorem dL_repays_78 : decode cL_repays 78 = .ok (.aload 6, 2) := by decide +kernel
theorem dL_repays_80 : decode cL_repays 80 = .ok (.iload 9, 2) := by decide +kernel
theorem dL_repays_82 : decode cL_repays 82 = .ok (.iaload, 1) := by decide +kernel
theorem dL_repays_83 : decode cL_repays 83 = .ok (.isub, 1) := by decide +kernel
theorem dL_repays_84 : decode cL_repays 84 = .ok (.iastore, 1) := by decide +kernel
theorem dL_repays_85 : decode cL_repays 85 = .ok (.iinc 9 1, 3) := by decide +kernel
theorem dL_repays_88 : decode cL_repays 88 = .ok (.goto (-47), 3) := by decide +kernel
theorem dL_repays_91 : decode cL_repays 91 = .ok (.iload 5, 2) := by decide +kernel
theorem dL_repays_93 : decode cL_repays 93 = .ok (.iload 8, 2) := by decide +kernel
theorem dL_repays_95 : decode cL_repays 95 = .ok (.isub, 1) := by decide +kernel
theorem dL_repays_96 : decode cL_repays 96 = .ok (.ireturn, 1) := by decide +kernel
theorem dL_areLoans_0 : decode cL_areLoans 0 = .ok (.iconst 0, 1) := by decide +kernel
theorem dL_areLoans_1 : decode cL_areLoans 1 = .ok (.istore 4, 2) := by decide +kernel
theorem dL_areLoans_3 : decode cL_areLoans 3 = .ok (.iconst 0, 1) := by decide +kernel
theorem dL_areLoans_4 : decode cL_areLoans 4 = .ok (.istore 5, 2) := by decide +kernel
theorem dL_areLoans_6 : decode cL_areLoans 6 = .ok (.iconst 0, 1) := by decide +kernel
theorem dL_areLoans_7 : decode cL_areLoans 7 = .ok (.istore 6, 2) := by decide +kernel
theorem dL_areLoans_9 : decode cL_areLoans 9 = .ok (.iconst 0, 1) := by decide +kernel
theorem dL_areLoans_10 : decode cL_areLoans 10 = .ok (.istore 7, 2) := by decide +kernel
theorem dL_areLoans_12 : decode cL_areLoans 12 = .ok (.iconst 0, 1) := by decide +kernel
theorem dL_areLoans_13 : decode cL_areLoans 13 = .ok (.istore 8, 2) := by decide +kernel
theorem dL_areLoans_15 : decode cL_areLoans 15 = .ok (.iload 8, 2) := by decide +kernel
theorem dL_areLoans_17 : decode cL_areLoans 17 = .ok (.aload_n 1, 1) := by decide +kernel
theorem dL_areLoans_18 : decode cL_areLoans 18 = .ok (.iconst 1, 1) := by decide +kernel
theorem dL_areLoans_19 : decode cL_areLoans 19 = .ok (.iaload, 1) := by decide +kernel
theorem dL_areLoans_20 : decode cL_areLoans 20 = .ok (.if_icmp .ge 396, 3) := by decide +kernel
theorem dL_areLoans_23 : decode cL_areLoans 23 = .ok (.bipush 11, 2) := by decide +kernel
theorem dL_areLoans_25 : decode cL_areLoans 25 = .ok (.iload 8, 2) := by decide +kernel
theorem dL_areLoans_27 : decode cL_areLoans 27 = .ok (.imul, 1) := by decide +kernel
theorem dL_areLoans_28 : decode cL_areLoans 28 = .ok (.istore 9, 2) := by decide +kernel
theorem dL_areLoans_30 : decode cL_areLoans 30 = .ok (.aload_n 2, 1) := by decide +kernel
theorem dL_areLoans_31 : decode cL_areLoans 31 = .ok (.iload 9, 2) := by decide +kernel
theorem dL_areLoans_33 : decode cL_areLoans 33 = .ok (.iconst 3, 1) := by decide +kernel
theorem dL_areLoans_34 : decode cL_areLoans 34 = .ok (.iadd, 1) := by decide +kernel
theorem dL_areLoans_35 : decode cL_areLoans 35 = .ok (.iaload, 1) := by decide +kernel
theorem dL_areLoans_36 : decode cL_areLoans 36 = .ok (.iconst 1, 1) := by decide +kernel
theorem dL_areLoans_37 : decode cL_areLoans 37 = .ok (.if_icmp .ne 7, 3) := by decide +kernel
theorem dL_areLoans_40 : decode cL_areLoans 40 = .ok (.iconst 1, 1) := by decide +kernel
theorem dL_areLoans_41 : decode cL_areLoans 41 = .ok (.goto 4, 3) := by decide +kernel
theorem dL_areLoans_44 : decode cL_areLoans 44 = .ok (.iconst 0, 1) := by decide +kernel
theorem dL_areLoans_45 : decode cL_areLoans 45 = .ok (.istore 10, 2) := by decide +kernel
theorem dL_areLoans_47 : decode cL_areLoans 47 = .ok (.aload_n 2, 1) := by decide +kernel
theorem dL_areLoans_48 : decode cL_areLoans 48 = .ok (.iload 9, 2) := by decide +kernel
theorem dL_areLoans_50 : decode cL_areLoans 50 = .ok (.iconst 3, 1) := by decide +kernel
theorem dL_areLoans_51 : decode cL_areLoans 51 = .ok (.iadd, 1) := by decide +kernel
theorem dL_areLoans_52 : decode cL_areLoans 52 = .ok (.iaload, 1) := by decide +kernel
theorem dL_areLoans_53 : decode cL_areLoans 53 = .ok (.ifCond .ne 19, 3) := by decide +kernel
theorem dL_areLoans_56 : decode cL_areLoans 56 = .ok (.aload_n 2, 1) := by decide +kernel
theorem dL_areLoans_57 : decode cL_areLoans 57 = .ok (.iload 9, 2) := by decide +kernel
theorem dL_areLoans_59 : decode cL_areLoans 59 = .ok (.iaload, 1) := by decide +kernel
theorem dL_areLoans_60 : decode cL_areLoans 60 = .ok (.aload_n 1, 1) := by decide +kernel
theorem dL_areLoans_61 : decode cL_areLoans 61 = .ok (.aload_n 3, 1) := by decide +kernel
theorem dL_areLoans_62 : decode cL_areLoans 62 = .ok (.iload 8, 2) := by decide +kernel
theorem dL_areLoans_64 : decode cL_areLoans 64 = .ok (.iconst (-1), 1) := by decide +kernel
theorem dL_areLoans_65 : decode cL_areLoans 65 = .ok (.invokestatic 9, 3) := by decide +kernel
theorem dL_areLoans_68 : decode cL_areLoans 68 = .ok (.isub, 1) := by decide +kernel
theorem dL_areLoans_69 : decode cL_areLoans 69 = .ok (.goto 4, 3) := by decide +kernel
theorem dL_areLoans_72 : decode cL_areLoans 72 = .ok (.iconst 0, 1) := by decide +kernel
theorem dL_areLoans_73 : decode cL_areLoans 73 = .ok (.istore 11, 2) := by decide +kernel
theorem dL_areLoans_75 : decode cL_areLoans 75 = .ok (.aload_n 0, 1) := by decide +kernel
theorem dL_areLoans_76 : decode cL_areLoans 76 = .ok (.iload 8, 2) := by decide +kernel
theorem dL_areLoans_78 : decode cL_areLoans 78 = .ok (.iconst 0, 1) := by decide +kernel
theorem dL_areLoans_79 : decode cL_areLoans 79 = .ok (.invokevirtual 19, 3) := by decide +kernel
theorem dL_areLoans_82 : decode cL_areLoans 82 = .ok (.aload_n 2, 1) := by decide +kernel
theorem dL_areLoans_83 : decode cL_areLoans 83 = .ok (.iload 9, 2) := by decide +kernel
theorem dL_areLoans_85 : decode cL_areLoans 85 = .ok (.iconst 3, 1) := by decide +kernel
theorem dL_areLoans_86 : decode cL_areLoans 86 = .ok (.iadd, 1) := by decide +kernel
theorem dL_areLoans_87 : decode cL_areLoans 87 = .ok (.iaload, 1) := by decide +kernel
theorem dL_areLoans_88 : decode cL_areLoans 88 = .ok (.if_icmp .ne 96, 3) := by decide +kernel
theorem dL_areLoans_91 : decode cL_areLoans 91 = .ok (.aload_n 0, 1) := by decide +kernel
theorem dL_areLoans_92 : decode cL_areLoans 92 = .ok (.iload 8, 2) := by decide +kernel
theorem dL_areLoans_94 : decode cL_areLoans 94 = .ok (.iconst 1, 1) := by decide +kernel
theorem dL_areLoans_95 : decode cL_areLoans 95 = .ok (.invokevirtual 19, 3) := by decide +kernel
theorem dL_areLoans_98 : decode cL_areLoans 98 = .ok (.aload_n 2, 1) := by decide +kernel
theorem dL_areLoans_99 : decode cL_areLoans 99 = .ok (.iload 9, 2) := by decide +kernel
theorem dL_areLoans_101 : decode cL_areLoans 101 = .ok (.iaload, 1) := by decide +kernel
theorem dL_areLoans_102 : decode cL_areLoans 102 = .ok (.if_icmp .ne 82, 3) := by decide +kernel
theorem dL_areLoans_105 : decode cL_areLoans 105 = .ok (.aload_n 0, 1) := by decide +kernel
theorem dL_areLoans_106 : decode cL_areLoans 106 = .ok (.iload 8, 2) := by decide +kernel
theorem dL_areLoans_108 : decode cL_areLoans 108 = .ok (.iconst 2, 1) := by decide +kernel
theorem dL_areLoans_109 : decode cL_areLoans 109 = .ok (.invokevirtual 19, 3) := by decide +kernel
theorem dL_areLoans_112 : decode cL_areLoans 112 = .ok (.iload 10, 2) := by decide +kernel
theorem dL_areLoans_114 : decode cL_areLoans 114 = .ok (.ifCond .eq 12, 3) := by decide +kernel
theorem dL_areLoans_117 : decode cL_areLoans 117 = .ok (.aload_n 2, 1) := by decide +kernel
theorem dL_areLoans_118 : decode cL_areLoans 118 = .ok (.iload 9, 2) := by decide +kernel
theorem dL_areLoans_120 : decode cL_areLoans 120 = .ok (.iconst 4, 1) := by decide +kernel
theorem dL_areLoans_121 : decode cL_areLoans 121 = .ok (.iadd, 1) := by decide +kernel
theorem dL_areLoans_122 : decode cL_areLoans 122 = .ok (.iaload, 1) := by decide +kernel
theorem dL_areLoans_123 : decode cL_areLoans 123 = .ok (.goto 4, 3) := by decide +kernel
theorem dL_areLoans_126 : decode cL_areLoans 126 = .ok (.iconst 0, 1) := by decide +kernel
theorem dL_areLoans_127 : decode cL_areLoans 127 = .ok (.if_icmp .ne 57, 3) := by decide +kernel
theorem dL_areLoans_130 : decode cL_areLoans 130 = .ok (.aload_n 0, 1) := by decide +kernel
theorem dL_areLoans_131 : decode cL_areLoans 131 = .ok (.iload 8, 2) := by decide +kernel
theorem dL_areLoans_133 : decode cL_areLoans 133 = .ok (.iconst 3, 1) := by decide +kernel
theorem dL_areLoans_134 : decode cL_areLoans 134 = .ok (.invokevirtual 19, 3) := by decide +kernel
theorem dL_areLoans_137 : decode cL_areLoans 137 = .ok (.aload_n 2, 1) := by decide +kernel
theorem dL_areLoans_138 : decode cL_areLoans 138 = .ok (.iload 9, 2) := by decide +kernel
theorem dL_areLoans_140 : decode cL_areLoans 140 = .ok (.iconst 5, 1) := by decide +kernel
theorem dL_areLoans_141 : decode cL_areLoans 141 = .ok (.iadd, 1) := by decide +kernel
theorem dL_areLoans_142 : decode cL_areLoans 142 = .ok (.iaload, 1) := by decide +kernel
theorem dL_areLoans_143 : decode cL_areLoans 143 = .ok (.if_icmp .ne 41, 3) := by decide +kernel
theorem dL_areLoans_146 : decode cL_areLoans 146 = .ok (.aload_n 0, 1) := by decide +kernel
theorem dL_areLoans_147 : decode cL_areLoans 147 = .ok (.iload 8, 2) := by decide +kernel
theorem dL_areLoans_149 : decode cL_areLoans 149 = .ok (.iconst 4, 1) := by decide +kernel
theorem dL_areLoans_150 : decode cL_areLoans 150 = .ok (.invokevirtual 19, 3) := by decide +kernel
theorem dL_areLoans_153 : decode cL_areLoans 153 = .ok (.aload_n 2, 1) := by decide +kernel
theorem dL_areLoans_154 : decode cL_areLoans 154 = .ok (.iload 9, 2) := by decide +kernel
theorem dL_areLoans_156 : decode cL_areLoans 156 = .ok (.bipush 6, 2) := by decide +kernel
theorem dL_areLoans_158 : decode cL_areLoans 158 = .ok (.iadd, 1) := by decide +kernel
theorem dL_areLoans_159 : decode cL_areLoans 159 = .ok (.iaload, 1) := by decide +kernel
theorem dL_areLoans_160 : decode cL_areLoans 160 = .ok (.if_icmp .ne 24, 3) := by decide +kernel
theorem dL_areLoans_163 : decode cL_areLoans 163 = .ok (.aload_n 0, 1) := by decide +kernel
theorem dL_areLoans_164 : decode cL_areLoans 164 = .ok (.iload 8, 2) := by decide +kernel
theorem dL_areLoans_166 : decode cL_areLoans 166 = .ok (.iconst 5, 1) := by decide +kernel
theorem dL_areLoans_167 : decode cL_areLoans 167 = .ok (.invokevirtual 19, 3) := by decide +kernel
theorem dL_areLoans_170 : decode cL_areLoans 170 = .ok (.aload_n 2, 1) := by decide +kernel
theorem dL_areLoans_171 : decode cL_areLoans 171 = .ok (.iload 9, 2) := by decide +kernel
theorem dL_areLoans_173 : decode cL_areLoans 173 = .ok (.bipush 7, 2) := by decide +kernel
theorem dL_areLoans_175 : decode cL_areLoans 175 = .ok (.iadd, 1) := by decide +kernel
theorem dL_areLoans_176 : decode cL_areLoans 176 = .ok (.iaload, 1) := by decide +kernel
theorem dL_areLoans_177 : decode cL_areLoans 177 = .ok (.if_icmp .ne 7, 3) := by decide +kernel
theorem dL_areLoans_180 : decode cL_areLoans 180 = .ok (.iconst 1, 1) := by decide +kernel
theorem dL_areLoans_181 : decode cL_areLoans 181 = .ok (.goto 4, 3) := by decide +kernel
theorem dL_areLoans_184 : decode cL_areLoans 184 = .ok (.iconst 0, 1) := by decide +kernel
theorem dL_areLoans_185 : decode cL_areLoans 185 = .ok (.istore 12, 2) := by decide +kernel
theorem dL_areLoans_187 : decode cL_areLoans 187 = .ok (.iload 12, 2) := by decide +kernel
theorem dL_areLoans_189 : decode cL_areLoans 189 = .ok (.ifCond .eq 74, 3) := by decide +kernel
theorem dL_areLoans_192 : decode cL_areLoans 192 = .ok (.aload_n 0, 1) := by decide +kernel
theorem dL_areLoans_193 : decode cL_areLoans 193 = .ok (.iload 8, 2) := by decide +kernel
theorem dL_areLoans_195 : decode cL_areLoans 195 = .ok (.bipush 6, 2) := by decide +kernel
theorem dL_areLoans_197 : decode cL_areLoans 197 = .ok (.invokevirtual 19, 3) := by decide +kernel
theorem dL_areLoans_200 : decode cL_areLoans 200 = .ok (.aload_n 2, 1) := by decide +kernel
theorem dL_areLoans_201 : decode cL_areLoans 201 = .ok (.iload 9, 2) := by decide +kernel
theorem dL_areLoans_203 : decode cL_areLoans 203 = .ok (.bipush 8, 2) := by decide +kernel
theorem dL_areLoans_205 : decode cL_areLoans 205 = .ok (.iadd, 1) := by decide +kernel
theorem dL_areLoans_206 : decode cL_areLoans 206 = .ok (.iaload, 1) := by decide +kernel
theorem dL_areLoans_207 : decode cL_areLoans 207 = .ok (.if_icmp .ne 56, 3) := by decide +kernel
theorem dL_areLoans_210 : decode cL_areLoans 210 = .ok (.aload_n 0, 1) := by decide +kernel
theorem dL_areLoans_211 : decode cL_areLoans 211 = .ok (.iload 8, 2) := by decide +kernel
theorem dL_areLoans_213 : decode cL_areLoans 213 = .ok (.bipush 8, 2) := by decide +kernel
theorem dL_areLoans_215 : decode cL_areLoans 215 = .ok (.invokevirtual 19, 3) := by decide +kernel
theorem dL_areLoans_218 : decode cL_areLoans 218 = .ok (.aload_n 2, 1) := by decide +kernel
theorem dL_areLoans_219 : decode cL_areLoans 219 = .ok (.iload 9, 2) := by decide +kernel
theorem dL_areLoans_221 : decode cL_areLoans 221 = .ok (.bipush 10, 2) := by decide +kernel
theorem dL_areLoans_223 : decode cL_areLoans 223 = .ok (.iadd, 1) := by decide +kernel
theorem dL_areLoans_224 : decode cL_areLoans 224 = .ok (.iaload, 1) := by decide +kernel
theorem dL_areLoans_225 : decode cL_areLoans 225 = .ok (.if_icmp .ne 38, 3) := by decide +kernel
theorem dL_areLoans_228 : decode cL_areLoans 228 = .ok (.aload_n 0, 1) := by decide +kernel
theorem dL_areLoans_229 : decode cL_areLoans 229 = .ok (.iload 8, 2) := by decide +kernel
theorem dL_areLoans_231 : decode cL_areLoans 231 = .ok (.bipush 7, 2) := by decide +kernel
theorem dL_areLoans_233 : decode cL_areLoans 233 = .ok (.invokevirtual 19, 3) := by decide +kernel
theorem dL_areLoans_236 : decode cL_areLoans 236 = .ok (.aload_n 2, 1) := by decide +kernel
theorem dL_areLoans_237 : decode cL_areLoans 237 = .ok (.iload 9, 2) := by decide +kernel
theorem dL_areLoans_239 : decode cL_areLoans 239 = .ok (.bipush 9, 2) := by decide +kernel
theorem dL_areLoans_241 : decode cL_areLoans 241 = .ok (.iadd, 1) := by decide +kernel
theorem dL_areLoans_242 : decode cL_areLoans 242 = .ok (.iaload, 1) := by decide +kernel
theorem dL_areLoans_243 : decode cL_areLoans 243 = .ok (.if_icmp .ne 20, 3) := by decide +kernel
theorem dL_areLoans_246 : decode cL_areLoans 246 = .ok (.aload_n 0, 1) := by decide +kernel
theorem dL_areLoans_247 : decode cL_areLoans 247 = .ok (.iload 8, 2) := by decide +kernel
theorem dL_areLoans_249 : decode cL_areLoans 249 = .ok (.bipush 9, 2) := by decide +kernel
theorem dL_areLoans_251 : decode cL_areLoans 251 = .ok (.invokevirtual 19, 3) := by decide +kernel
theorem dL_areLoans_254 : decode cL_areLoans 254 = .ok (.iload 11, 2) := by decide +kernel
theorem dL_areLoans_256 : decode cL_areLoans 256 = .ok (.if_icmp .ne 7, 3) := by decide +kernel
theorem dL_areLoans_259 : decode cL_areLoans 259 = .ok (.iconst 1, 1) := by decide +kernel
theorem dL_areLoans_260 : decode cL_areLoans 260 = .ok (.goto 4, 3) := by decide +kernel
theorem dL_areLoans_263 : decode cL_areLoans 263 = .ok (.iconst 0, 1) := by decide +kernel
theorem dL_areLoans_264 : decode cL_areLoans 264 = .ok (.istore 12, 2) := by decide +kernel
theorem dL_areLoans_266 : decode cL_areLoans 266 = .ok (.iload 12, 2) := by decide +kernel
theorem dL_areLoans_268 : decode cL_areLoans 268 = .ok (.ifCond .eq 63, 3) := by decide +kernel
theorem dL_areLoans_271 : decode cL_areLoans 271 = .ok (.aload_n 0, 1) := by decide +kernel
theorem dL_areLoans_272 : decode cL_areLoans 272 = .ok (.iload 8, 2) := by decide +kernel
theorem dL_areLoans_274 : decode cL_areLoans 274 = .ok (.bipush 11, 2) := by decide +kernel
theorem dL_areLoans_276 : decode cL_areLoans 276 = .ok (.invokevirtual 19, 3) := by decide +kernel
theorem dL_areLoans_279 : decode cL_areLoans 279 = .ok (.aload_n 1, 1) := by decide +kernel
theorem dL_areLoans_280 : decode cL_areLoans 280 = .ok (.aload_n 3, 1) := by decide +kernel
theorem dL_areLoans_281 : decode cL_areLoans 281 = .ok (.iload 8, 2) := by decide +kernel
theorem dL_areLoans_283 : decode cL_areLoans 283 = .ok (.iconst 0, 1) := by decide +kernel
theorem dL_areLoans_284 : decode cL_areLoans 284 = .ok (.invokestatic 9, 3) := by decide +kernel
theorem dL_areLoans_287 : decode cL_areLoans 287 = .ok (.if_icmp .ne 44, 3) := by decide +kernel
theorem dL_areLoans_290 : decode cL_areLoans 290 = .ok (.aload_n 0, 1) := by decide +kernel
theorem dL_areLoans_291 : decode cL_areLoans 291 = .ok (.iload 8, 2) := by decide +kernel
theorem dL_areLoans_293 : decode cL_areLoans 293 = .ok (.bipush 12, 2) := by decide +kernel
theorem dL_areLoans_295 : decode cL_areLoans 295 = .ok (.invokevirtual 19, 3) := by decide +kernel
theorem dL_areLoans_298 : decode cL_areLoans 298 = .ok (.aload_n 1, 1) := by decide +kernel
theorem dL_areLoans_299 : decode cL_areLoans 299 = .ok (.aload_n 3, 1) := by decide +kernel
theorem dL_areLoans_300 : decode cL_areLoans 300 = .ok (.iload 8, 2) := by decide +kernel
theorem dL_areLoans_302 : decode cL_areLoans 302 = .ok (.iconst 1, 1) := by decide +kernel
theorem dL_areLoans_303 : decode cL_areLoans 303 = .ok (.invokestatic 9, 3) := by decide +kernel
theorem dL_areLoans_306 : decode cL_areLoans 306 = .ok (.if_icmp .ne 25, 3) := by decide +kernel
theorem dL_areLoans_309 : decode cL_areLoans 309 = .ok (.iload 10, 2) := by decide +kernel
theorem dL_areLoans_311 : decode cL_areLoans 311 = .ok (.ifCond .eq 22, 3) := by decide +kernel
theorem dL_areLoans_314 : decode cL_areLoans 314 = .ok (.aload_n 1, 1) := by decide +kernel
theorem dL_areLoans_315 : decode cL_areLoans 315 = .ok (.aload_n 3, 1) := by decide +kernel
theorem dL_areLoans_316 : decode cL_areLoans 316 = .ok (.iload 8, 2) := by decide +kernel
theorem dL_areLoans_318 : decode cL_areLoans 318 = .ok (.iconst (-1), 1) := by decide +kernel
theorem dL_areLoans_319 : decode cL_areLoans 319 = .ok (.invokestatic 9, 3) := by decide +kernel
theorem dL_areLoans_322 : decode cL_areLoans 322 = .ok (.aload_n 2, 1) := by decide +kernel
theorem dL_areLoans_323 : decode cL_areLoans 323 = .ok (.iload 9, 2) := by decide +kernel
theorem dL_areLoans_325 : decode cL_areLoans 325 = .ok (.iconst 4, 1) := by decide +kernel
theorem dL_areLoans_326 : decode cL_areLoans 326 = .ok (.iadd, 1) := by decide +kernel
theorem dL_areLoans_327 : decode cL_areLoans 327 = .ok (.iaload, 1) := by decide +kernel
theorem dL_areLoans_328 : decode cL_areLoans 328 = .ok (.if_icmp .eq 5, 3) := by decide +kernel
theorem dL_areLoans_331 : decode cL_areLoans 331 = .ok (.iconst 0, 1) := by decide +kernel
theorem dL_areLoans_332 : decode cL_areLoans 332 = .ok (.ireturn, 1) := by decide +kernel
theorem dL_areLoans_333 : decode cL_areLoans 333 = .ok (.iload 4, 2) := by decide +kernel
theorem dL_areLoans_335 : decode cL_areLoans 335 = .ok (.aload_n 2, 1) := by decide +kernel
theorem dL_areLoans_336 : decode cL_areLoans 336 = .ok (.iload 9, 2) := by decide +kernel
theorem dL_areLoans_338 : decode cL_areLoans 338 = .ok (.bipush 6, 2) := by decide +kernel
theorem dL_areLoans_340 : decode cL_areLoans 340 = .ok (.iadd, 1) := by decide +kernel
theorem dL_areLoans_341 : decode cL_areLoans 341 = .ok (.iaload, 1) := by decide +kernel
theorem dL_areLoans_342 : decode cL_areLoans 342 = .ok (.iadd, 1) := by decide +kernel
theorem dL_areLoans_343 : decode cL_areLoans 343 = .ok (.istore 4, 2) := by decide +kernel
theorem dL_areLoans_345 : decode cL_areLoans 345 = .ok (.iload 6, 2) := by decide +kernel
theorem dL_areLoans_347 : decode cL_areLoans 347 = .ok (.aload_n 2, 1) := by decide +kernel
theorem dL_areLoans_348 : decode cL_areLoans 348 = .ok (.iload 9, 2) := by decide +kernel
theorem dL_areLoans_350 : decode cL_areLoans 350 = .ok (.bipush 10, 2) := by decide +kernel
theorem dL_areLoans_352 : decode cL_areLoans 352 = .ok (.iadd, 1) := by decide +kernel
theorem dL_areLoans_353 : decode cL_areLoans 353 = .ok (.iaload, 1) := by decide +kernel
theorem dL_areLoans_354 : decode cL_areLoans 354 = .ok (.ifCond .ge 7, 3) := by decide +kernel
theorem dL_areLoans_357 : decode cL_areLoans 357 = .ok (.iconst 0, 1) := by decide +kernel
theorem dL_areLoans_358 : decode cL_areLoans 358 = .ok (.goto 4, 3) := by decide +kernel
theorem dL_areLoans_361 : decode cL_areLoans 361 = .ok (.iconst 1, 1) := by decide +kernel
theorem dL_areLoans_362 : decode cL_areLoans 362 = .ok (.iadd, 1) := by decide +kernel
theorem dL_areLoans_363 : decode cL_areLoans 363 = .ok (.istore 6, 2) := by decide +kernel
theorem dL_areLoans_365 : decode cL_areLoans 365 = .ok (.iload 5, 2) := by decide +kernel
theorem dL_areLoans_367 : decode cL_areLoans 367 = .ok (.iload 10, 2) := by decide +kernel
theorem dL_areLoans_369 : decode cL_areLoans 369 = .ok (.ifCond .eq 17, 3) := by decide +kernel
theorem dL_areLoans_372 : decode cL_areLoans 372 = .ok (.aload_n 2, 1) := by decide +kernel
theorem dL_areLoans_373 : decode cL_areLoans 373 = .ok (.iload 9, 2) := by decide +kernel
theorem dL_areLoans_375 : decode cL_areLoans 375 = .ok (.bipush 8, 2) := by decide +kernel
theorem dL_areLoans_377 : decode cL_areLoans 377 = .ok (.iadd, 1) := by decide +kernel
theorem dL_areLoans_378 : decode cL_areLoans 378 = .ok (.iaload, 1) := by decide +kernel
theorem dL_areLoans_379 : decode cL_areLoans 379 = .ok (.ifCond .le 7, 3) := by decide +kernel
theorem dL_areLoans_382 : decode cL_areLoans 382 = .ok (.iconst 1, 1) := by decide +kernel
theorem dL_areLoans_383 : decode cL_areLoans 383 = .ok (.goto 4, 3) := by decide +kernel
theorem dL_areLoans_386 : decode cL_areLoans 386 = .ok (.iconst 0, 1) := by decide +kernel
theorem dL_areLoans_387 : decode cL_areLoans 387 = .ok (.iadd, 1) := by decide +kernel
theorem dL_areLoans_388 : decode cL_areLoans 388 = .ok (.istore 5, 2) := by decide +kernel
theorem dL_areLoans_390 : decode cL_areLoans 390 = .ok (.iload 7, 2) := by decide +kernel
theorem dL_areLoans_392 : decode cL_areLoans 392 = .ok (.iload 10, 2) := by decide +kernel
theorem dL_areLoans_394 : decode cL_areLoans 394 = .ok (.ifCond .eq 12, 3) := by decide +kernel
theorem dL_areLoans_397 : decode cL_areLoans 397 = .ok (.aload_n 2, 1) := by decide +kernel
theorem dL_areLoans_398 : decode cL_areLoans 398 = .ok (.iload 9, 2) := by decide +kernel
theorem dL_areLoans_400 : decode cL_areLoans 400 = .ok (.iconst 4, 1) := by decide +kernel
theorem dL_areLoans_401 : decode cL_areLoans 401 = .ok (.iadd, 1) := by decide +kernel
theorem dL_areLoans_402 : decode cL_areLoans 402 = .ok (.iaload, 1) := by decide +kernel
theorem dL_areLoans_403 : decode cL_areLoans 403 = .ok (.goto 4, 3) := by decide +kernel
theorem dL_areLoans_406 : decode cL_areLoans 406 = .ok (.iconst 0, 1) := by decide +kernel
theorem dL_areLoans_407 : decode cL_areLoans 407 = .ok (.iadd, 1) := by decide +kernel
theorem dL_areLoans_408 : decode cL_areLoans 408 = .ok (.istore 7, 2) := by decide +kernel
theorem dL_areLoans_410 : decode cL_areLoans 410 = .ok (.iinc 8 1, 3) := by decide +kernel
theorem dL_areLoans_413 : decode cL_areLoans 413 = .ok (.goto (-398), 3) := by decide +kernel
theorem dL_areLoans_416 : decode cL_areLoans 416 = .ok (.aload_n 0, 1) := by decide +kernel
theorem dL_areLoans_417 : decode cL_areLoans 417 = .ok (.iconst 0, 1) := by decide +kernel
theorem dL_areLoans_418 : decode cL_areLoans 418 = .ok (.invokevirtual 25, 3) := by decide +kernel
theorem dL_areLoans_421 : decode cL_areLoans 421 = .ok (.aload_n 1, 1) := by decide +kernel
theorem dL_areLoans_422 : decode cL_areLoans 422 = .ok (.iconst 0, 1) := by decide +kernel
theorem dL_areLoans_423 : decode cL_areLoans 423 = .ok (.iaload, 1) := by decide +kernel
theorem dL_areLoans_424 : decode cL_areLoans 424 = .ok (.if_icmp .ne 109, 3) := by decide +kernel
theorem dL_areLoans_427 : decode cL_areLoans 427 = .ok (.aload_n 0, 1) := by decide +kernel
theorem dL_areLoans_428 : decode cL_areLoans 428 = .ok (.iconst 2, 1) := by decide +kernel
theorem dL_areLoans_429 : decode cL_areLoans 429 = .ok (.invokevirtual 25, 3) := by decide +kernel
theorem dL_areLoans_432 : decode cL_areLoans 432 = .ok (.aload_n 1, 1) := by decide +kernel
theorem dL_areLoans_433 : decode cL_areLoans 433 = .ok (.iconst 1, 1) := by decide +kernel
theorem dL_areLoans_434 : decode cL_areLoans 434 = .ok (.iaload, 1) := by decide +kernel
theorem dL_areLoans_435 : decode cL_areLoans 435 = .ok (.if_icmp .ne 98, 3) := by decide +kernel
theorem dL_areLoans_438 : decode cL_areLoans 438 = .ok (.aload_n 0, 1) := by decide +kernel
theorem dL_areLoans_439 : decode cL_areLoans 439 = .ok (.bipush 8, 2) := by decide +kernel
theorem dL_areLoans_441 : decode cL_areLoans 441 = .ok (.invokevirtual 25, 3) := by decide +kernel
theorem dL_areLoans_444 : decode cL_areLoans 444 = .ok (.aload_n 1, 1) := by decide +kernel
theorem dL_areLoans_445 : decode cL_areLoans 445 = .ok (.iconst 2, 1) := by decide +kernel
theorem dL_areLoans_446 : decode cL_areLoans 446 = .ok (.iaload, 1) := by decide +kernel
theorem dL_areLoans_447 : decode cL_areLoans 447 = .ok (.if_icmp .ne 86, 3) := by decide +kernel
theorem dL_areLoans_450 : decode cL_areLoans 450 = .ok (.aload_n 0, 1) := by decide +kernel
theorem dL_areLoans_451 : decode cL_areLoans 451 = .ok (.bipush 9, 2) := by decide +kernel
theorem dL_areLoans_453 : decode cL_areLoans 453 = .ok (.invokevirtual 25, 3) := by decide +kernel
theorem dL_areLoans_456 : decode cL_areLoans 456 = .ok (.aload_n 1, 1) := by decide +kernel
theorem dL_areLoans_457 : decode cL_areLoans 457 = .ok (.iconst 3, 1) := by decide +kernel
theorem dL_areLoans_458 : decode cL_areLoans 458 = .ok (.iaload, 1) := by decide +kernel
theorem dL_areLoans_459 : decode cL_areLoans 459 = .ok (.if_icmp .ne 74, 3) := by decide +kernel
theorem dL_areLoans_462 : decode cL_areLoans 462 = .ok (.aload_n 0, 1) := by decide +kernel
theorem dL_areLoans_463 : decode cL_areLoans 463 = .ok (.bipush 10, 2) := by decide +kernel
theorem dL_areLoans_465 : decode cL_areLoans 465 = .ok (.invokevirtual 25, 3) := by decide +kernel
theorem dL_areLoans_468 : decode cL_areLoans 468 = .ok (.aload_n 1, 1) := by decide +kernel
theorem dL_areLoans_469 : decode cL_areLoans 469 = .ok (.iconst 4, 1) := by decide +kernel
theorem dL_areLoans_470 : decode cL_areLoans 470 = .ok (.iaload, 1) := by decide +kernel
theorem dL_areLoans_471 : decode cL_areLoans 471 = .ok (.if_icmp .ne 62, 3) := by decide +kernel
theorem dL_areLoans_474 : decode cL_areLoans 474 = .ok (.aload_n 0, 1) := by decide +kernel
theorem dL_areLoans_475 : decode cL_areLoans 475 = .ok (.bipush 11, 2) := by decide +kernel
theorem dL_areLoans_477 : decode cL_areLoans 477 = .ok (.invokevirtual 25, 3) := by decide +kernel
theorem dL_areLoans_480 : decode cL_areLoans 480 = .ok (.iload 7, 2) := by decide +kernel
theorem dL_areLoans_482 : decode cL_areLoans 482 = .ok (.if_icmp .ne 51, 3) := by decide +kernel
theorem dL_areLoans_485 : decode cL_areLoans 485 = .ok (.aload_n 0, 1) := by decide +kernel
theorem dL_areLoans_486 : decode cL_areLoans 486 = .ok (.bipush 12, 2) := by decide +kernel
theorem dL_areLoans_488 : decode cL_areLoans 488 = .ok (.invokevirtual 25, 3) := by decide +kernel
theorem dL_areLoans_491 : decode cL_areLoans 491 = .ok (.iload 4, 2) := by decide +kernel
theorem dL_areLoans_493 : decode cL_areLoans 493 = .ok (.if_icmp .ne 40, 3) := by decide +kernel
theorem dL_areLoans_496 : decode cL_areLoans 496 = .ok (.aload_n 0, 1) := by decide +kernel
theorem dL_areLoans_497 : decode cL_areLoans 497 = .ok (.bipush 14, 2) := by decide +kernel
theorem dL_areLoans_499 : decode cL_areLoans 499 = .ok (.invokevirtual 25, 3) := by decide +kernel
theorem dL_areLoans_502 : decode cL_areLoans 502 = .ok (.iload 5, 2) := by decide +kernel
theorem dL_areLoans_504 : decode cL_areLoans 504 = .ok (.if_icmp .ne 29, 3) := by decide +kernel
theorem dL_areLoans_507 : decode cL_areLoans 507 = .ok (.aload_n 0, 1) := by decide +kernel
theorem dL_areLoans_508 : decode cL_areLoans 508 = .ok (.bipush 15, 2) := by decide +kernel
theorem dL_areLoans_510 : decode cL_areLoans 510 = .ok (.invokevirtual 25, 3) := by decide +kernel
theorem dL_areLoans_513 : decode cL_areLoans 513 = .ok (.iload 6, 2) := by decide +kernel
theorem dL_areLoans_515 : decode cL_areLoans 515 = .ok (.if_icmp .ne 18, 3) := by decide +kernel
theorem dL_areLoans_518 : decode cL_areLoans 518 = .ok (.aload_n 0, 1) := by decide +kernel
theorem dL_areLoans_519 : decode cL_areLoans 519 = .ok (.bipush 18, 2) := by decide +kernel
theorem dL_areLoans_521 : decode cL_areLoans 521 = .ok (.invokevirtual 25, 3) := by decide +kernel
theorem dL_areLoans_524 : decode cL_areLoans 524 = .ok (.bipush (-2), 2) := by decide +kernel
theorem dL_areLoans_526 : decode cL_areLoans 526 = .ok (.if_icmp .ne 7, 3) := by decide +kernel
theorem dL_areLoans_529 : decode cL_areLoans 529 = .ok (.iconst 1, 1) := by decide +kernel
theorem dL_areLoans_530 : decode cL_areLoans 530 = .ok (.goto 4, 3) := by decide +kernel
theorem dL_areLoans_533 : decode cL_areLoans 533 = .ok (.iconst 0, 1) := by decide +kernel
theorem dL_areLoans_534 : decode cL_areLoans 534 = .ok (.ireturn, 1) := by decide +kernel
theorem dL_areNotes_0 : decode cL_areNotes 0 = .ok (.iconst 0, 1) := by decide +kernel
theorem dL_areNotes_1 : decode cL_areNotes 1 = .ok (.istore 5, 2) := by decide +kernel
theorem dL_areNotes_3 : decode cL_areNotes 3 = .ok (.iconst 0, 1) := by decide +kernel
theorem dL_areNotes_4 : decode cL_areNotes 4 = .ok (.istore 6, 2) := by decide +kernel
theorem dL_areNotes_6 : decode cL_areNotes 6 = .ok (.iload 6, 2) := by decide +kernel
theorem dL_areNotes_8 : decode cL_areNotes 8 = .ok (.aload_n 1, 1) := by decide +kernel
theorem dL_areNotes_9 : decode cL_areNotes 9 = .ok (.iconst 2, 1) := by decide +kernel
theorem dL_areNotes_10 : decode cL_areNotes 10 = .ok (.iaload, 1) := by decide +kernel
theorem dL_areNotes_11 : decode cL_areNotes 11 = .ok (.if_icmp .ge 139, 3) := by decide +kernel
theorem dL_areNotes_14 : decode cL_areNotes 14 = .ok (.bipush 6, 2) := by decide +kernel
theorem dL_areNotes_16 : decode cL_areNotes 16 = .ok (.iload 6, 2) := by decide +kernel
theorem dL_areNotes_18 : decode cL_areNotes 18 = .ok (.imul, 1) := by decide +kernel
theorem dL_areNotes_19 : decode cL_areNotes 19 = .ok (.istore 7, 2) := by decide +kernel
theorem dL_areNotes_21 : decode cL_areNotes 21 = .ok (.aload_n 0, 1) := by decide +kernel
theorem dL_areNotes_22 : decode cL_areNotes 22 = .ok (.iload 6, 2) := by decide +kernel
theorem dL_areNotes_24 : decode cL_areNotes 24 = .ok (.iconst 0, 1) := by decide +kernel
theorem dL_areNotes_25 : decode cL_areNotes 25 = .ok (.invokevirtual 29, 3) := by decide +kernel
theorem dL_areNotes_28 : decode cL_areNotes 28 = .ok (.aload_n 3, 1) := by decide +kernel
theorem dL_areNotes_29 : decode cL_areNotes 29 = .ok (.iload 7, 2) := by decide +kernel
theorem dL_areNotes_31 : decode cL_areNotes 31 = .ok (.iaload, 1) := by decide +kernel
theorem dL_areNotes_32 : decode cL_areNotes 32 = .ok (.if_icmp .ne 99, 3) := by decide +kernel
theorem dL_areNotes_35 : decode cL_areNotes 35 = .ok (.aload_n 0, 1) := by decide +kernel
theorem dL_areNotes_36 : decode cL_areNotes 36 = .ok (.iload 6, 2) := by decide +kernel
theorem dL_areNotes_38 : decode cL_areNotes 38 = .ok (.iconst 1, 1) := by decide +kernel
theorem dL_areNotes_39 : decode cL_areNotes 39 = .ok (.invokevirtual 29, 3) := by decide +kernel
theorem dL_areNotes_42 : decode cL_areNotes 42 = .ok (.aload_n 3, 1) := by decide +kernel
theorem dL_areNotes_43 : decode cL_areNotes 43 = .ok (.iload 7, 2) := by decide +kernel
theorem dL_areNotes_45 : decode cL_areNotes 45 = .ok (.iconst 1, 1) := by decide +kernel
theorem dL_areNotes_46 : decode cL_areNotes 46 = .ok (.iadd, 1) := by decide +kernel
theorem dL_areNotes_47 : decode cL_areNotes 47 = .ok (.iaload, 1) := by decide +kernel
theorem dL_areNotes_48 : decode cL_areNotes 48 = .ok (.if_icmp .ne 83, 3) := by decide +kernel
theorem dL_areNotes_51 : decode cL_areNotes 51 = .ok (.aload_n 0, 1) := by decide +kernel
theorem dL_areNotes_52 : decode cL_areNotes 52 = .ok (.iload 6, 2) := by decide +kernel
theorem dL_areNotes_54 : decode cL_areNotes 54 = .ok (.iconst 2, 1) := by decide +kernel
theorem dL_areNotes_55 : decode cL_areNotes 55 = .ok (.invokevirtual 29, 3) := by decide +kernel
theorem dL_areNotes_58 : decode cL_areNotes 58 = .ok (.aload_n 3, 1) := by decide +kernel
theorem dL_areNotes_59 : decode cL_areNotes 59 = .ok (.iload 7, 2) := by decide +kernel
theorem dL_areNotes_61 : decode cL_areNotes 61 = .ok (.iconst 2, 1) := by decide +kernel
theorem dL_areNotes_62 : decode cL_areNotes 62 = .ok (.iadd, 1) := by decide +kernel
theorem dL_areNotes_63 : decode cL_areNotes 63 = .ok (.iaload, 1) := by decide +kernel
theorem dL_areNotes_64 : decode cL_areNotes 64 = .ok (.if_icmp .ne 67, 3) := by decide +kernel
theorem dL_areNotes_67 : decode cL_areNotes 67 = .ok (.aload_n 0, 1) := by decide +kernel
theorem dL_areNotes_68 : decode cL_areNotes 68 = .ok (.iload 6, 2) := by decide +kernel
theorem dL_areNotes_70 : decode cL_areNotes 70 = .ok (.iconst 3, 1) := by decide +kernel
theorem dL_areNotes_71 : decode cL_areNotes 71 = .ok (.invokevirtual 29, 3) := by decide +kernel
theorem dL_areNotes_74 : decode cL_areNotes 74 = .ok (.aload_n 3, 1) := by decide +kernel
theorem dL_areNotes_75 : decode cL_areNotes 75 = .ok (.iload 7, 2) := by decide +kernel
theorem dL_areNotes_77 : decode cL_areNotes 77 = .ok (.iconst 3, 1) := by decide +kernel
theorem dL_areNotes_78 : decode cL_areNotes 78 = .ok (.iadd, 1) := by decide +kernel
theorem dL_areNotes_79 : decode cL_areNotes 79 = .ok (.iaload, 1) := by decide +kernel
theorem dL_areNotes_80 : decode cL_areNotes 80 = .ok (.if_icmp .ne 51, 3) := by decide +kernel
theorem dL_areNotes_83 : decode cL_areNotes 83 = .ok (.aload_n 0, 1) := by decide +kernel
theorem dL_areNotes_84 : decode cL_areNotes 84 = .ok (.iload 6, 2) := by decide +kernel
theorem dL_areNotes_86 : decode cL_areNotes 86 = .ok (.iconst 4, 1) := by decide +kernel
theorem dL_areNotes_87 : decode cL_areNotes 87 = .ok (.invokevirtual 29, 3) := by decide +kernel
theorem dL_areNotes_90 : decode cL_areNotes 90 = .ok (.aload 4, 2) := by decide +kernel
theorem dL_areNotes_92 : decode cL_areNotes 92 = .ok (.iload 6, 2) := by decide +kernel
theorem dL_areNotes_94 : decode cL_areNotes 94 = .ok (.iaload, 1) := by decide +kernel
theorem dL_areNotes_95 : decode cL_areNotes 95 = .ok (.if_icmp .ne 36, 3) := by decide +kernel
theorem dL_areNotes_98 : decode cL_areNotes 98 = .ok (.aload_n 0, 1) := by decide +kernel
theorem dL_areNotes_99 : decode cL_areNotes 99 = .ok (.iload 6, 2) := by decide +kernel
theorem dL_areNotes_101 : decode cL_areNotes 101 = .ok (.iconst 5, 1) := by decide +kernel
theorem dL_areNotes_102 : decode cL_areNotes 102 = .ok (.invokevirtual 29, 3) := by decide +kernel
theorem dL_areNotes_105 : decode cL_areNotes 105 = .ok (.aload_n 3, 1) := by decide +kernel
theorem dL_areNotes_106 : decode cL_areNotes 106 = .ok (.iload 7, 2) := by decide +kernel
theorem dL_areNotes_108 : decode cL_areNotes 108 = .ok (.iconst 4, 1) := by decide +kernel
theorem dL_areNotes_109 : decode cL_areNotes 109 = .ok (.iadd, 1) := by decide +kernel
theorem dL_areNotes_110 : decode cL_areNotes 110 = .ok (.iaload, 1) := by decide +kernel
theorem dL_areNotes_111 : decode cL_areNotes 111 = .ok (.if_icmp .ne 20, 3) := by decide +kernel
theorem dL_areNotes_114 : decode cL_areNotes 114 = .ok (.aload_n 0, 1) := by decide +kernel
theorem dL_areNotes_115 : decode cL_areNotes 115 = .ok (.iload 6, 2) := by decide +kernel
theorem dL_areNotes_117 : decode cL_areNotes 117 = .ok (.bipush 6, 2) := by decide +kernel
theorem dL_areNotes_119 : decode cL_areNotes 119 = .ok (.invokevirtual 29, 3) := by decide +kernel
theorem dL_areNotes_122 : decode cL_areNotes 122 = .ok (.aload_n 3, 1) := by decide +kernel
theorem dL_areNotes_123 : decode cL_areNotes 123 = .ok (.iload 7, 2) := by decide +kernel
theorem dL_areNotes_125 : decode cL_areNotes 125 = .ok (.iconst 5, 1) := by decide +kernel
theorem dL_areNotes_126 : decode cL_areNotes 126 = .ok (.iadd, 1) := by decide +kernel
theorem dL_areNotes_127 : decode cL_areNotes 127 = .ok (.iaload, 1) := by decide +kernel
theorem dL_areNotes_128 : decode cL_areNotes 128 = .ok (.if_icmp .eq 5, 3) := by decide +kernel
theorem dL_areNotes_131 : decode cL_areNotes 131 = .ok (.iconst 0, 1) := by decide +kernel
theorem dL_areNotes_132 : decode cL_areNotes 132 = .ok (.ireturn, 1) := by decide +kernel
theorem dL_areNotes_133 : decode cL_areNotes 133 = .ok (.iload 5, 2) := by decide +kernel
theorem dL_areNotes_135 : decode cL_areNotes 135 = .ok (.aload_n 3, 1) := by decide +kernel
theorem dL_areNotes_136 : decode cL_areNotes 136 = .ok (.iload 7, 2) := by decide +kernel
theorem dL_areNotes_138 : decode cL_areNotes 138 = .ok (.iconst 5, 1) := by decide +kernel
theorem dL_areNotes_139 : decode cL_areNotes 139 = .ok (.iadd, 1) := by decide +kernel
theorem dL_areNotes_140 : decode cL_areNotes 140 = .ok (.iaload, 1) := by decide +kernel
theorem dL_areNotes_141 : decode cL_areNotes 141 = .ok (.iadd, 1) := by decide +kernel
theorem dL_areNotes_142 : decode cL_areNotes 142 = .ok (.istore 5, 2) := by decide +kernel
theorem dL_areNotes_144 : decode cL_areNotes 144 = .ok (.iinc 6 1, 3) := by decide +kernel
theorem dL_areNotes_147 : decode cL_areNotes 147 = .ok (.goto (-141), 3) := by decide +kernel
theorem dL_areNotes_150 : decode cL_areNotes 150 = .ok (.iconst 0, 1) := by decide +kernel
theorem dL_areNotes_151 : decode cL_areNotes 151 = .ok (.istore 6, 2) := by decide +kernel
theorem dL_areNotes_153 : decode cL_areNotes 153 = .ok (.iload 6, 2) := by decide +kernel
theorem dL_areNotes_155 : decode cL_areNotes 155 = .ok (.iconst 3, 1) := by decide +kernel
theorem dL_areNotes_156 : decode cL_areNotes 156 = .ok (.if_icmp .ge 219, 3) := by decide +kernel
theorem dL_areNotes_159 : decode cL_areNotes 159 = .ok (.iconst 0, 1) := by decide +kernel
theorem dL_areNotes_160 : decode cL_areNotes 160 = .ok (.istore 7, 2) := by decide +kernel
theorem dL_areNotes_162 : decode cL_areNotes 162 = .ok (.iconst 0, 1) := by decide +kernel
theorem dL_areNotes_163 : decode cL_areNotes 163 = .ok (.istore 8, 2) := by decide +kernel
theorem dL_areNotes_165 : decode cL_areNotes 165 = .ok (.iconst 0, 1) := by decide +kernel
theorem dL_areNotes_166 : decode cL_areNotes 166 = .ok (.istore 9, 2) := by decide +kernel
theorem dL_areNotes_168 : decode cL_areNotes 168 = .ok (.iconst 0, 1) := by decide +kernel
theorem dL_areNotes_169 : decode cL_areNotes 169 = .ok (.istore 10, 2) := by decide +kernel
theorem dL_areNotes_171 : decode cL_areNotes 171 = .ok (.iload 10, 2) := by decide +kernel
theorem dL_areNotes_173 : decode cL_areNotes 173 = .ok (.aload_n 1, 1) := by decide +kernel
theorem dL_areNotes_174 : decode cL_areNotes 174 = .ok (.iconst 2, 1) := by decide +kernel
theorem dL_areNotes_175 : decode cL_areNotes 175 = .ok (.iaload, 1) := by decide +kernel
theorem dL_areNotes_176 : decode cL_areNotes 176 = .ok (.if_icmp .ge 103, 3) := by decide +kernel
theorem dL_areNotes_179 : decode cL_areNotes 179 = .ok (.aload_n 3, 1) := by decide +kernel
theorem dL_areNotes_180 : decode cL_areNotes 180 = .ok (.bipush 6, 2) := by decide +kernel
theorem dL_areNotes_182 : decode cL_areNotes 182 = .ok (.iload 10, 2) := by decide +kernel
theorem dL_areNotes_184 : decode cL_areNotes 184 = .ok (.imul, 1) := by decide +kernel
theorem dL_areNotes_185 : decode cL_areNotes 185 = .ok (.iaload, 1) := by decide +kernel
theorem dL_areNotes_186 : decode cL_areNotes 186 = .ok (.iload 6, 2) := by decide +kernel
theorem dL_areNotes_188 : decode cL_areNotes 188 = .ok (.if_icmp .ne 19, 3) := by decide +kernel
theorem dL_areNotes_191 : decode cL_areNotes 191 = .ok (.aload_n 3, 1) := by decide +kernel
theorem dL_areNotes_192 : decode cL_areNotes 192 = .ok (.bipush 6, 2) := by decide +kernel
theorem dL_areNotes_194 : decode cL_areNotes 194 = .ok (.iload 10, 2) := by decide +kernel
theorem dL_areNotes_196 : decode cL_areNotes 196 = .ok (.imul, 1) := by decide +kernel
theorem dL_areNotes_197 : decode cL_areNotes 197 = .ok (.iconst 3, 1) := by decide +kernel
theorem dL_areNotes_198 : decode cL_areNotes 198 = .ok (.iadd, 1) := by decide +kernel
theorem dL_areNotes_199 : decode cL_areNotes 199 = .ok (.iaload, 1) := by decide +kernel
theorem dL_areNotes_200 : decode cL_areNotes 200 = .ok (.ifCond .le 7, 3) := by decide +kernel
theorem dL_areNotes_203 : decode cL_areNotes 203 = .ok (.iconst 1, 1) := by decide +kernel
theorem dL_areNotes_204 : decode cL_areNotes 204 = .ok (.goto 4, 3) := by decide +kernel
theorem dL_areNotes_207 : decode cL_areNotes 207 = .ok (.iconst 0, 1) := by decide +kernel
theorem dL_areNotes_208 : decode cL_areNotes 208 = .ok (.istore 11, 2) := by decide +kernel
theorem dL_areNotes_210 : decode cL_areNotes 210 = .ok (.iload 7, 2) := by decide +kernel
theorem dL_areNotes_212 : decode cL_areNotes 212 = .ok (.iload 11, 2) := by decide +kernel
theorem dL_areNotes_214 : decode cL_areNotes 214 = .ok (.ifCond .eq 15, 3) := by decide +kernel
theorem dL_areNotes_217 : decode cL_areNotes 217 = .ok (.aload_n 3, 1) := by decide +kernel
theorem dL_areNotes_218 : decode cL_areNotes 218 = .ok (.bipush 6, 2) := by decide +kernel
theorem dL_areNotes_220 : decode cL_areNotes 220 = .ok (.iload 10, 2) := by decide +kernel

theorem dL_cell_0 : decode cL_cell 0 = .ok (.iload_n 1, 1) := by decide +kernel
theorem dL_cell_1 : decode cL_cell 1 = .ok (.aload_n 0, 1) := by decide +kernel
theorem dL_cell_2 : decode cL_cell 2 = .ok (.arraylength, 1) := by decide +kernel
theorem dL_cell_3 : decode cL_cell 3 = .ok (.if_icmp .ge 9, 3) := by decide +kernel
theorem dL_cell_6 : decode cL_cell 6 = .ok (.aload_n 0, 1) := by decide +kernel
theorem dL_cell_7 : decode cL_cell 7 = .ok (.iload_n 1, 1) := by decide +kernel
theorem dL_cell_8 : decode cL_cell 8 = .ok (.iaload, 1) := by decide +kernel
theorem dL_cell_9 : decode cL_cell 9 = .ok (.goto 11, 3) := by decide +kernel
theorem dL_cell_12 : decode cL_cell 12 = .ok (.ldc 7, 2) := by decide +kernel
theorem dL_cell_14 : decode cL_cell 14 = .ok (.iload_n 1, 1) := by decide +kernel
theorem dL_cell_15 : decode cL_cell 15 = .ok (.imul, 1) := by decide +kernel
theorem dL_cell_16 : decode cL_cell 16 = .ok (.sipush 10007, 3) := by decide +kernel
theorem dL_cell_19 : decode cL_cell 19 = .ok (.iadd, 1) := by decide +kernel
theorem dL_cell_20 : decode cL_cell 20 = .ok (.ireturn, 1) := by decide +kernel
theorem dL_low_0 : decode cL_low 0 = .ok (.iload_n 0, 1) := by decide +kernel
theorem dL_low_1 : decode cL_low 1 = .ok (.ldc 8, 2) := by decide +kernel
theorem dL_low_3 : decode cL_low 3 = .ok (.iand, 1) := by decide +kernel
theorem dL_low_4 : decode cL_low 4 = .ok (.iload_n 1, 1) := by decide +kernel
theorem dL_low_5 : decode cL_low 5 = .ok (.irem, 1) := by decide +kernel
theorem dL_low_6 : decode cL_low 6 = .ok (.ireturn, 1) := by decide +kernel
theorem dL_keys_0 : decode cL_keys 0 = .ok (.aload_n 0, 1) := by decide +kernel
theorem dL_keys_1 : decode cL_keys 1 = .ok (.iconst 1, 1) := by decide +kernel
theorem dL_keys_2 : decode cL_keys 2 = .ok (.invokevirtual 9, 3) := by decide +kernel
theorem dL_keys_5 : decode cL_keys 5 = .ok (.aload_n 0, 1) := by decide +kernel
theorem dL_keys_6 : decode cL_keys 6 = .ok (.iconst 2, 1) := by decide +kernel
theorem dL_keys_7 : decode cL_keys 7 = .ok (.invokevirtual 9, 3) := by decide +kernel
theorem dL_keys_10 : decode cL_keys 10 = .ok (.imul, 1) := by decide +kernel
theorem dL_keys_11 : decode cL_keys 11 = .ok (.ireturn, 1) := by decide +kernel
theorem dL_sensed_0 : decode cL_sensed 0 = .ok (.aload_n 0, 1) := by decide +kernel
theorem dL_sensed_1 : decode cL_sensed 1 = .ok (.iconst 2, 1) := by decide +kernel
theorem dL_sensed_2 : decode cL_sensed 2 = .ok (.invokevirtual 9, 3) := by decide +kernel
theorem dL_sensed_5 : decode cL_sensed 5 = .ok (.istore_n 3, 1) := by decide +kernel
theorem dL_sensed_6 : decode cL_sensed 6 = .ok (.iconst 1, 1) := by decide +kernel
theorem dL_sensed_7 : decode cL_sensed 7 = .ok (.iload_n 1, 1) := by decide +kernel
theorem dL_sensed_8 : decode cL_sensed 8 = .ok (.ishl, 1) := by decide +kernel
theorem dL_sensed_9 : decode cL_sensed 9 = .ok (.istore 4, 2) := by decide +kernel
theorem dL_sensed_11 : decode cL_sensed 11 = .ok (.iconst 0, 1) := by decide +kernel
theorem dL_sensed_12 : decode cL_sensed 12 = .ok (.istore 5, 2) := by decide +kernel
theorem dL_sensed_14 : decode cL_sensed 14 = .ok (.iconst 0, 1) := by decide +kernel
theorem dL_sensed_15 : decode cL_sensed 15 = .ok (.istore 6, 2) := by decide +kernel
theorem dL_sensed_17 : decode cL_sensed 17 = .ok (.iload 6, 2) := by decide +kernel
theorem dL_sensed_19 : decode cL_sensed 19 = .ok (.bipush 12, 2) := by decide +kernel
theorem dL_sensed_21 : decode cL_sensed 21 = .ok (.if_icmp .ge 141, 3) := by decide +kernel
theorem dL_sensed_24 : decode cL_sensed 24 = .ok (.iconst 0, 1) := by decide +kernel
theorem dL_sensed_25 : decode cL_sensed 25 = .ok (.istore 7, 2) := by decide +kernel
theorem dL_sensed_27 : decode cL_sensed 27 = .ok (.iload 7, 2) := by decide +kernel
theorem dL_sensed_29 : decode cL_sensed 29 = .ok (.aload_n 0, 1) := by decide +kernel
theorem dL_sensed_30 : decode cL_sensed 30 = .ok (.invokestatic 15, 3) := by decide +kernel
theorem dL_sensed_33 : decode cL_sensed 33 = .ok (.if_icmp .ge 123, 3) := by decide +kernel
theorem dL_sensed_36 : decode cL_sensed 36 = .ok (.aload_n 0, 1) := by decide +kernel
theorem dL_sensed_37 : decode cL_sensed 37 = .ok (.iload 7, 2) := by decide +kernel
theorem dL_sensed_39 : decode cL_sensed 39 = .ok (.iconst 0, 1) := by decide +kernel
theorem dL_sensed_40 : decode cL_sensed 40 = .ok (.invokevirtual 21, 3) := by decide +kernel
theorem dL_sensed_43 : decode cL_sensed 43 = .ok (.ifCond .lt 7, 3) := by decide +kernel
theorem dL_sensed_46 : decode cL_sensed 46 = .ok (.iconst 1, 1) := by decide +kernel
theorem dL_sensed_47 : decode cL_sensed 47 = .ok (.goto 4, 3) := by decide +kernel
theorem dL_sensed_50 : decode cL_sensed 50 = .ok (.iconst 0, 1) := by decide +kernel
theorem dL_sensed_51 : decode cL_sensed 51 = .ok (.iload 7, 2) := by decide +kernel
theorem dL_sensed_53 : decode cL_sensed 53 = .ok (.iload_n 2, 1) := by decide +kernel
theorem dL_sensed_54 : decode cL_sensed 54 = .ok (.if_icmp .ne 7, 3) := by decide +kernel
theorem dL_sensed_57 : decode cL_sensed 57 = .ok (.iconst 1, 1) := by decide +kernel
theorem dL_sensed_58 : decode cL_sensed 58 = .ok (.goto 4, 3) := by decide +kernel
theorem dL_sensed_61 : decode cL_sensed 61 = .ok (.iconst 0, 1) := by decide +kernel
theorem dL_sensed_62 : decode cL_sensed 62 = .ok (.if_icmp .eq 7, 3) := by decide +kernel
theorem dL_sensed_65 : decode cL_sensed 65 = .ok (.iconst 1, 1) := by decide +kernel
theorem dL_sensed_66 : decode cL_sensed 66 = .ok (.goto 4, 3) := by decide +kernel
theorem dL_sensed_69 : decode cL_sensed 69 = .ok (.iconst 0, 1) := by decide +kernel
theorem dL_sensed_70 : decode cL_sensed 70 = .ok (.istore 8, 2) := by decide +kernel
theorem dL_sensed_72 : decode cL_sensed 72 = .ok (.iload 8, 2) := by decide +kernel
theorem dL_sensed_74 : decode cL_sensed 74 = .ok (.ifCond .eq 33, 3) := by decide +kernel
theorem dL_sensed_77 : decode cL_sensed 77 = .ok (.iload 4, 2) := by decide +kernel
theorem dL_sensed_79 : decode cL_sensed 79 = .ok (.iload 7, 2) := by decide +kernel
theorem dL_sensed_81 : decode cL_sensed 81 = .ok (.iload_n 3, 1) := by decide +kernel
theorem dL_sensed_82 : decode cL_sensed 82 = .ok (.idiv, 1) := by decide +kernel
theorem dL_sensed_83 : decode cL_sensed 83 = .ok (.ishr, 1) := by decide +kernel
theorem dL_sensed_84 : decode cL_sensed 84 = .ok (.iconst 1, 1) := by decide +kernel
theorem dL_sensed_85 : decode cL_sensed 85 = .ok (.iand, 1) := by decide +kernel
theorem dL_sensed_86 : decode cL_sensed 86 = .ok (.iconst 1, 1) := by decide +kernel
theorem dL_sensed_87 : decode cL_sensed 87 = .ok (.if_icmp .eq 16, 3) := by decide +kernel
theorem dL_sensed_90 : decode cL_sensed 90 = .ok (.iload 5, 2) := by decide +kernel
theorem dL_sensed_92 : decode cL_sensed 92 = .ok (.iload 7, 2) := by decide +kernel
theorem dL_sensed_94 : decode cL_sensed 94 = .ok (.iload_n 3, 1) := by decide +kernel
theorem dL_sensed_95 : decode cL_sensed 95 = .ok (.irem, 1) := by decide +kernel
theorem dL_sensed_96 : decode cL_sensed 96 = .ok (.ishr, 1) := by decide +kernel
theorem dL_sensed_97 : decode cL_sensed 97 = .ok (.iconst 1, 1) := by decide +kernel
theorem dL_sensed_98 : decode cL_sensed 98 = .ok (.iand, 1) := by decide +kernel
theorem dL_sensed_99 : decode cL_sensed 99 = .ok (.iconst 1, 1) := by decide +kernel
theorem dL_sensed_100 : decode cL_sensed 100 = .ok (.if_icmp .ne 7, 3) := by decide +kernel
theorem dL_sensed_103 : decode cL_sensed 103 = .ok (.iconst 1, 1) := by decide +kernel
theorem dL_sensed_104 : decode cL_sensed 104 = .ok (.goto 4, 3) := by decide +kernel
theorem dL_sensed_107 : decode cL_sensed 107 = .ok (.iconst 0, 1) := by decide +kernel
theorem dL_sensed_108 : decode cL_sensed 108 = .ok (.istore 9, 2) := by decide +kernel
theorem dL_sensed_110 : decode cL_sensed 110 = .ok (.iload 4, 2) := by decide +kernel
theorem dL_sensed_112 : decode cL_sensed 112 = .ok (.iload 9, 2) := by decide +kernel
theorem dL_sensed_114 : decode cL_sensed 114 = .ok (.ifCond .eq 12, 3) := by decide +kernel
theorem dL_sensed_117 : decode cL_sensed 117 = .ok (.iconst 1, 1) := by decide +kernel
theorem dL_sensed_118 : decode cL_sensed 118 = .ok (.iload 7, 2) := by decide +kernel
theorem dL_sensed_120 : decode cL_sensed 120 = .ok (.iload_n 3, 1) := by decide +kernel
theorem dL_sensed_121 : decode cL_sensed 121 = .ok (.idiv, 1) := by decide +kernel
theorem dL_sensed_122 : decode cL_sensed 122 = .ok (.ishl, 1) := by decide +kernel
theorem dL_sensed_123 : decode cL_sensed 123 = .ok (.goto 4, 3) := by decide +kernel
theorem dL_sensed_126 : decode cL_sensed 126 = .ok (.iconst 0, 1) := by decide +kernel
theorem dL_sensed_127 : decode cL_sensed 127 = .ok (.ior, 1) := by decide +kernel
theorem dL_sensed_128 : decode cL_sensed 128 = .ok (.istore 4, 2) := by decide +kernel
theorem dL_sensed_130 : decode cL_sensed 130 = .ok (.iload 5, 2) := by decide +kernel
theorem dL_sensed_132 : decode cL_sensed 132 = .ok (.iload 9, 2) := by decide +kernel
theorem dL_sensed_134 : decode cL_sensed 134 = .ok (.ifCond .eq 12, 3) := by decide +kernel
theorem dL_sensed_137 : decode cL_sensed 137 = .ok (.iconst 1, 1) := by decide +kernel
theorem dL_sensed_138 : decode cL_sensed 138 = .ok (.iload 7, 2) := by decide +kernel
theorem dL_sensed_140 : decode cL_sensed 140 = .ok (.iload_n 3, 1) := by decide +kernel
theorem dL_sensed_141 : decode cL_sensed 141 = .ok (.irem, 1) := by decide +kernel
theorem dL_sensed_142 : decode cL_sensed 142 = .ok (.ishl, 1) := by decide +kernel
theorem dL_sensed_143 : decode cL_sensed 143 = .ok (.goto 4, 3) := by decide +kernel
theorem dL_sensed_146 : decode cL_sensed 146 = .ok (.iconst 0, 1) := by decide +kernel
theorem dL_sensed_147 : decode cL_sensed 147 = .ok (.ior, 1) := by decide +kernel
theorem dL_sensed_148 : decode cL_sensed 148 = .ok (.istore 5, 2) := by decide +kernel
theorem dL_sensed_150 : decode cL_sensed 150 = .ok (.iinc 7 1, 3) := by decide +kernel
theorem dL_sensed_153 : decode cL_sensed 153 = .ok (.goto (-126), 3) := by decide +kernel
theorem dL_sensed_156 : decode cL_sensed 156 = .ok (.iinc 6 1, 3) := by decide +kernel
theorem dL_sensed_159 : decode cL_sensed 159 = .ok (.goto (-142), 3) := by decide +kernel
theorem dL_sensed_162 : decode cL_sensed 162 = .ok (.iload 5, 2) := by decide +kernel
theorem dL_sensed_164 : decode cL_sensed 164 = .ok (.ireturn, 1) := by decide +kernel
theorem dL_senses_0 : decode cL_senses 0 = .ok (.aload_n 0, 1) := by decide +kernel
theorem dL_senses_1 : decode cL_senses 1 = .ok (.iconst 2, 1) := by decide +kernel
theorem dL_senses_2 : decode cL_senses 2 = .ok (.invokevirtual 9, 3) := by decide +kernel
theorem dL_senses_5 : decode cL_senses 5 = .ok (.istore_n 3, 1) := by decide +kernel
theorem dL_senses_6 : decode cL_senses 6 = .ok (.aload_n 0, 1) := by decide +kernel
theorem dL_senses_7 : decode cL_senses 7 = .ok (.iload_n 1, 1) := by decide +kernel
theorem dL_senses_8 : decode cL_senses 8 = .ok (.iload_n 3, 1) := by decide +kernel
theorem dL_senses_9 : decode cL_senses 9 = .ok (.idiv, 1) := by decide +kernel
theorem dL_senses_10 : decode cL_senses 10 = .ok (.iload_n 2, 1) := by decide +kernel
theorem dL_senses_11 : decode cL_senses 11 = .ok (.invokestatic 25, 3) := by decide +kernel
theorem dL_senses_14 : decode cL_senses 14 = .ok (.iload_n 1, 1) := by decide +kernel
theorem dL_senses_15 : decode cL_senses 15 = .ok (.iload_n 3, 1) := by decide +kernel
theorem dL_senses_16 : decode cL_senses 16 = .ok (.irem, 1) := by decide +kernel
theorem dL_senses_17 : decode cL_senses 17 = .ok (.ishr, 1) := by decide +kernel
theorem dL_senses_18 : decode cL_senses 18 = .ok (.iconst 1, 1) := by decide +kernel
theorem dL_senses_19 : decode cL_senses 19 = .ok (.iand, 1) := by decide +kernel
theorem dL_senses_20 : decode cL_senses 20 = .ok (.iconst 1, 1) := by decide +kernel
theorem dL_senses_21 : decode cL_senses 21 = .ok (.if_icmp .ne 7, 3) := by decide +kernel
theorem dL_senses_24 : decode cL_senses 24 = .ok (.iconst 1, 1) := by decide +kernel
theorem dL_senses_25 : decode cL_senses 25 = .ok (.goto 4, 3) := by decide +kernel
theorem dL_senses_28 : decode cL_senses 28 = .ok (.iconst 0, 1) := by decide +kernel
theorem dL_senses_29 : decode cL_senses 29 = .ok (.ireturn, 1) := by decide +kernel
theorem dL_ghosts_0 : decode cL_ghosts 0 = .ok (.bipush 100, 2) := by decide +kernel
theorem dL_ghosts_2 : decode cL_ghosts 2 = .ok (.istore_n 2, 1) := by decide +kernel
theorem dL_ghosts_3 : decode cL_ghosts 3 = .ok (.iconst 0, 1) := by decide +kernel
theorem dL_ghosts_4 : decode cL_ghosts 4 = .ok (.istore_n 3, 1) := by decide +kernel
theorem dL_ghosts_5 : decode cL_ghosts 5 = .ok (.iload_n 3, 1) := by decide +kernel
theorem dL_ghosts_6 : decode cL_ghosts 6 = .ok (.aload_n 0, 1) := by decide +kernel
theorem dL_ghosts_7 : decode cL_ghosts 7 = .ok (.invokestatic 15, 3) := by decide +kernel
theorem dL_ghosts_10 : decode cL_ghosts 10 = .ok (.if_icmp .ge 55, 3) := by decide +kernel
theorem dL_ghosts_13 : decode cL_ghosts 13 = .ok (.iload_n 3, 1) := by decide +kernel
theorem dL_ghosts_14 : decode cL_ghosts 14 = .ok (.iload_n 1, 1) := by decide +kernel
theorem dL_ghosts_15 : decode cL_ghosts 15 = .ok (.if_icmp .eq 44, 3) := by decide +kernel
theorem dL_ghosts_18 : decode cL_ghosts 18 = .ok (.aload_n 0, 1) := by decide +kernel
theorem dL_ghosts_19 : decode cL_ghosts 19 = .ok (.iload_n 3, 1) := by decide +kernel
theorem dL_ghosts_20 : decode cL_ghosts 20 = .ok (.iconst 0, 1) := by decide +kernel
theorem dL_ghosts_21 : decode cL_ghosts 21 = .ok (.invokevirtual 21, 3) := by decide +kernel
theorem dL_ghosts_24 : decode cL_ghosts 24 = .ok (.ifCond .ge 35, 3) := by decide +kernel
theorem dL_ghosts_27 : decode cL_ghosts 27 = .ok (.iload_n 2, 1) := by decide +kernel
theorem dL_ghosts_28 : decode cL_ghosts 28 = .ok (.aload_n 0, 1) := by decide +kernel
theorem dL_ghosts_29 : decode cL_ghosts 29 = .ok (.iload_n 3, 1) := by decide +kernel
theorem dL_ghosts_30 : decode cL_ghosts 30 = .ok (.iconst (-1), 1) := by decide +kernel
theorem dL_ghosts_31 : decode cL_ghosts 31 = .ok (.invokestatic 29, 3) := by decide +kernel
theorem dL_ghosts_34 : decode cL_ghosts 34 = .ok (.ifCond .eq 7, 3) := by decide +kernel
theorem dL_ghosts_37 : decode cL_ghosts 37 = .ok (.iconst 1, 1) := by decide +kernel
theorem dL_ghosts_38 : decode cL_ghosts 38 = .ok (.goto 4, 3) := by decide +kernel
theorem dL_ghosts_41 : decode cL_ghosts 41 = .ok (.iconst 0, 1) := by decide +kernel
theorem dL_ghosts_42 : decode cL_ghosts 42 = .ok (.aload_n 0, 1) := by decide +kernel
theorem dL_ghosts_43 : decode cL_ghosts 43 = .ok (.iload_n 3, 1) := by decide +kernel
theorem dL_ghosts_44 : decode cL_ghosts 44 = .ok (.iload_n 1, 1) := by decide +kernel
theorem dL_ghosts_45 : decode cL_ghosts 45 = .ok (.invokestatic 29, 3) := by decide +kernel
theorem dL_ghosts_48 : decode cL_ghosts 48 = .ok (.ifCond .eq 7, 3) := by decide +kernel
theorem dL_ghosts_51 : decode cL_ghosts 51 = .ok (.iconst 1, 1) := by decide +kernel
theorem dL_ghosts_52 : decode cL_ghosts 52 = .ok (.goto 4, 3) := by decide +kernel
theorem dL_ghosts_55 : decode cL_ghosts 55 = .ok (.iconst 0, 1) := by decide +kernel
theorem dL_ghosts_56 : decode cL_ghosts 56 = .ok (.isub, 1) := by decide +kernel
theorem dL_ghosts_57 : decode cL_ghosts 57 = .ok (.iadd, 1) := by decide +kernel
theorem dL_ghosts_58 : decode cL_ghosts 58 = .ok (.istore_n 2, 1) := by decide +kernel
theorem dL_ghosts_59 : decode cL_ghosts 59 = .ok (.iinc 3 1, 3) := by decide +kernel
theorem dL_ghosts_62 : decode cL_ghosts 62 = .ok (.goto (-57), 3) := by decide +kernel
theorem dL_ghosts_65 : decode cL_ghosts 65 = .ok (.aload_n 0, 1) := by decide +kernel
theorem dL_ghosts_66 : decode cL_ghosts 66 = .ok (.iload_n 1, 1) := by decide +kernel
theorem dL_ghosts_67 : decode cL_ghosts 67 = .ok (.invokevirtual 33, 3) := by decide +kernel
theorem dL_ghosts_70 : decode cL_ghosts 70 = .ok (.iload_n 2, 1) := by decide +kernel
theorem dL_ghosts_71 : decode cL_ghosts 71 = .ok (.if_icmp .ne 7, 3) := by decide +kernel
theorem dL_ghosts_74 : decode cL_ghosts 74 = .ok (.iconst 1, 1) := by decide +kernel
theorem dL_ghosts_75 : decode cL_ghosts 75 = .ok (.goto 4, 3) := by decide +kernel
theorem dL_ghosts_78 : decode cL_ghosts 78 = .ok (.iconst 0, 1) := by decide +kernel
theorem dL_ghosts_79 : decode cL_ghosts 79 = .ok (.ireturn, 1) := by decide +kernel
theorem dL_judged_0 : decode cL_judged 0 = .ok (.aload_n 0, 1) := by decide +kernel
theorem dL_judged_1 : decode cL_judged 1 = .ok (.iload_n 1, 1) := by decide +kernel
theorem dL_judged_2 : decode cL_judged 2 = .ok (.iconst 1, 1) := by decide +kernel
theorem dL_judged_3 : decode cL_judged 3 = .ok (.invokevirtual 21, 3) := by decide +kernel
theorem dL_judged_6 : decode cL_judged 6 = .ok (.ifCond .ne 39, 3) := by decide +kernel
theorem dL_judged_9 : decode cL_judged 9 = .ok (.aload_n 0, 1) := by decide +kernel
theorem dL_judged_10 : decode cL_judged 10 = .ok (.iload_n 1, 1) := by decide +kernel
theorem dL_judged_11 : decode cL_judged 11 = .ok (.invokevirtual 36, 3) := by decide +kernel
theorem dL_judged_14 : decode cL_judged 14 = .ok (.bipush (-5), 2) := by decide +kernel
theorem dL_judged_16 : decode cL_judged 16 = .ok (.if_icmp .ne 27, 3) := by decide +kernel
theorem dL_judged_19 : decode cL_judged 19 = .ok (.aload_n 0, 1) := by decide +kernel
theorem dL_judged_20 : decode cL_judged 20 = .ok (.iload_n 1, 1) := by decide +kernel
theorem dL_judged_21 : decode cL_judged 21 = .ok (.iconst 2, 1) := by decide +kernel
theorem dL_judged_22 : decode cL_judged 22 = .ok (.invokevirtual 21, 3) := by decide +kernel
theorem dL_judged_25 : decode cL_judged 25 = .ok (.bipush (-5), 2) := by decide +kernel
theorem dL_judged_27 : decode cL_judged 27 = .ok (.if_icmp .ne 16, 3) := by decide +kernel
theorem dL_judged_30 : decode cL_judged 30 = .ok (.aload_n 0, 1) := by decide +kernel
theorem dL_judged_31 : decode cL_judged 31 = .ok (.iload_n 1, 1) := by decide +kernel
theorem dL_judged_32 : decode cL_judged 32 = .ok (.iconst 3, 1) := by decide +kernel
theorem dL_judged_33 : decode cL_judged 33 = .ok (.invokevirtual 21, 3) := by decide +kernel
theorem dL_judged_36 : decode cL_judged 36 = .ok (.ifCond .ne 7, 3) := by decide +kernel
theorem dL_judged_39 : decode cL_judged 39 = .ok (.iconst 1, 1) := by decide +kernel
theorem dL_judged_40 : decode cL_judged 40 = .ok (.goto 4, 3) := by decide +kernel
theorem dL_judged_43 : decode cL_judged 43 = .ok (.iconst 0, 1) := by decide +kernel
theorem dL_judged_44 : decode cL_judged 44 = .ok (.ireturn, 1) := by decide +kernel
theorem dL_judged_45 : decode cL_judged 45 = .ok (.aload_n 0, 1) := by decide +kernel
theorem dL_judged_46 : decode cL_judged 46 = .ok (.iload_n 1, 1) := by decide +kernel
theorem dL_judged_47 : decode cL_judged 47 = .ok (.iconst 2, 1) := by decide +kernel
theorem dL_judged_48 : decode cL_judged 48 = .ok (.invokevirtual 21, 3) := by decide +kernel
theorem dL_judged_51 : decode cL_judged 51 = .ok (.istore_n 2, 1) := by decide +kernel
theorem dL_judged_52 : decode cL_judged 52 = .ok (.aload_n 0, 1) := by decide +kernel
theorem dL_judged_53 : decode cL_judged 53 = .ok (.iconst 0, 1) := by decide +kernel
theorem dL_judged_54 : decode cL_judged 54 = .ok (.invokevirtual 9, 3) := by decide +kernel
theorem dL_judged_57 : decode cL_judged 57 = .ok (.iload_n 2, 1) := by decide +kernel
theorem dL_judged_58 : decode cL_judged 58 = .ok (.isub, 1) := by decide +kernel
theorem dL_judged_59 : decode cL_judged 59 = .ok (.istore_n 3, 1) := by decide +kernel
theorem dL_judged_60 : decode cL_judged 60 = .ok (.aload_n 0, 1) := by decide +kernel
theorem dL_judged_61 : decode cL_judged 61 = .ok (.iload_n 1, 1) := by decide +kernel
theorem dL_judged_62 : decode cL_judged 62 = .ok (.iconst 5, 1) := by decide +kernel
theorem dL_judged_63 : decode cL_judged 63 = .ok (.invokevirtual 21, 3) := by decide +kernel
theorem dL_judged_66 : decode cL_judged 66 = .ok (.istore 4, 2) := by decide +kernel
theorem dL_judged_68 : decode cL_judged 68 = .ok (.aload_n 0, 1) := by decide +kernel
theorem dL_judged_69 : decode cL_judged 69 = .ok (.iload_n 1, 1) := by decide +kernel
theorem dL_judged_70 : decode cL_judged 70 = .ok (.iconst 3, 1) := by decide +kernel
theorem dL_judged_71 : decode cL_judged 71 = .ok (.invokevirtual 21, 3) := by decide +kernel
theorem dL_judged_74 : decode cL_judged 74 = .ok (.iconst 1, 1) := by decide +kernel
theorem dL_judged_75 : decode cL_judged 75 = .ok (.if_icmp .ne 7, 3) := by decide +kernel
theorem dL_judged_78 : decode cL_judged 78 = .ok (.iconst 1, 1) := by decide +kernel
theorem dL_judged_79 : decode cL_judged 79 = .ok (.goto 4, 3) := by decide +kernel
theorem dL_judged_82 : decode cL_judged 82 = .ok (.iconst 0, 1) := by decide +kernel
theorem dL_judged_83 : decode cL_judged 83 = .ok (.istore 5, 2) := by decide +kernel
theorem dL_judged_85 : decode cL_judged 85 = .ok (.iload 4, 2) := by decide +kernel
theorem dL_judged_87 : decode cL_judged 87 = .ok (.ifCond .lt 28, 3) := by decide +kernel
theorem dL_judged_90 : decode cL_judged 90 = .ok (.aload_n 0, 1) := by decide +kernel
theorem dL_judged_91 : decode cL_judged 91 = .ok (.iload_n 1, 1) := by decide +kernel
theorem dL_judged_92 : decode cL_judged 92 = .ok (.invokevirtual 36, 3) := by decide +kernel
theorem dL_judged_95 : decode cL_judged 95 = .ok (.iload 5, 2) := by decide +kernel
theorem dL_judged_97 : decode cL_judged 97 = .ok (.ifCond .eq 7, 3) := by decide +kernel
theorem dL_judged_100 : decode cL_judged 100 = .ok (.iconst 2, 1) := by decide +kernel
theorem dL_judged_101 : decode cL_judged 101 = .ok (.goto 5, 3) := by decide +kernel
theorem dL_judged_104 : decode cL_judged 104 = .ok (.iload 4, 2) := by decide +kernel
theorem dL_judged_106 : decode cL_judged 106 = .ok (.if_icmp .ne 7, 3) := by decide +kernel
theorem dL_judged_109 : decode cL_judged 109 = .ok (.iconst 1, 1) := by decide +kernel
theorem dL_judged_110 : decode cL_judged 110 = .ok (.goto 4, 3) := by decide +kernel
theorem dL_judged_113 : decode cL_judged 113 = .ok (.iconst 0, 1) := by decide +kernel
theorem dL_judged_114 : decode cL_judged 114 = .ok (.ireturn, 1) := by decide +kernel
theorem dL_judged_115 : decode cL_judged 115 = .ok (.iload_n 3, 1) := by decide +kernel
theorem dL_judged_116 : decode cL_judged 116 = .ok (.sipush 9999, 3) := by decide +kernel
theorem dL_judged_119 : decode cL_judged 119 = .ok (.if_icmp .le 5, 3) := by decide +kernel
theorem dL_judged_122 : decode cL_judged 122 = .ok (.iconst 1, 1) := by decide +kernel
theorem dL_judged_123 : decode cL_judged 123 = .ok (.ireturn, 1) := by decide +kernel
theorem dL_judged_124 : decode cL_judged 124 = .ok (.aload_n 0, 1) := by decide +kernel
theorem dL_judged_125 : decode cL_judged 125 = .ok (.iconst 0, 1) := by decide +kernel
theorem dL_judged_126 : decode cL_judged 126 = .ok (.iload_n 2, 1) := by decide +kernel
theorem dL_judged_127 : decode cL_judged 127 = .ok (.iload_n 3, 1) := by decide +kernel
theorem dL_judged_128 : decode cL_judged 128 = .ok (.invokevirtual 39, 3) := by decide +kernel
theorem dL_judged_131 : decode cL_judged 131 = .ok (.fstore 6, 2) := by decide +kernel
theorem dL_judged_133 : decode cL_judged 133 = .ok (.aload_n 0, 1) := by decide +kernel
theorem dL_judged_134 : decode cL_judged 134 = .ok (.iconst 1, 1) := by decide +kernel
theorem dL_judged_135 : decode cL_judged 135 = .ok (.iload_n 2, 1) := by decide +kernel
theorem dL_judged_136 : decode cL_judged 136 = .ok (.iload_n 3, 1) := by decide +kernel
theorem dL_judged_137 : decode cL_judged 137 = .ok (.invokevirtual 39, 3) := by decide +kernel
theorem dL_judged_140 : decode cL_judged 140 = .ok (.fstore 7, 2) := by decide +kernel
theorem dL_judged_142 : decode cL_judged 142 = .ok (.fload 7, 2) := by decide +kernel
theorem dL_judged_144 : decode cL_judged 144 = .ok (.fload 6, 2) := by decide +kernel
theorem dL_judged_146 : decode cL_judged 146 = .ok (.fcmp .g, 1) := by decide +kernel
theorem dL_judged_147 : decode cL_judged 147 = .ok (.ifCond .ge 7, 3) := by decide +kernel
theorem dL_judged_150 : decode cL_judged 150 = .ok (.iconst 1, 1) := by decide +kernel
theorem dL_judged_151 : decode cL_judged 151 = .ok (.goto 4, 3) := by decide +kernel
theorem dL_judged_154 : decode cL_judged 154 = .ok (.iconst 0, 1) := by decide +kernel
theorem dL_judged_155 : decode cL_judged 155 = .ok (.istore 8, 2) := by decide +kernel
theorem dL_judged_157 : decode cL_judged 157 = .ok (.iload 8, 2) := by decide +kernel
theorem dL_judged_159 : decode cL_judged 159 = .ok (.ifCond .ne 8, 3) := by decide +kernel
theorem dL_judged_162 : decode cL_judged 162 = .ok (.fload 6, 2) := by decide +kernel
theorem dL_judged_164 : decode cL_judged 164 = .ok (.goto 5, 3) := by decide +kernel
theorem dL_judged_167 : decode cL_judged 167 = .ok (.fload 7, 2) := by decide +kernel
theorem dL_judged_169 : decode cL_judged 169 = .ok (.fstore 9, 2) := by decide +kernel
theorem dL_judged_171 : decode cL_judged 171 = .ok (.fload 6, 2) := by decide +kernel
theorem dL_judged_173 : decode cL_judged 173 = .ok (.fload 7, 2) := by decide +kernel
theorem dL_judged_175 : decode cL_judged 175 = .ok (.fcmp .g, 1) := by decide +kernel
theorem dL_judged_176 : decode cL_judged 176 = .ok (.ifCond .ge 11, 3) := by decide +kernel
theorem dL_judged_179 : decode cL_judged 179 = .ok (.fload 7, 2) := by decide +kernel
theorem dL_judged_181 : decode cL_judged 181 = .ok (.fload 6, 2) := by decide +kernel
theorem dL_judged_183 : decode cL_judged 183 = .ok (.fsub, 1) := by decide +kernel
theorem dL_judged_184 : decode cL_judged 184 = .ok (.goto 8, 3) := by decide +kernel
theorem dL_judged_187 : decode cL_judged 187 = .ok (.fload 6, 2) := by decide +kernel
theorem dL_judged_189 : decode cL_judged 189 = .ok (.fload 7, 2) := by decide +kernel
theorem dL_judged_191 : decode cL_judged 191 = .ok (.fsub, 1) := by decide +kernel
theorem dL_judged_192 : decode cL_judged 192 = .ok (.fstore 10, 2) := by decide +kernel
theorem dL_judged_194 : decode cL_judged 194 = .ok (.iload 5, 2) := by decide +kernel
theorem dL_judged_196 : decode cL_judged 196 = .ok (.ifCond .eq 20, 3) := by decide +kernel
theorem dL_judged_199 : decode cL_judged 199 = .ok (.fload 9, 2) := by decide +kernel
theorem dL_judged_201 : decode cL_judged 201 = .ok (.ldc 43, 2) := by decide +kernel
theorem dL_judged_203 : decode cL_judged 203 = .ok (.fcmp .g, 1) := by decide +kernel
theorem dL_judged_204 : decode cL_judged 204 = .ok (.ifCond .gt 8, 3) := by decide +kernel
theorem dL_judged_207 : decode cL_judged 207 = .ok (.iload 8, 2) := by decide +kernel
theorem dL_judged_209 : decode cL_judged 209 = .ok (.goto 36, 3) := by decide +kernel
theorem dL_judged_212 : decode cL_judged 212 = .ok (.iconst 2, 1) := by decide +kernel
theorem dL_judged_213 : decode cL_judged 213 = .ok (.goto 32, 3) := by decide +kernel
theorem dL_judged_216 : decode cL_judged 216 = .ok (.fload 10, 2) := by decide +kernel
theorem dL_judged_218 : decode cL_judged 218 = .ok (.ldc 44, 2) := by decide +kernel
theorem dL_judged_220 : decode cL_judged 220 = .ok (.fcmp .g, 1) := by decide +kernel
theorem dL_judged_221 : decode cL_judged 221 = .ok (.ifCond .ge 22, 3) := by decide +kernel
theorem dL_judged_224 : decode cL_judged 224 = .ok (.aload_n 0, 1) := by decide +kernel
theorem dL_judged_225 : decode cL_judged 225 = .ok (.bipush 10, 2) := by decide +kernel
theorem dL_judged_227 : decode cL_judged 227 = .ok (.invokevirtual 9, 3) := by decide +kernel
theorem dL_judged_230 : decode cL_judged 230 = .ok (.bipush 20, 2) := by decide +kernel
theorem dL_judged_232 : decode cL_judged 232 = .ok (.if_icmp .ne 7, 3) := by decide +kernel
theorem dL_judged_235 : decode cL_judged 235 = .ok (.iconst 2, 1) := by decide +kernel
theorem dL_judged_236 : decode cL_judged 236 = .ok (.goto 9, 3) := by decide +kernel
theorem dL_judged_239 : decode cL_judged 239 = .ok (.iconst 3, 1) := by decide +kernel
theorem dL_judged_240 : decode cL_judged 240 = .ok (.goto 5, 3) := by decide +kernel
theorem dL_judged_243 : decode cL_judged 243 = .ok (.iload 8, 2) := by decide +kernel
theorem dL_judged_245 : decode cL_judged 245 = .ok (.istore 11, 2) := by decide +kernel
theorem dL_judged_247 : decode cL_judged 247 = .ok (.aload_n 0, 1) := by decide +kernel
theorem dL_judged_248 : decode cL_judged 248 = .ok (.iload_n 1, 1) := by decide +kernel
theorem dL_judged_249 : decode cL_judged 249 = .ok (.invokevirtual 36, 3) := by decide +kernel
theorem dL_judged_252 : decode cL_judged 252 = .ok (.iload 11, 2) := by decide +kernel
theorem dL_judged_254 : decode cL_judged 254 = .ok (.if_icmp .ne 7, 3) := by decide +kernel
theorem dL_judged_257 : decode cL_judged 257 = .ok (.iconst 1, 1) := by decide +kernel
theorem dL_judged_258 : decode cL_judged 258 = .ok (.goto 4, 3) := by decide +kernel
theorem dL_judged_261 : decode cL_judged 261 = .ok (.iconst 0, 1) := by decide +kernel
theorem dL_judged_262 : decode cL_judged 262 = .ok (.ireturn, 1) := by decide +kernel
theorem dL_keyboard_0 : decode cL_keyboard 0 = .ok (.iconst 0, 1) := by decide +kernel
theorem dL_keyboard_1 : decode cL_keyboard 1 = .ok (.istore_n 1, 1) := by decide +kernel
theorem dL_keyboard_2 : decode cL_keyboard 2 = .ok (.iconst 0, 1) := by decide +kernel
theorem dL_keyboard_3 : decode cL_keyboard 3 = .ok (.istore_n 2, 1) := by decide +kernel
theorem dL_keyboard_4 : decode cL_keyboard 4 = .ok (.iconst 0, 1) := by decide +kernel
theorem dL_keyboard_5 : decode cL_keyboard 5 = .ok (.istore_n 3, 1) := by decide +kernel
theorem dL_keyboard_6 : decode cL_keyboard 6 = .ok (.iconst 0, 1) := by decide +kernel
theorem dL_keyboard_7 : decode cL_keyboard 7 = .ok (.istore 4, 2) := by decide +kernel
theorem dL_keyboard_9 : decode cL_keyboard 9 = .ok (.iconst 0, 1) := by decide +kernel
theorem dL_keyboard_10 : decode cL_keyboard 10 = .ok (.istore 5, 2) := by decide +kernel
theorem dL_keyboard_12 : decode cL_keyboard 12 = .ok (.iload 5, 2) := by decide +kernel
theorem dL_keyboard_14 : decode cL_keyboard 14 = .ok (.aload_n 0, 1) := by decide +kernel
theorem dL_keyboard_15 : decode cL_keyboard 15 = .ok (.invokestatic 15, 3) := by decide +kernel
theorem dL_keyboard_18 : decode cL_keyboard 18 = .ok (.if_icmp .ge 180, 3) := by decide +kernel
theorem dL_keyboard_21 : decode cL_keyboard 21 = .ok (.iload_n 1, 1) := by decide +kernel
theorem dL_keyboard_22 : decode cL_keyboard 22 = .ok (.aload_n 0, 1) := by decide +kernel
theorem dL_keyboard_23 : decode cL_keyboard 23 = .ok (.iload 5, 2) := by decide +kernel
theorem dL_keyboard_25 : decode cL_keyboard 25 = .ok (.iconst 0, 1) := by decide +kernel
theorem dL_keyboard_26 : decode cL_keyboard 26 = .ok (.invokevirtual 21, 3) := by decide +kernel
theorem dL_keyboard_29 : decode cL_keyboard 29 = .ok (.ifCond .lt 7, 3) := by decide +kernel
theorem dL_keyboard_32 : decode cL_keyboard 32 = .ok (.iconst 1, 1) := by decide +kernel
theorem dL_keyboard_33 : decode cL_keyboard 33 = .ok (.goto 4, 3) := by decide +kernel
theorem dL_keyboard_36 : decode cL_keyboard 36 = .ok (.iconst 0, 1) := by decide +kernel
theorem dL_keyboard_37 : decode cL_keyboard 37 = .ok (.iadd, 1) := by decide +kernel
theorem dL_keyboard_38 : decode cL_keyboard 38 = .ok (.istore_n 1, 1) := by decide +kernel
theorem dL_keyboard_39 : decode cL_keyboard 39 = .ok (.iload 4, 2) := by decide +kernel
theorem dL_keyboard_41 : decode cL_keyboard 41 = .ok (.aload_n 0, 1) := by decide +kernel
theorem dL_keyboard_42 : decode cL_keyboard 42 = .ok (.iload 5, 2) := by decide +kernel
theorem dL_keyboard_44 : decode cL_keyboard 44 = .ok (.iconst 0, 1) := by decide +kernel
theorem dL_keyboard_45 : decode cL_keyboard 45 = .ok (.invokevirtual 21, 3) := by decide +kernel
theorem dL_keyboard_48 : decode cL_keyboard 48 = .ok (.ifCond .ne 7, 3) := by decide +kernel
theorem dL_keyboard_51 : decode cL_keyboard 51 = .ok (.iconst 1, 1) := by decide +kernel
theorem dL_keyboard_52 : decode cL_keyboard 52 = .ok (.goto 4, 3) := by decide +kernel
theorem dL_keyboard_55 : decode cL_keyboard 55 = .ok (.iconst 0, 1) := by decide +kernel
theorem dL_keyboard_56 : decode cL_keyboard 56 = .ok (.iadd, 1) := by decide +kernel
theorem dL_keyboard_57 : decode cL_keyboard 57 = .ok (.istore 4, 2) := by decide +kernel
theorem dL_keyboard_59 : decode cL_keyboard 59 = .ok (.iload_n 2, 1) := by decide +kernel
theorem dL_keyboard_60 : decode cL_keyboard 60 = .ok (.aload_n 0, 1) := by decide +kernel
theorem dL_keyboard_61 : decode cL_keyboard 61 = .ok (.iload 5, 2) := by decide +kernel
theorem dL_keyboard_63 : decode cL_keyboard 63 = .ok (.iconst 1, 1) := by decide +kernel
theorem dL_keyboard_64 : decode cL_keyboard 64 = .ok (.invokevirtual 21, 3) := by decide +kernel
theorem dL_keyboard_67 : decode cL_keyboard 67 = .ok (.iadd, 1) := by decide +kernel
theorem dL_keyboard_68 : decode cL_keyboard 68 = .ok (.istore_n 2, 1) := by decide +kernel
theorem dL_keyboard_69 : decode cL_keyboard 69 = .ok (.iload_n 3, 1) := by decide +kernel
theorem dL_keyboard_70 : decode cL_keyboard 70 = .ok (.aload_n 0, 1) := by decide +kernel
theorem dL_keyboard_71 : decode cL_keyboard 71 = .ok (.iload 5, 2) := by decide +kernel
theorem dL_keyboard_73 : decode cL_keyboard 73 = .ok (.iconst 3, 1) := by decide +kernel
theorem dL_keyboard_74 : decode cL_keyboard 74 = .ok (.invokevirtual 21, 3) := by decide +kernel
theorem dL_keyboard_77 : decode cL_keyboard 77 = .ok (.iadd, 1) := by decide +kernel
theorem dL_keyboard_78 : decode cL_keyboard 78 = .ok (.istore_n 3, 1) := by decide +kernel
theorem dL_keyboard_79 : decode cL_keyboard 79 = .ok (.aload_n 0, 1) := by decide +kernel
theorem dL_keyboard_80 : decode cL_keyboard 80 = .ok (.iload 5, 2) := by decide +kernel
theorem dL_keyboard_82 : decode cL_keyboard 82 = .ok (.iconst 5, 1) := by decide +kernel
theorem dL_keyboard_83 : decode cL_keyboard 83 = .ok (.invokevirtual 21, 3) := by decide +kernel
theorem dL_keyboard_86 : decode cL_keyboard 86 = .ok (.ifCond .lt 7, 3) := by decide +kernel
theorem dL_keyboard_89 : decode cL_keyboard 89 = .ok (.iconst 1, 1) := by decide +kernel
theorem dL_keyboard_90 : decode cL_keyboard 90 = .ok (.goto 4, 3) := by decide +kernel
theorem dL_keyboard_93 : decode cL_keyboard 93 = .ok (.iconst 0, 1) := by decide +kernel
theorem dL_keyboard_94 : decode cL_keyboard 94 = .ok (.istore 6, 2) := by decide +kernel
theorem dL_keyboard_96 : decode cL_keyboard 96 = .ok (.aload_n 0, 1) := by decide +kernel
theorem dL_keyboard_97 : decode cL_keyboard 97 = .ok (.iload 5, 2) := by decide +kernel
theorem dL_keyboard_99 : decode cL_keyboard 99 = .ok (.bipush 6, 2) := by decide +kernel
theorem dL_keyboard_101 : decode cL_keyboard 101 = .ok (.invokevirtual 21, 3) := by decide +kernel
theorem dL_keyboard_104 : decode cL_keyboard 104 = .ok (.aload_n 0, 1) := by decide +kernel
theorem dL_keyboard_105 : decode cL_keyboard 105 = .ok (.iload 5, 2) := by decide +kernel
theorem dL_keyboard_107 : decode cL_keyboard 107 = .ok (.iconst (-1), 1) := by decide +kernel
theorem dL_keyboard_108 : decode cL_keyboard 108 = .ok (.invokestatic 29, 3) := by decide +kernel
theorem dL_keyboard_111 : decode cL_keyboard 111 = .ok (.ifCond .eq 7, 3) := by decide +kernel
theorem dL_keyboard_114 : decode cL_keyboard 114 = .ok (.iconst 1, 1) := by decide +kernel
theorem dL_keyboard_115 : decode cL_keyboard 115 = .ok (.goto 4, 3) := by decide +kernel
theorem dL_keyboard_118 : decode cL_keyboard 118 = .ok (.iconst 0, 1) := by decide +kernel
theorem dL_keyboard_119 : decode cL_keyboard 119 = .ok (.if_icmp .ne 41, 3) := by decide +kernel
theorem dL_keyboard_122 : decode cL_keyboard 122 = .ok (.iload 6, 2) := by decide +kernel
theorem dL_keyboard_124 : decode cL_keyboard 124 = .ok (.ifCond .eq 32, 3) := by decide +kernel
theorem dL_keyboard_127 : decode cL_keyboard 127 = .ok (.aload_n 0, 1) := by decide +kernel
theorem dL_keyboard_128 : decode cL_keyboard 128 = .ok (.iload 5, 2) := by decide +kernel
theorem dL_keyboard_130 : decode cL_keyboard 130 = .ok (.iconst 4, 1) := by decide +kernel
theorem dL_keyboard_131 : decode cL_keyboard 131 = .ok (.invokevirtual 21, 3) := by decide +kernel
theorem dL_keyboard_134 : decode cL_keyboard 134 = .ok (.bipush 46, 2) := by decide +kernel
theorem dL_keyboard_136 : decode cL_keyboard 136 = .ok (.if_icmp .ne 24, 3) := by decide +kernel
theorem dL_keyboard_139 : decode cL_keyboard 139 = .ok (.aload_n 0, 1) := by decide +kernel
theorem dL_keyboard_140 : decode cL_keyboard 140 = .ok (.aload_n 0, 1) := by decide +kernel
theorem dL_keyboard_141 : decode cL_keyboard 141 = .ok (.iload 5, 2) := by decide +kernel
theorem dL_keyboard_143 : decode cL_keyboard 143 = .ok (.iconst 5, 1) := by decide +kernel
theorem dL_keyboard_144 : decode cL_keyboard 144 = .ok (.invokevirtual 21, 3) := by decide +kernel
theorem dL_keyboard_147 : decode cL_keyboard 147 = .ok (.iconst 1, 1) := by decide +kernel
theorem dL_keyboard_148 : decode cL_keyboard 148 = .ok (.invokevirtual 45, 3) := by decide +kernel
theorem dL_keyboard_151 : decode cL_keyboard 151 = .ok (.iload 5, 2) := by decide +kernel
theorem dL_keyboard_153 : decode cL_keyboard 153 = .ok (.if_icmp .ne 7, 3) := by decide +kernel
theorem dL_keyboard_156 : decode cL_keyboard 156 = .ok (.iconst 1, 1) := by decide +kernel
theorem dL_keyboard_157 : decode cL_keyboard 157 = .ok (.goto 4, 3) := by decide +kernel
theorem dL_keyboard_160 : decode cL_keyboard 160 = .ok (.iconst 0, 1) := by decide +kernel
theorem dL_keyboard_161 : decode cL_keyboard 161 = .ok (.istore 7, 2) := by decide +kernel
theorem dL_keyboard_163 : decode cL_keyboard 163 = .ok (.iload 7, 2) := by decide +kernel
theorem dL_keyboard_165 : decode cL_keyboard 165 = .ok (.ifCond .eq 25, 3) := by decide +kernel
theorem dL_keyboard_168 : decode cL_keyboard 168 = .ok (.aload_n 0, 1) := by decide +kernel
theorem dL_keyboard_169 : decode cL_keyboard 169 = .ok (.iload 5, 2) := by decide +kernel
theorem dL_keyboard_171 : decode cL_keyboard 171 = .ok (.invokestatic 48, 3) := by decide +kernel
theorem dL_keyboard_174 : decode cL_keyboard 174 = .ok (.ifCond .eq 16, 3) := by decide +kernel
theorem dL_keyboard_177 : decode cL_keyboard 177 = .ok (.aload_n 0, 1) := by decide +kernel
theorem dL_keyboard_178 : decode cL_keyboard 178 = .ok (.iload 5, 2) := by decide +kernel
theorem dL_keyboard_180 : decode cL_keyboard 180 = .ok (.bipush 7, 2) := by decide +kernel
theorem dL_keyboard_182 : decode cL_keyboard 182 = .ok (.invokevirtual 21, 3) := by decide +kernel
theorem dL_keyboard_185 : decode cL_keyboard 185 = .ok (.bipush (-2), 2) := by decide +kernel
theorem dL_keyboard_187 : decode cL_keyboard 187 = .ok (.if_icmp .eq 5, 3) := by decide +kernel
theorem dL_keyboard_190 : decode cL_keyboard 190 = .ok (.iconst 0, 1) := by decide +kernel
theorem dL_keyboard_191 : decode cL_keyboard 191 = .ok (.ireturn, 1) := by decide +kernel
theorem dL_keyboard_192 : decode cL_keyboard 192 = .ok (.iinc 5 1, 3) := by decide +kernel
theorem dL_keyboard_195 : decode cL_keyboard 195 = .ok (.goto (-183), 3) := by decide +kernel
theorem dL_keyboard_198 : decode cL_keyboard 198 = .ok (.aload_n 0, 1) := by decide +kernel
theorem dL_keyboard_199 : decode cL_keyboard 199 = .ok (.iconst 0, 1) := by decide +kernel
theorem dL_keyboard_200 : decode cL_keyboard 200 = .ok (.iconst 0, 1) := by decide +kernel
theorem dL_keyboard_201 : decode cL_keyboard 201 = .ok (.invokevirtual 45, 3) := by decide +kernel
theorem dL_keyboard_204 : decode cL_keyboard 204 = .ok (.iload 4, 2) := by decide +kernel
theorem dL_keyboard_206 : decode cL_keyboard 206 = .ok (.if_icmp .ne 36, 3) := by decide +kernel
theorem dL_keyboard_209 : decode cL_keyboard 209 = .ok (.aload_n 0, 1) := by decide +kernel
theorem dL_keyboard_210 : decode cL_keyboard 210 = .ok (.iconst 1, 1) := by decide +kernel
theorem dL_keyboard_211 : decode cL_keyboard 211 = .ok (.iconst 0, 1) := by decide +kernel
theorem dL_keyboard_212 : decode cL_keyboard 212 = .ok (.invokevirtual 45, 3) := by decide +kernel
theorem dL_keyboard_215 : decode cL_keyboard 215 = .ok (.iload_n 1, 1) := by decide +kernel
theorem dL_keyboard_216 : decode cL_keyboard 216 = .ok (.iload 4, 2) := by decide +kernel
theorem dL_keyboard_218 : decode cL_keyboard 218 = .ok (.isub, 1) := by decide +kernel
theorem dL_keyboard_219 : decode cL_keyboard 219 = .ok (.if_icmp .ne 23, 3) := by decide +kernel
theorem dL_keyboard_222 : decode cL_keyboard 222 = .ok (.iload 4, 2) := by decide +kernel
theorem dL_keyboard_224 : decode cL_keyboard 224 = .ok (.bipush 6, 2) := by decide +kernel
theorem dL_keyboard_226 : decode cL_keyboard 226 = .ok (.if_icmp .ge 16, 3) := by decide +kernel
theorem dL_keyboard_229 : decode cL_keyboard 229 = .ok (.iload_n 1, 1) := by decide +kernel
theorem dL_keyboard_230 : decode cL_keyboard 230 = .ok (.iload 4, 2) := by decide +kernel
theorem dL_keyboard_232 : decode cL_keyboard 232 = .ok (.isub, 1) := by decide +kernel
theorem dL_keyboard_233 : decode cL_keyboard 233 = .ok (.bipush 6, 2) := by decide +kernel
theorem dL_keyboard_235 : decode cL_keyboard 235 = .ok (.if_icmp .ge 7, 3) := by decide +kernel
theorem dL_keyboard_238 : decode cL_keyboard 238 = .ok (.iconst 1, 1) := by decide +kernel
theorem dL_keyboard_239 : decode cL_keyboard 239 = .ok (.goto 4, 3) := by decide +kernel
theorem dL_keyboard_242 : decode cL_keyboard 242 = .ok (.iconst 0, 1) := by decide +kernel
theorem dL_keyboard_243 : decode cL_keyboard 243 = .ok (.istore 5, 2) := by decide +kernel
theorem dL_keyboard_245 : decode cL_keyboard 245 = .ok (.iload 5, 2) := by decide +kernel
theorem dL_keyboard_247 : decode cL_keyboard 247 = .ok (.ifCond .eq 67, 3) := by decide +kernel
theorem dL_keyboard_250 : decode cL_keyboard 250 = .ok (.aload_n 0, 1) := by decide +kernel
theorem dL_keyboard_251 : decode cL_keyboard 251 = .ok (.iconst 3, 1) := by decide +kernel
theorem dL_keyboard_252 : decode cL_keyboard 252 = .ok (.invokevirtual 9, 3) := by decide +kernel
theorem dL_keyboard_255 : decode cL_keyboard 255 = .ok (.iload_n 1, 1) := by decide +kernel
theorem dL_keyboard_256 : decode cL_keyboard 256 = .ok (.if_icmp .ne 58, 3) := by decide +kernel
theorem dL_keyboard_259 : decode cL_keyboard 259 = .ok (.aload_n 0, 1) := by decide +kernel
theorem dL_keyboard_260 : decode cL_keyboard 260 = .ok (.iconst 4, 1) := by decide +kernel
theorem dL_keyboard_261 : decode cL_keyboard 261 = .ok (.invokevirtual 9, 3) := by decide +kernel
theorem dL_keyboard_264 : decode cL_keyboard 264 = .ok (.iload_n 2, 1) := by decide +kernel
theorem dL_keyboard_265 : decode cL_keyboard 265 = .ok (.if_icmp .ne 49, 3) := by decide +kernel
theorem dL_keyboard_268 : decode cL_keyboard 268 = .ok (.aload_n 0, 1) := by decide +kernel
theorem dL_keyboard_269 : decode cL_keyboard 269 = .ok (.iconst 5, 1) := by decide +kernel
theorem dL_keyboard_270 : decode cL_keyboard 270 = .ok (.invokevirtual 9, 3) := by decide +kernel
theorem dL_keyboard_273 : decode cL_keyboard 273 = .ok (.iload_n 3, 1) := by decide +kernel
theorem dL_keyboard_274 : decode cL_keyboard 274 = .ok (.if_icmp .ne 40, 3) := by decide +kernel
theorem dL_keyboard_277 : decode cL_keyboard 277 = .ok (.aload_n 0, 1) := by decide +kernel
theorem dL_keyboard_278 : decode cL_keyboard 278 = .ok (.bipush 13, 2) := by decide +kernel
theorem dL_keyboard_280 : decode cL_keyboard 280 = .ok (.invokevirtual 9, 3) := by decide +kernel
theorem dL_keyboard_283 : decode cL_keyboard 283 = .ok (.aload_n 0, 1) := by decide +kernel
theorem dL_keyboard_284 : decode cL_keyboard 284 = .ok (.iconst 0, 1) := by decide +kernel
theorem dL_keyboard_285 : decode cL_keyboard 285 = .ok (.invokevirtual 9, 3) := by decide +kernel
theorem dL_keyboard_288 : decode cL_keyboard 288 = .ok (.aload_n 0, 1) := by decide +kernel
theorem dL_keyboard_289 : decode cL_keyboard 289 = .ok (.iconst 1, 1) := by decide +kernel
theorem dL_keyboard_290 : decode cL_keyboard 290 = .ok (.invokevirtual 9, 3) := by decide +kernel
theorem dL_keyboard_293 : decode cL_keyboard 293 = .ok (.irem, 1) := by decide +kernel
theorem dL_keyboard_294 : decode cL_keyboard 294 = .ok (.if_icmp .ne 20, 3) := by decide +kernel
theorem dL_keyboard_297 : decode cL_keyboard 297 = .ok (.aload_n 0, 1) := by decide +kernel
theorem dL_keyboard_298 : decode cL_keyboard 298 = .ok (.aload_n 0, 1) := by decide +kernel
theorem dL_keyboard_299 : decode cL_keyboard 299 = .ok (.invokestatic 15, 3) := by decide +kernel
theorem dL_keyboard_302 : decode cL_keyboard 302 = .ok (.iconst 0, 1) := by decide +kernel
theorem dL_keyboard_303 : decode cL_keyboard 303 = .ok (.invokevirtual 21, 3) := by decide +kernel
theorem dL_keyboard_306 : decode cL_keyboard 306 = .ok (.iconst (-1), 1) := by decide +kernel
theorem dL_keyboard_307 : decode cL_keyboard 307 = .ok (.if_icmp .ne 7, 3) := by decide +kernel
theorem dL_keyboard_310 : decode cL_keyboard 310 = .ok (.iconst 1, 1) := by decide +kernel
theorem dL_keyboard_311 : decode cL_keyboard 311 = .ok (.goto 4, 3) := by decide +kernel
theorem dL_keyboard_314 : decode cL_keyboard 314 = .ok (.iconst 0, 1) := by decide +kernel
theorem dL_keyboard_315 : decode cL_keyboard 315 = .ok (.ireturn, 1) := by decide +kernel
theorem dL_typists_0 : decode cL_typists 0 = .ok (.iconst 0, 1) := by decide +kernel
theorem dL_typists_1 : decode cL_typists 1 = .ok (.istore_n 1, 1) := by decide +kernel
theorem dL_typists_2 : decode cL_typists 2 = .ok (.iconst 0, 1) := by decide +kernel
theorem dL_typists_3 : decode cL_typists 3 = .ok (.istore_n 2, 1) := by decide +kernel
theorem dL_typists_4 : decode cL_typists 4 = .ok (.iconst 0, 1) := by decide +kernel
theorem dL_typists_5 : decode cL_typists 5 = .ok (.istore_n 3, 1) := by decide +kernel
theorem dL_typists_6 : decode cL_typists 6 = .ok (.iload_n 3, 1) := by decide +kernel
theorem dL_typists_7 : decode cL_typists 7 = .ok (.iconst 2, 1) := by decide +kernel
theorem dL_typists_8 : decode cL_typists 8 = .ok (.if_icmp .ge 293, 3) := by decide +kernel
theorem dL_typists_11 : decode cL_typists 11 = .ok (.aload_n 0, 1) := by decide +kernel
theorem dL_typists_12 : decode cL_typists 12 = .ok (.iload_n 3, 1) := by decide +kernel
theorem dL_typists_13 : decode cL_typists 13 = .ok (.iconst 1, 1) := by decide +kernel
theorem dL_typists_14 : decode cL_typists 14 = .ok (.invokevirtual 45, 3) := by decide +kernel
theorem dL_typists_17 : decode cL_typists 17 = .ok (.istore 4, 2) := by decide +kernel
theorem dL_typists_19 : decode cL_typists 19 = .ok (.iload 4, 2) := by decide +kernel
theorem dL_typists_21 : decode cL_typists 21 = .ok (.ifCond .lt 28, 3) := by decide +kernel
theorem dL_typists_24 : decode cL_typists 24 = .ok (.aload_n 0, 1) := by decide +kernel
theorem dL_typists_25 : decode cL_typists 25 = .ok (.iload 4, 2) := by decide +kernel
theorem dL_typists_27 : decode cL_typists 27 = .ok (.iconst 1, 1) := by decide +kernel
theorem dL_typists_28 : decode cL_typists 28 = .ok (.invokevirtual 21, 3) := by decide +kernel
theorem dL_typists_31 : decode cL_typists 31 = .ok (.iconst 1, 1) := by decide +kernel
theorem dL_typists_32 : decode cL_typists 32 = .ok (.if_icmp .ne 17, 3) := by decide +kernel
theorem dL_typists_35 : decode cL_typists 35 = .ok (.aload_n 0, 1) := by decide +kernel
theorem dL_typists_36 : decode cL_typists 36 = .ok (.iload 4, 2) := by decide +kernel
theorem dL_typists_38 : decode cL_typists 38 = .ok (.iconst 3, 1) := by decide +kernel
theorem dL_typists_39 : decode cL_typists 39 = .ok (.invokevirtual 21, 3) := by decide +kernel
theorem dL_typists_42 : decode cL_typists 42 = .ok (.ifCond .ne 7, 3) := by decide +kernel
theorem dL_typists_45 : decode cL_typists 45 = .ok (.iconst 1, 1) := by decide +kernel
theorem dL_typists_46 : decode cL_typists 46 = .ok (.goto 4, 3) := by decide +kernel
theorem dL_typists_49 : decode cL_typists 49 = .ok (.iconst 0, 1) := by decide +kernel
theorem dL_typists_50 : decode cL_typists 50 = .ok (.istore 5, 2) := by decide +kernel
theorem dL_typists_52 : decode cL_typists 52 = .ok (.aload_n 0, 1) := by decide +kernel
theorem dL_typists_53 : decode cL_typists 53 = .ok (.iload_n 3, 1) := by decide +kernel
theorem dL_typists_54 : decode cL_typists 54 = .ok (.bipush 6, 2) := by decide +kernel
theorem dL_typists_56 : decode cL_typists 56 = .ok (.invokevirtual 45, 3) := by decide +kernel
theorem dL_typists_59 : decode cL_typists 59 = .ok (.istore 6, 2) := by decide +kernel
theorem dL_typists_61 : decode cL_typists 61 = .ok (.iload_n 1, 1) := by decide +kernel
theorem dL_typists_62 : decode cL_typists 62 = .ok (.aload_n 0, 1) := by decide +kernel
theorem dL_typists_63 : decode cL_typists 63 = .ok (.iload_n 3, 1) := by decide +kernel
theorem dL_typists_64 : decode cL_typists 64 = .ok (.iconst 4, 1) := by decide +kernel
theorem dL_typists_65 : decode cL_typists 65 = .ok (.invokevirtual 45, 3) := by decide +kernel
theorem dL_typists_68 : decode cL_typists 68 = .ok (.iadd, 1) := by decide +kernel
theorem dL_typists_69 : decode cL_typists 69 = .ok (.istore_n 1, 1) := by decide +kernel
theorem dL_typists_70 : decode cL_typists 70 = .ok (.iload_n 2, 1) := by decide +kernel
theorem dL_typists_71 : decode cL_typists 71 = .ok (.aload_n 0, 1) := by decide +kernel
theorem dL_typists_72 : decode cL_typists 72 = .ok (.iload_n 3, 1) := by decide +kernel
theorem dL_typists_73 : decode cL_typists 73 = .ok (.iconst 5, 1) := by decide +kernel
theorem dL_typists_74 : decode cL_typists 74 = .ok (.invokevirtual 45, 3) := by decide +kernel
theorem dL_typists_77 : decode cL_typists 77 = .ok (.iadd, 1) := by decide +kernel
theorem dL_typists_78 : decode cL_typists 78 = .ok (.istore_n 2, 1) := by decide +kernel
theorem dL_typists_79 : decode cL_typists 79 = .ok (.aload_n 0, 1) := by decide +kernel
theorem dL_typists_80 : decode cL_typists 80 = .ok (.iload_n 3, 1) := by decide +kernel
theorem dL_typists_81 : decode cL_typists 81 = .ok (.iconst 0, 1) := by decide +kernel
theorem dL_typists_82 : decode cL_typists 82 = .ok (.invokevirtual 52, 3) := by decide +kernel
theorem dL_typists_85 : decode cL_typists 85 = .ok (.ldc 43, 2) := by decide +kernel
theorem dL_typists_87 : decode cL_typists 87 = .ok (.fcmp .l, 1) := by decide +kernel
theorem dL_typists_88 : decode cL_typists 88 = .ok (.ifCond .lt 57, 3) := by decide +kernel
theorem dL_typists_91 : decode cL_typists 91 = .ok (.aload_n 0, 1) := by decide +kernel
theorem dL_typists_92 : decode cL_typists 92 = .ok (.iload_n 3, 1) := by decide +kernel
theorem dL_typists_93 : decode cL_typists 93 = .ok (.iconst 1, 1) := by decide +kernel
theorem dL_typists_94 : decode cL_typists 94 = .ok (.invokevirtual 52, 3) := by decide +kernel
theorem dL_typists_97 : decode cL_typists 97 = .ok (.ldc 43, 2) := by decide +kernel
theorem dL_typists_99 : decode cL_typists 99 = .ok (.fcmp .l, 1) := by decide +kernel
theorem dL_typists_100 : decode cL_typists 100 = .ok (.ifCond .lt 45, 3) := by decide +kernel
theorem dL_typists_103 : decode cL_typists 103 = .ok (.aload_n 0, 1) := by decide +kernel
theorem dL_typists_104 : decode cL_typists 104 = .ok (.iload_n 3, 1) := by decide +kernel
theorem dL_typists_105 : decode cL_typists 105 = .ok (.iconst 0, 1) := by decide +kernel
theorem dL_typists_106 : decode cL_typists 106 = .ok (.invokevirtual 56, 3) := by decide +kernel
theorem dL_typists_109 : decode cL_typists 109 = .ok (.aload_n 0, 1) := by decide +kernel
theorem dL_typists_110 : decode cL_typists 110 = .ok (.iload_n 3, 1) := by decide +kernel
theorem dL_typists_111 : decode cL_typists 111 = .ok (.iconst 0, 1) := by decide +kernel
theorem dL_typists_112 : decode cL_typists 112 = .ok (.invokevirtual 52, 3) := by decide +kernel
theorem dL_typists_115 : decode cL_typists 115 = .ok (.ldc 59, 2) := by decide +kernel
theorem dL_typists_117 : decode cL_typists 117 = .ok (.fmul, 1) := by decide +kernel
theorem dL_typists_118 : decode cL_typists 118 = .ok (.f2i, 1) := by decide +kernel
theorem dL_typists_119 : decode cL_typists 119 = .ok (.if_icmp .ne 26, 3) := by decide +kernel
theorem dL_typists_122 : decode cL_typists 122 = .ok (.aload_n 0, 1) := by decide +kernel
theorem dL_typists_123 : decode cL_typists 123 = .ok (.iload_n 3, 1) := by decide +kernel
theorem dL_typists_124 : decode cL_typists 124 = .ok (.iconst 1, 1) := by decide +kernel
theorem dL_typists_125 : decode cL_typists 125 = .ok (.invokevirtual 56, 3) := by decide +kernel
theorem dL_typists_128 : decode cL_typists 128 = .ok (.aload_n 0, 1) := by decide +kernel
theorem dL_typists_129 : decode cL_typists 129 = .ok (.iload_n 3, 1) := by decide +kernel
theorem dL_typists_130 : decode cL_typists 130 = .ok (.iconst 1, 1) := by decide +kernel
theorem dL_typists_131 : decode cL_typists 131 = .ok (.invokevirtual 52, 3) := by decide +kernel
theorem dL_typists_134 : decode cL_typists 134 = .ok (.ldc 59, 2) := by decide +kernel
theorem dL_typists_136 : decode cL_typists 136 = .ok (.fmul, 1) := by decide +kernel
theorem dL_typists_137 : decode cL_typists 137 = .ok (.f2i, 1) := by decide +kernel
theorem dL_typists_138 : decode cL_typists 138 = .ok (.if_icmp .ne 7, 3) := by decide +kernel
theorem dL_typists_141 : decode cL_typists 141 = .ok (.iconst 1, 1) := by decide +kernel
theorem dL_typists_142 : decode cL_typists 142 = .ok (.goto 4, 3) := by decide +kernel
theorem dL_typists_145 : decode cL_typists 145 = .ok (.iconst 0, 1) := by decide +kernel
theorem dL_typists_146 : decode cL_typists 146 = .ok (.istore 7, 2) := by decide +kernel
theorem dL_typists_148 : decode cL_typists 148 = .ok (.aload_n 0, 1) := by decide +kernel
theorem dL_typists_149 : decode cL_typists 149 = .ok (.iload_n 3, 1) := by decide +kernel
theorem dL_typists_150 : decode cL_typists 150 = .ok (.iconst 2, 1) := by decide +kernel
theorem dL_typists_151 : decode cL_typists 151 = .ok (.invokevirtual 45, 3) := by decide +kernel
theorem dL_typists_154 : decode cL_typists 154 = .ok (.iload 5, 2) := by decide +kernel
theorem dL_typists_156 : decode cL_typists 156 = .ok (.if_icmp .ne 46, 3) := by decide +kernel
theorem dL_typists_159 : decode cL_typists 159 = .ok (.iload 6, 2) := by decide +kernel
theorem dL_typists_161 : decode cL_typists 161 = .ok (.aload_n 0, 1) := by decide +kernel
theorem dL_typists_162 : decode cL_typists 162 = .ok (.iload_n 3, 1) := by decide +kernel
theorem dL_typists_163 : decode cL_typists 163 = .ok (.iconst 4, 1) := by decide +kernel
theorem dL_typists_164 : decode cL_typists 164 = .ok (.invokevirtual 45, 3) := by decide +kernel
theorem dL_typists_167 : decode cL_typists 167 = .ok (.if_icmp .gt 35, 3) := by decide +kernel
theorem dL_typists_170 : decode cL_typists 170 = .ok (.aload_n 0, 1) := by decide +kernel
theorem dL_typists_171 : decode cL_typists 171 = .ok (.iload_n 3, 1) := by decide +kernel
theorem dL_typists_172 : decode cL_typists 172 = .ok (.iconst 5, 1) := by decide +kernel
theorem dL_typists_173 : decode cL_typists 173 = .ok (.invokevirtual 45, 3) := by decide +kernel
theorem dL_typists_176 : decode cL_typists 176 = .ok (.aload_n 0, 1) := by decide +kernel
theorem dL_typists_177 : decode cL_typists 177 = .ok (.iload_n 3, 1) := by decide +kernel
theorem dL_typists_178 : decode cL_typists 178 = .ok (.iconst 4, 1) := by decide +kernel
theorem dL_typists_179 : decode cL_typists 179 = .ok (.invokevirtual 45, 3) := by decide +kernel
theorem dL_typists_182 : decode cL_typists 182 = .ok (.if_icmp .gt 20, 3) := by decide +kernel
theorem dL_typists_185 : decode cL_typists 185 = .ok (.iload 7, 2) := by decide +kernel
theorem dL_typists_187 : decode cL_typists 187 = .ok (.ifCond .eq 15, 3) := by decide +kernel
theorem dL_typists_190 : decode cL_typists 190 = .ok (.aload_n 0, 1) := by decide +kernel
theorem dL_typists_191 : decode cL_typists 191 = .ok (.iload_n 3, 1) := by decide +kernel
theorem dL_typists_192 : decode cL_typists 192 = .ok (.bipush 8, 2) := by decide +kernel
theorem dL_typists_194 : decode cL_typists 194 = .ok (.invokevirtual 45, 3) := by decide +kernel
theorem dL_typists_197 : decode cL_typists 197 = .ok (.bipush (-2), 2) := by decide +kernel
theorem dL_typists_199 : decode cL_typists 199 = .ok (.if_icmp .eq 5, 3) := by decide +kernel
theorem dL_typists_202 : decode cL_typists 202 = .ok (.iconst 0, 1) := by decide +kernel
theorem dL_typists_203 : decode cL_typists 203 = .ok (.ireturn, 1) := by decide +kernel
theorem dL_typists_204 : decode cL_typists 204 = .ok (.iconst 0, 1) := by decide +kernel
theorem dL_typists_205 : decode cL_typists 205 = .ok (.istore 8, 2) := by decide +kernel
theorem dL_typists_207 : decode cL_typists 207 = .ok (.iload 8, 2) := by decide +kernel
theorem dL_typists_209 : decode cL_typists 209 = .ok (.bipush 26, 2) := by decide +kernel
theorem dL_typists_211 : decode cL_typists 211 = .ok (.if_icmp .ge 84, 3) := by decide +kernel
theorem dL_typists_214 : decode cL_typists 214 = .ok (.aload_n 0, 1) := by decide +kernel
theorem dL_typists_215 : decode cL_typists 215 = .ok (.iload_n 3, 1) := by decide +kernel
theorem dL_typists_216 : decode cL_typists 216 = .ok (.iload 8, 2) := by decide +kernel
theorem dL_typists_218 : decode cL_typists 218 = .ok (.invokevirtual 60, 3) := by decide +kernel
theorem dL_typists_221 : decode cL_typists 221 = .ok (.istore 9, 2) := by decide +kernel
theorem dL_typists_223 : decode cL_typists 223 = .ok (.iload 9, 2) := by decide +kernel
theorem dL_typists_225 : decode cL_typists 225 = .ok (.bipush 97, 2) := by decide +kernel
theorem dL_typists_227 : decode cL_typists 227 = .ok (.if_icmp .lt 10, 3) := by decide +kernel
theorem dL_typists_230 : decode cL_typists 230 = .ok (.iload 9, 2) := by decide +kernel
theorem dL_typists_232 : decode cL_typists 232 = .ok (.bipush 122, 2) := by decide +kernel
theorem dL_typists_234 : decode cL_typists 234 = .ok (.if_icmp .le 17, 3) := by decide +kernel
theorem dL_typists_237 : decode cL_typists 237 = .ok (.iload 9, 2) := by decide +kernel
theorem dL_typists_239 : decode cL_typists 239 = .ok (.bipush 65, 2) := by decide +kernel
theorem dL_typists_241 : decode cL_typists 241 = .ok (.if_icmp .lt 14, 3) := by decide +kernel
theorem dL_typists_244 : decode cL_typists 244 = .ok (.iload 9, 2) := by decide +kernel
theorem dL_typists_246 : decode cL_typists 246 = .ok (.bipush 90, 2) := by decide +kernel
theorem dL_typists_248 : decode cL_typists 248 = .ok (.if_icmp .gt 7, 3) := by decide +kernel
theorem dL_typists_251 : decode cL_typists 251 = .ok (.iconst 1, 1) := by decide +kernel
theorem dL_typists_252 : decode cL_typists 252 = .ok (.goto 4, 3) := by decide +kernel
theorem dL_typists_255 : decode cL_typists 255 = .ok (.iconst 0, 1) := by decide +kernel
theorem dL_typists_256 : decode cL_typists 256 = .ok (.istore 10, 2) := by decide +kernel
theorem dL_typists_258 : decode cL_typists 258 = .ok (.iload 8, 2) := by decide +kernel
theorem dL_typists_260 : decode cL_typists 260 = .ok (.iload 6, 2) := by decide +kernel
theorem dL_typists_262 : decode cL_typists 262 = .ok (.if_icmp .ge 18, 3) := by decide +kernel
theorem dL_typists_265 : decode cL_typists 265 = .ok (.iload 8, 2) := by decide +kernel
theorem dL_typists_267 : decode cL_typists 267 = .ok (.bipush 24, 2) := by decide +kernel
theorem dL_typists_269 : decode cL_typists 269 = .ok (.if_icmp .ge 11, 3) := by decide +kernel
theorem dL_typists_272 : decode cL_typists 272 = .ok (.iload 10, 2) := by decide +kernel
theorem dL_typists_274 : decode cL_typists 274 = .ok (.ifCond .ne 15, 3) := by decide +kernel
theorem dL_typists_277 : decode cL_typists 277 = .ok (.goto 10, 3) := by decide +kernel
theorem dL_typists_280 : decode cL_typists 280 = .ok (.iload 9, 2) := by decide +kernel
theorem dL_typists_282 : decode cL_typists 282 = .ok (.bipush (-5), 2) := by decide +kernel
theorem dL_typists_284 : decode cL_typists 284 = .ok (.if_icmp .eq 5, 3) := by decide +kernel
theorem dL_typists_287 : decode cL_typists 287 = .ok (.iconst 0, 1) := by decide +kernel
theorem dL_typists_288 : decode cL_typists 288 = .ok (.ireturn, 1) := by decide +kernel
theorem dL_typists_289 : decode cL_typists 289 = .ok (.iinc 8 1, 3) := by decide +kernel
theorem dL_typists_292 : decode cL_typists 292 = .ok (.goto (-85), 3) := by decide +kernel
theorem dL_typists_295 : decode cL_typists 295 = .ok (.iinc 3 1, 3) := by decide +kernel
theorem dL_typists_298 : decode cL_typists 298 = .ok (.goto (-292), 3) := by decide +kernel
theorem dL_typists_301 : decode cL_typists 301 = .ok (.aload_n 0, 1) := by decide +kernel
theorem dL_typists_302 : decode cL_typists 302 = .ok (.bipush 7, 2) := by decide +kernel
theorem dL_typists_304 : decode cL_typists 304 = .ok (.invokevirtual 9, 3) := by decide +kernel
theorem dL_typists_307 : decode cL_typists 307 = .ok (.iload_n 1, 1) := by decide +kernel
theorem dL_typists_308 : decode cL_typists 308 = .ok (.if_icmp .ne 17, 3) := by decide +kernel
theorem dL_typists_311 : decode cL_typists 311 = .ok (.aload_n 0, 1) := by decide +kernel
theorem dL_typists_312 : decode cL_typists 312 = .ok (.bipush 11, 2) := by decide +kernel
theorem dL_typists_314 : decode cL_typists 314 = .ok (.invokevirtual 9, 3) := by decide +kernel
theorem dL_typists_317 : decode cL_typists 317 = .ok (.iload_n 2, 1) := by decide +kernel
theorem dL_typists_318 : decode cL_typists 318 = .ok (.if_icmp .ne 7, 3) := by decide +kernel
theorem dL_typists_321 : decode cL_typists 321 = .ok (.iconst 1, 1) := by decide +kernel
theorem dL_typists_322 : decode cL_typists 322 = .ok (.goto 4, 3) := by decide +kernel
theorem dL_typists_325 : decode cL_typists 325 = .ok (.iconst 0, 1) := by decide +kernel
theorem dL_typists_326 : decode cL_typists 326 = .ok (.ireturn, 1) := by decide +kernel
theorem dL_strokes_0 : decode cL_strokes 0 = .ok (.iconst 0, 1) := by decide +kernel
theorem dL_strokes_1 : decode cL_strokes 1 = .ok (.istore_n 1, 1) := by decide +kernel
theorem dL_strokes_2 : decode cL_strokes 2 = .ok (.iconst 0, 1) := by decide +kernel
theorem dL_strokes_3 : decode cL_strokes 3 = .ok (.istore_n 2, 1) := by decide +kernel
theorem dL_strokes_4 : decode cL_strokes 4 = .ok (.iload_n 2, 1) := by decide +kernel
theorem dL_strokes_5 : decode cL_strokes 5 = .ok (.aload_n 0, 1) := by decide +kernel
theorem dL_strokes_6 : decode cL_strokes 6 = .ok (.bipush 10, 2) := by decide +kernel
theorem dL_strokes_8 : decode cL_strokes 8 = .ok (.invokevirtual 9, 3) := by decide +kernel
theorem dL_strokes_11 : decode cL_strokes 11 = .ok (.if_icmp .ge 71, 3) := by decide +kernel
theorem dL_strokes_14 : decode cL_strokes 14 = .ok (.iload_n 1, 1) := by decide +kernel
theorem dL_strokes_15 : decode cL_strokes 15 = .ok (.aload_n 0, 1) := by decide +kernel
theorem dL_strokes_16 : decode cL_strokes 16 = .ok (.iload_n 2, 1) := by decide +kernel
theorem dL_strokes_17 : decode cL_strokes 17 = .ok (.iconst 3, 1) := by decide +kernel
theorem dL_strokes_18 : decode cL_strokes 18 = .ok (.invokevirtual 63, 3) := by decide +kernel
theorem dL_strokes_21 : decode cL_strokes 21 = .ok (.bipush (-5), 2) := by decide +kernel
theorem dL_strokes_23 : decode cL_strokes 23 = .ok (.if_icmp .ne 7, 3) := by decide +kernel
theorem dL_strokes_26 : decode cL_strokes 26 = .ok (.iconst 1, 1) := by decide +kernel
theorem dL_strokes_27 : decode cL_strokes 27 = .ok (.goto 4, 3) := by decide +kernel
theorem dL_strokes_30 : decode cL_strokes 30 = .ok (.iconst 0, 1) := by decide +kernel
theorem dL_strokes_31 : decode cL_strokes 31 = .ok (.iadd, 1) := by decide +kernel
theorem dL_strokes_32 : decode cL_strokes 32 = .ok (.istore_n 1, 1) := by decide +kernel
theorem dL_strokes_33 : decode cL_strokes 33 = .ok (.aload_n 0, 1) := by decide +kernel
theorem dL_strokes_34 : decode cL_strokes 34 = .ok (.iload_n 2, 1) := by decide +kernel
theorem dL_strokes_35 : decode cL_strokes 35 = .ok (.iconst 2, 1) := by decide +kernel
theorem dL_strokes_36 : decode cL_strokes 36 = .ok (.invokevirtual 63, 3) := by decide +kernel
theorem dL_strokes_39 : decode cL_strokes 39 = .ok (.ifCond .lt 35, 3) := by decide +kernel
theorem dL_strokes_42 : decode cL_strokes 42 = .ok (.aload_n 0, 1) := by decide +kernel
theorem dL_strokes_43 : decode cL_strokes 43 = .ok (.iload_n 2, 1) := by decide +kernel
theorem dL_strokes_44 : decode cL_strokes 44 = .ok (.iconst 4, 1) := by decide +kernel
theorem dL_strokes_45 : decode cL_strokes 45 = .ok (.invokevirtual 63, 3) := by decide +kernel
theorem dL_strokes_48 : decode cL_strokes 48 = .ok (.bipush (-5), 2) := by decide +kernel
theorem dL_strokes_50 : decode cL_strokes 50 = .ok (.if_icmp .lt 24, 3) := by decide +kernel
theorem dL_strokes_53 : decode cL_strokes 53 = .ok (.aload_n 0, 1) := by decide +kernel
theorem dL_strokes_54 : decode cL_strokes 54 = .ok (.iload_n 2, 1) := by decide +kernel
theorem dL_strokes_55 : decode cL_strokes 55 = .ok (.iconst 4, 1) := by decide +kernel
theorem dL_strokes_56 : decode cL_strokes 56 = .ok (.invokevirtual 63, 3) := by decide +kernel
theorem dL_strokes_59 : decode cL_strokes 59 = .ok (.iconst 1, 1) := by decide +kernel
theorem dL_strokes_60 : decode cL_strokes 60 = .ok (.if_icmp .gt 14, 3) := by decide +kernel
theorem dL_strokes_63 : decode cL_strokes 63 = .ok (.aload_n 0, 1) := by decide +kernel
theorem dL_strokes_64 : decode cL_strokes 64 = .ok (.iload_n 2, 1) := by decide +kernel
theorem dL_strokes_65 : decode cL_strokes 65 = .ok (.iconst 5, 1) := by decide +kernel
theorem dL_strokes_66 : decode cL_strokes 66 = .ok (.invokevirtual 63, 3) := by decide +kernel
theorem dL_strokes_69 : decode cL_strokes 69 = .ok (.bipush (-2), 2) := by decide +kernel
theorem dL_strokes_71 : decode cL_strokes 71 = .ok (.if_icmp .eq 5, 3) := by decide +kernel
theorem dL_strokes_74 : decode cL_strokes 74 = .ok (.iconst 0, 1) := by decide +kernel
theorem dL_strokes_75 : decode cL_strokes 75 = .ok (.ireturn, 1) := by decide +kernel
theorem dL_strokes_76 : decode cL_strokes 76 = .ok (.iinc 2 1, 3) := by decide +kernel
theorem dL_strokes_79 : decode cL_strokes 79 = .ok (.goto (-75), 3) := by decide +kernel
theorem dL_strokes_82 : decode cL_strokes 82 = .ok (.aload_n 0, 1) := by decide +kernel
theorem dL_strokes_83 : decode cL_strokes 83 = .ok (.bipush 6, 2) := by decide +kernel
theorem dL_strokes_85 : decode cL_strokes 85 = .ok (.invokevirtual 9, 3) := by decide +kernel
theorem dL_strokes_88 : decode cL_strokes 88 = .ok (.istore_n 2, 1) := by decide +kernel
theorem dL_strokes_89 : decode cL_strokes 89 = .ok (.iconst 0, 1) := by decide +kernel
theorem dL_strokes_90 : decode cL_strokes 90 = .ok (.istore_n 3, 1) := by decide +kernel
theorem dL_strokes_91 : decode cL_strokes 91 = .ok (.iload_n 3, 1) := by decide +kernel
theorem dL_strokes_92 : decode cL_strokes 92 = .ok (.bipush 18, 2) := by decide +kernel
theorem dL_strokes_94 : decode cL_strokes 94 = .ok (.if_icmp .ge 156, 3) := by decide +kernel
theorem dL_strokes_97 : decode cL_strokes 97 = .ok (.iload_n 3, 1) := by decide +kernel
theorem dL_strokes_98 : decode cL_strokes 98 = .ok (.iload_n 2, 1) := by decide +kernel
theorem dL_strokes_99 : decode cL_strokes 99 = .ok (.if_icmp .ge 13, 3) := by decide +kernel
theorem dL_strokes_102 : decode cL_strokes 102 = .ok (.iload_n 3, 1) := by decide +kernel
theorem dL_strokes_103 : decode cL_strokes 103 = .ok (.bipush 16, 2) := by decide +kernel
theorem dL_strokes_105 : decode cL_strokes 105 = .ok (.if_icmp .ge 7, 3) := by decide +kernel
theorem dL_strokes_108 : decode cL_strokes 108 = .ok (.iconst 1, 1) := by decide +kernel
theorem dL_strokes_109 : decode cL_strokes 109 = .ok (.goto 4, 3) := by decide +kernel
theorem dL_strokes_112 : decode cL_strokes 112 = .ok (.iconst 0, 1) := by decide +kernel
theorem dL_strokes_113 : decode cL_strokes 113 = .ok (.istore 4, 2) := by decide +kernel
theorem dL_strokes_115 : decode cL_strokes 115 = .ok (.aload_n 0, 1) := by decide +kernel
theorem dL_strokes_116 : decode cL_strokes 116 = .ok (.iload_n 3, 1) := by decide +kernel
theorem dL_strokes_117 : decode cL_strokes 117 = .ok (.iconst 3, 1) := by decide +kernel
theorem dL_strokes_118 : decode cL_strokes 118 = .ok (.invokevirtual 66, 3) := by decide +kernel
theorem dL_strokes_121 : decode cL_strokes 121 = .ok (.istore 5, 2) := by decide +kernel
theorem dL_strokes_123 : decode cL_strokes 123 = .ok (.iload 4, 2) := by decide +kernel
theorem dL_strokes_125 : decode cL_strokes 125 = .ok (.ifCond .eq 66, 3) := by decide +kernel
theorem dL_strokes_128 : decode cL_strokes 128 = .ok (.iload 5, 2) := by decide +kernel
theorem dL_strokes_130 : decode cL_strokes 130 = .ok (.ifCond .lt 68, 3) := by decide +kernel
theorem dL_strokes_133 : decode cL_strokes 133 = .ok (.iload 5, 2) := by decide +kernel
theorem dL_strokes_135 : decode cL_strokes 135 = .ok (.iconst 3, 1) := by decide +kernel
theorem dL_strokes_136 : decode cL_strokes 136 = .ok (.if_icmp .gt 62, 3) := by decide +kernel
theorem dL_strokes_139 : decode cL_strokes 139 = .ok (.aload_n 0, 1) := by decide +kernel
theorem dL_strokes_140 : decode cL_strokes 140 = .ok (.iload_n 3, 1) := by decide +kernel
theorem dL_strokes_141 : decode cL_strokes 141 = .ok (.iconst 2, 1) := by decide +kernel
theorem dL_strokes_142 : decode cL_strokes 142 = .ok (.invokevirtual 66, 3) := by decide +kernel
theorem dL_strokes_145 : decode cL_strokes 145 = .ok (.ifCond .lt 53, 3) := by decide +kernel
theorem dL_strokes_148 : decode cL_strokes 148 = .ok (.aload_n 0, 1) := by decide +kernel
theorem dL_strokes_149 : decode cL_strokes 149 = .ok (.iload_n 3, 1) := by decide +kernel
theorem dL_strokes_150 : decode cL_strokes 150 = .ok (.iconst 5, 1) := by decide +kernel
theorem dL_strokes_151 : decode cL_strokes 151 = .ok (.invokevirtual 66, 3) := by decide +kernel
theorem dL_strokes_154 : decode cL_strokes 154 = .ok (.ifCond .lt 44, 3) := by decide +kernel
theorem dL_strokes_157 : decode cL_strokes 157 = .ok (.aload_n 0, 1) := by decide +kernel
theorem dL_strokes_158 : decode cL_strokes 158 = .ok (.iload_n 3, 1) := by decide +kernel
theorem dL_strokes_159 : decode cL_strokes 159 = .ok (.iconst 5, 1) := by decide +kernel
theorem dL_strokes_160 : decode cL_strokes 160 = .ok (.invokevirtual 66, 3) := by decide +kernel
theorem dL_strokes_163 : decode cL_strokes 163 = .ok (.iconst 3, 1) := by decide +kernel
theorem dL_strokes_164 : decode cL_strokes 164 = .ok (.if_icmp .gt 34, 3) := by decide +kernel
theorem dL_strokes_167 : decode cL_strokes 167 = .ok (.aload_n 0, 1) := by decide +kernel
theorem dL_strokes_168 : decode cL_strokes 168 = .ok (.iload_n 3, 1) := by decide +kernel
theorem dL_strokes_169 : decode cL_strokes 169 = .ok (.iconst 1, 1) := by decide +kernel
theorem dL_strokes_170 : decode cL_strokes 170 = .ok (.invokevirtual 66, 3) := by decide +kernel
theorem dL_strokes_173 : decode cL_strokes 173 = .ok (.aload_n 0, 1) := by decide +kernel
theorem dL_strokes_174 : decode cL_strokes 174 = .ok (.iload_n 3, 1) := by decide +kernel
theorem dL_strokes_175 : decode cL_strokes 175 = .ok (.iconst 2, 1) := by decide +kernel
theorem dL_strokes_176 : decode cL_strokes 176 = .ok (.invokevirtual 66, 3) := by decide +kernel
theorem dL_strokes_179 : decode cL_strokes 179 = .ok (.iadd, 1) := by decide +kernel
theorem dL_strokes_180 : decode cL_strokes 180 = .ok (.aload_n 0, 1) := by decide +kernel
theorem dL_strokes_181 : decode cL_strokes 181 = .ok (.iconst 0, 1) := by decide +kernel
theorem dL_strokes_182 : decode cL_strokes 182 = .ok (.invokevirtual 9, 3) := by decide +kernel
theorem dL_strokes_185 : decode cL_strokes 185 = .ok (.if_icmp .lt 15, 3) := by decide +kernel
theorem dL_strokes_188 : decode cL_strokes 188 = .ok (.goto 10, 3) := by decide +kernel
theorem dL_strokes_191 : decode cL_strokes 191 = .ok (.iload 5, 2) := by decide +kernel
theorem dL_strokes_193 : decode cL_strokes 193 = .ok (.bipush (-5), 2) := by decide +kernel
theorem dL_strokes_195 : decode cL_strokes 195 = .ok (.if_icmp .eq 5, 3) := by decide +kernel
theorem dL_strokes_198 : decode cL_strokes 198 = .ok (.iconst 0, 1) := by decide +kernel
theorem dL_strokes_199 : decode cL_strokes 199 = .ok (.ireturn, 1) := by decide +kernel
theorem dL_strokes_200 : decode cL_strokes 200 = .ok (.iload_n 3, 1) := by decide +kernel
theorem dL_strokes_201 : decode cL_strokes 201 = .ok (.ifCond .le 43, 3) := by decide +kernel
theorem dL_strokes_204 : decode cL_strokes 204 = .ok (.iload 4, 2) := by decide +kernel
theorem dL_strokes_206 : decode cL_strokes 206 = .ok (.ifCond .eq 38, 3) := by decide +kernel
theorem dL_strokes_209 : decode cL_strokes 209 = .ok (.aload_n 0, 1) := by decide +kernel
theorem dL_strokes_210 : decode cL_strokes 210 = .ok (.iload_n 3, 1) := by decide +kernel
theorem dL_strokes_211 : decode cL_strokes 211 = .ok (.iconst 1, 1) := by decide +kernel
theorem dL_strokes_212 : decode cL_strokes 212 = .ok (.invokevirtual 66, 3) := by decide +kernel
theorem dL_strokes_215 : decode cL_strokes 215 = .ok (.aload_n 0, 1) := by decide +kernel
theorem dL_strokes_216 : decode cL_strokes 216 = .ok (.iload_n 3, 1) := by decide +kernel
theorem dL_strokes_217 : decode cL_strokes 217 = .ok (.iconst 2, 1) := by decide +kernel
theorem dL_strokes_218 : decode cL_strokes 218 = .ok (.invokevirtual 66, 3) := by decide +kernel
theorem dL_strokes_221 : decode cL_strokes 221 = .ok (.iadd, 1) := by decide +kernel
theorem dL_strokes_222 : decode cL_strokes 222 = .ok (.aload_n 0, 1) := by decide +kernel
theorem dL_strokes_223 : decode cL_strokes 223 = .ok (.iload_n 3, 1) := by decide +kernel
theorem dL_strokes_224 : decode cL_strokes 224 = .ok (.iconst 1, 1) := by decide +kernel
theorem dL_strokes_225 : decode cL_strokes 225 = .ok (.isub, 1) := by decide +kernel
theorem dL_strokes_226 : decode cL_strokes 226 = .ok (.iconst 1, 1) := by decide +kernel
theorem dL_strokes_227 : decode cL_strokes 227 = .ok (.invokevirtual 66, 3) := by decide +kernel
theorem dL_strokes_230 : decode cL_strokes 230 = .ok (.aload_n 0, 1) := by decide +kernel
theorem dL_strokes_231 : decode cL_strokes 231 = .ok (.iload_n 3, 1) := by decide +kernel
theorem dL_strokes_232 : decode cL_strokes 232 = .ok (.iconst 1, 1) := by decide +kernel
theorem dL_strokes_233 : decode cL_strokes 233 = .ok (.isub, 1) := by decide +kernel
theorem dL_strokes_234 : decode cL_strokes 234 = .ok (.iconst 2, 1) := by decide +kernel
theorem dL_strokes_235 : decode cL_strokes 235 = .ok (.invokevirtual 66, 3) := by decide +kernel
theorem dL_strokes_238 : decode cL_strokes 238 = .ok (.iadd, 1) := by decide +kernel
theorem dL_strokes_239 : decode cL_strokes 239 = .ok (.if_icmp .le 5, 3) := by decide +kernel
theorem dL_strokes_242 : decode cL_strokes 242 = .ok (.iconst 0, 1) := by decide +kernel
theorem dL_strokes_243 : decode cL_strokes 243 = .ok (.ireturn, 1) := by decide +kernel
theorem dL_strokes_244 : decode cL_strokes 244 = .ok (.iinc 3 1, 3) := by decide +kernel
theorem dL_strokes_247 : decode cL_strokes 247 = .ok (.goto (-156), 3) := by decide +kernel
theorem dL_strokes_250 : decode cL_strokes 250 = .ok (.aload_n 0, 1) := by decide +kernel
theorem dL_strokes_251 : decode cL_strokes 251 = .ok (.bipush 9, 2) := by decide +kernel
theorem dL_strokes_253 : decode cL_strokes 253 = .ok (.invokevirtual 9, 3) := by decide +kernel
theorem dL_strokes_256 : decode cL_strokes 256 = .ok (.iload_n 1, 1) := by decide +kernel
theorem dL_strokes_257 : decode cL_strokes 257 = .ok (.if_icmp .ne 64, 3) := by decide +kernel
theorem dL_strokes_260 : decode cL_strokes 260 = .ok (.iload_n 2, 1) := by decide +kernel
theorem dL_strokes_261 : decode cL_strokes 261 = .ok (.aload_n 0, 1) := by decide +kernel
theorem dL_strokes_262 : decode cL_strokes 262 = .ok (.bipush 7, 2) := by decide +kernel
theorem dL_strokes_264 : decode cL_strokes 264 = .ok (.invokevirtual 9, 3) := by decide +kernel
theorem dL_strokes_267 : decode cL_strokes 267 = .ok (.aload_n 0, 1) := by decide +kernel
theorem dL_strokes_268 : decode cL_strokes 268 = .ok (.bipush 8, 2) := by decide +kernel
theorem dL_strokes_270 : decode cL_strokes 270 = .ok (.invokevirtual 9, 3) := by decide +kernel
theorem dL_strokes_273 : decode cL_strokes 273 = .ok (.iadd, 1) := by decide +kernel
theorem dL_strokes_274 : decode cL_strokes 274 = .ok (.iload_n 1, 1) := by decide +kernel
theorem dL_strokes_275 : decode cL_strokes 275 = .ok (.iadd, 1) := by decide +kernel
theorem dL_strokes_276 : decode cL_strokes 276 = .ok (.if_icmp .ne 45, 3) := by decide +kernel
theorem dL_strokes_279 : decode cL_strokes 279 = .ok (.aload_n 0, 1) := by decide +kernel
theorem dL_strokes_280 : decode cL_strokes 280 = .ok (.bipush 12, 2) := by decide +kernel
theorem dL_strokes_282 : decode cL_strokes 282 = .ok (.invokevirtual 9, 3) := by decide +kernel
theorem dL_strokes_285 : decode cL_strokes 285 = .ok (.aload_n 0, 1) := by decide +kernel
theorem dL_strokes_286 : decode cL_strokes 286 = .ok (.bipush 8, 2) := by decide +kernel
theorem dL_strokes_288 : decode cL_strokes 288 = .ok (.invokevirtual 9, 3) := by decide +kernel
theorem dL_strokes_291 : decode cL_strokes 291 = .ok (.if_icmp .gt 30, 3) := by decide +kernel
theorem dL_strokes_294 : decode cL_strokes 294 = .ok (.aload_n 0, 1) := by decide +kernel
theorem dL_strokes_295 : decode cL_strokes 295 = .ok (.iconst 0, 1) := by decide +kernel
theorem dL_strokes_296 : decode cL_strokes 296 = .ok (.bipush 6, 2) := by decide +kernel
theorem dL_strokes_298 : decode cL_strokes 298 = .ok (.invokevirtual 66, 3) := by decide +kernel
theorem dL_strokes_301 : decode cL_strokes 301 = .ok (.bipush (-2), 2) := by decide +kernel
theorem dL_strokes_303 : decode cL_strokes 303 = .ok (.if_icmp .ne 18, 3) := by decide +kernel
theorem dL_strokes_306 : decode cL_strokes 306 = .ok (.aload_n 0, 1) := by decide +kernel
theorem dL_strokes_307 : decode cL_strokes 307 = .ok (.iconst (-1), 1) := by decide +kernel
theorem dL_strokes_308 : decode cL_strokes 308 = .ok (.iconst 0, 1) := by decide +kernel
theorem dL_strokes_309 : decode cL_strokes 309 = .ok (.invokevirtual 66, 3) := by decide +kernel
theorem dL_strokes_312 : decode cL_strokes 312 = .ok (.bipush (-2), 2) := by decide +kernel
theorem dL_strokes_314 : decode cL_strokes 314 = .ok (.if_icmp .ne 7, 3) := by decide +kernel
theorem dL_strokes_317 : decode cL_strokes 317 = .ok (.iconst 1, 1) := by decide +kernel
theorem dL_strokes_318 : decode cL_strokes 318 = .ok (.goto 4, 3) := by decide +kernel
theorem dL_strokes_321 : decode cL_strokes 321 = .ok (.iconst 0, 1) := by decide +kernel
theorem dL_strokes_322 : decode cL_strokes 322 = .ok (.ireturn, 1) := by decide +kernel
theorem dL_settles_0 : decode cL_settles 0 = .ok (.iload_n 1, 1) := by decide +kernel
theorem dL_settles_1 : decode cL_settles 1 = .ok (.aload_n 0, 1) := by decide +kernel
theorem dL_settles_2 : decode cL_settles 2 = .ok (.bipush 10, 2) := by decide +kernel
theorem dL_settles_4 : decode cL_settles 4 = .ok (.invokevirtual 9, 3) := by decide +kernel
theorem dL_settles_7 : decode cL_settles 7 = .ok (.if_icmp .lt 19, 3) := by decide +kernel
theorem dL_settles_10 : decode cL_settles 10 = .ok (.aload_n 0, 1) := by decide +kernel
theorem dL_settles_11 : decode cL_settles 11 = .ok (.iload_n 1, 1) := by decide +kernel
theorem dL_settles_12 : decode cL_settles 12 = .ok (.iload_n 2, 1) := by decide +kernel
theorem dL_settles_13 : decode cL_settles 13 = .ok (.invokevirtual 69, 3) := by decide +kernel
theorem dL_settles_16 : decode cL_settles 16 = .ok (.iconst (-1), 1) := by decide +kernel
theorem dL_settles_17 : decode cL_settles 17 = .ok (.if_icmp .ne 7, 3) := by decide +kernel
theorem dL_settles_20 : decode cL_settles 20 = .ok (.iconst 1, 1) := by decide +kernel
theorem dL_settles_21 : decode cL_settles 21 = .ok (.goto 4, 3) := by decide +kernel
theorem dL_settles_24 : decode cL_settles 24 = .ok (.iconst 0, 1) := by decide +kernel
theorem dL_settles_25 : decode cL_settles 25 = .ok (.ireturn, 1) := by decide +kernel
theorem dL_settles_26 : decode cL_settles 26 = .ok (.aload_n 0, 1) := by decide +kernel
theorem dL_settles_27 : decode cL_settles 27 = .ok (.iload_n 1, 1) := by decide +kernel
theorem dL_settles_28 : decode cL_settles 28 = .ok (.iconst 3, 1) := by decide +kernel
theorem dL_settles_29 : decode cL_settles 29 = .ok (.invokevirtual 63, 3) := by decide +kernel
theorem dL_settles_32 : decode cL_settles 32 = .ok (.ifCond .lt 20, 3) := by decide +kernel
theorem dL_settles_35 : decode cL_settles 35 = .ok (.aload_n 0, 1) := by decide +kernel
theorem dL_settles_36 : decode cL_settles 36 = .ok (.iload_n 1, 1) := by decide +kernel
theorem dL_settles_37 : decode cL_settles 37 = .ok (.iload_n 2, 1) := by decide +kernel
theorem dL_settles_38 : decode cL_settles 38 = .ok (.invokevirtual 69, 3) := by decide +kernel
theorem dL_settles_41 : decode cL_settles 41 = .ok (.bipush (-4), 2) := by decide +kernel
theorem dL_settles_43 : decode cL_settles 43 = .ok (.if_icmp .ne 7, 3) := by decide +kernel
theorem dL_settles_46 : decode cL_settles 46 = .ok (.iconst 1, 1) := by decide +kernel
theorem dL_settles_47 : decode cL_settles 47 = .ok (.goto 4, 3) := by decide +kernel
theorem dL_settles_50 : decode cL_settles 50 = .ok (.iconst 0, 1) := by decide +kernel
theorem dL_settles_51 : decode cL_settles 51 = .ok (.ireturn, 1) := by decide +kernel
theorem dL_settles_52 : decode cL_settles 52 = .ok (.aload_n 0, 1) := by decide +kernel
theorem dL_settles_53 : decode cL_settles 53 = .ok (.iload_n 1, 1) := by decide +kernel
theorem dL_settles_54 : decode cL_settles 54 = .ok (.iconst 0, 1) := by decide +kernel
theorem dL_settles_55 : decode cL_settles 55 = .ok (.invokevirtual 63, 3) := by decide +kernel
theorem dL_settles_58 : decode cL_settles 58 = .ok (.istore_n 3, 1) := by decide +kernel
theorem dL_settles_59 : decode cL_settles 59 = .ok (.aload_n 0, 1) := by decide +kernel
theorem dL_settles_60 : decode cL_settles 60 = .ok (.iload_n 1, 1) := by decide +kernel
theorem dL_settles_61 : decode cL_settles 61 = .ok (.iconst 2, 1) := by decide +kernel
theorem dL_settles_62 : decode cL_settles 62 = .ok (.invokevirtual 63, 3) := by decide +kernel
theorem dL_settles_65 : decode cL_settles 65 = .ok (.istore 4, 2) := by decide +kernel
theorem dL_settles_67 : decode cL_settles 67 = .ok (.aload_n 0, 1) := by decide +kernel
theorem dL_settles_68 : decode cL_settles 68 = .ok (.bipush 8, 2) := by decide +kernel
theorem dL_settles_70 : decode cL_settles 70 = .ok (.invokevirtual 9, 3) := by decide +kernel
theorem dL_settles_73 : decode cL_settles 73 = .ok (.istore 5, 2) := by decide +kernel
theorem dL_settles_75 : decode cL_settles 75 = .ok (.iload_n 2, 1) := by decide +kernel
theorem dL_settles_76 : decode cL_settles 76 = .ok (.iconst 2, 1) := by decide +kernel
theorem dL_settles_77 : decode cL_settles 77 = .ok (.if_icmp .ne 42, 3) := by decide +kernel
theorem dL_settles_80 : decode cL_settles 80 = .ok (.aload_n 0, 1) := by decide +kernel
theorem dL_settles_81 : decode cL_settles 81 = .ok (.iload_n 1, 1) := by decide +kernel
theorem dL_settles_82 : decode cL_settles 82 = .ok (.iconst 2, 1) := by decide +kernel
theorem dL_settles_83 : decode cL_settles 83 = .ok (.invokevirtual 69, 3) := by decide +kernel
theorem dL_settles_86 : decode cL_settles 86 = .ok (.iload_n 3, 1) := by decide +kernel
theorem dL_settles_87 : decode cL_settles 87 = .ok (.if_icmp .ne 30, 3) := by decide +kernel
theorem dL_settles_90 : decode cL_settles 90 = .ok (.aload_n 0, 1) := by decide +kernel
theorem dL_settles_91 : decode cL_settles 91 = .ok (.bipush 8, 2) := by decide +kernel
theorem dL_settles_93 : decode cL_settles 93 = .ok (.invokevirtual 9, 3) := by decide +kernel
theorem dL_settles_96 : decode cL_settles 96 = .ok (.iload 5, 2) := by decide +kernel
theorem dL_settles_98 : decode cL_settles 98 = .ok (.iconst 1, 1) := by decide +kernel
theorem dL_settles_99 : decode cL_settles 99 = .ok (.iadd, 1) := by decide +kernel
theorem dL_settles_100 : decode cL_settles 100 = .ok (.if_icmp .ne 17, 3) := by decide +kernel
theorem dL_settles_103 : decode cL_settles 103 = .ok (.aload_n 0, 1) := by decide +kernel
theorem dL_settles_104 : decode cL_settles 104 = .ok (.iload_n 1, 1) := by decide +kernel
theorem dL_settles_105 : decode cL_settles 105 = .ok (.iconst 3, 1) := by decide +kernel
theorem dL_settles_106 : decode cL_settles 106 = .ok (.invokevirtual 63, 3) := by decide +kernel
theorem dL_settles_109 : decode cL_settles 109 = .ok (.iconst 2, 1) := by decide +kernel
theorem dL_settles_110 : decode cL_settles 110 = .ok (.if_icmp .ne 7, 3) := by decide +kernel
theorem dL_settles_113 : decode cL_settles 113 = .ok (.iconst 1, 1) := by decide +kernel
theorem dL_settles_114 : decode cL_settles 114 = .ok (.goto 4, 3) := by decide +kernel
theorem dL_settles_117 : decode cL_settles 117 = .ok (.iconst 0, 1) := by decide +kernel
theorem dL_settles_118 : decode cL_settles 118 = .ok (.ireturn, 1) := by decide +kernel
theorem dL_settles_119 : decode cL_settles 119 = .ok (.aload_n 0, 1) := by decide +kernel
theorem dL_settles_120 : decode cL_settles 120 = .ok (.iload_n 2, 1) := by decide +kernel
theorem dL_settles_121 : decode cL_settles 121 = .ok (.iconst 0, 1) := by decide +kernel
theorem dL_settles_122 : decode cL_settles 122 = .ok (.invokevirtual 52, 3) := by decide +kernel
theorem dL_settles_125 : decode cL_settles 125 = .ok (.fstore 6, 2) := by decide +kernel
theorem dL_settles_127 : decode cL_settles 127 = .ok (.aload_n 0, 1) := by decide +kernel
theorem dL_settles_128 : decode cL_settles 128 = .ok (.iconst 1, 1) := by decide +kernel
theorem dL_settles_129 : decode cL_settles 129 = .ok (.iload_n 2, 1) := by decide +kernel
theorem dL_settles_130 : decode cL_settles 130 = .ok (.isub, 1) := by decide +kernel
theorem dL_settles_131 : decode cL_settles 131 = .ok (.iconst 0, 1) := by decide +kernel
theorem dL_settles_132 : decode cL_settles 132 = .ok (.invokevirtual 52, 3) := by decide +kernel
theorem dL_settles_135 : decode cL_settles 135 = .ok (.fstore 7, 2) := by decide +kernel
theorem dL_settles_137 : decode cL_settles 137 = .ok (.fload 6, 2) := by decide +kernel
theorem dL_settles_139 : decode cL_settles 139 = .ok (.iload 4, 2) := by decide +kernel
theorem dL_settles_141 : decode cL_settles 141 = .ok (.i2f, 1) := by decide +kernel
theorem dL_settles_142 : decode cL_settles 142 = .ok (.fload 6, 2) := by decide +kernel
theorem dL_settles_144 : decode cL_settles 144 = .ok (.fsub, 1) := by decide +kernel
theorem dL_settles_145 : decode cL_settles 145 = .ok (.ldc 72, 2) := by decide +kernel
theorem dL_settles_147 : decode cL_settles 147 = .ok (.fmul, 1) := by decide +kernel
theorem dL_settles_148 : decode cL_settles 148 = .ok (.fadd, 1) := by decide +kernel
theorem dL_settles_149 : decode cL_settles 149 = .ok (.fstore 8, 2) := by decide +kernel
theorem dL_settles_151 : decode cL_settles 151 = .ok (.aload_n 0, 1) := by decide +kernel
theorem dL_settles_152 : decode cL_settles 152 = .ok (.iload_n 2, 1) := by decide +kernel
theorem dL_settles_153 : decode cL_settles 153 = .ok (.iconst 4, 1) := by decide +kernel
theorem dL_settles_154 : decode cL_settles 154 = .ok (.invokevirtual 45, 3) := by decide +kernel
theorem dL_settles_157 : decode cL_settles 157 = .ok (.istore 9, 2) := by decide +kernel
theorem dL_settles_159 : decode cL_settles 159 = .ok (.aload_n 0, 1) := by decide +kernel
theorem dL_settles_160 : decode cL_settles 160 = .ok (.iload_n 1, 1) := by decide +kernel
theorem dL_settles_161 : decode cL_settles 161 = .ok (.iload_n 2, 1) := by decide +kernel
theorem dL_settles_162 : decode cL_settles 162 = .ok (.invokevirtual 69, 3) := by decide +kernel
theorem dL_settles_165 : decode cL_settles 165 = .ok (.iload_n 3, 1) := by decide +kernel
theorem dL_settles_166 : decode cL_settles 166 = .ok (.if_icmp .ne 46, 3) := by decide +kernel
theorem dL_settles_169 : decode cL_settles 169 = .ok (.aload_n 0, 1) := by decide +kernel
theorem dL_settles_170 : decode cL_settles 170 = .ok (.iload_n 2, 1) := by decide +kernel
theorem dL_settles_171 : decode cL_settles 171 = .ok (.iconst 0, 1) := by decide +kernel
theorem dL_settles_172 : decode cL_settles 172 = .ok (.invokevirtual 52, 3) := by decide +kernel
theorem dL_settles_175 : decode cL_settles 175 = .ok (.fload 8, 2) := by decide +kernel
theorem dL_settles_177 : decode cL_settles 177 = .ok (.ldc 43, 2) := by decide +kernel
theorem dL_settles_179 : decode cL_settles 179 = .ok (.fcmp .g, 1) := by decide +kernel
theorem dL_settles_180 : decode cL_settles 180 = .ok (.ifCond .ge 8, 3) := by decide +kernel
theorem dL_settles_183 : decode cL_settles 183 = .ok (.ldc 43, 2) := by decide +kernel
theorem dL_settles_185 : decode cL_settles 185 = .ok (.goto 5, 3) := by decide +kernel
theorem dL_settles_188 : decode cL_settles 188 = .ok (.fload 8, 2) := by decide +kernel
theorem dL_settles_190 : decode cL_settles 190 = .ok (.fcmp .l, 1) := by decide +kernel
theorem dL_settles_191 : decode cL_settles 191 = .ok (.ifCond .ne 21, 3) := by decide +kernel
theorem dL_settles_194 : decode cL_settles 194 = .ok (.aload_n 0, 1) := by decide +kernel
theorem dL_settles_195 : decode cL_settles 195 = .ok (.iconst 1, 1) := by decide +kernel
theorem dL_settles_196 : decode cL_settles 196 = .ok (.iload_n 2, 1) := by decide +kernel
theorem dL_settles_197 : decode cL_settles 197 = .ok (.isub, 1) := by decide +kernel
theorem dL_settles_198 : decode cL_settles 198 = .ok (.iconst 0, 1) := by decide +kernel
theorem dL_settles_199 : decode cL_settles 199 = .ok (.invokevirtual 52, 3) := by decide +kernel
theorem dL_settles_202 : decode cL_settles 202 = .ok (.fload 7, 2) := by decide +kernel
theorem dL_settles_204 : decode cL_settles 204 = .ok (.fcmp .l, 1) := by decide +kernel
theorem dL_settles_205 : decode cL_settles 205 = .ok (.ifCond .ne 7, 3) := by decide +kernel
theorem dL_settles_208 : decode cL_settles 208 = .ok (.iconst 1, 1) := by decide +kernel
theorem dL_settles_209 : decode cL_settles 209 = .ok (.goto 4, 3) := by decide +kernel
theorem dL_settles_212 : decode cL_settles 212 = .ok (.iconst 0, 1) := by decide +kernel
theorem dL_settles_213 : decode cL_settles 213 = .ok (.istore 10, 2) := by decide +kernel
theorem dL_settles_215 : decode cL_settles 215 = .ok (.iload 10, 2) := by decide +kernel
theorem dL_settles_217 : decode cL_settles 217 = .ok (.ifCond .eq 47, 3) := by decide +kernel
theorem dL_settles_220 : decode cL_settles 220 = .ok (.aload_n 0, 1) := by decide +kernel
theorem dL_settles_221 : decode cL_settles 221 = .ok (.iload_n 2, 1) := by decide +kernel
theorem dL_settles_222 : decode cL_settles 222 = .ok (.iconst 4, 1) := by decide +kernel
theorem dL_settles_223 : decode cL_settles 223 = .ok (.invokevirtual 45, 3) := by decide +kernel
theorem dL_settles_226 : decode cL_settles 226 = .ok (.iload 9, 2) := by decide +kernel
theorem dL_settles_228 : decode cL_settles 228 = .ok (.iconst 1, 1) := by decide +kernel
theorem dL_settles_229 : decode cL_settles 229 = .ok (.iadd, 1) := by decide +kernel
theorem dL_settles_230 : decode cL_settles 230 = .ok (.if_icmp .ne 34, 3) := by decide +kernel
theorem dL_settles_233 : decode cL_settles 233 = .ok (.aload_n 0, 1) := by decide +kernel
theorem dL_settles_234 : decode cL_settles 234 = .ok (.iload_n 2, 1) := by decide +kernel
theorem dL_settles_235 : decode cL_settles 235 = .ok (.bipush 7, 2) := by decide +kernel
theorem dL_settles_237 : decode cL_settles 237 = .ok (.invokevirtual 45, 3) := by decide +kernel
theorem dL_settles_240 : decode cL_settles 240 = .ok (.aload_n 0, 1) := by decide +kernel
theorem dL_settles_241 : decode cL_settles 241 = .ok (.iload_n 1, 1) := by decide +kernel
theorem dL_settles_242 : decode cL_settles 242 = .ok (.iconst 1, 1) := by decide +kernel
theorem dL_settles_243 : decode cL_settles 243 = .ok (.invokevirtual 63, 3) := by decide +kernel
theorem dL_settles_246 : decode cL_settles 246 = .ok (.if_icmp .ne 18, 3) := by decide +kernel
theorem dL_settles_249 : decode cL_settles 249 = .ok (.aload_n 0, 1) := by decide +kernel
theorem dL_settles_250 : decode cL_settles 250 = .ok (.iload_n 1, 1) := by decide +kernel
theorem dL_settles_251 : decode cL_settles 251 = .ok (.iload_n 2, 1) := by decide +kernel
theorem dL_settles_252 : decode cL_settles 252 = .ok (.invokevirtual 69, 3) := by decide +kernel
theorem dL_settles_255 : decode cL_settles 255 = .ok (.bipush (-4), 2) := by decide +kernel
theorem dL_settles_257 : decode cL_settles 257 = .ok (.if_icmp .ne 7, 3) := by decide +kernel
theorem dL_settles_260 : decode cL_settles 260 = .ok (.iconst 1, 1) := by decide +kernel
theorem dL_settles_261 : decode cL_settles 261 = .ok (.goto 4, 3) := by decide +kernel
theorem dL_settles_264 : decode cL_settles 264 = .ok (.iconst 0, 1) := by decide +kernel
theorem dL_settles_265 : decode cL_settles 265 = .ok (.ireturn, 1) := by decide +kernel
theorem dL_acts_0 : decode cL_acts 0 = .ok (.iload_n 1, 1) := by decide +kernel
theorem dL_acts_1 : decode cL_acts 1 = .ok (.iconst 4, 1) := by decide +kernel
theorem dL_acts_2 : decode cL_acts 2 = .ok (.ishr, 1) := by decide +kernel
theorem dL_acts_3 : decode cL_acts 3 = .ok (.iconst 2, 1) := by decide +kernel
theorem dL_acts_4 : decode cL_acts 4 = .ok (.invokestatic 73, 3) := by decide +kernel
theorem dL_acts_7 : decode cL_acts 7 = .ok (.istore_n 3, 1) := by decide +kernel
theorem dL_acts_8 : decode cL_acts 8 = .ok (.iload_n 2, 1) := by decide +kernel
theorem dL_acts_9 : decode cL_acts 9 = .ok (.aload_n 0, 1) := by decide +kernel
theorem dL_acts_10 : decode cL_acts 10 = .ok (.invokestatic 15, 3) := by decide +kernel
theorem dL_acts_13 : decode cL_acts 13 = .ok (.invokestatic 73, 3) := by decide +kernel
theorem dL_acts_16 : decode cL_acts 16 = .ok (.istore 4, 2) := by decide +kernel
theorem dL_acts_18 : decode cL_acts 18 = .ok (.iload_n 1, 1) := by decide +kernel
theorem dL_acts_19 : decode cL_acts 19 = .ok (.bipush 12, 2) := by decide +kernel
theorem dL_acts_21 : decode cL_acts 21 = .ok (.invokestatic 73, 3) := by decide +kernel
theorem dL_acts_24 : decode cL_acts 24 = .ok (.tableswitch 414 0 10 #[60, 60, 60, 60, 118, 118, 162, 162, 162, 224, 305], 60) := by decide +kernel
theorem dL_acts_84 : decode cL_acts 84 = .ok (.aload_n 0, 1) := by decide +kernel
theorem dL_acts_85 : decode cL_acts 85 = .ok (.iload_n 3, 1) := by decide +kernel
theorem dL_acts_86 : decode cL_acts 86 = .ok (.iconst 0, 1) := by decide +kernel
theorem dL_acts_87 : decode cL_acts 87 = .ok (.invokevirtual 45, 3) := by decide +kernel
theorem dL_acts_90 : decode cL_acts 90 = .ok (.istore 5, 2) := by decide +kernel
theorem dL_acts_92 : decode cL_acts 92 = .ok (.aload_n 0, 1) := by decide +kernel
theorem dL_acts_93 : decode cL_acts 93 = .ok (.iload 4, 2) := by decide +kernel
theorem dL_acts_95 : decode cL_acts 95 = .ok (.iconst 0, 1) := by decide +kernel
theorem dL_acts_96 : decode cL_acts 96 = .ok (.invokevirtual 21, 3) := by decide +kernel
theorem dL_acts_99 : decode cL_acts 99 = .ok (.ifCond .lt 8, 3) := by decide +kernel
theorem dL_acts_102 : decode cL_acts 102 = .ok (.bipush (-4), 2) := by decide +kernel
theorem dL_acts_104 : decode cL_acts 104 = .ok (.goto 18, 3) := by decide +kernel
theorem dL_acts_107 : decode cL_acts 107 = .ok (.iload 5, 2) := by decide +kernel
theorem dL_acts_109 : decode cL_acts 109 = .ok (.iconst 5, 1) := by decide +kernel
theorem dL_acts_110 : decode cL_acts 110 = .ok (.if_icmp .ne 8, 3) := by decide +kernel
theorem dL_acts_113 : decode cL_acts 113 = .ok (.bipush (-3), 2) := by decide +kernel
theorem dL_acts_115 : decode cL_acts 115 = .ok (.goto 7, 3) := by decide +kernel
theorem dL_acts_118 : decode cL_acts 118 = .ok (.iload 5, 2) := by decide +kernel
theorem dL_acts_120 : decode cL_acts 120 = .ok (.iconst 1, 1) := by decide +kernel
theorem dL_acts_121 : decode cL_acts 121 = .ok (.iadd, 1) := by decide +kernel
theorem dL_acts_122 : decode cL_acts 122 = .ok (.istore 6, 2) := by decide +kernel
theorem dL_acts_124 : decode cL_acts 124 = .ok (.aload_n 0, 1) := by decide +kernel
theorem dL_acts_125 : decode cL_acts 125 = .ok (.iload_n 3, 1) := by decide +kernel
theorem dL_acts_126 : decode cL_acts 126 = .ok (.iload 4, 2) := by decide +kernel
theorem dL_acts_128 : decode cL_acts 128 = .ok (.invokevirtual 76, 3) := by decide +kernel
theorem dL_acts_131 : decode cL_acts 131 = .ok (.iload 6, 2) := by decide +kernel
theorem dL_acts_133 : decode cL_acts 133 = .ok (.if_icmp .ne 7, 3) := by decide +kernel
theorem dL_acts_136 : decode cL_acts 136 = .ok (.iconst 1, 1) := by decide +kernel
theorem dL_acts_137 : decode cL_acts 137 = .ok (.goto 4, 3) := by decide +kernel
theorem dL_acts_140 : decode cL_acts 140 = .ok (.iconst 0, 1) := by decide +kernel
theorem dL_acts_141 : decode cL_acts 141 = .ok (.ireturn, 1) := by decide +kernel
theorem dL_acts_142 : decode cL_acts 142 = .ok (.aload_n 0, 1) := by decide +kernel
theorem dL_acts_143 : decode cL_acts 143 = .ok (.iload 4, 2) := by decide +kernel
theorem dL_acts_145 : decode cL_acts 145 = .ok (.iconst 0, 1) := by decide +kernel
theorem dL_acts_146 : decode cL_acts 146 = .ok (.invokevirtual 21, 3) := by decide +kernel
theorem dL_acts_149 : decode cL_acts 149 = .ok (.iload_n 3, 1) := by decide +kernel
theorem dL_acts_150 : decode cL_acts 150 = .ok (.if_icmp .ne 14, 3) := by decide +kernel
theorem dL_acts_153 : decode cL_acts 153 = .ok (.aload_n 0, 1) := by decide +kernel
theorem dL_acts_154 : decode cL_acts 154 = .ok (.iload_n 3, 1) := by decide +kernel
theorem dL_acts_155 : decode cL_acts 155 = .ok (.iconst 0, 1) := by decide +kernel
theorem dL_acts_156 : decode cL_acts 156 = .ok (.invokevirtual 45, 3) := by decide +kernel
theorem dL_acts_159 : decode cL_acts 159 = .ok (.iconst 1, 1) := by decide +kernel
theorem dL_acts_160 : decode cL_acts 160 = .ok (.isub, 1) := by decide +kernel
theorem dL_acts_161 : decode cL_acts 161 = .ok (.goto 5, 3) := by decide +kernel
theorem dL_acts_164 : decode cL_acts 164 = .ok (.bipush (-4), 2) := by decide +kernel
theorem dL_acts_166 : decode cL_acts 166 = .ok (.istore 5, 2) := by decide +kernel
theorem dL_acts_168 : decode cL_acts 168 = .ok (.aload_n 0, 1) := by decide +kernel
theorem dL_acts_169 : decode cL_acts 169 = .ok (.iload_n 3, 1) := by decide +kernel
theorem dL_acts_170 : decode cL_acts 170 = .ok (.iload 4, 2) := by decide +kernel
theorem dL_acts_172 : decode cL_acts 172 = .ok (.invokevirtual 79, 3) := by decide +kernel
theorem dL_acts_175 : decode cL_acts 175 = .ok (.iload 5, 2) := by decide +kernel
theorem dL_acts_177 : decode cL_acts 177 = .ok (.if_icmp .ne 7, 3) := by decide +kernel
theorem dL_acts_180 : decode cL_acts 180 = .ok (.iconst 1, 1) := by decide +kernel
theorem dL_acts_181 : decode cL_acts 181 = .ok (.goto 4, 3) := by decide +kernel
theorem dL_acts_184 : decode cL_acts 184 = .ok (.iconst 0, 1) := by decide +kernel
theorem dL_acts_185 : decode cL_acts 185 = .ok (.ireturn, 1) := by decide +kernel
theorem dL_acts_186 : decode cL_acts 186 = .ok (.aload_n 0, 1) := by decide +kernel
theorem dL_acts_187 : decode cL_acts 187 = .ok (.bipush 6, 2) := by decide +kernel
theorem dL_acts_189 : decode cL_acts 189 = .ok (.invokevirtual 9, 3) := by decide +kernel
theorem dL_acts_192 : decode cL_acts 192 = .ok (.istore 5, 2) := by decide +kernel
theorem dL_acts_194 : decode cL_acts 194 = .ok (.aload_n 0, 1) := by decide +kernel
theorem dL_acts_195 : decode cL_acts 195 = .ok (.iconst 0, 1) := by decide +kernel
theorem dL_acts_196 : decode cL_acts 196 = .ok (.invokevirtual 9, 3) := by decide +kernel
theorem dL_acts_199 : decode cL_acts 199 = .ok (.istore 6, 2) := by decide +kernel
theorem dL_acts_201 : decode cL_acts 201 = .ok (.iconst 1, 1) := by decide +kernel
theorem dL_acts_202 : decode cL_acts 202 = .ok (.iload_n 2, 1) := by decide +kernel
theorem dL_acts_203 : decode cL_acts 203 = .ok (.bipush 9, 2) := by decide +kernel
theorem dL_acts_205 : decode cL_acts 205 = .ok (.invokestatic 73, 3) := by decide +kernel
theorem dL_acts_208 : decode cL_acts 208 = .ok (.iadd, 1) := by decide +kernel
theorem dL_acts_209 : decode cL_acts 209 = .ok (.istore 7, 2) := by decide +kernel
theorem dL_acts_211 : decode cL_acts 211 = .ok (.aload_n 0, 1) := by decide +kernel
theorem dL_acts_212 : decode cL_acts 212 = .ok (.iload 7, 2) := by decide +kernel
theorem dL_acts_214 : decode cL_acts 214 = .ok (.invokevirtual 82, 3) := by decide +kernel
theorem dL_acts_217 : decode cL_acts 217 = .ok (.aload_n 0, 1) := by decide +kernel
theorem dL_acts_218 : decode cL_acts 218 = .ok (.bipush 6, 2) := by decide +kernel
theorem dL_acts_220 : decode cL_acts 220 = .ok (.invokevirtual 9, 3) := by decide +kernel
theorem dL_acts_223 : decode cL_acts 223 = .ok (.iload 5, 2) := by decide +kernel
theorem dL_acts_225 : decode cL_acts 225 = .ok (.isub, 1) := by decide +kernel
theorem dL_acts_226 : decode cL_acts 226 = .ok (.if_icmp .ne 20, 3) := by decide +kernel
theorem dL_acts_229 : decode cL_acts 229 = .ok (.aload_n 0, 1) := by decide +kernel
theorem dL_acts_230 : decode cL_acts 230 = .ok (.iconst 0, 1) := by decide +kernel
theorem dL_acts_231 : decode cL_acts 231 = .ok (.invokevirtual 9, 3) := by decide +kernel
theorem dL_acts_234 : decode cL_acts 234 = .ok (.iload 6, 2) := by decide +kernel
theorem dL_acts_236 : decode cL_acts 236 = .ok (.iload 7, 2) := by decide +kernel
theorem dL_acts_238 : decode cL_acts 238 = .ok (.iadd, 1) := by decide +kernel
theorem dL_acts_239 : decode cL_acts 239 = .ok (.if_icmp .ne 7, 3) := by decide +kernel
theorem dL_acts_242 : decode cL_acts 242 = .ok (.iconst 1, 1) := by decide +kernel
theorem dL_acts_243 : decode cL_acts 243 = .ok (.goto 4, 3) := by decide +kernel
theorem dL_acts_246 : decode cL_acts 246 = .ok (.iconst 0, 1) := by decide +kernel
theorem dL_acts_247 : decode cL_acts 247 = .ok (.ireturn, 1) := by decide +kernel
theorem dL_acts_248 : decode cL_acts 248 = .ok (.aload_n 0, 1) := by decide +kernel
theorem dL_acts_249 : decode cL_acts 249 = .ok (.iload_n 3, 1) := by decide +kernel
theorem dL_acts_250 : decode cL_acts 250 = .ok (.iconst 1, 1) := by decide +kernel
theorem dL_acts_251 : decode cL_acts 251 = .ok (.invokevirtual 45, 3) := by decide +kernel
theorem dL_acts_254 : decode cL_acts 254 = .ok (.istore 5, 2) := by decide +kernel
theorem dL_acts_256 : decode cL_acts 256 = .ok (.aload_n 0, 1) := by decide +kernel
theorem dL_acts_257 : decode cL_acts 257 = .ok (.iload 4, 2) := by decide +kernel
theorem dL_acts_259 : decode cL_acts 259 = .ok (.iconst 5, 1) := by decide +kernel
theorem dL_acts_260 : decode cL_acts 260 = .ok (.invokevirtual 21, 3) := by decide +kernel
theorem dL_acts_263 : decode cL_acts 263 = .ok (.istore 6, 2) := by decide +kernel
theorem dL_acts_265 : decode cL_acts 265 = .ok (.iload 6, 2) := by decide +kernel
theorem dL_acts_267 : decode cL_acts 267 = .ok (.iload_n 3, 1) := by decide +kernel
theorem dL_acts_268 : decode cL_acts 268 = .ok (.if_icmp .ne 8, 3) := by decide +kernel
theorem dL_acts_271 : decode cL_acts 271 = .ok (.bipush (-5), 2) := by decide +kernel
theorem dL_acts_273 : decode cL_acts 273 = .ok (.goto 25, 3) := by decide +kernel
theorem dL_acts_276 : decode cL_acts 276 = .ok (.iload 6, 2) := by decide +kernel
theorem dL_acts_278 : decode cL_acts 278 = .ok (.ifCond .lt 8, 3) := by decide +kernel
theorem dL_acts_281 : decode cL_acts 281 = .ok (.bipush (-4), 2) := by decide +kernel
theorem dL_acts_283 : decode cL_acts 283 = .ok (.goto 15, 3) := by decide +kernel
theorem dL_acts_286 : decode cL_acts 286 = .ok (.iload 5, 2) := by decide +kernel
theorem dL_acts_288 : decode cL_acts 288 = .ok (.ifCond .ge 8, 3) := by decide +kernel
theorem dL_acts_291 : decode cL_acts 291 = .ok (.iload 4, 2) := by decide +kernel
theorem dL_acts_293 : decode cL_acts 293 = .ok (.goto 5, 3) := by decide +kernel
theorem dL_acts_296 : decode cL_acts 296 = .ok (.iload 5, 2) := by decide +kernel
theorem dL_acts_298 : decode cL_acts 298 = .ok (.istore 7, 2) := by decide +kernel
theorem dL_acts_300 : decode cL_acts 300 = .ok (.iload_n 2, 1) := by decide +kernel
theorem dL_acts_301 : decode cL_acts 301 = .ok (.bipush 8, 2) := by decide +kernel
theorem dL_acts_303 : decode cL_acts 303 = .ok (.ishr, 1) := by decide +kernel
theorem dL_acts_304 : decode cL_acts 304 = .ok (.iconst 3, 1) := by decide +kernel
theorem dL_acts_305 : decode cL_acts 305 = .ok (.invokestatic 73, 3) := by decide +kernel
theorem dL_acts_308 : decode cL_acts 308 = .ok (.ifCond .gt 15, 3) := by decide +kernel
theorem dL_acts_311 : decode cL_acts 311 = .ok (.aload_n 0, 1) := by decide +kernel
theorem dL_acts_312 : decode cL_acts 312 = .ok (.iload_n 3, 1) := by decide +kernel
theorem dL_acts_313 : decode cL_acts 313 = .ok (.iload 4, 2) := by decide +kernel
theorem dL_acts_315 : decode cL_acts 315 = .ok (.invokevirtual 85, 3) := by decide +kernel
theorem dL_acts_318 : decode cL_acts 318 = .ok (.iload 7, 2) := by decide +kernel
theorem dL_acts_320 : decode cL_acts 320 = .ok (.if_icmp .ne 7, 3) := by decide +kernel
theorem dL_acts_323 : decode cL_acts 323 = .ok (.iconst 1, 1) := by decide +kernel
theorem dL_acts_324 : decode cL_acts 324 = .ok (.goto 4, 3) := by decide +kernel
theorem dL_acts_327 : decode cL_acts 327 = .ok (.iconst 0, 1) := by decide +kernel
theorem dL_acts_328 : decode cL_acts 328 = .ok (.ireturn, 1) := by decide +kernel
theorem dL_acts_329 : decode cL_acts 329 = .ok (.iload_n 2, 1) := by decide +kernel
theorem dL_acts_330 : decode cL_acts 330 = .ok (.bipush 8, 2) := by decide +kernel
theorem dL_acts_332 : decode cL_acts 332 = .ok (.ishr, 1) := by decide +kernel
theorem dL_acts_333 : decode cL_acts 333 = .ok (.iconst 5, 1) := by decide +kernel
theorem dL_acts_334 : decode cL_acts 334 = .ok (.invokestatic 73, 3) := by decide +kernel
theorem dL_acts_337 : decode cL_acts 337 = .ok (.ifCond .ne 8, 3) := by decide +kernel
theorem dL_acts_340 : decode cL_acts 340 = .ok (.bipush 46, 2) := by decide +kernel
theorem dL_acts_342 : decode cL_acts 342 = .ok (.goto 15, 3) := by decide +kernel
theorem dL_acts_345 : decode cL_acts 345 = .ok (.bipush 97, 2) := by decide +kernel
theorem dL_acts_347 : decode cL_acts 347 = .ok (.iload_n 2, 1) := by decide +kernel
theorem dL_acts_348 : decode cL_acts 348 = .ok (.bipush 11, 2) := by decide +kernel
theorem dL_acts_350 : decode cL_acts 350 = .ok (.ishr, 1) := by decide +kernel
theorem dL_acts_351 : decode cL_acts 351 = .ok (.bipush 26, 2) := by decide +kernel
theorem dL_acts_353 : decode cL_acts 353 = .ok (.invokestatic 73, 3) := by decide +kernel
theorem dL_acts_356 : decode cL_acts 356 = .ok (.iadd, 1) := by decide +kernel
theorem dL_acts_357 : decode cL_acts 357 = .ok (.i2c, 1) := by decide +kernel
theorem dL_acts_358 : decode cL_acts 358 = .ok (.istore 5, 2) := by decide +kernel
theorem dL_acts_360 : decode cL_acts 360 = .ok (.aload_n 0, 1) := by decide +kernel
theorem dL_acts_361 : decode cL_acts 361 = .ok (.iload 4, 2) := by decide +kernel
theorem dL_acts_363 : decode cL_acts 363 = .ok (.iconst 4, 1) := by decide +kernel
theorem dL_acts_364 : decode cL_acts 364 = .ok (.invokevirtual 21, 3) := by decide +kernel
theorem dL_acts_367 : decode cL_acts 367 = .ok (.istore 6, 2) := by decide +kernel
theorem dL_acts_369 : decode cL_acts 369 = .ok (.iload 6, 2) := by decide +kernel
theorem dL_acts_371 : decode cL_acts 371 = .ok (.iload 5, 2) := by decide +kernel
theorem dL_acts_373 : decode cL_acts 373 = .ok (.if_icmp .ne 18, 3) := by decide +kernel
theorem dL_acts_376 : decode cL_acts 376 = .ok (.aload_n 0, 1) := by decide +kernel
theorem dL_acts_377 : decode cL_acts 377 = .ok (.iload 4, 2) := by decide +kernel
theorem dL_acts_379 : decode cL_acts 379 = .ok (.iconst 5, 1) := by decide +kernel
theorem dL_acts_380 : decode cL_acts 380 = .ok (.invokevirtual 21, 3) := by decide +kernel
theorem dL_acts_383 : decode cL_acts 383 = .ok (.ifCond .ge 8, 3) := by decide +kernel
theorem dL_acts_386 : decode cL_acts 386 = .ok (.bipush (-5), 2) := by decide +kernel
theorem dL_acts_388 : decode cL_acts 388 = .ok (.goto 5, 3) := by decide +kernel
theorem dL_acts_391 : decode cL_acts 391 = .ok (.iload 6, 2) := by decide +kernel
theorem dL_acts_393 : decode cL_acts 393 = .ok (.istore 7, 2) := by decide +kernel
theorem dL_acts_395 : decode cL_acts 395 = .ok (.aload_n 0, 1) := by decide +kernel
theorem dL_acts_396 : decode cL_acts 396 = .ok (.iload 4, 2) := by decide +kernel
theorem dL_acts_398 : decode cL_acts 398 = .ok (.iload 5, 2) := by decide +kernel
theorem dL_acts_400 : decode cL_acts 400 = .ok (.invokevirtual 88, 3) := by decide +kernel
theorem dL_acts_403 : decode cL_acts 403 = .ok (.iload 7, 2) := by decide +kernel
theorem dL_acts_405 : decode cL_acts 405 = .ok (.if_icmp .ne 31, 3) := by decide +kernel
theorem dL_acts_408 : decode cL_acts 408 = .ok (.aload_n 0, 1) := by decide +kernel
theorem dL_acts_409 : decode cL_acts 409 = .ok (.iload 4, 2) := by decide +kernel
theorem dL_acts_411 : decode cL_acts 411 = .ok (.iconst 4, 1) := by decide +kernel
theorem dL_acts_412 : decode cL_acts 412 = .ok (.invokevirtual 21, 3) := by decide +kernel
theorem dL_acts_415 : decode cL_acts 415 = .ok (.iload 5, 2) := by decide +kernel
theorem dL_acts_417 : decode cL_acts 417 = .ok (.if_icmp .ne 19, 3) := by decide +kernel
theorem dL_acts_420 : decode cL_acts 420 = .ok (.aload_n 0, 1) := by decide +kernel
theorem dL_acts_421 : decode cL_acts 421 = .ok (.iload 4, 2) := by decide +kernel
theorem dL_acts_423 : decode cL_acts 423 = .ok (.iconst 5, 1) := by decide +kernel
theorem dL_acts_424 : decode cL_acts 424 = .ok (.invokevirtual 21, 3) := by decide +kernel
theorem dL_acts_427 : decode cL_acts 427 = .ok (.bipush (-5), 2) := by decide +kernel
theorem dL_acts_429 : decode cL_acts 429 = .ok (.if_icmp .ne 7, 3) := by decide +kernel
theorem dL_acts_432 : decode cL_acts 432 = .ok (.iconst 1, 1) := by decide +kernel
theorem dL_acts_433 : decode cL_acts 433 = .ok (.goto 4, 3) := by decide +kernel
theorem dL_acts_436 : decode cL_acts 436 = .ok (.iconst 0, 1) := by decide +kernel
theorem dL_acts_437 : decode cL_acts 437 = .ok (.ireturn, 1) := by decide +kernel
theorem dL_acts_438 : decode cL_acts 438 = .ok (.aload_n 0, 1) := by decide +kernel
theorem dL_acts_439 : decode cL_acts 439 = .ok (.iload_n 2, 1) := by decide +kernel
theorem dL_acts_440 : decode cL_acts 440 = .ok (.bipush 22, 2) := by decide +kernel
theorem dL_acts_442 : decode cL_acts 442 = .ok (.invokestatic 73, 3) := by decide +kernel
theorem dL_acts_445 : decode cL_acts 445 = .ok (.iload_n 2, 1) := by decide +kernel
theorem dL_acts_446 : decode cL_acts 446 = .ok (.bipush 6, 2) := by decide +kernel
theorem dL_acts_448 : decode cL_acts 448 = .ok (.ishr, 1) := by decide +kernel
theorem dL_acts_449 : decode cL_acts 449 = .ok (.iconst 3, 1) := by decide +kernel
theorem dL_acts_450 : decode cL_acts 450 = .ok (.invokestatic 73, 3) := by decide +kernel
theorem dL_acts_453 : decode cL_acts 453 = .ok (.invokestatic 92, 3) := by decide +kernel
theorem dL_acts_456 : decode cL_acts 456 = .ok (.ireturn, 1) := by decide +kernel
theorem dL_errors_0 : decode cL_errors 0 = .ok (.aload_n 0, 1) := by decide +kernel
theorem dL_errors_1 : decode cL_errors 1 = .ok (.iconst 2, 1) := by decide +kernel
theorem dL_errors_2 : decode cL_errors 2 = .ok (.iconst 0, 1) := by decide +kernel
theorem dL_errors_3 : decode cL_errors 3 = .ok (.invokevirtual 76, 3) := by decide +kernel
theorem dL_errors_6 : decode cL_errors 6 = .ok (.iconst (-1), 1) := by decide +kernel
theorem dL_errors_7 : decode cL_errors 7 = .ok (.if_icmp .ne 93, 3) := by decide +kernel
theorem dL_errors_10 : decode cL_errors 10 = .ok (.aload_n 0, 1) := by decide +kernel
theorem dL_errors_11 : decode cL_errors 11 = .ok (.iconst 0, 1) := by decide +kernel
theorem dL_errors_12 : decode cL_errors 12 = .ok (.iconst (-1), 1) := by decide +kernel
theorem dL_errors_13 : decode cL_errors 13 = .ok (.invokevirtual 76, 3) := by decide +kernel
theorem dL_errors_16 : decode cL_errors 16 = .ok (.iconst (-1), 1) := by decide +kernel
theorem dL_errors_17 : decode cL_errors 17 = .ok (.if_icmp .ne 83, 3) := by decide +kernel
theorem dL_errors_20 : decode cL_errors 20 = .ok (.aload_n 0, 1) := by decide +kernel
theorem dL_errors_21 : decode cL_errors 21 = .ok (.iconst (-1), 1) := by decide +kernel
theorem dL_errors_22 : decode cL_errors 22 = .ok (.iconst 0, 1) := by decide +kernel
theorem dL_errors_23 : decode cL_errors 23 = .ok (.invokevirtual 79, 3) := by decide +kernel
theorem dL_errors_26 : decode cL_errors 26 = .ok (.iconst (-1), 1) := by decide +kernel
theorem dL_errors_27 : decode cL_errors 27 = .ok (.if_icmp .ne 73, 3) := by decide +kernel
theorem dL_errors_30 : decode cL_errors 30 = .ok (.aload_n 0, 1) := by decide +kernel
theorem dL_errors_31 : decode cL_errors 31 = .ok (.iconst 0, 1) := by decide +kernel
theorem dL_errors_32 : decode cL_errors 32 = .ok (.invokevirtual 82, 3) := by decide +kernel
theorem dL_errors_35 : decode cL_errors 35 = .ok (.bipush (-2), 2) := by decide +kernel
theorem dL_errors_37 : decode cL_errors 37 = .ok (.if_icmp .ne 63, 3) := by decide +kernel
theorem dL_errors_40 : decode cL_errors 40 = .ok (.aload_n 0, 1) := by decide +kernel
theorem dL_errors_41 : decode cL_errors 41 = .ok (.bipush 100, 2) := by decide +kernel
theorem dL_errors_43 : decode cL_errors 43 = .ok (.invokevirtual 82, 3) := by decide +kernel
theorem dL_errors_46 : decode cL_errors 46 = .ok (.bipush (-2), 2) := by decide +kernel
theorem dL_errors_48 : decode cL_errors 48 = .ok (.if_icmp .ne 52, 3) := by decide +kernel
theorem dL_errors_51 : decode cL_errors 51 = .ok (.aload_n 0, 1) := by decide +kernel
theorem dL_errors_52 : decode cL_errors 52 = .ok (.iconst 1, 1) := by decide +kernel
theorem dL_errors_53 : decode cL_errors 53 = .ok (.iconst 2, 1) := by decide +kernel
theorem dL_errors_54 : decode cL_errors 54 = .ok (.invokevirtual 95, 3) := by decide +kernel
theorem dL_errors_57 : decode cL_errors 57 = .ok (.bipush (-2), 2) := by decide +kernel
theorem dL_errors_59 : decode cL_errors 59 = .ok (.if_icmp .ne 41, 3) := by decide +kernel
theorem dL_errors_62 : decode cL_errors 62 = .ok (.aload_n 0, 1) := by decide +kernel
theorem dL_errors_63 : decode cL_errors 63 = .ok (.bipush 6, 2) := by decide +kernel
theorem dL_errors_65 : decode cL_errors 65 = .ok (.bipush 9, 2) := by decide +kernel
theorem dL_errors_67 : decode cL_errors 67 = .ok (.invokevirtual 95, 3) := by decide +kernel
theorem dL_errors_70 : decode cL_errors 70 = .ok (.bipush (-2), 2) := by decide +kernel
theorem dL_errors_72 : decode cL_errors 72 = .ok (.if_icmp .ne 28, 3) := by decide +kernel
theorem dL_errors_75 : decode cL_errors 75 = .ok (.aload_n 0, 1) := by decide +kernel
theorem dL_errors_76 : decode cL_errors 76 = .ok (.iconst 2, 1) := by decide +kernel
theorem dL_errors_77 : decode cL_errors 77 = .ok (.iconst 0, 1) := by decide +kernel
theorem dL_errors_78 : decode cL_errors 78 = .ok (.invokevirtual 45, 3) := by decide +kernel
theorem dL_errors_81 : decode cL_errors 81 = .ok (.iconst (-1), 1) := by decide +kernel
theorem dL_errors_82 : decode cL_errors 82 = .ok (.if_icmp .ne 18, 3) := by decide +kernel
theorem dL_errors_85 : decode cL_errors 85 = .ok (.aload_n 0, 1) := by decide +kernel
theorem dL_errors_86 : decode cL_errors 86 = .ok (.iconst 0, 1) := by decide +kernel
theorem dL_errors_87 : decode cL_errors 87 = .ok (.iconst 2, 1) := by decide +kernel
theorem dL_errors_88 : decode cL_errors 88 = .ok (.invokevirtual 56, 3) := by decide +kernel
theorem dL_errors_91 : decode cL_errors 91 = .ok (.bipush (-2), 2) := by decide +kernel
theorem dL_errors_93 : decode cL_errors 93 = .ok (.if_icmp .ne 7, 3) := by decide +kernel
theorem dL_errors_96 : decode cL_errors 96 = .ok (.iconst 1, 1) := by decide +kernel
theorem dL_errors_97 : decode cL_errors 97 = .ok (.goto 4, 3) := by decide +kernel
theorem dL_errors_100 : decode cL_errors 100 = .ok (.iconst 0, 1) := by decide +kernel
theorem dL_errors_101 : decode cL_errors 101 = .ok (.istore_n 1, 1) := by decide +kernel
theorem dL_errors_102 : decode cL_errors 102 = .ok (.aload_n 0, 1) := by decide +kernel
theorem dL_errors_103 : decode cL_errors 103 = .ok (.iconst 2, 1) := by decide +kernel
theorem dL_errors_104 : decode cL_errors 104 = .ok (.iconst 0, 1) := by decide +kernel
theorem dL_errors_105 : decode cL_errors 105 = .ok (.invokevirtual 52, 3) := by decide +kernel
theorem dL_errors_108 : decode cL_errors 108 = .ok (.fstore_n 2, 1) := by decide +kernel
theorem dL_errors_109 : decode cL_errors 109 = .ok (.aload_n 0, 1) := by decide +kernel
theorem dL_errors_110 : decode cL_errors 110 = .ok (.iconst 0, 1) := by decide +kernel
theorem dL_errors_111 : decode cL_errors 111 = .ok (.iconst (-1), 1) := by decide +kernel
theorem dL_errors_112 : decode cL_errors 112 = .ok (.iconst 0, 1) := by decide +kernel
theorem dL_errors_113 : decode cL_errors 113 = .ok (.invokevirtual 39, 3) := by decide +kernel
theorem dL_errors_116 : decode cL_errors 116 = .ok (.fstore_n 3, 1) := by decide +kernel
theorem dL_errors_117 : decode cL_errors 117 = .ok (.iload_n 1, 1) := by decide +kernel
theorem dL_errors_118 : decode cL_errors 118 = .ok (.ifCond .eq 101, 3) := by decide +kernel
theorem dL_errors_121 : decode cL_errors 121 = .ok (.fload_n 2, 1) := by decide +kernel
theorem dL_errors_122 : decode cL_errors 122 = .ok (.fload_n 2, 1) := by decide +kernel
theorem dL_errors_123 : decode cL_errors 123 = .ok (.fcmp .l, 1) := by decide +kernel
theorem dL_errors_124 : decode cL_errors 124 = .ok (.ifCond .eq 95, 3) := by decide +kernel
theorem dL_errors_127 : decode cL_errors 127 = .ok (.fload_n 3, 1) := by decide +kernel
theorem dL_errors_128 : decode cL_errors 128 = .ok (.fload_n 3, 1) := by decide +kernel
theorem dL_errors_129 : decode cL_errors 129 = .ok (.fcmp .l, 1) := by decide +kernel
theorem dL_errors_130 : decode cL_errors 130 = .ok (.ifCond .eq 89, 3) := by decide +kernel
theorem dL_errors_133 : decode cL_errors 133 = .ok (.aload_n 0, 1) := by decide +kernel
theorem dL_errors_134 : decode cL_errors 134 = .ok (.iconst 3, 1) := by decide +kernel
theorem dL_errors_135 : decode cL_errors 135 = .ok (.iconst 0, 1) := by decide +kernel
theorem dL_errors_136 : decode cL_errors 136 = .ok (.invokevirtual 98, 3) := by decide +kernel
theorem dL_errors_139 : decode cL_errors 139 = .ok (.bipush (-2), 2) := by decide +kernel
theorem dL_errors_141 : decode cL_errors 141 = .ok (.if_icmp .ne 78, 3) := by decide +kernel
theorem dL_errors_144 : decode cL_errors 144 = .ok (.aload_n 0, 1) := by decide +kernel
theorem dL_errors_145 : decode cL_errors 145 = .ok (.iconst 0, 1) := by decide +kernel
theorem dL_errors_146 : decode cL_errors 146 = .ok (.ldc 101, 2) := by decide +kernel
theorem dL_errors_148 : decode cL_errors 148 = .ok (.invokevirtual 98, 3) := by decide +kernel
theorem dL_errors_151 : decode cL_errors 151 = .ok (.bipush (-2), 2) := by decide +kernel
theorem dL_errors_153 : decode cL_errors 153 = .ok (.if_icmp .ne 66, 3) := by decide +kernel
theorem dL_errors_156 : decode cL_errors 156 = .ok (.aload_n 0, 1) := by decide +kernel
theorem dL_errors_157 : decode cL_errors 157 = .ok (.iconst 2, 1) := by decide +kernel
theorem dL_errors_158 : decode cL_errors 158 = .ok (.ldc 102, 2) := by decide +kernel
theorem dL_errors_160 : decode cL_errors 160 = .ok (.invokevirtual 98, 3) := by decide +kernel
theorem dL_errors_163 : decode cL_errors 163 = .ok (.bipush (-2), 2) := by decide +kernel
theorem dL_errors_165 : decode cL_errors 165 = .ok (.if_icmp .ne 54, 3) := by decide +kernel
theorem dL_errors_168 : decode cL_errors 168 = .ok (.aload_n 0, 1) := by decide +kernel
theorem dL_errors_169 : decode cL_errors 169 = .ok (.iconst 0, 1) := by decide +kernel
theorem dL_errors_170 : decode cL_errors 170 = .ok (.ldc 103, 2) := by decide +kernel
theorem dL_errors_172 : decode cL_errors 172 = .ok (.invokevirtual 98, 3) := by decide +kernel
theorem dL_errors_175 : decode cL_errors 175 = .ok (.bipush (-2), 2) := by decide +kernel
theorem dL_errors_177 : decode cL_errors 177 = .ok (.if_icmp .ne 42, 3) := by decide +kernel
theorem dL_errors_180 : decode cL_errors 180 = .ok (.aload_n 0, 1) := by decide +kernel
theorem dL_errors_181 : decode cL_errors 181 = .ok (.iconst 0, 1) := by decide +kernel
theorem dL_errors_182 : decode cL_errors 182 = .ok (.ldc 104, 2) := by decide +kernel
theorem dL_errors_184 : decode cL_errors 184 = .ok (.invokevirtual 98, 3) := by decide +kernel
theorem dL_errors_187 : decode cL_errors 187 = .ok (.bipush (-5), 2) := by decide +kernel
theorem dL_errors_189 : decode cL_errors 189 = .ok (.if_icmp .ne 30, 3) := by decide +kernel
theorem dL_errors_192 : decode cL_errors 192 = .ok (.aload_n 0, 1) := by decide +kernel
theorem dL_errors_193 : decode cL_errors 193 = .ok (.iconst 0, 1) := by decide +kernel
theorem dL_errors_194 : decode cL_errors 194 = .ok (.bipush 65, 2) := by decide +kernel
theorem dL_errors_196 : decode cL_errors 196 = .ok (.invokevirtual 88, 3) := by decide +kernel
theorem dL_errors_199 : decode cL_errors 199 = .ok (.bipush (-2), 2) := by decide +kernel
theorem dL_errors_201 : decode cL_errors 201 = .ok (.if_icmp .ne 18, 3) := by decide +kernel
theorem dL_errors_204 : decode cL_errors 204 = .ok (.aload_n 0, 1) := by decide +kernel
theorem dL_errors_205 : decode cL_errors 205 = .ok (.iconst (-1), 1) := by decide +kernel
theorem dL_errors_206 : decode cL_errors 206 = .ok (.bipush 97, 2) := by decide +kernel
theorem dL_errors_208 : decode cL_errors 208 = .ok (.invokevirtual 88, 3) := by decide +kernel
theorem dL_errors_211 : decode cL_errors 211 = .ok (.iconst (-1), 1) := by decide +kernel
theorem dL_errors_212 : decode cL_errors 212 = .ok (.if_icmp .ne 7, 3) := by decide +kernel
theorem dL_errors_215 : decode cL_errors 215 = .ok (.iconst 1, 1) := by decide +kernel
theorem dL_errors_216 : decode cL_errors 216 = .ok (.goto 4, 3) := by decide +kernel
theorem dL_errors_219 : decode cL_errors 219 = .ok (.iconst 0, 1) := by decide +kernel
theorem dL_errors_220 : decode cL_errors 220 = .ok (.istore_n 1, 1) := by decide +kernel
theorem dL_errors_221 : decode cL_errors 221 = .ok (.aload_n 0, 1) := by decide +kernel
theorem dL_errors_222 : decode cL_errors 222 = .ok (.invokevirtual 105, 3) := by decide +kernel
theorem dL_errors_225 : decode cL_errors 225 = .ok (.pop, 1) := by decide +kernel
theorem dL_errors_226 : decode cL_errors 226 = .ok (.iload_n 1, 1) := by decide +kernel
theorem dL_errors_227 : decode cL_errors 227 = .ok (.ifCond .eq 16, 3) := by decide +kernel
theorem dL_errors_230 : decode cL_errors 230 = .ok (.aload_n 0, 1) := by decide +kernel
theorem dL_errors_231 : decode cL_errors 231 = .ok (.invokevirtual 109, 3) := by decide +kernel
theorem dL_errors_234 : decode cL_errors 234 = .ok (.bipush (-100), 2) := by decide +kernel
theorem dL_errors_236 : decode cL_errors 236 = .ok (.if_icmp .ne 7, 3) := by decide +kernel
theorem dL_errors_239 : decode cL_errors 239 = .ok (.iconst 1, 1) := by decide +kernel
theorem dL_errors_240 : decode cL_errors 240 = .ok (.goto 4, 3) := by decide +kernel
theorem dL_errors_243 : decode cL_errors 243 = .ok (.iconst 0, 1) := by decide +kernel
theorem dL_errors_244 : decode cL_errors 244 = .ok (.istore_n 1, 1) := by decide +kernel
theorem dL_errors_245 : decode cL_errors 245 = .ok (.aload_n 0, 1) := by decide +kernel
theorem dL_errors_246 : decode cL_errors 246 = .ok (.bipush 116, 2) := by decide +kernel
theorem dL_errors_248 : decode cL_errors 248 = .ok (.invokevirtual 112, 3) := by decide +kernel
theorem dL_errors_251 : decode cL_errors 251 = .ok (.pop, 1) := by decide +kernel
theorem dL_errors_252 : decode cL_errors 252 = .ok (.iload_n 1, 1) := by decide +kernel
theorem dL_errors_253 : decode cL_errors 253 = .ok (.ifCond .eq 16, 3) := by decide +kernel
theorem dL_errors_256 : decode cL_errors 256 = .ok (.aload_n 0, 1) := by decide +kernel
theorem dL_errors_257 : decode cL_errors 257 = .ok (.invokevirtual 109, 3) := by decide +kernel
theorem dL_errors_260 : decode cL_errors 260 = .ok (.bipush (-101), 2) := by decide +kernel
theorem dL_errors_262 : decode cL_errors 262 = .ok (.if_icmp .ne 7, 3) := by decide +kernel
theorem dL_errors_265 : decode cL_errors 265 = .ok (.iconst 1, 1) := by decide +kernel
theorem dL_errors_266 : decode cL_errors 266 = .ok (.goto 4, 3) := by decide +kernel
theorem dL_errors_269 : decode cL_errors 269 = .ok (.iconst 0, 1) := by decide +kernel
theorem dL_errors_270 : decode cL_errors 270 = .ok (.istore_n 1, 1) := by decide +kernel
theorem dL_errors_271 : decode cL_errors 271 = .ok (.aload_n 0, 1) := by decide +kernel
theorem dL_errors_272 : decode cL_errors 272 = .ok (.bipush 48, 2) := by decide +kernel
theorem dL_errors_274 : decode cL_errors 274 = .ok (.invokevirtual 112, 3) := by decide +kernel
theorem dL_errors_277 : decode cL_errors 277 = .ok (.pop, 1) := by decide +kernel
theorem dL_errors_278 : decode cL_errors 278 = .ok (.iload_n 1, 1) := by decide +kernel
theorem dL_errors_279 : decode cL_errors 279 = .ok (.ifCond .eq 24, 3) := by decide +kernel
theorem dL_errors_282 : decode cL_errors 282 = .ok (.aload_n 0, 1) := by decide +kernel
theorem dL_errors_283 : decode cL_errors 283 = .ok (.invokevirtual 109, 3) := by decide +kernel
theorem dL_errors_286 : decode cL_errors 286 = .ok (.bipush (-101), 2) := by decide +kernel
theorem dL_errors_288 : decode cL_errors 288 = .ok (.if_icmp .ne 15, 3) := by decide +kernel
theorem dL_errors_291 : decode cL_errors 291 = .ok (.aload_n 0, 1) := by decide +kernel
theorem dL_errors_292 : decode cL_errors 292 = .ok (.invokevirtual 105, 3) := by decide +kernel
theorem dL_errors_295 : decode cL_errors 295 = .ok (.iconst 2, 1) := by decide +kernel
theorem dL_errors_296 : decode cL_errors 296 = .ok (.if_icmp .ne 7, 3) := by decide +kernel
theorem dL_errors_299 : decode cL_errors 299 = .ok (.iconst 1, 1) := by decide +kernel
theorem dL_errors_300 : decode cL_errors 300 = .ok (.goto 4, 3) := by decide +kernel
theorem dL_errors_303 : decode cL_errors 303 = .ok (.iconst 0, 1) := by decide +kernel
theorem dL_errors_304 : decode cL_errors 304 = .ok (.istore_n 1, 1) := by decide +kernel
theorem dL_errors_305 : decode cL_errors 305 = .ok (.aload_n 0, 1) := by decide +kernel
theorem dL_errors_306 : decode cL_errors 306 = .ok (.bipush 48, 2) := by decide +kernel
theorem dL_errors_308 : decode cL_errors 308 = .ok (.invokevirtual 112, 3) := by decide +kernel
theorem dL_errors_311 : decode cL_errors 311 = .ok (.pop, 1) := by decide +kernel
theorem dL_errors_312 : decode cL_errors 312 = .ok (.aload_n 0, 1) := by decide +kernel
theorem dL_errors_313 : decode cL_errors 313 = .ok (.bipush 100, 2) := by decide +kernel
theorem dL_errors_315 : decode cL_errors 315 = .ok (.invokevirtual 112, 3) := by decide +kernel
theorem dL_errors_318 : decode cL_errors 318 = .ok (.pop, 1) := by decide +kernel
theorem dL_errors_319 : decode cL_errors 319 = .ok (.aload_n 0, 1) := by decide +kernel
theorem dL_errors_320 : decode cL_errors 320 = .ok (.bipush 48, 2) := by decide +kernel
theorem dL_errors_322 : decode cL_errors 322 = .ok (.invokevirtual 112, 3) := by decide +kernel
theorem dL_errors_325 : decode cL_errors 325 = .ok (.pop, 1) := by decide +kernel
theorem dL_errors_326 : decode cL_errors 326 = .ok (.aload_n 0, 1) := by decide +kernel
theorem dL_errors_327 : decode cL_errors 327 = .ok (.bipush 53, 2) := by decide +kernel
theorem dL_errors_329 : decode cL_errors 329 = .ok (.invokevirtual 112, 3) := by decide +kernel
theorem dL_errors_332 : decode cL_errors 332 = .ok (.pop, 1) := by decide +kernel
theorem dL_errors_333 : decode cL_errors 333 = .ok (.iload_n 1, 1) := by decide +kernel
theorem dL_errors_334 : decode cL_errors 334 = .ok (.ifCond .eq 37, 3) := by decide +kernel
theorem dL_errors_337 : decode cL_errors 337 = .ok (.aload_n 0, 1) := by decide +kernel
theorem dL_errors_338 : decode cL_errors 338 = .ok (.invokevirtual 109, 3) := by decide +kernel
theorem dL_errors_341 : decode cL_errors 341 = .ok (.bipush (-103), 2) := by decide +kernel
theorem dL_errors_343 : decode cL_errors 343 = .ok (.if_icmp .ne 28, 3) := by decide +kernel
theorem dL_errors_346 : decode cL_errors 346 = .ok (.aload_n 0, 1) := by decide +kernel
theorem dL_errors_347 : decode cL_errors 347 = .ok (.bipush 15, 2) := by decide +kernel
theorem dL_errors_349 : decode cL_errors 349 = .ok (.invokevirtual 9, 3) := by decide +kernel
theorem dL_errors_352 : decode cL_errors 352 = .ok (.iconst 4, 1) := by decide +kernel
theorem dL_errors_353 : decode cL_errors 353 = .ok (.if_icmp .ne 18, 3) := by decide +kernel
theorem dL_errors_356 : decode cL_errors 356 = .ok (.aload_n 0, 1) := by decide +kernel
theorem dL_errors_357 : decode cL_errors 357 = .ok (.bipush 16, 2) := by decide +kernel
theorem dL_errors_359 : decode cL_errors 359 = .ok (.invokevirtual 9, 3) := by decide +kernel
theorem dL_errors_362 : decode cL_errors 362 = .ok (.bipush (-2), 2) := by decide +kernel
theorem dL_errors_364 : decode cL_errors 364 = .ok (.if_icmp .ne 7, 3) := by decide +kernel
theorem dL_errors_367 : decode cL_errors 367 = .ok (.iconst 1, 1) := by decide +kernel
theorem dL_errors_368 : decode cL_errors 368 = .ok (.goto 4, 3) := by decide +kernel
theorem dL_errors_371 : decode cL_errors 371 = .ok (.iconst 0, 1) := by decide +kernel
theorem dL_errors_372 : decode cL_errors 372 = .ok (.istore_n 1, 1) := by decide +kernel
theorem dL_errors_373 : decode cL_errors 373 = .ok (.aload_n 0, 1) := by decide +kernel
theorem dL_errors_374 : decode cL_errors 374 = .ok (.iconst 0, 1) := by decide +kernel
theorem dL_errors_375 : decode cL_errors 375 = .ok (.invokevirtual 9, 3) := by decide +kernel
theorem dL_errors_378 : decode cL_errors 378 = .ok (.istore 4, 2) := by decide +kernel
theorem dL_errors_380 : decode cL_errors 380 = .ok (.aload_n 0, 1) := by decide +kernel
theorem dL_errors_381 : decode cL_errors 381 = .ok (.bipush 14, 2) := by decide +kernel
theorem dL_errors_383 : decode cL_errors 383 = .ok (.invokevirtual 9, 3) := by decide +kernel
theorem dL_errors_386 : decode cL_errors 386 = .ok (.istore 5, 2) := by decide +kernel
theorem dL_errors_388 : decode cL_errors 388 = .ok (.iload_n 1, 1) := by decide +kernel
theorem dL_errors_389 : decode cL_errors 389 = .ok (.ifCond .eq 38, 3) := by decide +kernel
theorem dL_errors_392 : decode cL_errors 392 = .ok (.aload_n 0, 1) := by decide +kernel
theorem dL_errors_393 : decode cL_errors 393 = .ok (.invokevirtual 116, 3) := by decide +kernel
theorem dL_errors_396 : decode cL_errors 396 = .ok (.iload 5, 2) := by decide +kernel
theorem dL_errors_398 : decode cL_errors 398 = .ok (.ifCond .le 10, 3) := by decide +kernel
theorem dL_errors_401 : decode cL_errors 401 = .ok (.iload 5, 2) := by decide +kernel
theorem dL_errors_403 : decode cL_errors 403 = .ok (.iconst 1, 1) := by decide +kernel
theorem dL_errors_404 : decode cL_errors 404 = .ok (.isub, 1) := by decide +kernel
theorem dL_errors_405 : decode cL_errors 405 = .ok (.goto 5, 3) := by decide +kernel
theorem dL_errors_408 : decode cL_errors 408 = .ok (.bipush (-5), 2) := by decide +kernel
theorem dL_errors_410 : decode cL_errors 410 = .ok (.if_icmp .ne 17, 3) := by decide +kernel
theorem dL_errors_413 : decode cL_errors 413 = .ok (.aload_n 0, 1) := by decide +kernel
theorem dL_errors_414 : decode cL_errors 414 = .ok (.iconst 0, 1) := by decide +kernel
theorem dL_errors_415 : decode cL_errors 415 = .ok (.invokevirtual 9, 3) := by decide +kernel
theorem dL_errors_418 : decode cL_errors 418 = .ok (.iload 4, 2) := by decide +kernel
theorem dL_errors_420 : decode cL_errors 420 = .ok (.if_icmp .gt 7, 3) := by decide +kernel
theorem dL_errors_423 : decode cL_errors 423 = .ok (.iconst 1, 1) := by decide +kernel
theorem dL_errors_424 : decode cL_errors 424 = .ok (.goto 4, 3) := by decide +kernel
theorem dL_errors_427 : decode cL_errors 427 = .ok (.iconst 0, 1) := by decide +kernel
theorem dL_errors_428 : decode cL_errors 428 = .ok (.ireturn, 1) := by decide +kernel
theorem dL_law_0 : decode cL_law 0 = .ok (.new 10, 3) := by decide +kernel
theorem dL_law_3 : decode cL_law 3 = .ok (.dup, 1) := by decide +kernel
theorem dL_law_4 : decode cL_law 4 = .ok (.invokespecial 119, 3) := by decide +kernel
theorem dL_law_7 : decode cL_law 7 = .ok (.astore_n 1, 1) := by decide +kernel
theorem dL_law_8 : decode cL_law 8 = .ok (.iconst 2, 1) := by decide +kernel
theorem dL_law_9 : decode cL_law 9 = .ok (.aload_n 0, 1) := by decide +kernel
theorem dL_law_10 : decode cL_law 10 = .ok (.iconst 0, 1) := by decide +kernel
theorem dL_law_11 : decode cL_law 11 = .ok (.invokestatic 120, 3) := by decide +kernel
theorem dL_law_14 : decode cL_law 14 = .ok (.iconst 3, 1) := by decide +kernel
theorem dL_law_15 : decode cL_law 15 = .ok (.invokestatic 73, 3) := by decide +kernel
theorem dL_law_18 : decode cL_law 18 = .ok (.iadd, 1) := by decide +kernel
theorem dL_law_19 : decode cL_law 19 = .ok (.istore_n 2, 1) := by decide +kernel
theorem dL_law_20 : decode cL_law 20 = .ok (.iconst 2, 1) := by decide +kernel
theorem dL_law_21 : decode cL_law 21 = .ok (.aload_n 0, 1) := by decide +kernel
theorem dL_law_22 : decode cL_law 22 = .ok (.iconst 0, 1) := by decide +kernel
theorem dL_law_23 : decode cL_law 23 = .ok (.invokestatic 120, 3) := by decide +kernel
theorem dL_law_26 : decode cL_law 26 = .ok (.iconst 4, 1) := by decide +kernel
theorem dL_law_27 : decode cL_law 27 = .ok (.ishr, 1) := by decide +kernel
theorem dL_law_28 : decode cL_law 28 = .ok (.iconst 4, 1) := by decide +kernel
theorem dL_law_29 : decode cL_law 29 = .ok (.invokestatic 73, 3) := by decide +kernel
theorem dL_law_32 : decode cL_law 32 = .ok (.iadd, 1) := by decide +kernel
theorem dL_law_33 : decode cL_law 33 = .ok (.istore_n 3, 1) := by decide +kernel
theorem dL_law_34 : decode cL_law 34 = .ok (.aload_n 1, 1) := by decide +kernel
theorem dL_law_35 : decode cL_law 35 = .ok (.invokevirtual 116, 3) := by decide +kernel
theorem dL_law_38 : decode cL_law 38 = .ok (.bipush (-5), 2) := by decide +kernel
theorem dL_law_40 : decode cL_law 40 = .ok (.if_icmp .ne 40, 3) := by decide +kernel
theorem dL_law_43 : decode cL_law 43 = .ok (.aload_n 1, 1) := by decide +kernel
theorem dL_law_44 : decode cL_law 44 = .ok (.invokevirtual 124, 3) := by decide +kernel
theorem dL_law_47 : decode cL_law 47 = .ok (.bipush (-5), 2) := by decide +kernel
theorem dL_law_49 : decode cL_law 49 = .ok (.if_icmp .ne 31, 3) := by decide +kernel
theorem dL_law_52 : decode cL_law 52 = .ok (.aload_n 1, 1) := by decide +kernel
theorem dL_law_53 : decode cL_law 53 = .ok (.iload_n 2, 1) := by decide +kernel
theorem dL_law_54 : decode cL_law 54 = .ok (.iload_n 3, 1) := by decide +kernel
theorem dL_law_55 : decode cL_law 55 = .ok (.invokevirtual 95, 3) := by decide +kernel
theorem dL_law_58 : decode cL_law 58 = .ok (.iload_n 2, 1) := by decide +kernel
theorem dL_law_59 : decode cL_law 59 = .ok (.iconst 4, 1) := by decide +kernel
theorem dL_law_60 : decode cL_law 60 = .ok (.if_icmp .ne 14, 3) := by decide +kernel
theorem dL_law_63 : decode cL_law 63 = .ok (.iload_n 3, 1) := by decide +kernel
theorem dL_law_64 : decode cL_law 64 = .ok (.bipush 6, 2) := by decide +kernel
theorem dL_law_66 : decode cL_law 66 = .ok (.if_icmp .ne 8, 3) := by decide +kernel
theorem dL_law_69 : decode cL_law 69 = .ok (.bipush (-5), 2) := by decide +kernel
theorem dL_law_71 : decode cL_law 71 = .ok (.goto 6, 3) := by decide +kernel
theorem dL_law_74 : decode cL_law 74 = .ok (.iload_n 2, 1) := by decide +kernel
theorem dL_law_75 : decode cL_law 75 = .ok (.iload_n 3, 1) := by decide +kernel
theorem dL_law_76 : decode cL_law 76 = .ok (.imul, 1) := by decide +kernel
theorem dL_law_77 : decode cL_law 77 = .ok (.if_icmp .eq 5, 3) := by decide +kernel
theorem dL_law_80 : decode cL_law 80 = .ok (.iconst 0, 1) := by decide +kernel
theorem dL_law_81 : decode cL_law 81 = .ok (.ireturn, 1) := by decide +kernel
theorem dL_law_82 : decode cL_law 82 = .ok (.iconst 0, 1) := by decide +kernel
theorem dL_law_83 : decode cL_law 83 = .ok (.istore 4, 2) := by decide +kernel
theorem dL_law_85 : decode cL_law 85 = .ok (.iload 4, 2) := by decide +kernel
theorem dL_law_87 : decode cL_law 87 = .ok (.bipush 36, 2) := by decide +kernel
theorem dL_law_89 : decode cL_law 89 = .ok (.if_icmp .ge 59, 3) := by decide +kernel
theorem dL_law_92 : decode cL_law 92 = .ok (.aload_n 1, 1) := by decide +kernel
theorem dL_law_93 : decode cL_law 93 = .ok (.aload_n 0, 1) := by decide +kernel
theorem dL_law_94 : decode cL_law 94 = .ok (.iconst 1, 1) := by decide +kernel
theorem dL_law_95 : decode cL_law 95 = .ok (.iconst 2, 1) := by decide +kernel
theorem dL_law_96 : decode cL_law 96 = .ok (.iload 4, 2) := by decide +kernel
theorem dL_law_98 : decode cL_law 98 = .ok (.imul, 1) := by decide +kernel
theorem dL_law_99 : decode cL_law 99 = .ok (.iadd, 1) := by decide +kernel
theorem dL_law_100 : decode cL_law 100 = .ok (.invokestatic 120, 3) := by decide +kernel
theorem dL_law_103 : decode cL_law 103 = .ok (.aload_n 0, 1) := by decide +kernel
theorem dL_law_104 : decode cL_law 104 = .ok (.iconst 2, 1) := by decide +kernel
theorem dL_law_105 : decode cL_law 105 = .ok (.iconst 2, 1) := by decide +kernel
theorem dL_law_106 : decode cL_law 106 = .ok (.iload 4, 2) := by decide +kernel
theorem dL_law_108 : decode cL_law 108 = .ok (.imul, 1) := by decide +kernel
theorem dL_law_109 : decode cL_law 109 = .ok (.iadd, 1) := by decide +kernel
theorem dL_law_110 : decode cL_law 110 = .ok (.invokestatic 120, 3) := by decide +kernel
theorem dL_law_113 : decode cL_law 113 = .ok (.invokestatic 127, 3) := by decide +kernel
theorem dL_law_116 : decode cL_law 116 = .ok (.ifCond .eq 24, 3) := by decide +kernel
theorem dL_law_119 : decode cL_law 119 = .ok (.aload_n 1, 1) := by decide +kernel
theorem dL_law_120 : decode cL_law 120 = .ok (.invokestatic 130, 3) := by decide +kernel
theorem dL_law_123 : decode cL_law 123 = .ok (.ifCond .eq 17, 3) := by decide +kernel
theorem dL_law_126 : decode cL_law 126 = .ok (.aload_n 1, 1) := by decide +kernel
theorem dL_law_127 : decode cL_law 127 = .ok (.invokestatic 134, 3) := by decide +kernel
theorem dL_law_130 : decode cL_law 130 = .ok (.ifCond .eq 10, 3) := by decide +kernel
theorem dL_law_133 : decode cL_law 133 = .ok (.aload_n 1, 1) := by decide +kernel
theorem dL_law_134 : decode cL_law 134 = .ok (.invokestatic 137, 3) := by decide +kernel
theorem dL_law_137 : decode cL_law 137 = .ok (.ifCond .ne 5, 3) := by decide +kernel
theorem dL_law_140 : decode cL_law 140 = .ok (.iconst 0, 1) := by decide +kernel
theorem dL_law_141 : decode cL_law 141 = .ok (.ireturn, 1) := by decide +kernel
theorem dL_law_142 : decode cL_law 142 = .ok (.iinc 4 1, 3) := by decide +kernel
theorem dL_law_145 : decode cL_law 145 = .ok (.goto (-60), 3) := by decide +kernel
theorem dL_law_148 : decode cL_law 148 = .ok (.aload_n 1, 1) := by decide +kernel
theorem dL_law_149 : decode cL_law 149 = .ok (.aload_n 0, 1) := by decide +kernel
theorem dL_law_150 : decode cL_law 150 = .ok (.iconst 1, 1) := by decide +kernel
theorem dL_law_151 : decode cL_law 151 = .ok (.invokestatic 120, 3) := by decide +kernel
theorem dL_law_154 : decode cL_law 154 = .ok (.aload_n 1, 1) := by decide +kernel
theorem dL_law_155 : decode cL_law 155 = .ok (.invokestatic 15, 3) := by decide +kernel
theorem dL_law_158 : decode cL_law 158 = .ok (.invokestatic 73, 3) := by decide +kernel
theorem dL_law_161 : decode cL_law 161 = .ok (.invokestatic 140, 3) := by decide +kernel
theorem dL_law_164 : decode cL_law 164 = .ok (.ifCond .eq 33, 3) := by decide +kernel
theorem dL_law_167 : decode cL_law 167 = .ok (.aload_n 1, 1) := by decide +kernel
theorem dL_law_168 : decode cL_law 168 = .ok (.aload_n 0, 1) := by decide +kernel
theorem dL_law_169 : decode cL_law 169 = .ok (.iconst 2, 1) := by decide +kernel
theorem dL_law_170 : decode cL_law 170 = .ok (.invokestatic 120, 3) := by decide +kernel
theorem dL_law_173 : decode cL_law 173 = .ok (.aload_n 1, 1) := by decide +kernel
theorem dL_law_174 : decode cL_law 174 = .ok (.invokestatic 15, 3) := by decide +kernel
theorem dL_law_177 : decode cL_law 177 = .ok (.invokestatic 73, 3) := by decide +kernel
theorem dL_law_180 : decode cL_law 180 = .ok (.invokestatic 140, 3) := by decide +kernel
theorem dL_law_183 : decode cL_law 183 = .ok (.ifCond .eq 14, 3) := by decide +kernel
theorem dL_law_186 : decode cL_law 186 = .ok (.aload_n 1, 1) := by decide +kernel
theorem dL_law_187 : decode cL_law 187 = .ok (.invokestatic 143, 3) := by decide +kernel
theorem dL_law_190 : decode cL_law 190 = .ok (.ifCond .eq 7, 3) := by decide +kernel
theorem dL_law_193 : decode cL_law 193 = .ok (.iconst 1, 1) := by decide +kernel
theorem dL_law_194 : decode cL_law 194 = .ok (.goto 4, 3) := by decide +kernel
theorem dL_law_197 : decode cL_law 197 = .ok (.iconst 0, 1) := by decide +kernel
theorem dL_law_198 : decode cL_law 198 = .ok (.ireturn, 1) := by decide +kernel

theorem dX9_init_0 : decode cX9_init 0 = .ok (.aload_n 0, 1) := by decide +kernel
theorem dX9_init_1 : decode cX9_init 1 = .ok (.invokespecial 1, 3) := by decide +kernel
theorem dX9_init_4 : decode cX9_init 4 = .ok (.aload_n 0, 1) := by decide +kernel
theorem dX9_init_5 : decode cX9_init 5 = .ok (.sipush 592, 3) := by decide +kernel
theorem dX9_init_8 : decode cX9_init 8 = .ok (.newarray .int, 2) := by decide +kernel
theorem dX9_init_10 : decode cX9_init 10 = .ok (.putfield 7, 3) := by decide +kernel
theorem dX9_init_13 : decode cX9_init 13 = .ok (.aload_n 0, 1) := by decide +kernel
theorem dX9_init_14 : decode cX9_init 14 = .ok (.sipush 2368, 3) := by decide +kernel
theorem dX9_init_17 : decode cX9_init 17 = .ok (.newarray .int, 2) := by decide +kernel
theorem dX9_init_19 : decode cX9_init 19 = .ok (.putfield 13, 3) := by decide +kernel
theorem dX9_init_22 : decode cX9_init 22 = .ok (.aload_n 0, 1) := by decide +kernel
theorem dX9_init_23 : decode cX9_init 23 = .ok (.sipush 592, 3) := by decide +kernel
theorem dX9_init_26 : decode cX9_init 26 = .ok (.newarray .int, 2) := by decide +kernel
theorem dX9_init_28 : decode cX9_init 28 = .ok (.putfield 16, 3) := by decide +kernel
theorem dX9_init_31 : decode cX9_init 31 = .ok (.aload_n 0, 1) := by decide +kernel
theorem dX9_init_32 : decode cX9_init 32 = .ok (.sipush 592, 3) := by decide +kernel
theorem dX9_init_35 : decode cX9_init 35 = .ok (.newarray .int, 2) := by decide +kernel
theorem dX9_init_37 : decode cX9_init 37 = .ok (.putfield 19, 3) := by decide +kernel
theorem dX9_init_40 : decode cX9_init 40 = .ok (.aload_n 0, 1) := by decide +kernel
theorem dX9_init_41 : decode cX9_init 41 = .ok (.bipush 7, 2) := by decide +kernel
theorem dX9_init_43 : decode cX9_init 43 = .ok (.newarray .float, 2) := by decide +kernel
theorem dX9_init_45 : decode cX9_init 45 = .ok (.putfield 22, 3) := by decide +kernel
theorem dX9_init_48 : decode cX9_init 48 = .ok (.aload_n 0, 1) := by decide +kernel
theorem dX9_init_49 : decode cX9_init 49 = .ok (.bipush 28, 2) := by decide +kernel
theorem dX9_init_51 : decode cX9_init 51 = .ok (.newarray .float, 2) := by decide +kernel
theorem dX9_init_53 : decode cX9_init 53 = .ok (.putfield 26, 3) := by decide +kernel
theorem dX9_init_56 : decode cX9_init 56 = .ok (.aload_n 0, 1) := by decide +kernel
theorem dX9_init_57 : decode cX9_init 57 = .ok (.bipush 7, 2) := by decide +kernel
theorem dX9_init_59 : decode cX9_init 59 = .ok (.newarray .float, 2) := by decide +kernel
theorem dX9_init_61 : decode cX9_init 61 = .ok (.putfield 29, 3) := by decide +kernel
theorem dX9_init_64 : decode cX9_init 64 = .ok (.aload_n 0, 1) := by decide +kernel
theorem dX9_init_65 : decode cX9_init 65 = .ok (.bipush 7, 2) := by decide +kernel
theorem dX9_init_67 : decode cX9_init 67 = .ok (.newarray .float, 2) := by decide +kernel
theorem dX9_init_69 : decode cX9_init 69 = .ok (.putfield 32, 3) := by decide +kernel
theorem dX9_init_72 : decode cX9_init 72 = .ok (.aload_n 0, 1) := by decide +kernel
theorem dX9_init_73 : decode cX9_init 73 = .ok (.bipush 60, 2) := by decide +kernel
theorem dX9_init_75 : decode cX9_init 75 = .ok (.newarray .char, 2) := by decide +kernel
theorem dX9_init_77 : decode cX9_init 77 = .ok (.putfield 35, 3) := by decide +kernel
theorem dX9_init_80 : decode cX9_init 80 = .ok (.aload_n 0, 1) := by decide +kernel
theorem dX9_init_81 : decode cX9_init 81 = .ok (.getfield 7, 3) := by decide +kernel
theorem dX9_init_84 : decode cX9_init 84 = .ok (.iconst 0, 1) := by decide +kernel
theorem dX9_init_85 : decode cX9_init 85 = .ok (.iconst 4, 1) := by decide +kernel
theorem dX9_init_86 : decode cX9_init 86 = .ok (.iastore, 1) := by decide +kernel
theorem dX9_init_87 : decode cX9_init 87 = .ok (.aload_n 0, 1) := by decide +kernel
theorem dX9_init_88 : decode cX9_init 88 = .ok (.getfield 7, 3) := by decide +kernel
theorem dX9_init_91 : decode cX9_init 91 = .ok (.iconst 1, 1) := by decide +kernel
theorem dX9_init_92 : decode cX9_init 92 = .ok (.bipush 6, 2) := by decide +kernel
theorem dX9_init_94 : decode cX9_init 94 = .ok (.iastore, 1) := by decide +kernel
theorem dX9_init_95 : decode cX9_init 95 = .ok (.iconst 0, 1) := by decide +kernel
theorem dX9_init_96 : decode cX9_init 96 = .ok (.istore_n 1, 1) := by decide +kernel
theorem dX9_init_97 : decode cX9_init 97 = .ok (.iload_n 1, 1) := by decide +kernel
theorem dX9_init_98 : decode cX9_init 98 = .ok (.iconst 2, 1) := by decide +kernel
theorem dX9_init_99 : decode cX9_init 99 = .ok (.if_icmp .ge 61, 3) := by decide +kernel
theorem dX9_init_102 : decode cX9_init 102 = .ok (.aload_n 0, 1) := by decide +kernel
theorem dX9_init_103 : decode cX9_init 103 = .ok (.getfield 7, 3) := by decide +kernel
theorem dX9_init_106 : decode cX9_init 106 = .ok (.iconst 3, 1) := by decide +kernel
theorem dX9_init_107 : decode cX9_init 107 = .ok (.iload_n 1, 1) := by decide +kernel
theorem dX9_init_108 : decode cX9_init 108 = .ok (.iadd, 1) := by decide +kernel
theorem dX9_init_109 : decode cX9_init 109 = .ok (.bipush (-5), 2) := by decide +kernel
theorem dX9_init_111 : decode cX9_init 111 = .ok (.iastore, 1) := by decide +kernel
theorem dX9_init_112 : decode cX9_init 112 = .ok (.aload_n 0, 1) := by decide +kernel
theorem dX9_init_113 : decode cX9_init 113 = .ok (.getfield 7, 3) := by decide +kernel
theorem dX9_init_116 : decode cX9_init 116 = .ok (.iconst 5, 1) := by decide +kernel
theorem dX9_init_117 : decode cX9_init 117 = .ok (.iload_n 1, 1) := by decide +kernel
theorem dX9_init_118 : decode cX9_init 118 = .ok (.iadd, 1) := by decide +kernel
theorem dX9_init_119 : decode cX9_init 119 = .ok (.bipush (-5), 2) := by decide +kernel
theorem dX9_init_121 : decode cX9_init 121 = .ok (.iastore, 1) := by decide +kernel
theorem dX9_init_122 : decode cX9_init 122 = .ok (.aload_n 0, 1) := by decide +kernel
theorem dX9_init_123 : decode cX9_init 123 = .ok (.getfield 22, 3) := by decide +kernel
theorem dX9_init_126 : decode cX9_init 126 = .ok (.iconst 0, 1) := by decide +kernel
theorem dX9_init_127 : decode cX9_init 127 = .ok (.iload_n 1, 1) := by decide +kernel
theorem dX9_init_128 : decode cX9_init 128 = .ok (.iadd, 1) := by decide +kernel
theorem dX9_init_129 : decode cX9_init 129 = .ok (.ldc 39, 2) := by decide +kernel
theorem dX9_init_131 : decode cX9_init 131 = .ok (.ldc 39, 2) := by decide +kernel
theorem dX9_init_133 : decode cX9_init 133 = .ok (.iload_n 1, 1) := by decide +kernel
theorem dX9_init_134 : decode cX9_init 134 = .ok (.i2f, 1) := by decide +kernel
theorem dX9_init_135 : decode cX9_init 135 = .ok (.fmul, 1) := by decide +kernel
theorem dX9_init_136 : decode cX9_init 136 = .ok (.fadd, 1) := by decide +kernel
theorem dX9_init_137 : decode cX9_init 137 = .ok (.fastore, 1) := by decide +kernel
theorem dX9_init_138 : decode cX9_init 138 = .ok (.aload_n 0, 1) := by decide +kernel
theorem dX9_init_139 : decode cX9_init 139 = .ok (.getfield 22, 3) := by decide +kernel
theorem dX9_init_142 : decode cX9_init 142 = .ok (.iconst 2, 1) := by decide +kernel
theorem dX9_init_143 : decode cX9_init 143 = .ok (.iload_n 1, 1) := by decide +kernel
theorem dX9_init_144 : decode cX9_init 144 = .ok (.iadd, 1) := by decide +kernel
theorem dX9_init_145 : decode cX9_init 145 = .ok (.ldc 40, 2) := by decide +kernel
theorem dX9_init_147 : decode cX9_init 147 = .ok (.ldc 39, 2) := by decide +kernel
theorem dX9_init_149 : decode cX9_init 149 = .ok (.iload_n 1, 1) := by decide +kernel
theorem dX9_init_150 : decode cX9_init 150 = .ok (.i2f, 1) := by decide +kernel
theorem dX9_init_151 : decode cX9_init 151 = .ok (.fmul, 1) := by decide +kernel
theorem dX9_init_152 : decode cX9_init 152 = .ok (.fadd, 1) := by decide +kernel
theorem dX9_init_153 : decode cX9_init 153 = .ok (.fastore, 1) := by decide +kernel
theorem dX9_init_154 : decode cX9_init 154 = .ok (.iinc 1 1, 3) := by decide +kernel
theorem dX9_init_157 : decode cX9_init 157 = .ok (.goto (-60), 3) := by decide +kernel
theorem dX9_init_160 : decode cX9_init 160 = .ok (.aload_n 0, 1) := by decide +kernel
theorem dX9_init_161 : decode cX9_init 161 = .ok (.getfield 22, 3) := by decide +kernel
theorem dX9_init_164 : decode cX9_init 164 = .ok (.iconst 4, 1) := by decide +kernel
theorem dX9_init_165 : decode cX9_init 165 = .ok (.ldc 41, 2) := by decide +kernel
theorem dX9_init_167 : decode cX9_init 167 = .ok (.fastore, 1) := by decide +kernel
theorem dX9_init_168 : decode cX9_init 168 = .ok (.aload_n 0, 1) := by decide +kernel
theorem dX9_init_169 : decode cX9_init 169 = .ok (.getfield 22, 3) := by decide +kernel
theorem dX9_init_172 : decode cX9_init 172 = .ok (.iconst 5, 1) := by decide +kernel
theorem dX9_init_173 : decode cX9_init 173 = .ok (.ldc 42, 2) := by decide +kernel
theorem dX9_init_175 : decode cX9_init 175 = .ok (.fastore, 1) := by decide +kernel
theorem dX9_init_176 : decode cX9_init 176 = .ok (.aload_n 0, 1) := by decide +kernel
theorem dX9_init_177 : decode cX9_init 177 = .ok (.getfield 22, 3) := by decide +kernel
theorem dX9_init_180 : decode cX9_init 180 = .ok (.bipush 6, 2) := by decide +kernel
theorem dX9_init_182 : decode cX9_init 182 = .ok (.ldc 43, 2) := by decide +kernel
theorem dX9_init_184 : decode cX9_init 184 = .ok (.fastore, 1) := by decide +kernel
theorem dX9_init_185 : decode cX9_init 185 = .ok (.aload_n 0, 1) := by decide +kernel
theorem dX9_init_186 : decode cX9_init 186 = .ok (.invokevirtual 44, 3) := by decide +kernel
theorem dX9_init_189 : decode cX9_init 189 = .ok (.return_, 1) := by decide +kernel
theorem dX9_clearKeys_0 : decode cX9_clearKeys 0 = .ok (.iconst 0, 1) := by decide +kernel
theorem dX9_clearKeys_1 : decode cX9_clearKeys 1 = .ok (.istore_n 1, 1) := by decide +kernel
theorem dX9_clearKeys_2 : decode cX9_clearKeys 2 = .ok (.iload_n 1, 1) := by decide +kernel
theorem dX9_clearKeys_3 : decode cX9_clearKeys 3 = .ok (.bipush 48, 2) := by decide +kernel
theorem dX9_clearKeys_5 : decode cX9_clearKeys 5 = .ok (.if_icmp .ge 76, 3) := by decide +kernel
theorem dX9_clearKeys_8 : decode cX9_clearKeys 8 = .ok (.aload_n 0, 1) := by decide +kernel
theorem dX9_clearKeys_9 : decode cX9_clearKeys 9 = .ok (.getfield 7, 3) := by decide +kernel
theorem dX9_clearKeys_12 : decode cX9_clearKeys 12 = .ok (.bipush 20, 2) := by decide +kernel
theorem dX9_clearKeys_14 : decode cX9_clearKeys 14 = .ok (.iload_n 1, 1) := by decide +kernel
theorem dX9_clearKeys_15 : decode cX9_clearKeys 15 = .ok (.iadd, 1) := by decide +kernel
theorem dX9_clearKeys_16 : decode cX9_clearKeys 16 = .ok (.bipush (-5), 2) := by decide +kernel
theorem dX9_clearKeys_18 : decode cX9_clearKeys 18 = .ok (.iastore, 1) := by decide +kernel
theorem dX9_clearKeys_19 : decode cX9_clearKeys 19 = .ok (.aload_n 0, 1) := by decide +kernel
theorem dX9_clearKeys_20 : decode cX9_clearKeys 20 = .ok (.getfield 7, 3) := by decide +kernel
theorem dX9_clearKeys_23 : decode cX9_clearKeys 23 = .ok (.bipush 68, 2) := by decide +kernel
theorem dX9_clearKeys_25 : decode cX9_clearKeys 25 = .ok (.iload_n 1, 1) := by decide +kernel
theorem dX9_clearKeys_26 : decode cX9_clearKeys 26 = .ok (.iadd, 1) := by decide +kernel
theorem dX9_clearKeys_27 : decode cX9_clearKeys 27 = .ok (.bipush (-5), 2) := by decide +kernel
theorem dX9_clearKeys_29 : decode cX9_clearKeys 29 = .ok (.iastore, 1) := by decide +kernel
theorem dX9_clearKeys_30 : decode cX9_clearKeys 30 = .ok (.aload_n 0, 1) := by decide +kernel
theorem dX9_clearKeys_31 : decode cX9_clearKeys 31 = .ok (.getfield 7, 3) := by decide +kernel
theorem dX9_clearKeys_34 : decode cX9_clearKeys 34 = .ok (.bipush 116, 2) := by decide +kernel
theorem dX9_clearKeys_36 : decode cX9_clearKeys 36 = .ok (.iload_n 1, 1) := by decide +kernel
theorem dX9_clearKeys_37 : decode cX9_clearKeys 37 = .ok (.iadd, 1) := by decide +kernel
theorem dX9_clearKeys_38 : decode cX9_clearKeys 38 = .ok (.iconst 0, 1) := by decide +kernel
theorem dX9_clearKeys_39 : decode cX9_clearKeys 39 = .ok (.iastore, 1) := by decide +kernel
theorem dX9_clearKeys_40 : decode cX9_clearKeys 40 = .ok (.aload_n 0, 1) := by decide +kernel
theorem dX9_clearKeys_41 : decode cX9_clearKeys 41 = .ok (.getfield 7, 3) := by decide +kernel
theorem dX9_clearKeys_44 : decode cX9_clearKeys 44 = .ok (.sipush 164, 3) := by decide +kernel
theorem dX9_clearKeys_47 : decode cX9_clearKeys 47 = .ok (.iload_n 1, 1) := by decide +kernel
theorem dX9_clearKeys_48 : decode cX9_clearKeys 48 = .ok (.iadd, 1) := by decide +kernel
theorem dX9_clearKeys_49 : decode cX9_clearKeys 49 = .ok (.iconst 0, 1) := by decide +kernel
theorem dX9_clearKeys_50 : decode cX9_clearKeys 50 = .ok (.iastore, 1) := by decide +kernel
theorem dX9_clearKeys_51 : decode cX9_clearKeys 51 = .ok (.aload_n 0, 1) := by decide +kernel
theorem dX9_clearKeys_52 : decode cX9_clearKeys 52 = .ok (.getfield 7, 3) := by decide +kernel
theorem dX9_clearKeys_55 : decode cX9_clearKeys 55 = .ok (.sipush 212, 3) := by decide +kernel
theorem dX9_clearKeys_58 : decode cX9_clearKeys 58 = .ok (.iload_n 1, 1) := by decide +kernel
theorem dX9_clearKeys_59 : decode cX9_clearKeys 59 = .ok (.iadd, 1) := by decide +kernel
theorem dX9_clearKeys_60 : decode cX9_clearKeys 60 = .ok (.bipush (-5), 2) := by decide +kernel
theorem dX9_clearKeys_62 : decode cX9_clearKeys 62 = .ok (.iastore, 1) := by decide +kernel
theorem dX9_clearKeys_63 : decode cX9_clearKeys 63 = .ok (.aload_n 0, 1) := by decide +kernel
theorem dX9_clearKeys_64 : decode cX9_clearKeys 64 = .ok (.getfield 7, 3) := by decide +kernel
theorem dX9_clearKeys_67 : decode cX9_clearKeys 67 = .ok (.sipush 260, 3) := by decide +kernel
theorem dX9_clearKeys_70 : decode cX9_clearKeys 70 = .ok (.iload_n 1, 1) := by decide +kernel
theorem dX9_clearKeys_71 : decode cX9_clearKeys 71 = .ok (.iadd, 1) := by decide +kernel
theorem dX9_clearKeys_72 : decode cX9_clearKeys 72 = .ok (.bipush 46, 2) := by decide +kernel
theorem dX9_clearKeys_74 : decode cX9_clearKeys 74 = .ok (.iastore, 1) := by decide +kernel
theorem dX9_clearKeys_75 : decode cX9_clearKeys 75 = .ok (.iinc 1 1, 3) := by decide +kernel
theorem dX9_clearKeys_78 : decode cX9_clearKeys 78 = .ok (.goto (-76), 3) := by decide +kernel
theorem dX9_clearKeys_81 : decode cX9_clearKeys 81 = .ok (.return_, 1) := by decide +kernel
theorem dX9_in_0 : decode cX9_in 0 = .ok (.iload_n 0, 1) := by decide +kernel
theorem dX9_in_1 : decode cX9_in 1 = .ok (.iload_n 1, 1) := by decide +kernel
theorem dX9_in_2 : decode cX9_in 2 = .ok (.if_icmp .lt 12, 3) := by decide +kernel
theorem dX9_in_5 : decode cX9_in 5 = .ok (.iload_n 0, 1) := by decide +kernel
theorem dX9_in_6 : decode cX9_in 6 = .ok (.iload_n 2, 1) := by decide +kernel
theorem dX9_in_7 : decode cX9_in 7 = .ok (.if_icmp .gt 7, 3) := by decide +kernel
theorem dX9_in_10 : decode cX9_in 10 = .ok (.iconst 1, 1) := by decide +kernel
theorem dX9_in_11 : decode cX9_in 11 = .ok (.goto 4, 3) := by decide +kernel
theorem dX9_in_14 : decode cX9_in 14 = .ok (.iconst 0, 1) := by decide +kernel
theorem dX9_in_15 : decode cX9_in 15 = .ok (.ireturn, 1) := by decide +kernel
theorem dX9_remember_0 : decode cX9_remember 0 = .ok (.iconst 0, 1) := by decide +kernel
theorem dX9_remember_1 : decode cX9_remember 1 = .ok (.istore_n 1, 1) := by decide +kernel
theorem dX9_remember_2 : decode cX9_remember 2 = .ok (.iload_n 1, 1) := by decide +kernel
theorem dX9_remember_3 : decode cX9_remember 3 = .ok (.sipush 592, 3) := by decide +kernel
theorem dX9_remember_6 : decode cX9_remember 6 = .ok (.if_icmp .ge 21, 3) := by decide +kernel
theorem dX9_remember_9 : decode cX9_remember 9 = .ok (.aload_n 0, 1) := by decide +kernel
theorem dX9_remember_10 : decode cX9_remember 10 = .ok (.getfield 19, 3) := by decide +kernel
theorem dX9_remember_13 : decode cX9_remember 13 = .ok (.iload_n 1, 1) := by decide +kernel
theorem dX9_remember_14 : decode cX9_remember 14 = .ok (.aload_n 0, 1) := by decide +kernel
theorem dX9_remember_15 : decode cX9_remember 15 = .ok (.getfield 7, 3) := by decide +kernel
theorem dX9_remember_18 : decode cX9_remember 18 = .ok (.iload_n 1, 1) := by decide +kernel
theorem dX9_remember_19 : decode cX9_remember 19 = .ok (.iaload, 1) := by decide +kernel
theorem dX9_remember_20 : decode cX9_remember 20 = .ok (.iastore, 1) := by decide +kernel
theorem dX9_remember_21 : decode cX9_remember 21 = .ok (.iinc 1 1, 3) := by decide +kernel
theorem dX9_remember_24 : decode cX9_remember 24 = .ok (.goto (-22), 3) := by decide +kernel
theorem dX9_remember_27 : decode cX9_remember 27 = .ok (.iconst 0, 1) := by decide +kernel
theorem dX9_remember_28 : decode cX9_remember 28 = .ok (.istore_n 1, 1) := by decide +kernel
theorem dX9_remember_29 : decode cX9_remember 29 = .ok (.iload_n 1, 1) := by decide +kernel
theorem dX9_remember_30 : decode cX9_remember 30 = .ok (.bipush 7, 2) := by decide +kernel
theorem dX9_remember_32 : decode cX9_remember 32 = .ok (.if_icmp .ge 21, 3) := by decide +kernel
theorem dX9_remember_35 : decode cX9_remember 35 = .ok (.aload_n 0, 1) := by decide +kernel
theorem dX9_remember_36 : decode cX9_remember 36 = .ok (.getfield 32, 3) := by decide +kernel
theorem dX9_remember_39 : decode cX9_remember 39 = .ok (.iload_n 1, 1) := by decide +kernel
theorem dX9_remember_40 : decode cX9_remember 40 = .ok (.aload_n 0, 1) := by decide +kernel
theorem dX9_remember_41 : decode cX9_remember 41 = .ok (.getfield 22, 3) := by decide +kernel
theorem dX9_remember_44 : decode cX9_remember 44 = .ok (.iload_n 1, 1) := by decide +kernel
theorem dX9_remember_45 : decode cX9_remember 45 = .ok (.faload, 1) := by decide +kernel
theorem dX9_remember_46 : decode cX9_remember 46 = .ok (.fastore, 1) := by decide +kernel
theorem dX9_remember_47 : decode cX9_remember 47 = .ok (.iinc 1 1, 3) := by decide +kernel
theorem dX9_remember_50 : decode cX9_remember 50 = .ok (.goto (-21), 3) := by decide +kernel
theorem dX9_remember_53 : decode cX9_remember 53 = .ok (.return_, 1) := by decide +kernel
theorem dX9_goBack_0 : decode cX9_goBack 0 = .ok (.iconst 0, 1) := by decide +kernel
theorem dX9_goBack_1 : decode cX9_goBack 1 = .ok (.istore_n 1, 1) := by decide +kernel
theorem dX9_goBack_2 : decode cX9_goBack 2 = .ok (.iload_n 1, 1) := by decide +kernel
theorem dX9_goBack_3 : decode cX9_goBack 3 = .ok (.sipush 592, 3) := by decide +kernel
theorem dX9_goBack_6 : decode cX9_goBack 6 = .ok (.if_icmp .ge 21, 3) := by decide +kernel
theorem dX9_goBack_9 : decode cX9_goBack 9 = .ok (.aload_n 0, 1) := by decide +kernel
theorem dX9_goBack_10 : decode cX9_goBack 10 = .ok (.getfield 7, 3) := by decide +kernel
theorem dX9_goBack_13 : decode cX9_goBack 13 = .ok (.iload_n 1, 1) := by decide +kernel
theorem dX9_goBack_14 : decode cX9_goBack 14 = .ok (.aload_n 0, 1) := by decide +kernel
theorem dX9_goBack_15 : decode cX9_goBack 15 = .ok (.getfield 19, 3) := by decide +kernel
theorem dX9_goBack_18 : decode cX9_goBack 18 = .ok (.iload_n 1, 1) := by decide +kernel
theorem dX9_goBack_19 : decode cX9_goBack 19 = .ok (.iaload, 1) := by decide +kernel
theorem dX9_goBack_20 : decode cX9_goBack 20 = .ok (.iastore, 1) := by decide +kernel
theorem dX9_goBack_21 : decode cX9_goBack 21 = .ok (.iinc 1 1, 3) := by decide +kernel
theorem dX9_goBack_24 : decode cX9_goBack 24 = .ok (.goto (-22), 3) := by decide +kernel
theorem dX9_goBack_27 : decode cX9_goBack 27 = .ok (.iconst 0, 1) := by decide +kernel
theorem dX9_goBack_28 : decode cX9_goBack 28 = .ok (.istore_n 1, 1) := by decide +kernel
theorem dX9_goBack_29 : decode cX9_goBack 29 = .ok (.iload_n 1, 1) := by decide +kernel
theorem dX9_goBack_30 : decode cX9_goBack 30 = .ok (.bipush 7, 2) := by decide +kernel
theorem dX9_goBack_32 : decode cX9_goBack 32 = .ok (.if_icmp .ge 21, 3) := by decide +kernel
theorem dX9_goBack_35 : decode cX9_goBack 35 = .ok (.aload_n 0, 1) := by decide +kernel
theorem dX9_goBack_36 : decode cX9_goBack 36 = .ok (.getfield 22, 3) := by decide +kernel
theorem dX9_goBack_39 : decode cX9_goBack 39 = .ok (.iload_n 1, 1) := by decide +kernel
theorem dX9_goBack_40 : decode cX9_goBack 40 = .ok (.aload_n 0, 1) := by decide +kernel
theorem dX9_goBack_41 : decode cX9_goBack 41 = .ok (.getfield 32, 3) := by decide +kernel
theorem dX9_goBack_44 : decode cX9_goBack 44 = .ok (.iload_n 1, 1) := by decide +kernel
theorem dX9_goBack_45 : decode cX9_goBack 45 = .ok (.faload, 1) := by decide +kernel
theorem dX9_goBack_46 : decode cX9_goBack 46 = .ok (.fastore, 1) := by decide +kernel
theorem dX9_goBack_47 : decode cX9_goBack 47 = .ok (.iinc 1 1, 3) := by decide +kernel
theorem dX9_goBack_50 : decode cX9_goBack 50 = .ok (.goto (-21), 3) := by decide +kernel
theorem dX9_goBack_53 : decode cX9_goBack 53 = .ok (.return_, 1) := by decide +kernel
theorem dX9_record_0 : decode cX9_record 0 = .ok (.aload_n 0, 1) := by decide +kernel
theorem dX9_record_1 : decode cX9_record 1 = .ok (.getfield 47, 3) := by decide +kernel
theorem dX9_record_4 : decode cX9_record 4 = .ok (.iconst 4, 1) := by decide +kernel
theorem dX9_record_5 : decode cX9_record 5 = .ok (.if_icmp .ne 73, 3) := by decide +kernel
theorem dX9_record_8 : decode cX9_record 8 = .ok (.iconst 0, 1) := by decide +kernel
theorem dX9_record_9 : decode cX9_record 9 = .ok (.istore_n 1, 1) := by decide +kernel
theorem dX9_record_10 : decode cX9_record 10 = .ok (.iload_n 1, 1) := by decide +kernel
theorem dX9_record_11 : decode cX9_record 11 = .ok (.sipush 1776, 3) := by decide +kernel
theorem dX9_record_14 : decode cX9_record 14 = .ok (.if_icmp .ge 25, 3) := by decide +kernel
theorem dX9_record_17 : decode cX9_record 17 = .ok (.aload_n 0, 1) := by decide +kernel
theorem dX9_record_18 : decode cX9_record 18 = .ok (.getfield 13, 3) := by decide +kernel
theorem dX9_record_21 : decode cX9_record 21 = .ok (.iload_n 1, 1) := by decide +kernel
theorem dX9_record_22 : decode cX9_record 22 = .ok (.aload_n 0, 1) := by decide +kernel
theorem dX9_record_23 : decode cX9_record 23 = .ok (.getfield 13, 3) := by decide +kernel
theorem dX9_record_26 : decode cX9_record 26 = .ok (.sipush 592, 3) := by decide +kernel
theorem dX9_record_29 : decode cX9_record 29 = .ok (.iload_n 1, 1) := by decide +kernel
theorem dX9_record_30 : decode cX9_record 30 = .ok (.iadd, 1) := by decide +kernel
theorem dX9_record_31 : decode cX9_record 31 = .ok (.iaload, 1) := by decide +kernel
theorem dX9_record_32 : decode cX9_record 32 = .ok (.iastore, 1) := by decide +kernel
theorem dX9_record_33 : decode cX9_record 33 = .ok (.iinc 1 1, 3) := by decide +kernel
theorem dX9_record_36 : decode cX9_record 36 = .ok (.goto (-26), 3) := by decide +kernel
theorem dX9_record_39 : decode cX9_record 39 = .ok (.iconst 0, 1) := by decide +kernel
theorem dX9_record_40 : decode cX9_record 40 = .ok (.istore_n 1, 1) := by decide +kernel
theorem dX9_record_41 : decode cX9_record 41 = .ok (.iload_n 1, 1) := by decide +kernel
theorem dX9_record_42 : decode cX9_record 42 = .ok (.bipush 21, 2) := by decide +kernel
theorem dX9_record_44 : decode cX9_record 44 = .ok (.if_icmp .ge 24, 3) := by decide +kernel
theorem dX9_record_47 : decode cX9_record 47 = .ok (.aload_n 0, 1) := by decide +kernel
theorem dX9_record_48 : decode cX9_record 48 = .ok (.getfield 26, 3) := by decide +kernel
theorem dX9_record_51 : decode cX9_record 51 = .ok (.iload_n 1, 1) := by decide +kernel
theorem dX9_record_52 : decode cX9_record 52 = .ok (.aload_n 0, 1) := by decide +kernel
theorem dX9_record_53 : decode cX9_record 53 = .ok (.getfield 26, 3) := by decide +kernel
theorem dX9_record_56 : decode cX9_record 56 = .ok (.bipush 7, 2) := by decide +kernel
theorem dX9_record_58 : decode cX9_record 58 = .ok (.iload_n 1, 1) := by decide +kernel
theorem dX9_record_59 : decode cX9_record 59 = .ok (.iadd, 1) := by decide +kernel
theorem dX9_record_60 : decode cX9_record 60 = .ok (.faload, 1) := by decide +kernel
theorem dX9_record_61 : decode cX9_record 61 = .ok (.fastore, 1) := by decide +kernel
theorem dX9_record_62 : decode cX9_record 62 = .ok (.iinc 1 1, 3) := by decide +kernel
theorem dX9_record_65 : decode cX9_record 65 = .ok (.goto (-24), 3) := by decide +kernel
theorem dX9_record_68 : decode cX9_record 68 = .ok (.aload_n 0, 1) := by decide +kernel
theorem dX9_record_69 : decode cX9_record 69 = .ok (.dup, 1) := by decide +kernel
theorem dX9_record_70 : decode cX9_record 70 = .ok (.getfield 47, 3) := by decide +kernel
theorem dX9_record_73 : decode cX9_record 73 = .ok (.iconst 1, 1) := by decide +kernel
theorem dX9_record_74 : decode cX9_record 74 = .ok (.isub, 1) := by decide +kernel
theorem dX9_record_75 : decode cX9_record 75 = .ok (.putfield 47, 3) := by decide +kernel
theorem dX9_record_78 : decode cX9_record 78 = .ok (.iconst 0, 1) := by decide +kernel
theorem dX9_record_79 : decode cX9_record 79 = .ok (.istore_n 1, 1) := by decide +kernel
theorem dX9_record_80 : decode cX9_record 80 = .ok (.iload_n 1, 1) := by decide +kernel
theorem dX9_record_81 : decode cX9_record 81 = .ok (.sipush 592, 3) := by decide +kernel
theorem dX9_record_84 : decode cX9_record 84 = .ok (.if_icmp .ge 30, 3) := by decide +kernel
theorem dX9_record_87 : decode cX9_record 87 = .ok (.aload_n 0, 1) := by decide +kernel
theorem dX9_record_88 : decode cX9_record 88 = .ok (.getfield 13, 3) := by decide +kernel
theorem dX9_record_91 : decode cX9_record 91 = .ok (.sipush 592, 3) := by decide +kernel
theorem dX9_record_94 : decode cX9_record 94 = .ok (.aload_n 0, 1) := by decide +kernel
theorem dX9_record_95 : decode cX9_record 95 = .ok (.getfield 47, 3) := by decide +kernel
theorem dX9_record_98 : decode cX9_record 98 = .ok (.imul, 1) := by decide +kernel
theorem dX9_record_99 : decode cX9_record 99 = .ok (.iload_n 1, 1) := by decide +kernel
theorem dX9_record_100 : decode cX9_record 100 = .ok (.iadd, 1) := by decide +kernel
theorem dX9_record_101 : decode cX9_record 101 = .ok (.aload_n 0, 1) := by decide +kernel
theorem dX9_record_102 : decode cX9_record 102 = .ok (.getfield 19, 3) := by decide +kernel
theorem dX9_record_105 : decode cX9_record 105 = .ok (.iload_n 1, 1) := by decide +kernel
theorem dX9_record_106 : decode cX9_record 106 = .ok (.iaload, 1) := by decide +kernel
theorem dX9_record_107 : decode cX9_record 107 = .ok (.iastore, 1) := by decide +kernel
theorem dX9_record_108 : decode cX9_record 108 = .ok (.iinc 1 1, 3) := by decide +kernel
theorem dX9_record_111 : decode cX9_record 111 = .ok (.goto (-31), 3) := by decide +kernel
theorem dX9_record_114 : decode cX9_record 114 = .ok (.iconst 0, 1) := by decide +kernel
theorem dX9_record_115 : decode cX9_record 115 = .ok (.istore_n 1, 1) := by decide +kernel
theorem dX9_record_116 : decode cX9_record 116 = .ok (.iload_n 1, 1) := by decide +kernel
theorem dX9_record_117 : decode cX9_record 117 = .ok (.bipush 7, 2) := by decide +kernel
theorem dX9_record_119 : decode cX9_record 119 = .ok (.if_icmp .ge 29, 3) := by decide +kernel
theorem dX9_record_122 : decode cX9_record 122 = .ok (.aload_n 0, 1) := by decide +kernel
theorem dX9_record_123 : decode cX9_record 123 = .ok (.getfield 26, 3) := by decide +kernel
theorem dX9_record_126 : decode cX9_record 126 = .ok (.bipush 7, 2) := by decide +kernel
theorem dX9_record_128 : decode cX9_record 128 = .ok (.aload_n 0, 1) := by decide +kernel
theorem dX9_record_129 : decode cX9_record 129 = .ok (.getfield 47, 3) := by decide +kernel
theorem dX9_record_132 : decode cX9_record 132 = .ok (.imul, 1) := by decide +kernel
theorem dX9_record_133 : decode cX9_record 133 = .ok (.iload_n 1, 1) := by decide +kernel
theorem dX9_record_134 : decode cX9_record 134 = .ok (.iadd, 1) := by decide +kernel
theorem dX9_record_135 : decode cX9_record 135 = .ok (.aload_n 0, 1) := by decide +kernel
theorem dX9_record_136 : decode cX9_record 136 = .ok (.getfield 32, 3) := by decide +kernel
theorem dX9_record_139 : decode cX9_record 139 = .ok (.iload_n 1, 1) := by decide +kernel
theorem dX9_record_140 : decode cX9_record 140 = .ok (.faload, 1) := by decide +kernel
theorem dX9_record_141 : decode cX9_record 141 = .ok (.fastore, 1) := by decide +kernel
theorem dX9_record_142 : decode cX9_record 142 = .ok (.iinc 1 1, 3) := by decide +kernel
theorem dX9_record_145 : decode cX9_record 145 = .ok (.goto (-29), 3) := by decide +kernel
theorem dX9_record_148 : decode cX9_record 148 = .ok (.aload_n 0, 1) := by decide +kernel
theorem dX9_record_149 : decode cX9_record 149 = .ok (.dup, 1) := by decide +kernel
theorem dX9_record_150 : decode cX9_record 150 = .ok (.getfield 47, 3) := by decide +kernel
theorem dX9_record_153 : decode cX9_record 153 = .ok (.iconst 1, 1) := by decide +kernel
theorem dX9_record_154 : decode cX9_record 154 = .ok (.iadd, 1) := by decide +kernel
theorem dX9_record_155 : decode cX9_record 155 = .ok (.putfield 47, 3) := by decide +kernel
theorem dX9_record_158 : decode cX9_record 158 = .ok (.return_, 1) := by decide +kernel
theorem dX9_begin_0 : decode cX9_begin 0 = .ok (.aload_n 0, 1) := by decide +kernel
theorem dX9_begin_1 : decode cX9_begin 1 = .ok (.invokevirtual 51, 3) := by decide +kernel
theorem dX9_begin_4 : decode cX9_begin 4 = .ok (.aload_n 0, 1) := by decide +kernel
theorem dX9_begin_5 : decode cX9_begin 5 = .ok (.invokevirtual 54, 3) := by decide +kernel
theorem dX9_begin_8 : decode cX9_begin 8 = .ok (.return_, 1) := by decide +kernel
theorem dX9_undo_0 : decode cX9_undo 0 = .ok (.aload_n 0, 1) := by decide +kernel
theorem dX9_undo_1 : decode cX9_undo 1 = .ok (.getfield 47, 3) := by decide +kernel
theorem dX9_undo_4 : decode cX9_undo 4 = .ok (.ifCond .ne 6, 3) := by decide +kernel
theorem dX9_undo_7 : decode cX9_undo 7 = .ok (.bipush (-5), 2) := by decide +kernel
theorem dX9_undo_9 : decode cX9_undo 9 = .ok (.ireturn, 1) := by decide +kernel
theorem dX9_undo_10 : decode cX9_undo 10 = .ok (.aload_n 0, 1) := by decide +kernel
theorem dX9_undo_11 : decode cX9_undo 11 = .ok (.dup, 1) := by decide +kernel
theorem dX9_undo_12 : decode cX9_undo 12 = .ok (.getfield 47, 3) := by decide +kernel
theorem dX9_undo_15 : decode cX9_undo 15 = .ok (.iconst 1, 1) := by decide +kernel
theorem dX9_undo_16 : decode cX9_undo 16 = .ok (.isub, 1) := by decide +kernel
theorem dX9_undo_17 : decode cX9_undo 17 = .ok (.putfield 47, 3) := by decide +kernel
theorem dX9_undo_20 : decode cX9_undo 20 = .ok (.iconst 0, 1) := by decide +kernel
theorem dX9_undo_21 : decode cX9_undo 21 = .ok (.istore_n 1, 1) := by decide +kernel
theorem dX9_undo_22 : decode cX9_undo 22 = .ok (.iload_n 1, 1) := by decide +kernel
theorem dX9_undo_23 : decode cX9_undo 23 = .ok (.sipush 592, 3) := by decide +kernel
theorem dX9_undo_26 : decode cX9_undo 26 = .ok (.if_icmp .ge 30, 3) := by decide +kernel
theorem dX9_undo_29 : decode cX9_undo 29 = .ok (.aload_n 0, 1) := by decide +kernel
theorem dX9_undo_30 : decode cX9_undo 30 = .ok (.getfield 7, 3) := by decide +kernel
theorem dX9_undo_33 : decode cX9_undo 33 = .ok (.iload_n 1, 1) := by decide +kernel
theorem dX9_undo_34 : decode cX9_undo 34 = .ok (.aload_n 0, 1) := by decide +kernel
theorem dX9_undo_35 : decode cX9_undo 35 = .ok (.getfield 13, 3) := by decide +kernel
theorem dX9_undo_38 : decode cX9_undo 38 = .ok (.sipush 592, 3) := by decide +kernel
theorem dX9_undo_41 : decode cX9_undo 41 = .ok (.aload_n 0, 1) := by decide +kernel
theorem dX9_undo_42 : decode cX9_undo 42 = .ok (.getfield 47, 3) := by decide +kernel
theorem dX9_undo_45 : decode cX9_undo 45 = .ok (.imul, 1) := by decide +kernel
theorem dX9_undo_46 : decode cX9_undo 46 = .ok (.iload_n 1, 1) := by decide +kernel
theorem dX9_undo_47 : decode cX9_undo 47 = .ok (.iadd, 1) := by decide +kernel
theorem dX9_undo_48 : decode cX9_undo 48 = .ok (.iaload, 1) := by decide +kernel
theorem dX9_undo_49 : decode cX9_undo 49 = .ok (.iastore, 1) := by decide +kernel
theorem dX9_undo_50 : decode cX9_undo 50 = .ok (.iinc 1 1, 3) := by decide +kernel
theorem dX9_undo_53 : decode cX9_undo 53 = .ok (.goto (-31), 3) := by decide +kernel
theorem dX9_undo_56 : decode cX9_undo 56 = .ok (.iconst 0, 1) := by decide +kernel
theorem dX9_undo_57 : decode cX9_undo 57 = .ok (.istore_n 1, 1) := by decide +kernel
theorem dX9_undo_58 : decode cX9_undo 58 = .ok (.iload_n 1, 1) := by decide +kernel
theorem dX9_undo_59 : decode cX9_undo 59 = .ok (.bipush 7, 2) := by decide +kernel
theorem dX9_undo_61 : decode cX9_undo 61 = .ok (.if_icmp .ge 29, 3) := by decide +kernel
theorem dX9_undo_64 : decode cX9_undo 64 = .ok (.aload_n 0, 1) := by decide +kernel
theorem dX9_undo_65 : decode cX9_undo 65 = .ok (.getfield 22, 3) := by decide +kernel
theorem dX9_undo_68 : decode cX9_undo 68 = .ok (.iload_n 1, 1) := by decide +kernel
theorem dX9_undo_69 : decode cX9_undo 69 = .ok (.aload_n 0, 1) := by decide +kernel
theorem dX9_undo_70 : decode cX9_undo 70 = .ok (.getfield 26, 3) := by decide +kernel
theorem dX9_undo_73 : decode cX9_undo 73 = .ok (.bipush 7, 2) := by decide +kernel
theorem dX9_undo_75 : decode cX9_undo 75 = .ok (.aload_n 0, 1) := by decide +kernel
theorem dX9_undo_76 : decode cX9_undo 76 = .ok (.getfield 47, 3) := by decide +kernel
theorem dX9_undo_79 : decode cX9_undo 79 = .ok (.imul, 1) := by decide +kernel
theorem dX9_undo_80 : decode cX9_undo 80 = .ok (.iload_n 1, 1) := by decide +kernel
theorem dX9_undo_81 : decode cX9_undo 81 = .ok (.iadd, 1) := by decide +kernel
theorem dX9_undo_82 : decode cX9_undo 82 = .ok (.faload, 1) := by decide +kernel
theorem dX9_undo_83 : decode cX9_undo 83 = .ok (.fastore, 1) := by decide +kernel
theorem dX9_undo_84 : decode cX9_undo 84 = .ok (.iinc 1 1, 3) := by decide +kernel
theorem dX9_undo_87 : decode cX9_undo 87 = .ok (.goto (-29), 3) := by decide +kernel
theorem dX9_undo_90 : decode cX9_undo 90 = .ok (.aload_n 0, 1) := by decide +kernel
theorem dX9_undo_91 : decode cX9_undo 91 = .ok (.getfield 47, 3) := by decide +kernel
theorem dX9_undo_94 : decode cX9_undo 94 = .ok (.ireturn, 1) := by decide +kernel
theorem dX9_keep_0 : decode cX9_keep 0 = .ok (.iconst 0, 1) := by decide +kernel
theorem dX9_keep_1 : decode cX9_keep 1 = .ok (.istore_n 1, 1) := by decide +kernel
theorem dX9_keep_2 : decode cX9_keep 2 = .ok (.iload_n 1, 1) := by decide +kernel
theorem dX9_keep_3 : decode cX9_keep 3 = .ok (.sipush 592, 3) := by decide +kernel
theorem dX9_keep_6 : decode cX9_keep 6 = .ok (.if_icmp .ge 21, 3) := by decide +kernel
theorem dX9_keep_9 : decode cX9_keep 9 = .ok (.aload_n 0, 1) := by decide +kernel
theorem dX9_keep_10 : decode cX9_keep 10 = .ok (.getfield 16, 3) := by decide +kernel
theorem dX9_keep_13 : decode cX9_keep 13 = .ok (.iload_n 1, 1) := by decide +kernel
theorem dX9_keep_14 : decode cX9_keep 14 = .ok (.aload_n 0, 1) := by decide +kernel
theorem dX9_keep_15 : decode cX9_keep 15 = .ok (.getfield 7, 3) := by decide +kernel
theorem dX9_keep_18 : decode cX9_keep 18 = .ok (.iload_n 1, 1) := by decide +kernel
theorem dX9_keep_19 : decode cX9_keep 19 = .ok (.iaload, 1) := by decide +kernel
theorem dX9_keep_20 : decode cX9_keep 20 = .ok (.iastore, 1) := by decide +kernel
theorem dX9_keep_21 : decode cX9_keep 21 = .ok (.iinc 1 1, 3) := by decide +kernel
theorem dX9_keep_24 : decode cX9_keep 24 = .ok (.goto (-22), 3) := by decide +kernel
theorem dX9_keep_27 : decode cX9_keep 27 = .ok (.iconst 0, 1) := by decide +kernel
theorem dX9_keep_28 : decode cX9_keep 28 = .ok (.istore_n 1, 1) := by decide +kernel
theorem dX9_keep_29 : decode cX9_keep 29 = .ok (.iload_n 1, 1) := by decide +kernel
theorem dX9_keep_30 : decode cX9_keep 30 = .ok (.bipush 7, 2) := by decide +kernel
theorem dX9_keep_32 : decode cX9_keep 32 = .ok (.if_icmp .ge 21, 3) := by decide +kernel
theorem dX9_keep_35 : decode cX9_keep 35 = .ok (.aload_n 0, 1) := by decide +kernel
theorem dX9_keep_36 : decode cX9_keep 36 = .ok (.getfield 29, 3) := by decide +kernel
theorem dX9_keep_39 : decode cX9_keep 39 = .ok (.iload_n 1, 1) := by decide +kernel
theorem dX9_keep_40 : decode cX9_keep 40 = .ok (.aload_n 0, 1) := by decide +kernel
theorem dX9_keep_41 : decode cX9_keep 41 = .ok (.getfield 22, 3) := by decide +kernel
theorem dX9_keep_44 : decode cX9_keep 44 = .ok (.iload_n 1, 1) := by decide +kernel
theorem dX9_keep_45 : decode cX9_keep 45 = .ok (.faload, 1) := by decide +kernel
theorem dX9_keep_46 : decode cX9_keep 46 = .ok (.fastore, 1) := by decide +kernel
theorem dX9_keep_47 : decode cX9_keep 47 = .ok (.iinc 1 1, 3) := by decide +kernel
theorem dX9_keep_50 : decode cX9_keep 50 = .ok (.goto (-21), 3) := by decide +kernel
theorem dX9_keep_53 : decode cX9_keep 53 = .ok (.aload_n 0, 1) := by decide +kernel
theorem dX9_keep_54 : decode cX9_keep 54 = .ok (.iconst 1, 1) := by decide +kernel
theorem dX9_keep_55 : decode cX9_keep 55 = .ok (.putfield 57, 3) := by decide +kernel
theorem dX9_keep_58 : decode cX9_keep 58 = .ok (.aload_n 0, 1) := by decide +kernel
theorem dX9_keep_59 : decode cX9_keep 59 = .ok (.getfield 7, 3) := by decide +kernel
theorem dX9_keep_62 : decode cX9_keep 62 = .ok (.iconst 2, 1) := by decide +kernel
theorem dX9_keep_63 : decode cX9_keep 63 = .ok (.iaload, 1) := by decide +kernel
theorem dX9_keep_64 : decode cX9_keep 64 = .ok (.ireturn, 1) := by decide +kernel
theorem dX9_restore_0 : decode cX9_restore 0 = .ok (.aload_n 0, 1) := by decide +kernel
theorem dX9_restore_1 : decode cX9_restore 1 = .ok (.getfield 57, 3) := by decide +kernel
theorem dX9_restore_4 : decode cX9_restore 4 = .ok (.ifCond .ne 6, 3) := by decide +kernel
theorem dX9_restore_7 : decode cX9_restore 7 = .ok (.bipush (-5), 2) := by decide +kernel
theorem dX9_restore_9 : decode cX9_restore 9 = .ok (.ireturn, 1) := by decide +kernel
theorem dX9_restore_10 : decode cX9_restore 10 = .ok (.aload_n 0, 1) := by decide +kernel
theorem dX9_restore_11 : decode cX9_restore 11 = .ok (.invokevirtual 61, 3) := by decide +kernel
theorem dX9_restore_14 : decode cX9_restore 14 = .ok (.iconst 0, 1) := by decide +kernel
theorem dX9_restore_15 : decode cX9_restore 15 = .ok (.istore_n 1, 1) := by decide +kernel
theorem dX9_restore_16 : decode cX9_restore 16 = .ok (.iload_n 1, 1) := by decide +kernel
theorem dX9_restore_17 : decode cX9_restore 17 = .ok (.sipush 592, 3) := by decide +kernel
theorem dX9_restore_20 : decode cX9_restore 20 = .ok (.if_icmp .ge 21, 3) := by decide +kernel
theorem dX9_restore_23 : decode cX9_restore 23 = .ok (.aload_n 0, 1) := by decide +kernel
theorem dX9_restore_24 : decode cX9_restore 24 = .ok (.getfield 7, 3) := by decide +kernel
theorem dX9_restore_27 : decode cX9_restore 27 = .ok (.iload_n 1, 1) := by decide +kernel
theorem dX9_restore_28 : decode cX9_restore 28 = .ok (.aload_n 0, 1) := by decide +kernel
theorem dX9_restore_29 : decode cX9_restore 29 = .ok (.getfield 16, 3) := by decide +kernel
theorem dX9_restore_32 : decode cX9_restore 32 = .ok (.iload_n 1, 1) := by decide +kernel
theorem dX9_restore_33 : decode cX9_restore 33 = .ok (.iaload, 1) := by decide +kernel
theorem dX9_restore_34 : decode cX9_restore 34 = .ok (.iastore, 1) := by decide +kernel
theorem dX9_restore_35 : decode cX9_restore 35 = .ok (.iinc 1 1, 3) := by decide +kernel
theorem dX9_restore_38 : decode cX9_restore 38 = .ok (.goto (-22), 3) := by decide +kernel
theorem dX9_restore_41 : decode cX9_restore 41 = .ok (.iconst 0, 1) := by decide +kernel
theorem dX9_restore_42 : decode cX9_restore 42 = .ok (.istore_n 1, 1) := by decide +kernel
theorem dX9_restore_43 : decode cX9_restore 43 = .ok (.iload_n 1, 1) := by decide +kernel
theorem dX9_restore_44 : decode cX9_restore 44 = .ok (.bipush 7, 2) := by decide +kernel
theorem dX9_restore_46 : decode cX9_restore 46 = .ok (.if_icmp .ge 21, 3) := by decide +kernel
theorem dX9_restore_49 : decode cX9_restore 49 = .ok (.aload_n 0, 1) := by decide +kernel
theorem dX9_restore_50 : decode cX9_restore 50 = .ok (.getfield 22, 3) := by decide +kernel
theorem dX9_restore_53 : decode cX9_restore 53 = .ok (.iload_n 1, 1) := by decide +kernel
theorem dX9_restore_54 : decode cX9_restore 54 = .ok (.aload_n 0, 1) := by decide +kernel
theorem dX9_restore_55 : decode cX9_restore 55 = .ok (.getfield 29, 3) := by decide +kernel
theorem dX9_restore_58 : decode cX9_restore 58 = .ok (.iload_n 1, 1) := by decide +kernel
theorem dX9_restore_59 : decode cX9_restore 59 = .ok (.faload, 1) := by decide +kernel
theorem dX9_restore_60 : decode cX9_restore 60 = .ok (.fastore, 1) := by decide +kernel
theorem dX9_restore_61 : decode cX9_restore 61 = .ok (.iinc 1 1, 3) := by decide +kernel
theorem dX9_restore_64 : decode cX9_restore 64 = .ok (.goto (-21), 3) := by decide +kernel
theorem dX9_restore_67 : decode cX9_restore 67 = .ok (.aload_n 0, 1) := by decide +kernel
theorem dX9_restore_68 : decode cX9_restore 68 = .ok (.getfield 7, 3) := by decide +kernel
theorem dX9_restore_71 : decode cX9_restore 71 = .ok (.iconst 2, 1) := by decide +kernel
theorem dX9_restore_72 : decode cX9_restore 72 = .ok (.iaload, 1) := by decide +kernel
theorem dX9_restore_73 : decode cX9_restore 73 = .ok (.ireturn, 1) := by decide +kernel
theorem dX9_keys_0 : decode cX9_keys 0 = .ok (.aload_n 0, 1) := by decide +kernel
theorem dX9_keys_1 : decode cX9_keys 1 = .ok (.getfield 7, 3) := by decide +kernel
theorem dX9_keys_4 : decode cX9_keys 4 = .ok (.iconst 0, 1) := by decide +kernel
theorem dX9_keys_5 : decode cX9_keys 5 = .ok (.iaload, 1) := by decide +kernel
theorem dX9_keys_6 : decode cX9_keys 6 = .ok (.aload_n 0, 1) := by decide +kernel
theorem dX9_keys_7 : decode cX9_keys 7 = .ok (.getfield 7, 3) := by decide +kernel
theorem dX9_keys_10 : decode cX9_keys 10 = .ok (.iconst 1, 1) := by decide +kernel
theorem dX9_keys_11 : decode cX9_keys 11 = .ok (.iaload, 1) := by decide +kernel
theorem dX9_keys_12 : decode cX9_keys 12 = .ok (.imul, 1) := by decide +kernel
theorem dX9_keys_13 : decode cX9_keys 13 = .ok (.ireturn, 1) := by decide +kernel
theorem dX9_noKey_0 : decode cX9_noKey 0 = .ok (.iload_n 1, 1) := by decide +kernel
theorem dX9_noKey_1 : decode cX9_noKey 1 = .ok (.iconst 0, 1) := by decide +kernel
theorem dX9_noKey_2 : decode cX9_noKey 2 = .ok (.aload_n 0, 1) := by decide +kernel
theorem dX9_noKey_3 : decode cX9_noKey 3 = .ok (.invokevirtual 64, 3) := by decide +kernel
theorem dX9_noKey_6 : decode cX9_noKey 6 = .ok (.iconst 1, 1) := by decide +kernel
theorem dX9_noKey_7 : decode cX9_noKey 7 = .ok (.isub, 1) := by decide +kernel
theorem dX9_noKey_8 : decode cX9_noKey 8 = .ok (.invokestatic 68, 3) := by decide +kernel
theorem dX9_noKey_11 : decode cX9_noKey 11 = .ok (.ifCond .ne 7, 3) := by decide +kernel
theorem dX9_noKey_14 : decode cX9_noKey 14 = .ok (.iconst 1, 1) := by decide +kernel
theorem dX9_noKey_15 : decode cX9_noKey 15 = .ok (.goto 4, 3) := by decide +kernel
theorem dX9_noKey_18 : decode cX9_noKey 18 = .ok (.iconst 0, 1) := by decide +kernel
theorem dX9_noKey_19 : decode cX9_noKey 19 = .ok (.ireturn, 1) := by decide +kernel
theorem dX9_noTypist_0 : decode cX9_noTypist 0 = .ok (.iload_n 1, 1) := by decide +kernel
theorem dX9_noTypist_1 : decode cX9_noTypist 1 = .ok (.iconst 0, 1) := by decide +kernel
theorem dX9_noTypist_2 : decode cX9_noTypist 2 = .ok (.iconst 1, 1) := by decide +kernel
theorem dX9_noTypist_3 : decode cX9_noTypist 3 = .ok (.invokestatic 68, 3) := by decide +kernel
theorem dX9_noTypist_6 : decode cX9_noTypist 6 = .ok (.ifCond .ne 7, 3) := by decide +kernel
theorem dX9_noTypist_9 : decode cX9_noTypist 9 = .ok (.iconst 1, 1) := by decide +kernel
theorem dX9_noTypist_10 : decode cX9_noTypist 10 = .ok (.goto 4, 3) := by decide +kernel
theorem dX9_noTypist_13 : decode cX9_noTypist 13 = .ok (.iconst 0, 1) := by decide +kernel
theorem dX9_noTypist_14 : decode cX9_noTypist 14 = .ok (.ireturn, 1) := by decide +kernel
theorem dX9_isDown_0 : decode cX9_isDown 0 = .ok (.aload_n 0, 1) := by decide +kernel
theorem dX9_isDown_1 : decode cX9_isDown 1 = .ok (.getfield 7, 3) := by decide +kernel
theorem dX9_isDown_4 : decode cX9_isDown 4 = .ok (.bipush 20, 2) := by decide +kernel
theorem dX9_isDown_6 : decode cX9_isDown 6 = .ok (.iload_n 1, 1) := by decide +kernel
theorem dX9_isDown_7 : decode cX9_isDown 7 = .ok (.iadd, 1) := by decide +kernel
theorem dX9_isDown_8 : decode cX9_isDown 8 = .ok (.iaload, 1) := by decide +kernel
theorem dX9_isDown_9 : decode cX9_isDown 9 = .ok (.ifCond .lt 7, 3) := by decide +kernel
theorem dX9_isDown_12 : decode cX9_isDown 12 = .ok (.iconst 1, 1) := by decide +kernel
theorem dX9_isDown_13 : decode cX9_isDown 13 = .ok (.goto 4, 3) := by decide +kernel
theorem dX9_isDown_16 : decode cX9_isDown 16 = .ok (.iconst 0, 1) := by decide +kernel
theorem dX9_isDown_17 : decode cX9_isDown 17 = .ok (.ireturn, 1) := by decide +kernel
theorem dX9_isSeen_0 : decode cX9_isSeen 0 = .ok (.aload_n 0, 1) := by decide +kernel
theorem dX9_isSeen_1 : decode cX9_isSeen 1 = .ok (.getfield 7, 3) := by decide +kernel
theorem dX9_isSeen_4 : decode cX9_isSeen 4 = .ok (.bipush 68, 2) := by decide +kernel
theorem dX9_isSeen_6 : decode cX9_isSeen 6 = .ok (.iload_n 1, 1) := by decide +kernel
theorem dX9_isSeen_7 : decode cX9_isSeen 7 = .ok (.iadd, 1) := by decide +kernel
theorem dX9_isSeen_8 : decode cX9_isSeen 8 = .ok (.iaload, 1) := by decide +kernel
theorem dX9_isSeen_9 : decode cX9_isSeen 9 = .ok (.ifCond .lt 7, 3) := by decide +kernel
theorem dX9_isSeen_12 : decode cX9_isSeen 12 = .ok (.iconst 1, 1) := by decide +kernel
theorem dX9_isSeen_13 : decode cX9_isSeen 13 = .ok (.goto 4, 3) := by decide +kernel
theorem dX9_isSeen_16 : decode cX9_isSeen 16 = .ok (.iconst 0, 1) := by decide +kernel
theorem dX9_isSeen_17 : decode cX9_isSeen 17 = .ok (.ireturn, 1) := by decide +kernel
theorem dX9_build_0 : decode cX9_build 0 = .ok (.iload_n 1, 1) := by decide +kernel
theorem dX9_build_1 : decode cX9_build 1 = .ok (.iconst 2, 1) := by decide +kernel
theorem dX9_build_2 : decode cX9_build 2 = .ok (.bipush 6, 2) := by decide +kernel
theorem dX9_build_4 : decode cX9_build 4 = .ok (.invokestatic 68, 3) := by decide +kernel
theorem dX9_build_7 : decode cX9_build 7 = .ok (.ifCond .eq 13, 3) := by decide +kernel
theorem dX9_build_10 : decode cX9_build 10 = .ok (.iload_n 2, 1) := by decide +kernel
theorem dX9_build_11 : decode cX9_build 11 = .ok (.iconst 2, 1) := by decide +kernel
theorem dX9_build_12 : decode cX9_build 12 = .ok (.bipush 8, 2) := by decide +kernel
theorem dX9_build_14 : decode cX9_build 14 = .ok (.invokestatic 68, 3) := by decide +kernel
theorem dX9_build_17 : decode cX9_build 17 = .ok (.ifCond .ne 6, 3) := by decide +kernel
theorem dX9_build_20 : decode cX9_build 20 = .ok (.bipush (-2), 2) := by decide +kernel
theorem dX9_build_22 : decode cX9_build 22 = .ok (.ireturn, 1) := by decide +kernel
theorem dX9_build_23 : decode cX9_build 23 = .ok (.iconst 1, 1) := by decide +kernel
theorem dX9_build_24 : decode cX9_build 24 = .ok (.istore_n 3, 1) := by decide +kernel
theorem dX9_build_25 : decode cX9_build 25 = .ok (.iconst 0, 1) := by decide +kernel
theorem dX9_build_26 : decode cX9_build 26 = .ok (.istore 4, 2) := by decide +kernel
theorem dX9_build_28 : decode cX9_build 28 = .ok (.iload 4, 2) := by decide +kernel
theorem dX9_build_30 : decode cX9_build 30 = .ok (.aload_n 0, 1) := by decide +kernel
theorem dX9_build_31 : decode cX9_build 31 = .ok (.invokevirtual 64, 3) := by decide +kernel
theorem dX9_build_34 : decode cX9_build 34 = .ok (.if_icmp .ge 37, 3) := by decide +kernel
theorem dX9_build_37 : decode cX9_build 37 = .ok (.iload_n 3, 1) := by decide +kernel
theorem dX9_build_38 : decode cX9_build 38 = .ok (.ifCond .eq 25, 3) := by decide +kernel
theorem dX9_build_41 : decode cX9_build 41 = .ok (.aload_n 0, 1) := by decide +kernel
theorem dX9_build_42 : decode cX9_build 42 = .ok (.iload 4, 2) := by decide +kernel
theorem dX9_build_44 : decode cX9_build 44 = .ok (.invokevirtual 72, 3) := by decide +kernel
theorem dX9_build_47 : decode cX9_build 47 = .ok (.ifCond .ne 16, 3) := by decide +kernel
theorem dX9_build_50 : decode cX9_build 50 = .ok (.aload_n 0, 1) := by decide +kernel
theorem dX9_build_51 : decode cX9_build 51 = .ok (.iload 4, 2) := by decide +kernel
theorem dX9_build_53 : decode cX9_build 53 = .ok (.invokevirtual 76, 3) := by decide +kernel
theorem dX9_build_56 : decode cX9_build 56 = .ok (.ifCond .ne 7, 3) := by decide +kernel
theorem dX9_build_59 : decode cX9_build 59 = .ok (.iconst 1, 1) := by decide +kernel
theorem dX9_build_60 : decode cX9_build 60 = .ok (.goto 4, 3) := by decide +kernel
theorem dX9_build_63 : decode cX9_build 63 = .ok (.iconst 0, 1) := by decide +kernel
theorem dX9_build_64 : decode cX9_build 64 = .ok (.istore_n 3, 1) := by decide +kernel
theorem dX9_build_65 : decode cX9_build 65 = .ok (.iinc 4 1, 3) := by decide +kernel
theorem dX9_build_68 : decode cX9_build 68 = .ok (.goto (-40), 3) := by decide +kernel
theorem dX9_build_71 : decode cX9_build 71 = .ok (.iload_n 3, 1) := by decide +kernel
theorem dX9_build_72 : decode cX9_build 72 = .ok (.ifCond .ne 6, 3) := by decide +kernel
theorem dX9_build_75 : decode cX9_build 75 = .ok (.bipush (-4), 2) := by decide +kernel
theorem dX9_build_77 : decode cX9_build 77 = .ok (.ireturn, 1) := by decide +kernel
theorem dX9_build_78 : decode cX9_build 78 = .ok (.iload_n 1, 1) := by decide +kernel
theorem dX9_build_79 : decode cX9_build 79 = .ok (.aload_n 0, 1) := by decide +kernel
theorem dX9_build_80 : decode cX9_build 80 = .ok (.getfield 7, 3) := by decide +kernel
theorem dX9_build_83 : decode cX9_build 83 = .ok (.iconst 0, 1) := by decide +kernel
theorem dX9_build_84 : decode cX9_build 84 = .ok (.iaload, 1) := by decide +kernel
theorem dX9_build_85 : decode cX9_build 85 = .ok (.if_icmp .ne 16, 3) := by decide +kernel
theorem dX9_build_88 : decode cX9_build 88 = .ok (.iload_n 2, 1) := by decide +kernel
theorem dX9_build_89 : decode cX9_build 89 = .ok (.aload_n 0, 1) := by decide +kernel
theorem dX9_build_90 : decode cX9_build 90 = .ok (.getfield 7, 3) := by decide +kernel
theorem dX9_build_93 : decode cX9_build 93 = .ok (.iconst 1, 1) := by decide +kernel
theorem dX9_build_94 : decode cX9_build 94 = .ok (.iaload, 1) := by decide +kernel
theorem dX9_build_95 : decode cX9_build 95 = .ok (.if_icmp .ne 6, 3) := by decide +kernel
theorem dX9_build_98 : decode cX9_build 98 = .ok (.bipush (-5), 2) := by decide +kernel
theorem dX9_build_100 : decode cX9_build 100 = .ok (.ireturn, 1) := by decide +kernel
theorem dX9_build_101 : decode cX9_build 101 = .ok (.aload_n 0, 1) := by decide +kernel
theorem dX9_build_102 : decode cX9_build 102 = .ok (.invokevirtual 61, 3) := by decide +kernel
theorem dX9_build_105 : decode cX9_build 105 = .ok (.aload_n 0, 1) := by decide +kernel
theorem dX9_build_106 : decode cX9_build 106 = .ok (.getfield 7, 3) := by decide +kernel
theorem dX9_build_109 : decode cX9_build 109 = .ok (.iconst 0, 1) := by decide +kernel
theorem dX9_build_110 : decode cX9_build 110 = .ok (.iload_n 1, 1) := by decide +kernel
theorem dX9_build_111 : decode cX9_build 111 = .ok (.iastore, 1) := by decide +kernel
theorem dX9_build_112 : decode cX9_build 112 = .ok (.aload_n 0, 1) := by decide +kernel
theorem dX9_build_113 : decode cX9_build 113 = .ok (.getfield 7, 3) := by decide +kernel
theorem dX9_build_116 : decode cX9_build 116 = .ok (.iconst 1, 1) := by decide +kernel
theorem dX9_build_117 : decode cX9_build 117 = .ok (.iload_n 2, 1) := by decide +kernel
theorem dX9_build_118 : decode cX9_build 118 = .ok (.iastore, 1) := by decide +kernel
theorem dX9_build_119 : decode cX9_build 119 = .ok (.aload_n 0, 1) := by decide +kernel
theorem dX9_build_120 : decode cX9_build 120 = .ok (.getfield 7, 3) := by decide +kernel
theorem dX9_build_123 : decode cX9_build 123 = .ok (.iconst 5, 1) := by decide +kernel
theorem dX9_build_124 : decode cX9_build 124 = .ok (.bipush (-5), 2) := by decide +kernel
theorem dX9_build_126 : decode cX9_build 126 = .ok (.iastore, 1) := by decide +kernel
theorem dX9_build_127 : decode cX9_build 127 = .ok (.aload_n 0, 1) := by decide +kernel
theorem dX9_build_128 : decode cX9_build 128 = .ok (.getfield 7, 3) := by decide +kernel
theorem dX9_build_131 : decode cX9_build 131 = .ok (.bipush 6, 2) := by decide +kernel
theorem dX9_build_133 : decode cX9_build 133 = .ok (.bipush (-5), 2) := by decide +kernel
theorem dX9_build_135 : decode cX9_build 135 = .ok (.iastore, 1) := by decide +kernel
theorem dX9_build_136 : decode cX9_build 136 = .ok (.aload_n 0, 1) := by decide +kernel
theorem dX9_build_137 : decode cX9_build 137 = .ok (.invokevirtual 44, 3) := by decide +kernel
theorem dX9_build_140 : decode cX9_build 140 = .ok (.aload_n 0, 1) := by decide +kernel
theorem dX9_build_141 : decode cX9_build 141 = .ok (.invokevirtual 64, 3) := by decide +kernel
theorem dX9_build_144 : decode cX9_build 144 = .ok (.ireturn, 1) := by decide +kernel
theorem dX9_shiftOf_0 : decode cX9_shiftOf 0 = .ok (.aload_n 0, 1) := by decide +kernel
theorem dX9_shiftOf_1 : decode cX9_shiftOf 1 = .ok (.getfield 7, 3) := by decide +kernel
theorem dX9_shiftOf_4 : decode cX9_shiftOf 4 = .ok (.iconst 5, 1) := by decide +kernel
theorem dX9_shiftOf_5 : decode cX9_shiftOf 5 = .ok (.iaload, 1) := by decide +kernel
theorem dX9_shiftOf_6 : decode cX9_shiftOf 6 = .ok (.iload_n 1, 1) := by decide +kernel
theorem dX9_shiftOf_7 : decode cX9_shiftOf 7 = .ok (.if_icmp .ne 7, 3) := by decide +kernel
theorem dX9_shiftOf_10 : decode cX9_shiftOf 10 = .ok (.iconst 0, 1) := by decide +kernel
theorem dX9_shiftOf_11 : decode cX9_shiftOf 11 = .ok (.goto 20, 3) := by decide +kernel
theorem dX9_shiftOf_14 : decode cX9_shiftOf 14 = .ok (.aload_n 0, 1) := by decide +kernel
theorem dX9_shiftOf_15 : decode cX9_shiftOf 15 = .ok (.getfield 7, 3) := by decide +kernel
theorem dX9_shiftOf_18 : decode cX9_shiftOf 18 = .ok (.bipush 6, 2) := by decide +kernel
theorem dX9_shiftOf_20 : decode cX9_shiftOf 20 = .ok (.iaload, 1) := by decide +kernel
theorem dX9_shiftOf_21 : decode cX9_shiftOf 21 = .ok (.iload_n 1, 1) := by decide +kernel
theorem dX9_shiftOf_22 : decode cX9_shiftOf 22 = .ok (.if_icmp .ne 7, 3) := by decide +kernel
theorem dX9_shiftOf_25 : decode cX9_shiftOf 25 = .ok (.iconst 1, 1) := by decide +kernel
theorem dX9_shiftOf_26 : decode cX9_shiftOf 26 = .ok (.goto 5, 3) := by decide +kernel
theorem dX9_shiftOf_29 : decode cX9_shiftOf 29 = .ok (.bipush (-5), 2) := by decide +kernel
theorem dX9_shiftOf_31 : decode cX9_shiftOf 31 = .ok (.ireturn, 1) := by decide +kernel
theorem dX9_setSign_0 : decode cX9_setSign 0 = .ok (.aload_n 0, 1) := by decide +kernel
theorem dX9_setSign_1 : decode cX9_setSign 1 = .ok (.iload_n 1, 1) := by decide +kernel
theorem dX9_setSign_2 : decode cX9_setSign 2 = .ok (.invokevirtual 79, 3) := by decide +kernel
theorem dX9_setSign_5 : decode cX9_setSign 5 = .ok (.ifCond .eq 5, 3) := by decide +kernel
theorem dX9_setSign_8 : decode cX9_setSign 8 = .ok (.iconst (-1), 1) := by decide +kernel
theorem dX9_setSign_9 : decode cX9_setSign 9 = .ok (.ireturn, 1) := by decide +kernel
theorem dX9_setSign_10 : decode cX9_setSign 10 = .ok (.iload_n 2, 1) := by decide +kernel
theorem dX9_setSign_11 : decode cX9_setSign 11 = .ok (.bipush 97, 2) := by decide +kernel
theorem dX9_setSign_13 : decode cX9_setSign 13 = .ok (.bipush 122, 2) := by decide +kernel
theorem dX9_setSign_15 : decode cX9_setSign 15 = .ok (.invokestatic 68, 3) := by decide +kernel
theorem dX9_setSign_18 : decode cX9_setSign 18 = .ok (.ifCond .ne 12, 3) := by decide +kernel
theorem dX9_setSign_21 : decode cX9_setSign 21 = .ok (.iload_n 2, 1) := by decide +kernel
theorem dX9_setSign_22 : decode cX9_setSign 22 = .ok (.bipush 46, 2) := by decide +kernel
theorem dX9_setSign_24 : decode cX9_setSign 24 = .ok (.if_icmp .eq 6, 3) := by decide +kernel
theorem dX9_setSign_27 : decode cX9_setSign 27 = .ok (.bipush (-2), 2) := by decide +kernel
theorem dX9_setSign_29 : decode cX9_setSign 29 = .ok (.ireturn, 1) := by decide +kernel
theorem dX9_setSign_30 : decode cX9_setSign 30 = .ok (.aload_n 0, 1) := by decide +kernel
theorem dX9_setSign_31 : decode cX9_setSign 31 = .ok (.getfield 7, 3) := by decide +kernel
theorem dX9_setSign_34 : decode cX9_setSign 34 = .ok (.sipush 260, 3) := by decide +kernel
theorem dX9_setSign_37 : decode cX9_setSign 37 = .ok (.iload_n 1, 1) := by decide +kernel
theorem dX9_setSign_38 : decode cX9_setSign 38 = .ok (.iadd, 1) := by decide +kernel
theorem dX9_setSign_39 : decode cX9_setSign 39 = .ok (.iaload, 1) := by decide +kernel
theorem dX9_setSign_40 : decode cX9_setSign 40 = .ok (.istore_n 3, 1) := by decide +kernel
theorem dX9_setSign_41 : decode cX9_setSign 41 = .ok (.aload_n 0, 1) := by decide +kernel
theorem dX9_setSign_42 : decode cX9_setSign 42 = .ok (.iload_n 1, 1) := by decide +kernel
theorem dX9_setSign_43 : decode cX9_setSign 43 = .ok (.invokevirtual 82, 3) := by decide +kernel
theorem dX9_setSign_46 : decode cX9_setSign 46 = .ok (.istore 4, 2) := by decide +kernel
theorem dX9_setSign_48 : decode cX9_setSign 48 = .ok (.iload_n 3, 1) := by decide +kernel
theorem dX9_setSign_49 : decode cX9_setSign 49 = .ok (.iload_n 2, 1) := by decide +kernel
theorem dX9_setSign_50 : decode cX9_setSign 50 = .ok (.if_icmp .ne 11, 3) := by decide +kernel
theorem dX9_setSign_53 : decode cX9_setSign 53 = .ok (.iload 4, 2) := by decide +kernel
theorem dX9_setSign_55 : decode cX9_setSign 55 = .ok (.ifCond .ge 6, 3) := by decide +kernel
theorem dX9_setSign_58 : decode cX9_setSign 58 = .ok (.bipush (-5), 2) := by decide +kernel
theorem dX9_setSign_60 : decode cX9_setSign 60 = .ok (.ireturn, 1) := by decide +kernel
theorem dX9_setSign_61 : decode cX9_setSign 61 = .ok (.aload_n 0, 1) := by decide +kernel
theorem dX9_setSign_62 : decode cX9_setSign 62 = .ok (.invokevirtual 61, 3) := by decide +kernel
theorem dX9_setSign_65 : decode cX9_setSign 65 = .ok (.aload_n 0, 1) := by decide +kernel
theorem dX9_setSign_66 : decode cX9_setSign 66 = .ok (.getfield 7, 3) := by decide +kernel
theorem dX9_setSign_69 : decode cX9_setSign 69 = .ok (.sipush 260, 3) := by decide +kernel
theorem dX9_setSign_72 : decode cX9_setSign 72 = .ok (.iload_n 1, 1) := by decide +kernel
theorem dX9_setSign_73 : decode cX9_setSign 73 = .ok (.iadd, 1) := by decide +kernel
theorem dX9_setSign_74 : decode cX9_setSign 74 = .ok (.iload_n 2, 1) := by decide +kernel
theorem dX9_setSign_75 : decode cX9_setSign 75 = .ok (.iastore, 1) := by decide +kernel
theorem dX9_setSign_76 : decode cX9_setSign 76 = .ok (.iload 4, 2) := by decide +kernel
theorem dX9_setSign_78 : decode cX9_setSign 78 = .ok (.ifCond .lt 14, 3) := by decide +kernel
theorem dX9_setSign_81 : decode cX9_setSign 81 = .ok (.aload_n 0, 1) := by decide +kernel
theorem dX9_setSign_82 : decode cX9_setSign 82 = .ok (.getfield 7, 3) := by decide +kernel
theorem dX9_setSign_85 : decode cX9_setSign 85 = .ok (.iconst 5, 1) := by decide +kernel
theorem dX9_setSign_86 : decode cX9_setSign 86 = .ok (.iload 4, 2) := by decide +kernel
theorem dX9_setSign_88 : decode cX9_setSign 88 = .ok (.iadd, 1) := by decide +kernel
theorem dX9_setSign_89 : decode cX9_setSign 89 = .ok (.bipush (-5), 2) := by decide +kernel
theorem dX9_setSign_91 : decode cX9_setSign 91 = .ok (.iastore, 1) := by decide +kernel
theorem dX9_setSign_92 : decode cX9_setSign 92 = .ok (.iload_n 3, 1) := by decide +kernel
theorem dX9_setSign_93 : decode cX9_setSign 93 = .ok (.ireturn, 1) := by decide +kernel
theorem dX9_setShift_0 : decode cX9_setShift 0 = .ok (.aload_n 0, 1) := by decide +kernel
theorem dX9_setShift_1 : decode cX9_setShift 1 = .ok (.iload_n 1, 1) := by decide +kernel
theorem dX9_setShift_2 : decode cX9_setShift 2 = .ok (.invokevirtual 86, 3) := by decide +kernel
theorem dX9_setShift_5 : decode cX9_setShift 5 = .ok (.ifCond .ne 11, 3) := by decide +kernel
theorem dX9_setShift_8 : decode cX9_setShift 8 = .ok (.aload_n 0, 1) := by decide +kernel
theorem dX9_setShift_9 : decode cX9_setShift 9 = .ok (.iload_n 2, 1) := by decide +kernel
theorem dX9_setShift_10 : decode cX9_setShift 10 = .ok (.invokevirtual 79, 3) := by decide +kernel
theorem dX9_setShift_13 : decode cX9_setShift 13 = .ok (.ifCond .eq 5, 3) := by decide +kernel
theorem dX9_setShift_16 : decode cX9_setShift 16 = .ok (.iconst (-1), 1) := by decide +kernel
theorem dX9_setShift_17 : decode cX9_setShift 17 = .ok (.ireturn, 1) := by decide +kernel
theorem dX9_setShift_18 : decode cX9_setShift 18 = .ok (.aload_n 0, 1) := by decide +kernel
theorem dX9_setShift_19 : decode cX9_setShift 19 = .ok (.iload_n 2, 1) := by decide +kernel
theorem dX9_setShift_20 : decode cX9_setShift 20 = .ok (.invokevirtual 82, 3) := by decide +kernel
theorem dX9_setShift_23 : decode cX9_setShift 23 = .ok (.istore_n 3, 1) := by decide +kernel
theorem dX9_setShift_24 : decode cX9_setShift 24 = .ok (.iload_n 3, 1) := by decide +kernel
theorem dX9_setShift_25 : decode cX9_setShift 25 = .ok (.iconst 1, 1) := by decide +kernel
theorem dX9_setShift_26 : decode cX9_setShift 26 = .ok (.iload_n 1, 1) := by decide +kernel
theorem dX9_setShift_27 : decode cX9_setShift 27 = .ok (.isub, 1) := by decide +kernel
theorem dX9_setShift_28 : decode cX9_setShift 28 = .ok (.if_icmp .ne 6, 3) := by decide +kernel
theorem dX9_setShift_31 : decode cX9_setShift 31 = .ok (.bipush (-4), 2) := by decide +kernel
theorem dX9_setShift_33 : decode cX9_setShift 33 = .ok (.ireturn, 1) := by decide +kernel
theorem dX9_setShift_34 : decode cX9_setShift 34 = .ok (.iload_n 3, 1) := by decide +kernel
theorem dX9_setShift_35 : decode cX9_setShift 35 = .ok (.iload_n 1, 1) := by decide +kernel
theorem dX9_setShift_36 : decode cX9_setShift 36 = .ok (.if_icmp .ne 6, 3) := by decide +kernel
theorem dX9_setShift_39 : decode cX9_setShift 39 = .ok (.bipush (-5), 2) := by decide +kernel
theorem dX9_setShift_41 : decode cX9_setShift 41 = .ok (.ireturn, 1) := by decide +kernel
theorem dX9_setShift_42 : decode cX9_setShift 42 = .ok (.aload_n 0, 1) := by decide +kernel
theorem dX9_setShift_43 : decode cX9_setShift 43 = .ok (.invokevirtual 61, 3) := by decide +kernel
theorem dX9_setShift_46 : decode cX9_setShift 46 = .ok (.aload_n 0, 1) := by decide +kernel
theorem dX9_setShift_47 : decode cX9_setShift 47 = .ok (.getfield 7, 3) := by decide +kernel
theorem dX9_setShift_50 : decode cX9_setShift 50 = .ok (.iconst 5, 1) := by decide +kernel
theorem dX9_setShift_51 : decode cX9_setShift 51 = .ok (.iload_n 1, 1) := by decide +kernel
theorem dX9_setShift_52 : decode cX9_setShift 52 = .ok (.iadd, 1) := by decide +kernel
theorem dX9_setShift_53 : decode cX9_setShift 53 = .ok (.iaload, 1) := by decide +kernel
theorem dX9_setShift_54 : decode cX9_setShift 54 = .ok (.istore 4, 2) := by decide +kernel
theorem dX9_setShift_56 : decode cX9_setShift 56 = .ok (.aload_n 0, 1) := by decide +kernel
theorem dX9_setShift_57 : decode cX9_setShift 57 = .ok (.getfield 7, 3) := by decide +kernel
theorem dX9_setShift_60 : decode cX9_setShift 60 = .ok (.iconst 5, 1) := by decide +kernel
theorem dX9_setShift_61 : decode cX9_setShift 61 = .ok (.iload_n 1, 1) := by decide +kernel
theorem dX9_setShift_62 : decode cX9_setShift 62 = .ok (.iadd, 1) := by decide +kernel
theorem dX9_setShift_63 : decode cX9_setShift 63 = .ok (.iload_n 2, 1) := by decide +kernel
theorem dX9_setShift_64 : decode cX9_setShift 64 = .ok (.iastore, 1) := by decide +kernel
theorem dX9_setShift_65 : decode cX9_setShift 65 = .ok (.aload_n 0, 1) := by decide +kernel
theorem dX9_setShift_66 : decode cX9_setShift 66 = .ok (.getfield 7, 3) := by decide +kernel
theorem dX9_setShift_69 : decode cX9_setShift 69 = .ok (.sipush 260, 3) := by decide +kernel
theorem dX9_setShift_72 : decode cX9_setShift 72 = .ok (.iload_n 2, 1) := by decide +kernel
theorem dX9_setShift_73 : decode cX9_setShift 73 = .ok (.iadd, 1) := by decide +kernel
theorem dX9_setShift_74 : decode cX9_setShift 74 = .ok (.bipush 46, 2) := by decide +kernel
theorem dX9_setShift_76 : decode cX9_setShift 76 = .ok (.iastore, 1) := by decide +kernel
theorem dX9_setShift_77 : decode cX9_setShift 77 = .ok (.iload 4, 2) := by decide +kernel
theorem dX9_setShift_79 : decode cX9_setShift 79 = .ok (.ifCond .ge 7, 3) := by decide +kernel
theorem dX9_setShift_82 : decode cX9_setShift 82 = .ok (.iload_n 2, 1) := by decide +kernel
theorem dX9_setShift_83 : decode cX9_setShift 83 = .ok (.goto 5, 3) := by decide +kernel
theorem dX9_setShift_86 : decode cX9_setShift 86 = .ok (.iload 4, 2) := by decide +kernel
theorem dX9_setShift_88 : decode cX9_setShift 88 = .ok (.ireturn, 1) := by decide +kernel
theorem dX9_borrow_0 : decode cX9_borrow 0 = .ok (.aload_n 0, 1) := by decide +kernel
theorem dX9_borrow_1 : decode cX9_borrow 1 = .ok (.iload_n 1, 1) := by decide +kernel
theorem dX9_borrow_2 : decode cX9_borrow 2 = .ok (.invokevirtual 86, 3) := by decide +kernel
theorem dX9_borrow_5 : decode cX9_borrow 5 = .ok (.ifCond .eq 5, 3) := by decide +kernel
theorem dX9_borrow_8 : decode cX9_borrow 8 = .ok (.iconst (-1), 1) := by decide +kernel
theorem dX9_borrow_9 : decode cX9_borrow 9 = .ok (.ireturn, 1) := by decide +kernel
theorem dX9_borrow_10 : decode cX9_borrow 10 = .ok (.aload_n 0, 1) := by decide +kernel
theorem dX9_borrow_11 : decode cX9_borrow 11 = .ok (.getfield 7, 3) := by decide +kernel
theorem dX9_borrow_14 : decode cX9_borrow 14 = .ok (.bipush 7, 2) := by decide +kernel
theorem dX9_borrow_16 : decode cX9_borrow 16 = .ok (.iload_n 1, 1) := by decide +kernel
theorem dX9_borrow_17 : decode cX9_borrow 17 = .ok (.iadd, 1) := by decide +kernel
theorem dX9_borrow_18 : decode cX9_borrow 18 = .ok (.iaload, 1) := by decide +kernel
theorem dX9_borrow_19 : decode cX9_borrow 19 = .ok (.iconst 1, 1) := by decide +kernel
theorem dX9_borrow_20 : decode cX9_borrow 20 = .ok (.if_icmp .ne 7, 3) := by decide +kernel
theorem dX9_borrow_23 : decode cX9_borrow 23 = .ok (.iconst 1, 1) := by decide +kernel
theorem dX9_borrow_24 : decode cX9_borrow 24 = .ok (.goto 4, 3) := by decide +kernel
theorem dX9_borrow_27 : decode cX9_borrow 27 = .ok (.iconst 0, 1) := by decide +kernel
theorem dX9_borrow_28 : decode cX9_borrow 28 = .ok (.iload_n 2, 1) := by decide +kernel
theorem dX9_borrow_29 : decode cX9_borrow 29 = .ok (.if_icmp .ne 6, 3) := by decide +kernel
theorem dX9_borrow_32 : decode cX9_borrow 32 = .ok (.bipush (-5), 2) := by decide +kernel
theorem dX9_borrow_34 : decode cX9_borrow 34 = .ok (.ireturn, 1) := by decide +kernel
theorem dX9_borrow_35 : decode cX9_borrow 35 = .ok (.aload_n 0, 1) := by decide +kernel
theorem dX9_borrow_36 : decode cX9_borrow 36 = .ok (.invokevirtual 61, 3) := by decide +kernel
theorem dX9_borrow_39 : decode cX9_borrow 39 = .ok (.aload_n 0, 1) := by decide +kernel
theorem dX9_borrow_40 : decode cX9_borrow 40 = .ok (.getfield 7, 3) := by decide +kernel
theorem dX9_borrow_43 : decode cX9_borrow 43 = .ok (.bipush 7, 2) := by decide +kernel
theorem dX9_borrow_45 : decode cX9_borrow 45 = .ok (.iload_n 1, 1) := by decide +kernel
theorem dX9_borrow_46 : decode cX9_borrow 46 = .ok (.iadd, 1) := by decide +kernel
theorem dX9_borrow_47 : decode cX9_borrow 47 = .ok (.iload_n 2, 1) := by decide +kernel
theorem dX9_borrow_48 : decode cX9_borrow 48 = .ok (.ifCond .eq 7, 3) := by decide +kernel
theorem dX9_borrow_51 : decode cX9_borrow 51 = .ok (.iconst 1, 1) := by decide +kernel
theorem dX9_borrow_52 : decode cX9_borrow 52 = .ok (.goto 4, 3) := by decide +kernel
theorem dX9_borrow_55 : decode cX9_borrow 55 = .ok (.iconst 0, 1) := by decide +kernel
theorem dX9_borrow_56 : decode cX9_borrow 56 = .ok (.iastore, 1) := by decide +kernel
theorem dX9_borrow_57 : decode cX9_borrow 57 = .ok (.aload_n 0, 1) := by decide +kernel
theorem dX9_borrow_58 : decode cX9_borrow 58 = .ok (.getfield 7, 3) := by decide +kernel
theorem dX9_borrow_61 : decode cX9_borrow 61 = .ok (.bipush 7, 2) := by decide +kernel
theorem dX9_borrow_63 : decode cX9_borrow 63 = .ok (.iaload, 1) := by decide +kernel
theorem dX9_borrow_64 : decode cX9_borrow 64 = .ok (.aload_n 0, 1) := by decide +kernel
theorem dX9_borrow_65 : decode cX9_borrow 65 = .ok (.getfield 7, 3) := by decide +kernel
theorem dX9_borrow_68 : decode cX9_borrow 68 = .ok (.bipush 8, 2) := by decide +kernel
theorem dX9_borrow_70 : decode cX9_borrow 70 = .ok (.iaload, 1) := by decide +kernel
theorem dX9_borrow_71 : decode cX9_borrow 71 = .ok (.iadd, 1) := by decide +kernel
theorem dX9_borrow_72 : decode cX9_borrow 72 = .ok (.ireturn, 1) := by decide +kernel
theorem dX9_set_0 : decode cX9_set 0 = .ok (.iload_n 1, 1) := by decide +kernel
theorem dX9_set_1 : decode cX9_set 1 = .ok (.iconst 0, 1) := by decide +kernel
theorem dX9_set_2 : decode cX9_set 2 = .ok (.iconst 2, 1) := by decide +kernel
theorem dX9_set_3 : decode cX9_set 3 = .ok (.invokestatic 68, 3) := by decide +kernel
theorem dX9_set_6 : decode cX9_set 6 = .ok (.ifCond .ne 6, 3) := by decide +kernel
theorem dX9_set_9 : decode cX9_set 9 = .ok (.bipush (-2), 2) := by decide +kernel
theorem dX9_set_11 : decode cX9_set 11 = .ok (.ireturn, 1) := by decide +kernel
theorem dX9_set_12 : decode cX9_set 12 = .ok (.iload_n 2, 1) := by decide +kernel
theorem dX9_set_13 : decode cX9_set 13 = .ok (.ifCond .lt 12, 3) := by decide +kernel
theorem dX9_set_16 : decode cX9_set 16 = .ok (.iload_n 2, 1) := by decide +kernel
theorem dX9_set_17 : decode cX9_set 17 = .ok (.ldc 89, 2) := by decide +kernel
theorem dX9_set_19 : decode cX9_set 19 = .ok (.iand, 1) := by decide +kernel
theorem dX9_set_20 : decode cX9_set 20 = .ok (.ldc 90, 2) := by decide +kernel
theorem dX9_set_22 : decode cX9_set 22 = .ok (.if_icmp .le 6, 3) := by decide +kernel
theorem dX9_set_25 : decode cX9_set 25 = .ok (.bipush (-2), 2) := by decide +kernel
theorem dX9_set_27 : decode cX9_set 27 = .ok (.ireturn, 1) := by decide +kernel
theorem dX9_set_28 : decode cX9_set 28 = .ok (.iload_n 2, 1) := by decide +kernel
theorem dX9_set_29 : decode cX9_set 29 = .ok (.invokestatic 91, 3) := by decide +kernel
theorem dX9_set_32 : decode cX9_set 32 = .ok (.fstore_n 3, 1) := by decide +kernel
theorem dX9_set_33 : decode cX9_set 33 = .ok (.iload_n 1, 1) := by decide +kernel
theorem dX9_set_34 : decode cX9_set 34 = .ok (.ifCond .ne 7, 3) := by decide +kernel
theorem dX9_set_37 : decode cX9_set 37 = .ok (.fconst 2, 1) := by decide +kernel
theorem dX9_set_38 : decode cX9_set 38 = .ok (.goto 14, 3) := by decide +kernel
theorem dX9_set_41 : decode cX9_set 41 = .ok (.iload_n 1, 1) := by decide +kernel
theorem dX9_set_42 : decode cX9_set 42 = .ok (.iconst 1, 1) := by decide +kernel
theorem dX9_set_43 : decode cX9_set 43 = .ok (.if_icmp .ne 8, 3) := by decide +kernel
theorem dX9_set_46 : decode cX9_set 46 = .ok (.ldc 39, 2) := by decide +kernel
theorem dX9_set_48 : decode cX9_set 48 = .ok (.goto 4, 3) := by decide +kernel
theorem dX9_set_51 : decode cX9_set 51 = .ok (.fconst 1, 1) := by decide +kernel
theorem dX9_set_52 : decode cX9_set 52 = .ok (.fstore 4, 2) := by decide +kernel
theorem dX9_set_54 : decode cX9_set 54 = .ok (.fload_n 3, 1) := by decide +kernel
theorem dX9_set_55 : decode cX9_set 55 = .ok (.fconst 0, 1) := by decide +kernel
theorem dX9_set_56 : decode cX9_set 56 = .ok (.fcmp .l, 1) := by decide +kernel
theorem dX9_set_57 : decode cX9_set 57 = .ok (.ifCond .lt 10, 3) := by decide +kernel
theorem dX9_set_60 : decode cX9_set 60 = .ok (.fload_n 3, 1) := by decide +kernel
theorem dX9_set_61 : decode cX9_set 61 = .ok (.fload 4, 2) := by decide +kernel
theorem dX9_set_63 : decode cX9_set 63 = .ok (.fcmp .g, 1) := by decide +kernel
theorem dX9_set_64 : decode cX9_set 64 = .ok (.ifCond .le 6, 3) := by decide +kernel
theorem dX9_set_67 : decode cX9_set 67 = .ok (.bipush (-2), 2) := by decide +kernel
theorem dX9_set_69 : decode cX9_set 69 = .ok (.ireturn, 1) := by decide +kernel
theorem dX9_set_70 : decode cX9_set 70 = .ok (.aload_n 0, 1) := by decide +kernel
theorem dX9_set_71 : decode cX9_set 71 = .ok (.getfield 22, 3) := by decide +kernel
theorem dX9_set_74 : decode cX9_set 74 = .ok (.iconst 4, 1) := by decide +kernel
theorem dX9_set_75 : decode cX9_set 75 = .ok (.iload_n 1, 1) := by decide +kernel
theorem dX9_set_76 : decode cX9_set 76 = .ok (.iadd, 1) := by decide +kernel
theorem dX9_set_77 : decode cX9_set 77 = .ok (.faload, 1) := by decide +kernel
theorem dX9_set_78 : decode cX9_set 78 = .ok (.fstore 5, 2) := by decide +kernel
theorem dX9_set_80 : decode cX9_set 80 = .ok (.fload 5, 2) := by decide +kernel
theorem dX9_set_82 : decode cX9_set 82 = .ok (.fload_n 3, 1) := by decide +kernel
theorem dX9_set_83 : decode cX9_set 83 = .ok (.fcmp .l, 1) := by decide +kernel
theorem dX9_set_84 : decode cX9_set 84 = .ok (.ifCond .ne 6, 3) := by decide +kernel
theorem dX9_set_87 : decode cX9_set 87 = .ok (.bipush (-5), 2) := by decide +kernel
theorem dX9_set_89 : decode cX9_set 89 = .ok (.ireturn, 1) := by decide +kernel
theorem dX9_set_90 : decode cX9_set 90 = .ok (.aload_n 0, 1) := by decide +kernel
theorem dX9_set_91 : decode cX9_set 91 = .ok (.invokevirtual 61, 3) := by decide +kernel
theorem dX9_set_94 : decode cX9_set 94 = .ok (.aload_n 0, 1) := by decide +kernel
theorem dX9_set_95 : decode cX9_set 95 = .ok (.getfield 22, 3) := by decide +kernel
theorem dX9_set_98 : decode cX9_set 98 = .ok (.iconst 4, 1) := by decide +kernel
theorem dX9_set_99 : decode cX9_set 99 = .ok (.iload_n 1, 1) := by decide +kernel
theorem dX9_set_100 : decode cX9_set 100 = .ok (.iadd, 1) := by decide +kernel
theorem dX9_set_101 : decode cX9_set 101 = .ok (.fload_n 3, 1) := by decide +kernel
theorem dX9_set_102 : decode cX9_set 102 = .ok (.fastore, 1) := by decide +kernel
theorem dX9_set_103 : decode cX9_set 103 = .ok (.fload 5, 2) := by decide +kernel
theorem dX9_set_105 : decode cX9_set 105 = .ok (.invokestatic 97, 3) := by decide +kernel
theorem dX9_set_108 : decode cX9_set 108 = .ok (.ireturn, 1) := by decide +kernel
theorem dX9_drive_0 : decode cX9_drive 0 = .ok (.aload_n 0, 1) := by decide +kernel
theorem dX9_drive_1 : decode cX9_drive 1 = .ok (.iconst 1, 1) := by decide +kernel
theorem dX9_drive_2 : decode cX9_drive 2 = .ok (.iload_n 1, 1) := by decide +kernel
theorem dX9_drive_3 : decode cX9_drive 3 = .ok (.ishl, 1) := by decide +kernel
theorem dX9_drive_4 : decode cX9_drive 4 = .ok (.putfield 101, 3) := by decide +kernel
theorem dX9_drive_7 : decode cX9_drive 7 = .ok (.aload_n 0, 1) := by decide +kernel
theorem dX9_drive_8 : decode cX9_drive 8 = .ok (.iconst 0, 1) := by decide +kernel
theorem dX9_drive_9 : decode cX9_drive 9 = .ok (.putfield 104, 3) := by decide +kernel
theorem dX9_drive_12 : decode cX9_drive 12 = .ok (.iconst 1, 1) := by decide +kernel
theorem dX9_drive_13 : decode cX9_drive 13 = .ok (.istore_n 2, 1) := by decide +kernel
theorem dX9_drive_14 : decode cX9_drive 14 = .ok (.iload_n 2, 1) := by decide +kernel
theorem dX9_drive_15 : decode cX9_drive 15 = .ok (.ifCond .eq 166, 3) := by decide +kernel
theorem dX9_drive_18 : decode cX9_drive 18 = .ok (.aload_n 0, 1) := by decide +kernel
theorem dX9_drive_19 : decode cX9_drive 19 = .ok (.getfield 104, 3) := by decide +kernel
theorem dX9_drive_22 : decode cX9_drive 22 = .ok (.istore_n 3, 1) := by decide +kernel
theorem dX9_drive_23 : decode cX9_drive 23 = .ok (.aload_n 0, 1) := by decide +kernel
theorem dX9_drive_24 : decode cX9_drive 24 = .ok (.getfield 101, 3) := by decide +kernel
theorem dX9_drive_27 : decode cX9_drive 27 = .ok (.istore 4, 2) := by decide +kernel
theorem dX9_drive_29 : decode cX9_drive 29 = .ok (.iconst 0, 1) := by decide +kernel
theorem dX9_drive_30 : decode cX9_drive 30 = .ok (.istore 5, 2) := by decide +kernel
theorem dX9_drive_32 : decode cX9_drive 32 = .ok (.iload 5, 2) := by decide +kernel
theorem dX9_drive_34 : decode cX9_drive 34 = .ok (.aload_n 0, 1) := by decide +kernel
theorem dX9_drive_35 : decode cX9_drive 35 = .ok (.invokevirtual 64, 3) := by decide +kernel
theorem dX9_drive_38 : decode cX9_drive 38 = .ok (.if_icmp .ge 117, 3) := by decide +kernel
theorem dX9_drive_41 : decode cX9_drive 41 = .ok (.iload 5, 2) := by decide +kernel
theorem dX9_drive_43 : decode cX9_drive 43 = .ok (.aload_n 0, 1) := by decide +kernel
theorem dX9_drive_44 : decode cX9_drive 44 = .ok (.getfield 7, 3) := by decide +kernel
theorem dX9_drive_47 : decode cX9_drive 47 = .ok (.iconst 1, 1) := by decide +kernel
theorem dX9_drive_48 : decode cX9_drive 48 = .ok (.iaload, 1) := by decide +kernel
theorem dX9_drive_49 : decode cX9_drive 49 = .ok (.idiv, 1) := by decide +kernel
theorem dX9_drive_50 : decode cX9_drive 50 = .ok (.istore 6, 2) := by decide +kernel
theorem dX9_drive_52 : decode cX9_drive 52 = .ok (.iload 5, 2) := by decide +kernel
theorem dX9_drive_54 : decode cX9_drive 54 = .ok (.aload_n 0, 1) := by decide +kernel
theorem dX9_drive_55 : decode cX9_drive 55 = .ok (.getfield 7, 3) := by decide +kernel
theorem dX9_drive_58 : decode cX9_drive 58 = .ok (.iconst 1, 1) := by decide +kernel
theorem dX9_drive_59 : decode cX9_drive 59 = .ok (.iaload, 1) := by decide +kernel
theorem dX9_drive_60 : decode cX9_drive 60 = .ok (.irem, 1) := by decide +kernel
theorem dX9_drive_61 : decode cX9_drive 61 = .ok (.istore 7, 2) := by decide +kernel
theorem dX9_drive_63 : decode cX9_drive 63 = .ok (.aload_n 0, 1) := by decide +kernel
theorem dX9_drive_64 : decode cX9_drive 64 = .ok (.iload 5, 2) := by decide +kernel
theorem dX9_drive_66 : decode cX9_drive 66 = .ok (.invokevirtual 72, 3) := by decide +kernel
theorem dX9_drive_69 : decode cX9_drive 69 = .ok (.ifCond .eq 33, 3) := by decide +kernel
theorem dX9_drive_72 : decode cX9_drive 72 = .ok (.aload_n 0, 1) := by decide +kernel
theorem dX9_drive_73 : decode cX9_drive 73 = .ok (.getfield 101, 3) := by decide +kernel
theorem dX9_drive_76 : decode cX9_drive 76 = .ok (.iload 6, 2) := by decide +kernel
theorem dX9_drive_78 : decode cX9_drive 78 = .ok (.ishr, 1) := by decide +kernel
theorem dX9_drive_79 : decode cX9_drive 79 = .ok (.iconst 1, 1) := by decide +kernel
theorem dX9_drive_80 : decode cX9_drive 80 = .ok (.iand, 1) := by decide +kernel
theorem dX9_drive_81 : decode cX9_drive 81 = .ok (.iconst 1, 1) := by decide +kernel
theorem dX9_drive_82 : decode cX9_drive 82 = .ok (.if_icmp .eq 16, 3) := by decide +kernel
theorem dX9_drive_85 : decode cX9_drive 85 = .ok (.aload_n 0, 1) := by decide +kernel
theorem dX9_drive_86 : decode cX9_drive 86 = .ok (.getfield 104, 3) := by decide +kernel
theorem dX9_drive_89 : decode cX9_drive 89 = .ok (.iload 7, 2) := by decide +kernel
theorem dX9_drive_91 : decode cX9_drive 91 = .ok (.ishr, 1) := by decide +kernel
theorem dX9_drive_92 : decode cX9_drive 92 = .ok (.iconst 1, 1) := by decide +kernel
theorem dX9_drive_93 : decode cX9_drive 93 = .ok (.iand, 1) := by decide +kernel
theorem dX9_drive_94 : decode cX9_drive 94 = .ok (.iconst 1, 1) := by decide +kernel
theorem dX9_drive_95 : decode cX9_drive 95 = .ok (.if_icmp .ne 7, 3) := by decide +kernel
theorem dX9_drive_98 : decode cX9_drive 98 = .ok (.iconst 1, 1) := by decide +kernel
theorem dX9_drive_99 : decode cX9_drive 99 = .ok (.goto 4, 3) := by decide +kernel
theorem dX9_drive_102 : decode cX9_drive 102 = .ok (.iconst 0, 1) := by decide +kernel
theorem dX9_drive_103 : decode cX9_drive 103 = .ok (.istore 8, 2) := by decide +kernel
theorem dX9_drive_105 : decode cX9_drive 105 = .ok (.aload_n 0, 1) := by decide +kernel
theorem dX9_drive_106 : decode cX9_drive 106 = .ok (.dup, 1) := by decide +kernel
theorem dX9_drive_107 : decode cX9_drive 107 = .ok (.getfield 101, 3) := by decide +kernel
theorem dX9_drive_110 : decode cX9_drive 110 = .ok (.iload 8, 2) := by decide +kernel
theorem dX9_drive_112 : decode cX9_drive 112 = .ok (.ifCond .eq 10, 3) := by decide +kernel
theorem dX9_drive_115 : decode cX9_drive 115 = .ok (.iconst 1, 1) := by decide +kernel
theorem dX9_drive_116 : decode cX9_drive 116 = .ok (.iload 6, 2) := by decide +kernel
theorem dX9_drive_118 : decode cX9_drive 118 = .ok (.ishl, 1) := by decide +kernel
theorem dX9_drive_119 : decode cX9_drive 119 = .ok (.goto 4, 3) := by decide +kernel
theorem dX9_drive_122 : decode cX9_drive 122 = .ok (.iconst 0, 1) := by decide +kernel
theorem dX9_drive_123 : decode cX9_drive 123 = .ok (.ior, 1) := by decide +kernel
theorem dX9_drive_124 : decode cX9_drive 124 = .ok (.putfield 101, 3) := by decide +kernel
theorem dX9_drive_127 : decode cX9_drive 127 = .ok (.aload_n 0, 1) := by decide +kernel
theorem dX9_drive_128 : decode cX9_drive 128 = .ok (.dup, 1) := by decide +kernel
theorem dX9_drive_129 : decode cX9_drive 129 = .ok (.getfield 104, 3) := by decide +kernel
theorem dX9_drive_132 : decode cX9_drive 132 = .ok (.iload 8, 2) := by decide +kernel
theorem dX9_drive_134 : decode cX9_drive 134 = .ok (.ifCond .eq 10, 3) := by decide +kernel
theorem dX9_drive_137 : decode cX9_drive 137 = .ok (.iconst 1, 1) := by decide +kernel
theorem dX9_drive_138 : decode cX9_drive 138 = .ok (.iload 7, 2) := by decide +kernel
theorem dX9_drive_140 : decode cX9_drive 140 = .ok (.ishl, 1) := by decide +kernel
theorem dX9_drive_141 : decode cX9_drive 141 = .ok (.goto 4, 3) := by decide +kernel
theorem dX9_drive_144 : decode cX9_drive 144 = .ok (.iconst 0, 1) := by decide +kernel
theorem dX9_drive_145 : decode cX9_drive 145 = .ok (.ior, 1) := by decide +kernel
theorem dX9_drive_146 : decode cX9_drive 146 = .ok (.putfield 104, 3) := by decide +kernel
theorem dX9_drive_149 : decode cX9_drive 149 = .ok (.iinc 5 1, 3) := by decide +kernel
theorem dX9_drive_152 : decode cX9_drive 152 = .ok (.goto (-120), 3) := by decide +kernel
theorem dX9_drive_155 : decode cX9_drive 155 = .ok (.iload_n 3, 1) := by decide +kernel
theorem dX9_drive_156 : decode cX9_drive 156 = .ok (.aload_n 0, 1) := by decide +kernel
theorem dX9_drive_157 : decode cX9_drive 157 = .ok (.getfield 104, 3) := by decide +kernel
theorem dX9_drive_160 : decode cX9_drive 160 = .ok (.if_icmp .ne 12, 3) := by decide +kernel
theorem dX9_drive_163 : decode cX9_drive 163 = .ok (.iload 4, 2) := by decide +kernel
theorem dX9_drive_165 : decode cX9_drive 165 = .ok (.aload_n 0, 1) := by decide +kernel
theorem dX9_drive_166 : decode cX9_drive 166 = .ok (.getfield 101, 3) := by decide +kernel
theorem dX9_drive_169 : decode cX9_drive 169 = .ok (.if_icmp .eq 7, 3) := by decide +kernel
theorem dX9_drive_172 : decode cX9_drive 172 = .ok (.iconst 1, 1) := by decide +kernel
theorem dX9_drive_173 : decode cX9_drive 173 = .ok (.goto 4, 3) := by decide +kernel
theorem dX9_drive_176 : decode cX9_drive 176 = .ok (.iconst 0, 1) := by decide +kernel
theorem dX9_drive_177 : decode cX9_drive 177 = .ok (.istore_n 2, 1) := by decide +kernel
theorem dX9_drive_178 : decode cX9_drive 178 = .ok (.goto (-164), 3) := by decide +kernel
theorem dX9_drive_181 : decode cX9_drive 181 = .ok (.return_, 1) := by decide +kernel
theorem dX9_wouldSense_0 : decode cX9_wouldSense 0 = .ok (.aload_n 0, 1) := by decide +kernel
theorem dX9_wouldSense_1 : decode cX9_wouldSense 1 = .ok (.iload_n 1, 1) := by decide +kernel
theorem dX9_wouldSense_2 : decode cX9_wouldSense 2 = .ok (.aload_n 0, 1) := by decide +kernel
theorem dX9_wouldSense_3 : decode cX9_wouldSense 3 = .ok (.getfield 7, 3) := by decide +kernel
theorem dX9_wouldSense_6 : decode cX9_wouldSense 6 = .ok (.iconst 1, 1) := by decide +kernel
theorem dX9_wouldSense_7 : decode cX9_wouldSense 7 = .ok (.iaload, 1) := by decide +kernel
theorem dX9_wouldSense_8 : decode cX9_wouldSense 8 = .ok (.idiv, 1) := by decide +kernel
theorem dX9_wouldSense_9 : decode cX9_wouldSense 9 = .ok (.invokevirtual 107, 3) := by decide +kernel
theorem dX9_wouldSense_12 : decode cX9_wouldSense 12 = .ok (.aload_n 0, 1) := by decide +kernel
theorem dX9_wouldSense_13 : decode cX9_wouldSense 13 = .ok (.getfield 104, 3) := by decide +kernel
theorem dX9_wouldSense_16 : decode cX9_wouldSense 16 = .ok (.iload_n 1, 1) := by decide +kernel
theorem dX9_wouldSense_17 : decode cX9_wouldSense 17 = .ok (.aload_n 0, 1) := by decide +kernel
theorem dX9_wouldSense_18 : decode cX9_wouldSense 18 = .ok (.getfield 7, 3) := by decide +kernel
theorem dX9_wouldSense_21 : decode cX9_wouldSense 21 = .ok (.iconst 1, 1) := by decide +kernel
theorem dX9_wouldSense_22 : decode cX9_wouldSense 22 = .ok (.iaload, 1) := by decide +kernel
theorem dX9_wouldSense_23 : decode cX9_wouldSense 23 = .ok (.irem, 1) := by decide +kernel
theorem dX9_wouldSense_24 : decode cX9_wouldSense 24 = .ok (.ishr, 1) := by decide +kernel
theorem dX9_wouldSense_25 : decode cX9_wouldSense 25 = .ok (.iconst 1, 1) := by decide +kernel
theorem dX9_wouldSense_26 : decode cX9_wouldSense 26 = .ok (.iand, 1) := by decide +kernel
theorem dX9_wouldSense_27 : decode cX9_wouldSense 27 = .ok (.iconst 1, 1) := by decide +kernel
theorem dX9_wouldSense_28 : decode cX9_wouldSense 28 = .ok (.if_icmp .ne 7, 3) := by decide +kernel
theorem dX9_wouldSense_31 : decode cX9_wouldSense 31 = .ok (.iconst 1, 1) := by decide +kernel
theorem dX9_wouldSense_32 : decode cX9_wouldSense 32 = .ok (.goto 4, 3) := by decide +kernel
theorem dX9_wouldSense_35 : decode cX9_wouldSense 35 = .ok (.iconst 0, 1) := by decide +kernel
theorem dX9_wouldSense_36 : decode cX9_wouldSense 36 = .ok (.ireturn, 1) := by decide +kernel
theorem dX9_closesCorner_0 : decode cX9_closesCorner 0 = .ok (.iload_n 1, 1) := by decide +kernel
theorem dX9_closesCorner_1 : decode cX9_closesCorner 1 = .ok (.aload_n 0, 1) := by decide +kernel
theorem dX9_closesCorner_2 : decode cX9_closesCorner 2 = .ok (.getfield 7, 3) := by decide +kernel
theorem dX9_closesCorner_5 : decode cX9_closesCorner 5 = .ok (.iconst 1, 1) := by decide +kernel
theorem dX9_closesCorner_6 : decode cX9_closesCorner 6 = .ok (.iaload, 1) := by decide +kernel
theorem dX9_closesCorner_7 : decode cX9_closesCorner 7 = .ok (.idiv, 1) := by decide +kernel
theorem dX9_closesCorner_8 : decode cX9_closesCorner 8 = .ok (.istore_n 2, 1) := by decide +kernel
theorem dX9_closesCorner_9 : decode cX9_closesCorner 9 = .ok (.iload_n 1, 1) := by decide +kernel
theorem dX9_closesCorner_10 : decode cX9_closesCorner 10 = .ok (.aload_n 0, 1) := by decide +kernel
theorem dX9_closesCorner_11 : decode cX9_closesCorner 11 = .ok (.getfield 7, 3) := by decide +kernel
theorem dX9_closesCorner_14 : decode cX9_closesCorner 14 = .ok (.iconst 1, 1) := by decide +kernel
theorem dX9_closesCorner_15 : decode cX9_closesCorner 15 = .ok (.iaload, 1) := by decide +kernel
theorem dX9_closesCorner_16 : decode cX9_closesCorner 16 = .ok (.irem, 1) := by decide +kernel
theorem dX9_closesCorner_17 : decode cX9_closesCorner 17 = .ok (.istore_n 3, 1) := by decide +kernel
theorem dX9_closesCorner_18 : decode cX9_closesCorner 18 = .ok (.iconst 0, 1) := by decide +kernel
theorem dX9_closesCorner_19 : decode cX9_closesCorner 19 = .ok (.istore 4, 2) := by decide +kernel
theorem dX9_closesCorner_21 : decode cX9_closesCorner 21 = .ok (.iconst 0, 1) := by decide +kernel
theorem dX9_closesCorner_22 : decode cX9_closesCorner 22 = .ok (.istore 5, 2) := by decide +kernel
theorem dX9_closesCorner_24 : decode cX9_closesCorner 24 = .ok (.iload 5, 2) := by decide +kernel
theorem dX9_closesCorner_26 : decode cX9_closesCorner 26 = .ok (.aload_n 0, 1) := by decide +kernel
theorem dX9_closesCorner_27 : decode cX9_closesCorner 27 = .ok (.getfield 7, 3) := by decide +kernel
theorem dX9_closesCorner_30 : decode cX9_closesCorner 30 = .ok (.iconst 0, 1) := by decide +kernel
theorem dX9_closesCorner_31 : decode cX9_closesCorner 31 = .ok (.iaload, 1) := by decide +kernel
theorem dX9_closesCorner_32 : decode cX9_closesCorner 32 = .ok (.if_icmp .ge 108, 3) := by decide +kernel
theorem dX9_closesCorner_35 : decode cX9_closesCorner 35 = .ok (.iconst 0, 1) := by decide +kernel
theorem dX9_closesCorner_36 : decode cX9_closesCorner 36 = .ok (.istore 6, 2) := by decide +kernel
theorem dX9_closesCorner_38 : decode cX9_closesCorner 38 = .ok (.iload 6, 2) := by decide +kernel
theorem dX9_closesCorner_40 : decode cX9_closesCorner 40 = .ok (.aload_n 0, 1) := by decide +kernel
theorem dX9_closesCorner_41 : decode cX9_closesCorner 41 = .ok (.getfield 7, 3) := by decide +kernel
theorem dX9_closesCorner_44 : decode cX9_closesCorner 44 = .ok (.iconst 1, 1) := by decide +kernel
theorem dX9_closesCorner_45 : decode cX9_closesCorner 45 = .ok (.iaload, 1) := by decide +kernel
theorem dX9_closesCorner_46 : decode cX9_closesCorner 46 = .ok (.if_icmp .ge 88, 3) := by decide +kernel
theorem dX9_closesCorner_49 : decode cX9_closesCorner 49 = .ok (.iload 5, 2) := by decide +kernel
theorem dX9_closesCorner_51 : decode cX9_closesCorner 51 = .ok (.iload_n 2, 1) := by decide +kernel
theorem dX9_closesCorner_52 : decode cX9_closesCorner 52 = .ok (.if_icmp .eq 82, 3) := by decide +kernel
theorem dX9_closesCorner_55 : decode cX9_closesCorner 55 = .ok (.iload 4, 2) := by decide +kernel
theorem dX9_closesCorner_57 : decode cX9_closesCorner 57 = .ok (.ifCond .ne 64, 3) := by decide +kernel
theorem dX9_closesCorner_60 : decode cX9_closesCorner 60 = .ok (.iload 6, 2) := by decide +kernel
theorem dX9_closesCorner_62 : decode cX9_closesCorner 62 = .ok (.iload_n 3, 1) := by decide +kernel
theorem dX9_closesCorner_63 : decode cX9_closesCorner 63 = .ok (.if_icmp .eq 62, 3) := by decide +kernel
theorem dX9_closesCorner_66 : decode cX9_closesCorner 66 = .ok (.aload_n 0, 1) := by decide +kernel
theorem dX9_closesCorner_67 : decode cX9_closesCorner 67 = .ok (.aload_n 0, 1) := by decide +kernel
theorem dX9_closesCorner_68 : decode cX9_closesCorner 68 = .ok (.getfield 7, 3) := by decide +kernel
theorem dX9_closesCorner_71 : decode cX9_closesCorner 71 = .ok (.iconst 1, 1) := by decide +kernel
theorem dX9_closesCorner_72 : decode cX9_closesCorner 72 = .ok (.iaload, 1) := by decide +kernel
theorem dX9_closesCorner_73 : decode cX9_closesCorner 73 = .ok (.iload_n 2, 1) := by decide +kernel
theorem dX9_closesCorner_74 : decode cX9_closesCorner 74 = .ok (.imul, 1) := by decide +kernel
theorem dX9_closesCorner_75 : decode cX9_closesCorner 75 = .ok (.iload 6, 2) := by decide +kernel
theorem dX9_closesCorner_77 : decode cX9_closesCorner 77 = .ok (.iadd, 1) := by decide +kernel
theorem dX9_closesCorner_78 : decode cX9_closesCorner 78 = .ok (.invokevirtual 76, 3) := by decide +kernel
theorem dX9_closesCorner_81 : decode cX9_closesCorner 81 = .ok (.ifCond .eq 44, 3) := by decide +kernel
theorem dX9_closesCorner_84 : decode cX9_closesCorner 84 = .ok (.aload_n 0, 1) := by decide +kernel
theorem dX9_closesCorner_85 : decode cX9_closesCorner 85 = .ok (.aload_n 0, 1) := by decide +kernel
theorem dX9_closesCorner_86 : decode cX9_closesCorner 86 = .ok (.getfield 7, 3) := by decide +kernel
theorem dX9_closesCorner_89 : decode cX9_closesCorner 89 = .ok (.iconst 1, 1) := by decide +kernel
theorem dX9_closesCorner_90 : decode cX9_closesCorner 90 = .ok (.iaload, 1) := by decide +kernel
theorem dX9_closesCorner_91 : decode cX9_closesCorner 91 = .ok (.iload 5, 2) := by decide +kernel
theorem dX9_closesCorner_93 : decode cX9_closesCorner 93 = .ok (.imul, 1) := by decide +kernel
theorem dX9_closesCorner_94 : decode cX9_closesCorner 94 = .ok (.iload_n 3, 1) := by decide +kernel
theorem dX9_closesCorner_95 : decode cX9_closesCorner 95 = .ok (.iadd, 1) := by decide +kernel
theorem dX9_closesCorner_96 : decode cX9_closesCorner 96 = .ok (.invokevirtual 76, 3) := by decide +kernel
theorem dX9_closesCorner_99 : decode cX9_closesCorner 99 = .ok (.ifCond .eq 26, 3) := by decide +kernel
theorem dX9_closesCorner_102 : decode cX9_closesCorner 102 = .ok (.aload_n 0, 1) := by decide +kernel
theorem dX9_closesCorner_103 : decode cX9_closesCorner 103 = .ok (.aload_n 0, 1) := by decide +kernel
theorem dX9_closesCorner_104 : decode cX9_closesCorner 104 = .ok (.getfield 7, 3) := by decide +kernel
theorem dX9_closesCorner_107 : decode cX9_closesCorner 107 = .ok (.iconst 1, 1) := by decide +kernel
theorem dX9_closesCorner_108 : decode cX9_closesCorner 108 = .ok (.iaload, 1) := by decide +kernel
theorem dX9_closesCorner_109 : decode cX9_closesCorner 109 = .ok (.iload 5, 2) := by decide +kernel
theorem dX9_closesCorner_111 : decode cX9_closesCorner 111 = .ok (.imul, 1) := by decide +kernel
theorem dX9_closesCorner_112 : decode cX9_closesCorner 112 = .ok (.iload 6, 2) := by decide +kernel
theorem dX9_closesCorner_114 : decode cX9_closesCorner 114 = .ok (.iadd, 1) := by decide +kernel
theorem dX9_closesCorner_115 : decode cX9_closesCorner 115 = .ok (.invokevirtual 76, 3) := by decide +kernel
theorem dX9_closesCorner_118 : decode cX9_closesCorner 118 = .ok (.ifCond .eq 7, 3) := by decide +kernel
theorem dX9_closesCorner_121 : decode cX9_closesCorner 121 = .ok (.iconst 1, 1) := by decide +kernel
theorem dX9_closesCorner_122 : decode cX9_closesCorner 122 = .ok (.goto 4, 3) := by decide +kernel
theorem dX9_closesCorner_125 : decode cX9_closesCorner 125 = .ok (.iconst 0, 1) := by decide +kernel
theorem dX9_closesCorner_126 : decode cX9_closesCorner 126 = .ok (.istore 4, 2) := by decide +kernel
theorem dX9_closesCorner_128 : decode cX9_closesCorner 128 = .ok (.iinc 6 1, 3) := by decide +kernel
theorem dX9_closesCorner_131 : decode cX9_closesCorner 131 = .ok (.goto (-93), 3) := by decide +kernel
theorem dX9_closesCorner_134 : decode cX9_closesCorner 134 = .ok (.iinc 5 1, 3) := by decide +kernel
theorem dX9_closesCorner_137 : decode cX9_closesCorner 137 = .ok (.goto (-113), 3) := by decide +kernel
theorem dX9_closesCorner_140 : decode cX9_closesCorner 140 = .ok (.iload 4, 2) := by decide +kernel
theorem dX9_closesCorner_142 : decode cX9_closesCorner 142 = .ok (.ireturn, 1) := by decide +kernel
theorem dX9_isOn_0 : decode cX9_isOn 0 = .ok (.aload_n 0, 1) := by decide +kernel
theorem dX9_isOn_1 : decode cX9_isOn 1 = .ok (.getfield 7, 3) := by decide +kernel
theorem dX9_isOn_4 : decode cX9_isOn 4 = .ok (.iconst 5, 1) := by decide +kernel
theorem dX9_isOn_5 : decode cX9_isOn 5 = .ok (.iload_n 1, 1) := by decide +kernel
theorem dX9_isOn_6 : decode cX9_isOn 6 = .ok (.iadd, 1) := by decide +kernel
theorem dX9_isOn_7 : decode cX9_isOn 7 = .ok (.iaload, 1) := by decide +kernel
theorem dX9_isOn_8 : decode cX9_isOn 8 = .ok (.istore_n 2, 1) := by decide +kernel
theorem dX9_isOn_9 : decode cX9_isOn 9 = .ok (.iload_n 2, 1) := by decide +kernel
theorem dX9_isOn_10 : decode cX9_isOn 10 = .ok (.ifCond .lt 27, 3) := by decide +kernel
theorem dX9_isOn_13 : decode cX9_isOn 13 = .ok (.aload_n 0, 1) := by decide +kernel
theorem dX9_isOn_14 : decode cX9_isOn 14 = .ok (.iload_n 2, 1) := by decide +kernel
theorem dX9_isOn_15 : decode cX9_isOn 15 = .ok (.invokevirtual 76, 3) := by decide +kernel
theorem dX9_isOn_18 : decode cX9_isOn 18 = .ok (.ifCond .eq 19, 3) := by decide +kernel
theorem dX9_isOn_21 : decode cX9_isOn 21 = .ok (.aload_n 0, 1) := by decide +kernel
theorem dX9_isOn_22 : decode cX9_isOn 22 = .ok (.getfield 7, 3) := by decide +kernel
theorem dX9_isOn_25 : decode cX9_isOn 25 = .ok (.bipush 116, 2) := by decide +kernel
theorem dX9_isOn_27 : decode cX9_isOn 27 = .ok (.iload_n 2, 1) := by decide +kernel
theorem dX9_isOn_28 : decode cX9_isOn 28 = .ok (.iadd, 1) := by decide +kernel
theorem dX9_isOn_29 : decode cX9_isOn 29 = .ok (.iaload, 1) := by decide +kernel
theorem dX9_isOn_30 : decode cX9_isOn 30 = .ok (.ifCond .ne 7, 3) := by decide +kernel
theorem dX9_isOn_33 : decode cX9_isOn 33 = .ok (.iconst 1, 1) := by decide +kernel
theorem dX9_isOn_34 : decode cX9_isOn 34 = .ok (.goto 4, 3) := by decide +kernel
theorem dX9_isOn_37 : decode cX9_isOn 37 = .ok (.iconst 0, 1) := by decide +kernel
theorem dX9_isOn_38 : decode cX9_isOn 38 = .ok (.ireturn, 1) := by decide +kernel
theorem dX9_step_0 : decode cX9_step 0 = .ok (.aload_n 0, 1) := by decide +kernel
theorem dX9_step_1 : decode cX9_step 1 = .ok (.getfield 7, 3) := by decide +kernel
theorem dX9_step_4 : decode cX9_step 4 = .ok (.iconst 1, 1) := by decide +kernel
theorem dX9_step_5 : decode cX9_step 5 = .ok (.iaload, 1) := by decide +kernel
theorem dX9_step_6 : decode cX9_step 6 = .ok (.istore_n 1, 1) := by decide +kernel
theorem dX9_step_7 : decode cX9_step 7 = .ok (.aload_n 0, 1) := by decide +kernel
theorem dX9_step_8 : decode cX9_step 8 = .ok (.getfield 7, 3) := by decide +kernel
theorem dX9_step_11 : decode cX9_step 11 = .ok (.iconst 2, 1) := by decide +kernel
theorem dX9_step_12 : decode cX9_step 12 = .ok (.iaload, 1) := by decide +kernel
theorem dX9_step_13 : decode cX9_step 13 = .ok (.aload_n 0, 1) := by decide +kernel
theorem dX9_step_14 : decode cX9_step 14 = .ok (.getfield 7, 3) := by decide +kernel
theorem dX9_step_17 : decode cX9_step 17 = .ok (.iconst 0, 1) := by decide +kernel
theorem dX9_step_18 : decode cX9_step 18 = .ok (.iaload, 1) := by decide +kernel
theorem dX9_step_19 : decode cX9_step 19 = .ok (.irem, 1) := by decide +kernel
theorem dX9_step_20 : decode cX9_step 20 = .ok (.iload_n 1, 1) := by decide +kernel
theorem dX9_step_21 : decode cX9_step 21 = .ok (.imul, 1) := by decide +kernel
theorem dX9_step_22 : decode cX9_step 22 = .ok (.istore_n 2, 1) := by decide +kernel
theorem dX9_step_23 : decode cX9_step 23 = .ok (.aload_n 0, 1) := by decide +kernel
theorem dX9_step_24 : decode cX9_step 24 = .ok (.iload_n 2, 1) := by decide +kernel
theorem dX9_step_25 : decode cX9_step 25 = .ok (.iload_n 1, 1) := by decide +kernel
theorem dX9_step_26 : decode cX9_step 26 = .ok (.idiv, 1) := by decide +kernel
theorem dX9_step_27 : decode cX9_step 27 = .ok (.invokevirtual 107, 3) := by decide +kernel
theorem dX9_step_30 : decode cX9_step 30 = .ok (.aload_n 0, 1) := by decide +kernel
theorem dX9_step_31 : decode cX9_step 31 = .ok (.getfield 104, 3) := by decide +kernel
theorem dX9_step_34 : decode cX9_step 34 = .ok (.istore_n 3, 1) := by decide +kernel
theorem dX9_step_35 : decode cX9_step 35 = .ok (.iconst 0, 1) := by decide +kernel
theorem dX9_step_36 : decode cX9_step 36 = .ok (.istore 4, 2) := by decide +kernel
theorem dX9_step_38 : decode cX9_step 38 = .ok (.iconst 0, 1) := by decide +kernel
theorem dX9_step_39 : decode cX9_step 39 = .ok (.istore 5, 2) := by decide +kernel
theorem dX9_step_41 : decode cX9_step 41 = .ok (.iconst 0, 1) := by decide +kernel
theorem dX9_step_42 : decode cX9_step 42 = .ok (.istore 6, 2) := by decide +kernel
theorem dX9_step_44 : decode cX9_step 44 = .ok (.iload 6, 2) := by decide +kernel
theorem dX9_step_46 : decode cX9_step 46 = .ok (.iload_n 1, 1) := by decide +kernel
theorem dX9_step_47 : decode cX9_step 47 = .ok (.if_icmp .ge 40, 3) := by decide +kernel
theorem dX9_step_50 : decode cX9_step 50 = .ok (.aload_n 0, 1) := by decide +kernel
theorem dX9_step_51 : decode cX9_step 51 = .ok (.iload_n 2, 1) := by decide +kernel
theorem dX9_step_52 : decode cX9_step 52 = .ok (.iload 6, 2) := by decide +kernel
theorem dX9_step_54 : decode cX9_step 54 = .ok (.iadd, 1) := by decide +kernel
theorem dX9_step_55 : decode cX9_step 55 = .ok (.invokevirtual 76, 3) := by decide +kernel
theorem dX9_step_58 : decode cX9_step 58 = .ok (.ifCond .eq 23, 3) := by decide +kernel
theorem dX9_step_61 : decode cX9_step 61 = .ok (.iload_n 3, 1) := by decide +kernel
theorem dX9_step_62 : decode cX9_step 62 = .ok (.iload 6, 2) := by decide +kernel
theorem dX9_step_64 : decode cX9_step 64 = .ok (.ishr, 1) := by decide +kernel
theorem dX9_step_65 : decode cX9_step 65 = .ok (.iconst 1, 1) := by decide +kernel
theorem dX9_step_66 : decode cX9_step 66 = .ok (.iand, 1) := by decide +kernel
theorem dX9_step_67 : decode cX9_step 67 = .ok (.ifCond .ne 14, 3) := by decide +kernel
theorem dX9_step_70 : decode cX9_step 70 = .ok (.aload_n 0, 1) := by decide +kernel
theorem dX9_step_71 : decode cX9_step 71 = .ok (.iload_n 2, 1) := by decide +kernel
theorem dX9_step_72 : decode cX9_step 72 = .ok (.iload 6, 2) := by decide +kernel
theorem dX9_step_74 : decode cX9_step 74 = .ok (.iadd, 1) := by decide +kernel
theorem dX9_step_75 : decode cX9_step 75 = .ok (.invokevirtual 111, 3) := by decide +kernel
theorem dX9_step_78 : decode cX9_step 78 = .ok (.iinc 4 1, 3) := by decide +kernel
theorem dX9_step_81 : decode cX9_step 81 = .ok (.iinc 6 1, 3) := by decide +kernel
theorem dX9_step_84 : decode cX9_step 84 = .ok (.goto (-40), 3) := by decide +kernel
theorem dX9_step_87 : decode cX9_step 87 = .ok (.iconst 0, 1) := by decide +kernel
theorem dX9_step_88 : decode cX9_step 88 = .ok (.istore 6, 2) := by decide +kernel
theorem dX9_step_90 : decode cX9_step 90 = .ok (.iload 6, 2) := by decide +kernel
theorem dX9_step_92 : decode cX9_step 92 = .ok (.iload_n 1, 1) := by decide +kernel
theorem dX9_step_93 : decode cX9_step 93 = .ok (.if_icmp .ge 57, 3) := by decide +kernel
theorem dX9_step_96 : decode cX9_step 96 = .ok (.aload_n 0, 1) := by decide +kernel
theorem dX9_step_97 : decode cX9_step 97 = .ok (.iload_n 2, 1) := by decide +kernel
theorem dX9_step_98 : decode cX9_step 98 = .ok (.iload 6, 2) := by decide +kernel
theorem dX9_step_100 : decode cX9_step 100 = .ok (.iadd, 1) := by decide +kernel
theorem dX9_step_101 : decode cX9_step 101 = .ok (.invokevirtual 76, 3) := by decide +kernel
theorem dX9_step_104 : decode cX9_step 104 = .ok (.ifCond .ne 40, 3) := by decide +kernel
theorem dX9_step_107 : decode cX9_step 107 = .ok (.iload_n 3, 1) := by decide +kernel
theorem dX9_step_108 : decode cX9_step 108 = .ok (.iload 6, 2) := by decide +kernel
theorem dX9_step_110 : decode cX9_step 110 = .ok (.ishr, 1) := by decide +kernel
theorem dX9_step_111 : decode cX9_step 111 = .ok (.iconst 1, 1) := by decide +kernel
theorem dX9_step_112 : decode cX9_step 112 = .ok (.iand, 1) := by decide +kernel
theorem dX9_step_113 : decode cX9_step 113 = .ok (.iconst 1, 1) := by decide +kernel
theorem dX9_step_114 : decode cX9_step 114 = .ok (.if_icmp .ne 30, 3) := by decide +kernel
theorem dX9_step_117 : decode cX9_step 117 = .ok (.aload_n 0, 1) := by decide +kernel
theorem dX9_step_118 : decode cX9_step 118 = .ok (.getfield 7, 3) := by decide +kernel
theorem dX9_step_121 : decode cX9_step 121 = .ok (.bipush 68, 2) := by decide +kernel
theorem dX9_step_123 : decode cX9_step 123 = .ok (.iload_n 2, 1) := by decide +kernel
theorem dX9_step_124 : decode cX9_step 124 = .ok (.iadd, 1) := by decide +kernel
theorem dX9_step_125 : decode cX9_step 125 = .ok (.iload 6, 2) := by decide +kernel
theorem dX9_step_127 : decode cX9_step 127 = .ok (.iadd, 1) := by decide +kernel
theorem dX9_step_128 : decode cX9_step 128 = .ok (.aload_n 0, 1) := by decide +kernel
theorem dX9_step_129 : decode cX9_step 129 = .ok (.getfield 7, 3) := by decide +kernel
theorem dX9_step_132 : decode cX9_step 132 = .ok (.iconst 2, 1) := by decide +kernel
theorem dX9_step_133 : decode cX9_step 133 = .ok (.iaload, 1) := by decide +kernel
theorem dX9_step_134 : decode cX9_step 134 = .ok (.iastore, 1) := by decide +kernel
theorem dX9_step_135 : decode cX9_step 135 = .ok (.iload 5, 2) := by decide +kernel
theorem dX9_step_137 : decode cX9_step 137 = .ok (.iconst 1, 1) := by decide +kernel
theorem dX9_step_138 : decode cX9_step 138 = .ok (.iload 6, 2) := by decide +kernel
theorem dX9_step_140 : decode cX9_step 140 = .ok (.ishl, 1) := by decide +kernel
theorem dX9_step_141 : decode cX9_step 141 = .ok (.ior, 1) := by decide +kernel
theorem dX9_step_142 : decode cX9_step 142 = .ok (.istore 5, 2) := by decide +kernel
theorem dX9_step_144 : decode cX9_step 144 = .ok (.iinc 6 1, 3) := by decide +kernel
theorem dX9_step_147 : decode cX9_step 147 = .ok (.goto (-57), 3) := by decide +kernel
theorem dX9_step_150 : decode cX9_step 150 = .ok (.iconst 0, 1) := by decide +kernel
theorem dX9_step_151 : decode cX9_step 151 = .ok (.istore 6, 2) := by decide +kernel
theorem dX9_step_153 : decode cX9_step 153 = .ok (.iload 6, 2) := by decide +kernel
theorem dX9_step_155 : decode cX9_step 155 = .ok (.iload_n 1, 1) := by decide +kernel
theorem dX9_step_156 : decode cX9_step 156 = .ok (.if_icmp .ge 48, 3) := by decide +kernel
theorem dX9_step_159 : decode cX9_step 159 = .ok (.iload 5, 2) := by decide +kernel
theorem dX9_step_161 : decode cX9_step 161 = .ok (.iload 6, 2) := by decide +kernel
theorem dX9_step_163 : decode cX9_step 163 = .ok (.ishr, 1) := by decide +kernel
theorem dX9_step_164 : decode cX9_step 164 = .ok (.iconst 1, 1) := by decide +kernel
theorem dX9_step_165 : decode cX9_step 165 = .ok (.iand, 1) := by decide +kernel
theorem dX9_step_166 : decode cX9_step 166 = .ok (.iconst 1, 1) := by decide +kernel
theorem dX9_step_167 : decode cX9_step 167 = .ok (.if_icmp .ne 31, 3) := by decide +kernel
theorem dX9_step_170 : decode cX9_step 170 = .ok (.aload_n 0, 1) := by decide +kernel
theorem dX9_step_171 : decode cX9_step 171 = .ok (.getfield 7, 3) := by decide +kernel
theorem dX9_step_174 : decode cX9_step 174 = .ok (.bipush 116, 2) := by decide +kernel
theorem dX9_step_176 : decode cX9_step 176 = .ok (.iload_n 2, 1) := by decide +kernel
theorem dX9_step_177 : decode cX9_step 177 = .ok (.iadd, 1) := by decide +kernel
theorem dX9_step_178 : decode cX9_step 178 = .ok (.iload 6, 2) := by decide +kernel
theorem dX9_step_180 : decode cX9_step 180 = .ok (.iadd, 1) := by decide +kernel
theorem dX9_step_181 : decode cX9_step 181 = .ok (.aload_n 0, 1) := by decide +kernel
theorem dX9_step_182 : decode cX9_step 182 = .ok (.iload_n 2, 1) := by decide +kernel
theorem dX9_step_183 : decode cX9_step 183 = .ok (.iload 6, 2) := by decide +kernel
theorem dX9_step_185 : decode cX9_step 185 = .ok (.iadd, 1) := by decide +kernel
theorem dX9_step_186 : decode cX9_step 186 = .ok (.invokevirtual 114, 3) := by decide +kernel
theorem dX9_step_189 : decode cX9_step 189 = .ok (.ifCond .eq 7, 3) := by decide +kernel
theorem dX9_step_192 : decode cX9_step 192 = .ok (.iconst 1, 1) := by decide +kernel
theorem dX9_step_193 : decode cX9_step 193 = .ok (.goto 4, 3) := by decide +kernel
theorem dX9_step_196 : decode cX9_step 196 = .ok (.iconst 0, 1) := by decide +kernel
theorem dX9_step_197 : decode cX9_step 197 = .ok (.iastore, 1) := by decide +kernel
theorem dX9_step_198 : decode cX9_step 198 = .ok (.iinc 6 1, 3) := by decide +kernel
theorem dX9_step_201 : decode cX9_step 201 = .ok (.goto (-48), 3) := by decide +kernel
theorem dX9_step_204 : decode cX9_step 204 = .ok (.iconst 0, 1) := by decide +kernel
theorem dX9_step_205 : decode cX9_step 205 = .ok (.istore 6, 2) := by decide +kernel
theorem dX9_step_207 : decode cX9_step 207 = .ok (.iload 6, 2) := by decide +kernel
theorem dX9_step_209 : decode cX9_step 209 = .ok (.iload_n 1, 1) := by decide +kernel
theorem dX9_step_210 : decode cX9_step 210 = .ok (.if_icmp .ge 85, 3) := by decide +kernel
theorem dX9_step_213 : decode cX9_step 213 = .ok (.iload 5, 2) := by decide +kernel
theorem dX9_step_215 : decode cX9_step 215 = .ok (.iload 6, 2) := by decide +kernel
theorem dX9_step_217 : decode cX9_step 217 = .ok (.ishr, 1) := by decide +kernel
theorem dX9_step_218 : decode cX9_step 218 = .ok (.iconst 1, 1) := by decide +kernel
theorem dX9_step_219 : decode cX9_step 219 = .ok (.iand, 1) := by decide +kernel
theorem dX9_step_220 : decode cX9_step 220 = .ok (.iconst 1, 1) := by decide +kernel
theorem dX9_step_221 : decode cX9_step 221 = .ok (.if_icmp .ne 68, 3) := by decide +kernel
theorem dX9_step_224 : decode cX9_step 224 = .ok (.aload_n 0, 1) := by decide +kernel
theorem dX9_step_225 : decode cX9_step 225 = .ok (.getfield 7, 3) := by decide +kernel
theorem dX9_step_228 : decode cX9_step 228 = .ok (.sipush 164, 3) := by decide +kernel
theorem dX9_step_231 : decode cX9_step 231 = .ok (.iload_n 2, 1) := by decide +kernel
theorem dX9_step_232 : decode cX9_step 232 = .ok (.iadd, 1) := by decide +kernel
theorem dX9_step_233 : decode cX9_step 233 = .ok (.iload 6, 2) := by decide +kernel
theorem dX9_step_235 : decode cX9_step 235 = .ok (.iadd, 1) := by decide +kernel
theorem dX9_step_236 : decode cX9_step 236 = .ok (.aload_n 0, 1) := by decide +kernel
theorem dX9_step_237 : decode cX9_step 237 = .ok (.iconst 0, 1) := by decide +kernel
theorem dX9_step_238 : decode cX9_step 238 = .ok (.invokevirtual 117, 3) := by decide +kernel
theorem dX9_step_241 : decode cX9_step 241 = .ok (.ifCond .eq 7, 3) := by decide +kernel
theorem dX9_step_244 : decode cX9_step 244 = .ok (.iconst 1, 1) := by decide +kernel
theorem dX9_step_245 : decode cX9_step 245 = .ok (.goto 4, 3) := by decide +kernel
theorem dX9_step_248 : decode cX9_step 248 = .ok (.iconst 0, 1) := by decide +kernel
theorem dX9_step_249 : decode cX9_step 249 = .ok (.aload_n 0, 1) := by decide +kernel
theorem dX9_step_250 : decode cX9_step 250 = .ok (.iconst 1, 1) := by decide +kernel
theorem dX9_step_251 : decode cX9_step 251 = .ok (.invokevirtual 117, 3) := by decide +kernel
theorem dX9_step_254 : decode cX9_step 254 = .ok (.ifCond .eq 7, 3) := by decide +kernel
theorem dX9_step_257 : decode cX9_step 257 = .ok (.iconst 2, 1) := by decide +kernel
theorem dX9_step_258 : decode cX9_step 258 = .ok (.goto 4, 3) := by decide +kernel
theorem dX9_step_261 : decode cX9_step 261 = .ok (.iconst 0, 1) := by decide +kernel
theorem dX9_step_262 : decode cX9_step 262 = .ok (.iadd, 1) := by decide +kernel
theorem dX9_step_263 : decode cX9_step 263 = .ok (.iastore, 1) := by decide +kernel
theorem dX9_step_264 : decode cX9_step 264 = .ok (.aload_n 0, 1) := by decide +kernel
theorem dX9_step_265 : decode cX9_step 265 = .ok (.getfield 7, 3) := by decide +kernel
theorem dX9_step_268 : decode cX9_step 268 = .ok (.sipush 212, 3) := by decide +kernel
theorem dX9_step_271 : decode cX9_step 271 = .ok (.iload_n 2, 1) := by decide +kernel
theorem dX9_step_272 : decode cX9_step 272 = .ok (.iadd, 1) := by decide +kernel
theorem dX9_step_273 : decode cX9_step 273 = .ok (.iload 6, 2) := by decide +kernel
theorem dX9_step_275 : decode cX9_step 275 = .ok (.iadd, 1) := by decide +kernel
theorem dX9_step_276 : decode cX9_step 276 = .ok (.aload_n 0, 1) := by decide +kernel
theorem dX9_step_277 : decode cX9_step 277 = .ok (.getfield 7, 3) := by decide +kernel
theorem dX9_step_280 : decode cX9_step 280 = .ok (.bipush 20, 2) := by decide +kernel
theorem dX9_step_282 : decode cX9_step 282 = .ok (.iload_n 2, 1) := by decide +kernel
theorem dX9_step_283 : decode cX9_step 283 = .ok (.iadd, 1) := by decide +kernel
theorem dX9_step_284 : decode cX9_step 284 = .ok (.iload 6, 2) := by decide +kernel
theorem dX9_step_286 : decode cX9_step 286 = .ok (.iadd, 1) := by decide +kernel
theorem dX9_step_287 : decode cX9_step 287 = .ok (.iaload, 1) := by decide +kernel
theorem dX9_step_288 : decode cX9_step 288 = .ok (.iastore, 1) := by decide +kernel
theorem dX9_step_289 : decode cX9_step 289 = .ok (.iinc 6 1, 3) := by decide +kernel
theorem dX9_step_292 : decode cX9_step 292 = .ok (.goto (-85), 3) := by decide +kernel
theorem dX9_step_295 : decode cX9_step 295 = .ok (.aload_n 0, 1) := by decide +kernel
theorem dX9_step_296 : decode cX9_step 296 = .ok (.getfield 7, 3) := by decide +kernel
theorem dX9_step_299 : decode cX9_step 299 = .ok (.iconst 2, 1) := by decide +kernel
theorem dX9_step_300 : decode cX9_step 300 = .ok (.dup2, 1) := by decide +kernel
theorem dX9_step_301 : decode cX9_step 301 = .ok (.iaload, 1) := by decide +kernel
theorem dX9_step_302 : decode cX9_step 302 = .ok (.iconst 1, 1) := by decide +kernel
theorem dX9_step_303 : decode cX9_step 303 = .ok (.iadd, 1) := by decide +kernel
theorem dX9_step_304 : decode cX9_step 304 = .ok (.iastore, 1) := by decide +kernel
theorem dX9_step_305 : decode cX9_step 305 = .ok (.iload 4, 2) := by decide +kernel
theorem dX9_step_307 : decode cX9_step 307 = .ok (.ireturn, 1) := by decide +kernel
theorem dX9_size_0 : decode cX9_size 0 = .ok (.fload_n 0, 1) := by decide +kernel
theorem dX9_size_1 : decode cX9_size 1 = .ok (.fconst 0, 1) := by decide +kernel
theorem dX9_size_2 : decode cX9_size 2 = .ok (.fcmp .g, 1) := by decide +kernel
theorem dX9_size_3 : decode cX9_size 3 = .ok (.ifCond .ge 8, 3) := by decide +kernel
theorem dX9_size_6 : decode cX9_size 6 = .ok (.fload_n 0, 1) := by decide +kernel
theorem dX9_size_7 : decode cX9_size 7 = .ok (.fneg, 1) := by decide +kernel
theorem dX9_size_8 : decode cX9_size 8 = .ok (.goto 4, 3) := by decide +kernel
theorem dX9_size_11 : decode cX9_size 11 = .ok (.fload_n 0, 1) := by decide +kernel
theorem dX9_size_12 : decode cX9_size 12 = .ok (.freturn, 1) := by decide +kernel
theorem dX9_gap_0 : decode cX9_gap 0 = .ok (.aload_n 0, 1) := by decide +kernel
theorem dX9_gap_1 : decode cX9_gap 1 = .ok (.getfield 7, 3) := by decide +kernel
theorem dX9_gap_4 : decode cX9_gap 4 = .ok (.iconst 3, 1) := by decide +kernel
theorem dX9_gap_5 : decode cX9_gap 5 = .ok (.iload_n 1, 1) := by decide +kernel
theorem dX9_gap_6 : decode cX9_gap 6 = .ok (.iadd, 1) := by decide +kernel
theorem dX9_gap_7 : decode cX9_gap 7 = .ok (.iaload, 1) := by decide +kernel
theorem dX9_gap_8 : decode cX9_gap 8 = .ok (.istore_n 3, 1) := by decide +kernel
theorem dX9_gap_9 : decode cX9_gap 9 = .ok (.iload_n 3, 1) := by decide +kernel
theorem dX9_gap_10 : decode cX9_gap 10 = .ok (.ifCond .ge 8, 3) := by decide +kernel
theorem dX9_gap_13 : decode cX9_gap 13 = .ok (.bipush (-5), 2) := by decide +kernel
theorem dX9_gap_15 : decode cX9_gap 15 = .ok (.goto 17, 3) := by decide +kernel
theorem dX9_gap_18 : decode cX9_gap 18 = .ok (.iload_n 2, 1) := by decide +kernel
theorem dX9_gap_19 : decode cX9_gap 19 = .ok (.iload_n 3, 1) := by decide +kernel
theorem dX9_gap_20 : decode cX9_gap 20 = .ok (.if_icmp .ge 9, 3) := by decide +kernel
theorem dX9_gap_23 : decode cX9_gap 23 = .ok (.iload_n 3, 1) := by decide +kernel
theorem dX9_gap_24 : decode cX9_gap 24 = .ok (.iload_n 2, 1) := by decide +kernel
theorem dX9_gap_25 : decode cX9_gap 25 = .ok (.isub, 1) := by decide +kernel
theorem dX9_gap_26 : decode cX9_gap 26 = .ok (.goto 6, 3) := by decide +kernel
theorem dX9_gap_29 : decode cX9_gap 29 = .ok (.iload_n 2, 1) := by decide +kernel
theorem dX9_gap_30 : decode cX9_gap 30 = .ok (.iload_n 3, 1) := by decide +kernel
theorem dX9_gap_31 : decode cX9_gap 31 = .ok (.isub, 1) := by decide +kernel
theorem dX9_gap_32 : decode cX9_gap 32 = .ok (.ireturn, 1) := by decide +kernel
theorem dX9_off_0 : decode cX9_off 0 = .ok (.aload_n 0, 1) := by decide +kernel
theorem dX9_off_1 : decode cX9_off 1 = .ok (.getfield 22, 3) := by decide +kernel
theorem dX9_off_4 : decode cX9_off 4 = .ok (.iconst 0, 1) := by decide +kernel
theorem dX9_off_5 : decode cX9_off 5 = .ok (.iload_n 1, 1) := by decide +kernel
theorem dX9_off_6 : decode cX9_off 6 = .ok (.iadd, 1) := by decide +kernel
theorem dX9_off_7 : decode cX9_off 7 = .ok (.faload, 1) := by decide +kernel
theorem dX9_off_8 : decode cX9_off 8 = .ok (.fstore 4, 2) := by decide +kernel
theorem dX9_off_10 : decode cX9_off 10 = .ok (.iload_n 3, 1) := by decide +kernel
theorem dX9_off_11 : decode cX9_off 11 = .ok (.i2f, 1) := by decide +kernel
theorem dX9_off_12 : decode cX9_off 12 = .ok (.fload 4, 2) := by decide +kernel
theorem dX9_off_14 : decode cX9_off 14 = .ok (.fsub, 1) := by decide +kernel
theorem dX9_off_15 : decode cX9_off 15 = .ok (.invokestatic 120, 3) := by decide +kernel
theorem dX9_off_18 : decode cX9_off 18 = .ok (.fload 4, 2) := by decide +kernel
theorem dX9_off_20 : decode cX9_off 20 = .ok (.fdiv, 1) := by decide +kernel
theorem dX9_off_21 : decode cX9_off 21 = .ok (.fstore 5, 2) := by decide +kernel
theorem dX9_off_23 : decode cX9_off 23 = .ok (.aload_n 0, 1) := by decide +kernel
theorem dX9_off_24 : decode cX9_off 24 = .ok (.iload_n 1, 1) := by decide +kernel
theorem dX9_off_25 : decode cX9_off 25 = .ok (.iload_n 2, 1) := by decide +kernel
theorem dX9_off_26 : decode cX9_off 26 = .ok (.invokevirtual 124, 3) := by decide +kernel
theorem dX9_off_29 : decode cX9_off 29 = .ok (.istore 6, 2) := by decide +kernel
theorem dX9_off_31 : decode cX9_off 31 = .ok (.iload 6, 2) := by decide +kernel
theorem dX9_off_33 : decode cX9_off 33 = .ok (.ifCond .ge 6, 3) := by decide +kernel
theorem dX9_off_36 : decode cX9_off 36 = .ok (.fload 5, 2) := by decide +kernel
theorem dX9_off_38 : decode cX9_off 38 = .ok (.freturn, 1) := by decide +kernel
theorem dX9_off_39 : decode cX9_off 39 = .ok (.aload_n 0, 1) := by decide +kernel
theorem dX9_off_40 : decode cX9_off 40 = .ok (.getfield 22, 3) := by decide +kernel
theorem dX9_off_43 : decode cX9_off 43 = .ok (.iconst 2, 1) := by decide +kernel
theorem dX9_off_44 : decode cX9_off 44 = .ok (.iload_n 1, 1) := by decide +kernel
theorem dX9_off_45 : decode cX9_off 45 = .ok (.iadd, 1) := by decide +kernel
theorem dX9_off_46 : decode cX9_off 46 = .ok (.faload, 1) := by decide +kernel
theorem dX9_off_47 : decode cX9_off 47 = .ok (.fstore 7, 2) := by decide +kernel
theorem dX9_off_49 : decode cX9_off 49 = .ok (.fload 5, 2) := by decide +kernel
theorem dX9_off_51 : decode cX9_off 51 = .ok (.iload 6, 2) := by decide +kernel
theorem dX9_off_53 : decode cX9_off 53 = .ok (.i2f, 1) := by decide +kernel
theorem dX9_off_54 : decode cX9_off 54 = .ok (.fload 7, 2) := by decide +kernel
theorem dX9_off_56 : decode cX9_off 56 = .ok (.fsub, 1) := by decide +kernel
theorem dX9_off_57 : decode cX9_off 57 = .ok (.invokestatic 120, 3) := by decide +kernel
theorem dX9_off_60 : decode cX9_off 60 = .ok (.fload 7, 2) := by decide +kernel
theorem dX9_off_62 : decode cX9_off 62 = .ok (.fdiv, 1) := by decide +kernel
theorem dX9_off_63 : decode cX9_off 63 = .ok (.ldc 42, 2) := by decide +kernel
theorem dX9_off_65 : decode cX9_off 65 = .ok (.fmul, 1) := by decide +kernel
theorem dX9_off_66 : decode cX9_off 66 = .ok (.fadd, 1) := by decide +kernel
theorem dX9_off_67 : decode cX9_off 67 = .ok (.freturn, 1) := by decide +kernel
theorem dX9_learned_0 : decode cX9_learned 0 = .ok (.fload_n 1, 1) := by decide +kernel
theorem dX9_learned_1 : decode cX9_learned 1 = .ok (.iload_n 2, 1) := by decide +kernel
theorem dX9_learned_2 : decode cX9_learned 2 = .ok (.i2f, 1) := by decide +kernel
theorem dX9_learned_3 : decode cX9_learned 3 = .ok (.fload_n 1, 1) := by decide +kernel
theorem dX9_learned_4 : decode cX9_learned 4 = .ok (.fsub, 1) := by decide +kernel
theorem dX9_learned_5 : decode cX9_learned 5 = .ok (.aload_n 0, 1) := by decide +kernel
theorem dX9_learned_6 : decode cX9_learned 6 = .ok (.getfield 22, 3) := by decide +kernel
theorem dX9_learned_9 : decode cX9_learned 9 = .ok (.bipush 6, 2) := by decide +kernel
theorem dX9_learned_11 : decode cX9_learned 11 = .ok (.faload, 1) := by decide +kernel
theorem dX9_learned_12 : decode cX9_learned 12 = .ok (.fmul, 1) := by decide +kernel
theorem dX9_learned_13 : decode cX9_learned 13 = .ok (.fadd, 1) := by decide +kernel
theorem dX9_learned_14 : decode cX9_learned 14 = .ok (.fstore_n 3, 1) := by decide +kernel
theorem dX9_learned_15 : decode cX9_learned 15 = .ok (.fload_n 3, 1) := by decide +kernel
theorem dX9_learned_16 : decode cX9_learned 16 = .ok (.ldc 42, 2) := by decide +kernel
theorem dX9_learned_18 : decode cX9_learned 18 = .ok (.fcmp .g, 1) := by decide +kernel
theorem dX9_learned_19 : decode cX9_learned 19 = .ok (.ifCond .ge 8, 3) := by decide +kernel
theorem dX9_learned_22 : decode cX9_learned 22 = .ok (.ldc 42, 2) := by decide +kernel
theorem dX9_learned_24 : decode cX9_learned 24 = .ok (.goto 4, 3) := by decide +kernel
theorem dX9_learned_27 : decode cX9_learned 27 = .ok (.fload_n 3, 1) := by decide +kernel
theorem dX9_learned_28 : decode cX9_learned 28 = .ok (.freturn, 1) := by decide +kernel
theorem dX9_learn_0 : decode cX9_learn 0 = .ok (.aload_n 0, 1) := by decide +kernel
theorem dX9_learn_1 : decode cX9_learn 1 = .ok (.iload_n 1, 1) := by decide +kernel
theorem dX9_learn_2 : decode cX9_learn 2 = .ok (.iload_n 2, 1) := by decide +kernel
theorem dX9_learn_3 : decode cX9_learn 3 = .ok (.invokevirtual 124, 3) := by decide +kernel
theorem dX9_learn_6 : decode cX9_learn 6 = .ok (.istore 4, 2) := by decide +kernel
theorem dX9_learn_8 : decode cX9_learn 8 = .ok (.aload_n 0, 1) := by decide +kernel
theorem dX9_learn_9 : decode cX9_learn 9 = .ok (.getfield 22, 3) := by decide +kernel
theorem dX9_learn_12 : decode cX9_learn 12 = .ok (.iconst 0, 1) := by decide +kernel
theorem dX9_learn_13 : decode cX9_learn 13 = .ok (.iload_n 1, 1) := by decide +kernel
theorem dX9_learn_14 : decode cX9_learn 14 = .ok (.iadd, 1) := by decide +kernel
theorem dX9_learn_15 : decode cX9_learn 15 = .ok (.aload_n 0, 1) := by decide +kernel
theorem dX9_learn_16 : decode cX9_learn 16 = .ok (.aload_n 0, 1) := by decide +kernel
theorem dX9_learn_17 : decode cX9_learn 17 = .ok (.getfield 22, 3) := by decide +kernel
theorem dX9_learn_20 : decode cX9_learn 20 = .ok (.iconst 0, 1) := by decide +kernel
theorem dX9_learn_21 : decode cX9_learn 21 = .ok (.iload_n 1, 1) := by decide +kernel
theorem dX9_learn_22 : decode cX9_learn 22 = .ok (.iadd, 1) := by decide +kernel
theorem dX9_learn_23 : decode cX9_learn 23 = .ok (.faload, 1) := by decide +kernel
theorem dX9_learn_24 : decode cX9_learn 24 = .ok (.iload_n 3, 1) := by decide +kernel
theorem dX9_learn_25 : decode cX9_learn 25 = .ok (.invokevirtual 128, 3) := by decide +kernel
theorem dX9_learn_28 : decode cX9_learn 28 = .ok (.fastore, 1) := by decide +kernel
theorem dX9_learn_29 : decode cX9_learn 29 = .ok (.iload 4, 2) := by decide +kernel
theorem dX9_learn_31 : decode cX9_learn 31 = .ok (.ifCond .lt 25, 3) := by decide +kernel
theorem dX9_learn_34 : decode cX9_learn 34 = .ok (.aload_n 0, 1) := by decide +kernel
theorem dX9_learn_35 : decode cX9_learn 35 = .ok (.getfield 22, 3) := by decide +kernel
theorem dX9_learn_38 : decode cX9_learn 38 = .ok (.iconst 2, 1) := by decide +kernel
theorem dX9_learn_39 : decode cX9_learn 39 = .ok (.iload_n 1, 1) := by decide +kernel
theorem dX9_learn_40 : decode cX9_learn 40 = .ok (.iadd, 1) := by decide +kernel
theorem dX9_learn_41 : decode cX9_learn 41 = .ok (.aload_n 0, 1) := by decide +kernel
theorem dX9_learn_42 : decode cX9_learn 42 = .ok (.aload_n 0, 1) := by decide +kernel
theorem dX9_learn_43 : decode cX9_learn 43 = .ok (.getfield 22, 3) := by decide +kernel
theorem dX9_learn_46 : decode cX9_learn 46 = .ok (.iconst 2, 1) := by decide +kernel
theorem dX9_learn_47 : decode cX9_learn 47 = .ok (.iload_n 1, 1) := by decide +kernel
theorem dX9_learn_48 : decode cX9_learn 48 = .ok (.iadd, 1) := by decide +kernel
theorem dX9_learn_49 : decode cX9_learn 49 = .ok (.faload, 1) := by decide +kernel
theorem dX9_learn_50 : decode cX9_learn 50 = .ok (.iload 4, 2) := by decide +kernel
theorem dX9_learn_52 : decode cX9_learn 52 = .ok (.invokevirtual 128, 3) := by decide +kernel
theorem dX9_learn_55 : decode cX9_learn 55 = .ok (.fastore, 1) := by decide +kernel
theorem dX9_learn_56 : decode cX9_learn 56 = .ok (.aload_n 0, 1) := by decide +kernel
theorem dX9_learn_57 : decode cX9_learn 57 = .ok (.getfield 7, 3) := by decide +kernel
theorem dX9_learn_60 : decode cX9_learn 60 = .ok (.iconst 3, 1) := by decide +kernel
theorem dX9_learn_61 : decode cX9_learn 61 = .ok (.iload_n 1, 1) := by decide +kernel
theorem dX9_learn_62 : decode cX9_learn 62 = .ok (.iadd, 1) := by decide +kernel
theorem dX9_learn_63 : decode cX9_learn 63 = .ok (.iload_n 2, 1) := by decide +kernel
theorem dX9_learn_64 : decode cX9_learn 64 = .ok (.iastore, 1) := by decide +kernel
theorem dX9_learn_65 : decode cX9_learn 65 = .ok (.return_, 1) := by decide +kernel
theorem dX9_judged_0 : decode cX9_judged 0 = .ok (.aload_n 0, 1) := by decide +kernel
theorem dX9_judged_1 : decode cX9_judged 1 = .ok (.iload_n 1, 1) := by decide +kernel
theorem dX9_judged_2 : decode cX9_judged 2 = .ok (.invokevirtual 82, 3) := by decide +kernel
theorem dX9_judged_5 : decode cX9_judged 5 = .ok (.istore_n 2, 1) := by decide +kernel
theorem dX9_judged_6 : decode cX9_judged 6 = .ok (.aload_n 0, 1) := by decide +kernel
theorem dX9_judged_7 : decode cX9_judged 7 = .ok (.getfield 7, 3) := by decide +kernel
theorem dX9_judged_10 : decode cX9_judged 10 = .ok (.bipush 116, 2) := by decide +kernel
theorem dX9_judged_12 : decode cX9_judged 12 = .ok (.iload_n 1, 1) := by decide +kernel
theorem dX9_judged_13 : decode cX9_judged 13 = .ok (.iadd, 1) := by decide +kernel
theorem dX9_judged_14 : decode cX9_judged 14 = .ok (.iaload, 1) := by decide +kernel
theorem dX9_judged_15 : decode cX9_judged 15 = .ok (.iconst 1, 1) := by decide +kernel
theorem dX9_judged_16 : decode cX9_judged 16 = .ok (.if_icmp .ne 7, 3) := by decide +kernel
theorem dX9_judged_19 : decode cX9_judged 19 = .ok (.iconst 1, 1) := by decide +kernel
theorem dX9_judged_20 : decode cX9_judged 20 = .ok (.goto 4, 3) := by decide +kernel
theorem dX9_judged_23 : decode cX9_judged 23 = .ok (.iconst 0, 1) := by decide +kernel
theorem dX9_judged_24 : decode cX9_judged 24 = .ok (.istore_n 3, 1) := by decide +kernel
theorem dX9_judged_25 : decode cX9_judged 25 = .ok (.iload_n 2, 1) := by decide +kernel
theorem dX9_judged_26 : decode cX9_judged 26 = .ok (.ifCond .lt 13, 3) := by decide +kernel
theorem dX9_judged_29 : decode cX9_judged 29 = .ok (.iload_n 3, 1) := by decide +kernel
theorem dX9_judged_30 : decode cX9_judged 30 = .ok (.ifCond .eq 7, 3) := by decide +kernel
theorem dX9_judged_33 : decode cX9_judged 33 = .ok (.iconst 2, 1) := by decide +kernel
theorem dX9_judged_34 : decode cX9_judged 34 = .ok (.goto 4, 3) := by decide +kernel
theorem dX9_judged_37 : decode cX9_judged 37 = .ok (.iload_n 2, 1) := by decide +kernel
theorem dX9_judged_38 : decode cX9_judged 38 = .ok (.ireturn, 1) := by decide +kernel
theorem dX9_judged_39 : decode cX9_judged 39 = .ok (.aload_n 0, 1) := by decide +kernel
theorem dX9_judged_40 : decode cX9_judged 40 = .ok (.getfield 7, 3) := by decide +kernel
theorem dX9_judged_43 : decode cX9_judged 43 = .ok (.bipush 68, 2) := by decide +kernel
theorem dX9_judged_45 : decode cX9_judged 45 = .ok (.iload_n 1, 1) := by decide +kernel
theorem dX9_judged_46 : decode cX9_judged 46 = .ok (.iadd, 1) := by decide +kernel
theorem dX9_judged_47 : decode cX9_judged 47 = .ok (.iaload, 1) := by decide +kernel
theorem dX9_judged_48 : decode cX9_judged 48 = .ok (.istore 4, 2) := by decide +kernel
theorem dX9_judged_50 : decode cX9_judged 50 = .ok (.aload_n 0, 1) := by decide +kernel
theorem dX9_judged_51 : decode cX9_judged 51 = .ok (.getfield 7, 3) := by decide +kernel
theorem dX9_judged_54 : decode cX9_judged 54 = .ok (.iconst 2, 1) := by decide +kernel
theorem dX9_judged_55 : decode cX9_judged 55 = .ok (.iaload, 1) := by decide +kernel
theorem dX9_judged_56 : decode cX9_judged 56 = .ok (.iload 4, 2) := by decide +kernel
theorem dX9_judged_58 : decode cX9_judged 58 = .ok (.isub, 1) := by decide +kernel
theorem dX9_judged_59 : decode cX9_judged 59 = .ok (.istore 5, 2) := by decide +kernel
theorem dX9_judged_61 : decode cX9_judged 61 = .ok (.aload_n 0, 1) := by decide +kernel
theorem dX9_judged_62 : decode cX9_judged 62 = .ok (.iconst 0, 1) := by decide +kernel
theorem dX9_judged_63 : decode cX9_judged 63 = .ok (.iload 4, 2) := by decide +kernel
theorem dX9_judged_65 : decode cX9_judged 65 = .ok (.iload 5, 2) := by decide +kernel
theorem dX9_judged_67 : decode cX9_judged 67 = .ok (.invokevirtual 132, 3) := by decide +kernel
theorem dX9_judged_70 : decode cX9_judged 70 = .ok (.fstore 6, 2) := by decide +kernel
theorem dX9_judged_72 : decode cX9_judged 72 = .ok (.aload_n 0, 1) := by decide +kernel
theorem dX9_judged_73 : decode cX9_judged 73 = .ok (.iconst 1, 1) := by decide +kernel
theorem dX9_judged_74 : decode cX9_judged 74 = .ok (.iload 4, 2) := by decide +kernel
theorem dX9_judged_76 : decode cX9_judged 76 = .ok (.iload 5, 2) := by decide +kernel
theorem dX9_judged_78 : decode cX9_judged 78 = .ok (.invokevirtual 132, 3) := by decide +kernel
theorem dX9_judged_81 : decode cX9_judged 81 = .ok (.fstore 7, 2) := by decide +kernel
theorem dX9_judged_83 : decode cX9_judged 83 = .ok (.fload 7, 2) := by decide +kernel
theorem dX9_judged_85 : decode cX9_judged 85 = .ok (.fload 6, 2) := by decide +kernel
theorem dX9_judged_87 : decode cX9_judged 87 = .ok (.fcmp .g, 1) := by decide +kernel
theorem dX9_judged_88 : decode cX9_judged 88 = .ok (.ifCond .ge 7, 3) := by decide +kernel
theorem dX9_judged_91 : decode cX9_judged 91 = .ok (.iconst 1, 1) := by decide +kernel
theorem dX9_judged_92 : decode cX9_judged 92 = .ok (.goto 4, 3) := by decide +kernel
theorem dX9_judged_95 : decode cX9_judged 95 = .ok (.iconst 0, 1) := by decide +kernel
theorem dX9_judged_96 : decode cX9_judged 96 = .ok (.istore 8, 2) := by decide +kernel
theorem dX9_judged_98 : decode cX9_judged 98 = .ok (.iload_n 3, 1) := by decide +kernel
theorem dX9_judged_99 : decode cX9_judged 99 = .ok (.ifCond .eq 32, 3) := by decide +kernel
theorem dX9_judged_102 : decode cX9_judged 102 = .ok (.iload 8, 2) := by decide +kernel
theorem dX9_judged_104 : decode cX9_judged 104 = .ok (.ifCond .ne 8, 3) := by decide +kernel
theorem dX9_judged_107 : decode cX9_judged 107 = .ok (.fload 6, 2) := by decide +kernel
theorem dX9_judged_109 : decode cX9_judged 109 = .ok (.goto 5, 3) := by decide +kernel
theorem dX9_judged_112 : decode cX9_judged 112 = .ok (.fload 7, 2) := by decide +kernel
theorem dX9_judged_114 : decode cX9_judged 114 = .ok (.aload_n 0, 1) := by decide +kernel
theorem dX9_judged_115 : decode cX9_judged 115 = .ok (.getfield 22, 3) := by decide +kernel
theorem dX9_judged_118 : decode cX9_judged 118 = .ok (.iconst 5, 1) := by decide +kernel
theorem dX9_judged_119 : decode cX9_judged 119 = .ok (.faload, 1) := by decide +kernel
theorem dX9_judged_120 : decode cX9_judged 120 = .ok (.fcmp .g, 1) := by decide +kernel
theorem dX9_judged_121 : decode cX9_judged 121 = .ok (.ifCond .gt 8, 3) := by decide +kernel
theorem dX9_judged_124 : decode cX9_judged 124 = .ok (.iload 8, 2) := by decide +kernel
theorem dX9_judged_126 : decode cX9_judged 126 = .ok (.goto 4, 3) := by decide +kernel
theorem dX9_judged_129 : decode cX9_judged 129 = .ok (.iconst 2, 1) := by decide +kernel
theorem dX9_judged_130 : decode cX9_judged 130 = .ok (.ireturn, 1) := by decide +kernel
theorem dX9_judged_131 : decode cX9_judged 131 = .ok (.fload 6, 2) := by decide +kernel
theorem dX9_judged_133 : decode cX9_judged 133 = .ok (.fload 7, 2) := by decide +kernel
theorem dX9_judged_135 : decode cX9_judged 135 = .ok (.fsub, 1) := by decide +kernel
theorem dX9_judged_136 : decode cX9_judged 136 = .ok (.invokestatic 120, 3) := by decide +kernel
theorem dX9_judged_139 : decode cX9_judged 139 = .ok (.aload_n 0, 1) := by decide +kernel
theorem dX9_judged_140 : decode cX9_judged 140 = .ok (.getfield 22, 3) := by decide +kernel
theorem dX9_judged_143 : decode cX9_judged 143 = .ok (.iconst 4, 1) := by decide +kernel
theorem dX9_judged_144 : decode cX9_judged 144 = .ok (.faload, 1) := by decide +kernel
theorem dX9_judged_145 : decode cX9_judged 145 = .ok (.fcmp .g, 1) := by decide +kernel
theorem dX9_judged_146 : decode cX9_judged 146 = .ok (.ifCond .ge 21, 3) := by decide +kernel
theorem dX9_judged_149 : decode cX9_judged 149 = .ok (.aload_n 0, 1) := by decide +kernel
theorem dX9_judged_150 : decode cX9_judged 150 = .ok (.getfield 7, 3) := by decide +kernel
theorem dX9_judged_153 : decode cX9_judged 153 = .ok (.bipush 16, 2) := by decide +kernel
theorem dX9_judged_155 : decode cX9_judged 155 = .ok (.iaload, 1) := by decide +kernel
theorem dX9_judged_156 : decode cX9_judged 156 = .ok (.bipush 20, 2) := by decide +kernel
theorem dX9_judged_158 : decode cX9_judged 158 = .ok (.if_icmp .ne 7, 3) := by decide +kernel
theorem dX9_judged_161 : decode cX9_judged 161 = .ok (.iconst 2, 1) := by decide +kernel
theorem dX9_judged_162 : decode cX9_judged 162 = .ok (.goto 4, 3) := by decide +kernel
theorem dX9_judged_165 : decode cX9_judged 165 = .ok (.iconst 3, 1) := by decide +kernel
theorem dX9_judged_166 : decode cX9_judged 166 = .ok (.ireturn, 1) := by decide +kernel
theorem dX9_judged_167 : decode cX9_judged 167 = .ok (.iload 8, 2) := by decide +kernel
theorem dX9_judged_169 : decode cX9_judged 169 = .ok (.ireturn, 1) := by decide +kernel
theorem dX9_giveSign_0 : decode cX9_giveSign 0 = .ok (.aload_n 0, 1) := by decide +kernel
theorem dX9_giveSign_1 : decode cX9_giveSign 1 = .ok (.iload_n 2, 1) := by decide +kernel
theorem dX9_giveSign_2 : decode cX9_giveSign 2 = .ok (.invokevirtual 79, 3) := by decide +kernel
theorem dX9_giveSign_5 : decode cX9_giveSign 5 = .ok (.ifCond .ne 18, 3) := by decide +kernel
theorem dX9_giveSign_8 : decode cX9_giveSign 8 = .ok (.aload_n 0, 1) := by decide +kernel
theorem dX9_giveSign_9 : decode cX9_giveSign 9 = .ok (.getfield 7, 3) := by decide +kernel
theorem dX9_giveSign_12 : decode cX9_giveSign 12 = .ok (.sipush 260, 3) := by decide +kernel
theorem dX9_giveSign_15 : decode cX9_giveSign 15 = .ok (.iload_n 2, 1) := by decide +kernel
theorem dX9_giveSign_16 : decode cX9_giveSign 16 = .ok (.iadd, 1) := by decide +kernel
theorem dX9_giveSign_17 : decode cX9_giveSign 17 = .ok (.iaload, 1) := by decide +kernel
theorem dX9_giveSign_18 : decode cX9_giveSign 18 = .ok (.bipush 46, 2) := by decide +kernel
theorem dX9_giveSign_20 : decode cX9_giveSign 20 = .ok (.if_icmp .ne 4, 3) := by decide +kernel
theorem dX9_giveSign_23 : decode cX9_giveSign 23 = .ok (.return_, 1) := by decide +kernel
theorem dX9_giveSign_24 : decode cX9_giveSign 24 = .ok (.iload_n 3, 1) := by decide +kernel
theorem dX9_giveSign_25 : decode cX9_giveSign 25 = .ok (.iload_n 1, 1) := by decide +kernel
theorem dX9_giveSign_26 : decode cX9_giveSign 26 = .ok (.ishr, 1) := by decide +kernel
theorem dX9_giveSign_27 : decode cX9_giveSign 27 = .ok (.iconst 1, 1) := by decide +kernel
theorem dX9_giveSign_28 : decode cX9_giveSign 28 = .ok (.iand, 1) := by decide +kernel
theorem dX9_giveSign_29 : decode cX9_giveSign 29 = .ok (.iconst 1, 1) := by decide +kernel
theorem dX9_giveSign_30 : decode cX9_giveSign 30 = .ok (.if_icmp .eq 27, 3) := by decide +kernel
theorem dX9_giveSign_33 : decode cX9_giveSign 33 = .ok (.aload_n 0, 1) := by decide +kernel
theorem dX9_giveSign_34 : decode cX9_giveSign 34 = .ok (.getfield 7, 3) := by decide +kernel
theorem dX9_giveSign_37 : decode cX9_giveSign 37 = .ok (.bipush 7, 2) := by decide +kernel
theorem dX9_giveSign_39 : decode cX9_giveSign 39 = .ok (.iload_n 1, 1) := by decide +kernel
theorem dX9_giveSign_40 : decode cX9_giveSign 40 = .ok (.iadd, 1) := by decide +kernel
theorem dX9_giveSign_41 : decode cX9_giveSign 41 = .ok (.iaload, 1) := by decide +kernel
theorem dX9_giveSign_42 : decode cX9_giveSign 42 = .ok (.iconst 1, 1) := by decide +kernel
theorem dX9_giveSign_43 : decode cX9_giveSign 43 = .ok (.if_icmp .ne 18, 3) := by decide +kernel
theorem dX9_giveSign_46 : decode cX9_giveSign 46 = .ok (.iload_n 3, 1) := by decide +kernel
theorem dX9_giveSign_47 : decode cX9_giveSign 47 = .ok (.iconst 1, 1) := by decide +kernel
theorem dX9_giveSign_48 : decode cX9_giveSign 48 = .ok (.iload_n 1, 1) := by decide +kernel
theorem dX9_giveSign_49 : decode cX9_giveSign 49 = .ok (.isub, 1) := by decide +kernel
theorem dX9_giveSign_50 : decode cX9_giveSign 50 = .ok (.ishr, 1) := by decide +kernel
theorem dX9_giveSign_51 : decode cX9_giveSign 51 = .ok (.iconst 1, 1) := by decide +kernel
theorem dX9_giveSign_52 : decode cX9_giveSign 52 = .ok (.iand, 1) := by decide +kernel
theorem dX9_giveSign_53 : decode cX9_giveSign 53 = .ok (.iconst 1, 1) := by decide +kernel
theorem dX9_giveSign_54 : decode cX9_giveSign 54 = .ok (.if_icmp .ne 7, 3) := by decide +kernel
theorem dX9_giveSign_57 : decode cX9_giveSign 57 = .ok (.iconst 1, 1) := by decide +kernel
theorem dX9_giveSign_58 : decode cX9_giveSign 58 = .ok (.goto 4, 3) := by decide +kernel
theorem dX9_giveSign_61 : decode cX9_giveSign 61 = .ok (.iconst 0, 1) := by decide +kernel
theorem dX9_giveSign_62 : decode cX9_giveSign 62 = .ok (.istore 4, 2) := by decide +kernel
theorem dX9_giveSign_64 : decode cX9_giveSign 64 = .ok (.aload_n 0, 1) := by decide +kernel
theorem dX9_giveSign_65 : decode cX9_giveSign 65 = .ok (.getfield 7, 3) := by decide +kernel
theorem dX9_giveSign_68 : decode cX9_giveSign 68 = .ok (.sipush 544, 3) := by decide +kernel
theorem dX9_giveSign_71 : decode cX9_giveSign 71 = .ok (.bipush 24, 2) := by decide +kernel
theorem dX9_giveSign_73 : decode cX9_giveSign 73 = .ok (.iload_n 1, 1) := by decide +kernel
theorem dX9_giveSign_74 : decode cX9_giveSign 74 = .ok (.imul, 1) := by decide +kernel
theorem dX9_giveSign_75 : decode cX9_giveSign 75 = .ok (.iadd, 1) := by decide +kernel
theorem dX9_giveSign_76 : decode cX9_giveSign 76 = .ok (.aload_n 0, 1) := by decide +kernel
theorem dX9_giveSign_77 : decode cX9_giveSign 77 = .ok (.getfield 7, 3) := by decide +kernel
theorem dX9_giveSign_80 : decode cX9_giveSign 80 = .ok (.bipush 17, 2) := by decide +kernel
theorem dX9_giveSign_82 : decode cX9_giveSign 82 = .ok (.iload_n 1, 1) := by decide +kernel
theorem dX9_giveSign_83 : decode cX9_giveSign 83 = .ok (.iadd, 1) := by decide +kernel
theorem dX9_giveSign_84 : decode cX9_giveSign 84 = .ok (.iaload, 1) := by decide +kernel
theorem dX9_giveSign_85 : decode cX9_giveSign 85 = .ok (.bipush 24, 2) := by decide +kernel
theorem dX9_giveSign_87 : decode cX9_giveSign 87 = .ok (.irem, 1) := by decide +kernel
theorem dX9_giveSign_88 : decode cX9_giveSign 88 = .ok (.iadd, 1) := by decide +kernel
theorem dX9_giveSign_89 : decode cX9_giveSign 89 = .ok (.aload_n 0, 1) := by decide +kernel
theorem dX9_giveSign_90 : decode cX9_giveSign 90 = .ok (.getfield 7, 3) := by decide +kernel
theorem dX9_giveSign_93 : decode cX9_giveSign 93 = .ok (.sipush 260, 3) := by decide +kernel
theorem dX9_giveSign_96 : decode cX9_giveSign 96 = .ok (.iload_n 2, 1) := by decide +kernel
theorem dX9_giveSign_97 : decode cX9_giveSign 97 = .ok (.iadd, 1) := by decide +kernel
theorem dX9_giveSign_98 : decode cX9_giveSign 98 = .ok (.iaload, 1) := by decide +kernel
theorem dX9_giveSign_99 : decode cX9_giveSign 99 = .ok (.iload 4, 2) := by decide +kernel
theorem dX9_giveSign_101 : decode cX9_giveSign 101 = .ok (.ifCond .eq 8, 3) := by decide +kernel
theorem dX9_giveSign_104 : decode cX9_giveSign 104 = .ok (.bipush 32, 2) := by decide +kernel
theorem dX9_giveSign_106 : decode cX9_giveSign 106 = .ok (.goto 4, 3) := by decide +kernel
theorem dX9_giveSign_109 : decode cX9_giveSign 109 = .ok (.iconst 0, 1) := by decide +kernel
theorem dX9_giveSign_110 : decode cX9_giveSign 110 = .ok (.isub, 1) := by decide +kernel
theorem dX9_giveSign_111 : decode cX9_giveSign 111 = .ok (.iastore, 1) := by decide +kernel
theorem dX9_giveSign_112 : decode cX9_giveSign 112 = .ok (.aload_n 0, 1) := by decide +kernel
theorem dX9_giveSign_113 : decode cX9_giveSign 113 = .ok (.getfield 7, 3) := by decide +kernel
theorem dX9_giveSign_116 : decode cX9_giveSign 116 = .ok (.bipush 17, 2) := by decide +kernel
theorem dX9_giveSign_118 : decode cX9_giveSign 118 = .ok (.iload_n 1, 1) := by decide +kernel
theorem dX9_giveSign_119 : decode cX9_giveSign 119 = .ok (.iadd, 1) := by decide +kernel
theorem dX9_giveSign_120 : decode cX9_giveSign 120 = .ok (.dup2, 1) := by decide +kernel
theorem dX9_giveSign_121 : decode cX9_giveSign 121 = .ok (.iaload, 1) := by decide +kernel
theorem dX9_giveSign_122 : decode cX9_giveSign 122 = .ok (.iconst 1, 1) := by decide +kernel
theorem dX9_giveSign_123 : decode cX9_giveSign 123 = .ok (.iadd, 1) := by decide +kernel
theorem dX9_giveSign_124 : decode cX9_giveSign 124 = .ok (.iastore, 1) := by decide +kernel
theorem dX9_giveSign_125 : decode cX9_giveSign 125 = .ok (.return_, 1) := by decide +kernel
theorem dX9_countIt_0 : decode cX9_countIt 0 = .ok (.iload_n 1, 1) := by decide +kernel
theorem dX9_countIt_1 : decode cX9_countIt 1 = .ok (.iconst 2, 1) := by decide +kernel
theorem dX9_countIt_2 : decode cX9_countIt 2 = .ok (.if_icmp .ge 41, 3) := by decide +kernel
theorem dX9_countIt_5 : decode cX9_countIt 5 = .ok (.aload_n 0, 1) := by decide +kernel
theorem dX9_countIt_6 : decode cX9_countIt 6 = .ok (.getfield 7, 3) := by decide +kernel
theorem dX9_countIt_9 : decode cX9_countIt 9 = .ok (.bipush 10, 2) := by decide +kernel
theorem dX9_countIt_11 : decode cX9_countIt 11 = .ok (.iload_n 1, 1) := by decide +kernel
theorem dX9_countIt_12 : decode cX9_countIt 12 = .ok (.iadd, 1) := by decide +kernel
theorem dX9_countIt_13 : decode cX9_countIt 13 = .ok (.dup2, 1) := by decide +kernel
theorem dX9_countIt_14 : decode cX9_countIt 14 = .ok (.iaload, 1) := by decide +kernel
theorem dX9_countIt_15 : decode cX9_countIt 15 = .ok (.iconst 1, 1) := by decide +kernel
theorem dX9_countIt_16 : decode cX9_countIt 16 = .ok (.iadd, 1) := by decide +kernel
theorem dX9_countIt_17 : decode cX9_countIt 17 = .ok (.iastore, 1) := by decide +kernel
theorem dX9_countIt_18 : decode cX9_countIt 18 = .ok (.aload_n 0, 1) := by decide +kernel
theorem dX9_countIt_19 : decode cX9_countIt 19 = .ok (.getfield 7, 3) := by decide +kernel
theorem dX9_countIt_22 : decode cX9_countIt 22 = .ok (.bipush 12, 2) := by decide +kernel
theorem dX9_countIt_24 : decode cX9_countIt 24 = .ok (.iload_n 1, 1) := by decide +kernel
theorem dX9_countIt_25 : decode cX9_countIt 25 = .ok (.iadd, 1) := by decide +kernel
theorem dX9_countIt_26 : decode cX9_countIt 26 = .ok (.dup2, 1) := by decide +kernel
theorem dX9_countIt_27 : decode cX9_countIt 27 = .ok (.iaload, 1) := by decide +kernel
theorem dX9_countIt_28 : decode cX9_countIt 28 = .ok (.iload_n 2, 1) := by decide +kernel
theorem dX9_countIt_29 : decode cX9_countIt 29 = .ok (.iload_n 1, 1) := by decide +kernel
theorem dX9_countIt_30 : decode cX9_countIt 30 = .ok (.if_icmp .ne 7, 3) := by decide +kernel
theorem dX9_countIt_33 : decode cX9_countIt 33 = .ok (.iconst 1, 1) := by decide +kernel
theorem dX9_countIt_34 : decode cX9_countIt 34 = .ok (.goto 4, 3) := by decide +kernel
theorem dX9_countIt_37 : decode cX9_countIt 37 = .ok (.iconst 0, 1) := by decide +kernel
theorem dX9_countIt_38 : decode cX9_countIt 38 = .ok (.iadd, 1) := by decide +kernel
theorem dX9_countIt_39 : decode cX9_countIt 39 = .ok (.iastore, 1) := by decide +kernel
theorem dX9_countIt_40 : decode cX9_countIt 40 = .ok (.goto 38, 3) := by decide +kernel
theorem dX9_countIt_43 : decode cX9_countIt 43 = .ok (.iload_n 1, 1) := by decide +kernel
theorem dX9_countIt_44 : decode cX9_countIt 44 = .ok (.iconst 2, 1) := by decide +kernel
theorem dX9_countIt_45 : decode cX9_countIt 45 = .ok (.if_icmp .ne 33, 3) := by decide +kernel
theorem dX9_countIt_48 : decode cX9_countIt 48 = .ok (.aload_n 0, 1) := by decide +kernel
theorem dX9_countIt_49 : decode cX9_countIt 49 = .ok (.getfield 7, 3) := by decide +kernel
theorem dX9_countIt_52 : decode cX9_countIt 52 = .ok (.bipush 14, 2) := by decide +kernel
theorem dX9_countIt_54 : decode cX9_countIt 54 = .ok (.dup2, 1) := by decide +kernel
theorem dX9_countIt_55 : decode cX9_countIt 55 = .ok (.iaload, 1) := by decide +kernel
theorem dX9_countIt_56 : decode cX9_countIt 56 = .ok (.iconst 1, 1) := by decide +kernel
theorem dX9_countIt_57 : decode cX9_countIt 57 = .ok (.iadd, 1) := by decide +kernel
theorem dX9_countIt_58 : decode cX9_countIt 58 = .ok (.iastore, 1) := by decide +kernel
theorem dX9_countIt_59 : decode cX9_countIt 59 = .ok (.aload_n 0, 1) := by decide +kernel
theorem dX9_countIt_60 : decode cX9_countIt 60 = .ok (.getfield 7, 3) := by decide +kernel
theorem dX9_countIt_63 : decode cX9_countIt 63 = .ok (.bipush 15, 2) := by decide +kernel
theorem dX9_countIt_65 : decode cX9_countIt 65 = .ok (.dup2, 1) := by decide +kernel
theorem dX9_countIt_66 : decode cX9_countIt 66 = .ok (.iaload, 1) := by decide +kernel
theorem dX9_countIt_67 : decode cX9_countIt 67 = .ok (.iload_n 2, 1) := by decide +kernel
theorem dX9_countIt_68 : decode cX9_countIt 68 = .ok (.ifCond .ge 7, 3) := by decide +kernel
theorem dX9_countIt_71 : decode cX9_countIt 71 = .ok (.iconst 1, 1) := by decide +kernel
theorem dX9_countIt_72 : decode cX9_countIt 72 = .ok (.goto 4, 3) := by decide +kernel
theorem dX9_countIt_75 : decode cX9_countIt 75 = .ok (.iconst 0, 1) := by decide +kernel
theorem dX9_countIt_76 : decode cX9_countIt 76 = .ok (.iadd, 1) := by decide +kernel
theorem dX9_countIt_77 : decode cX9_countIt 77 = .ok (.iastore, 1) := by decide +kernel
theorem dX9_countIt_78 : decode cX9_countIt 78 = .ok (.return_, 1) := by decide +kernel
theorem dX9_endStroke_0 : decode cX9_endStroke 0 = .ok (.aload_n 0, 1) := by decide +kernel
theorem dX9_endStroke_1 : decode cX9_endStroke 1 = .ok (.iload_n 1, 1) := by decide +kernel
theorem dX9_endStroke_2 : decode cX9_endStroke 2 = .ok (.invokevirtual 136, 3) := by decide +kernel
theorem dX9_endStroke_5 : decode cX9_endStroke 5 = .ok (.istore_n 2, 1) := by decide +kernel
theorem dX9_endStroke_6 : decode cX9_endStroke 6 = .ok (.aload_n 0, 1) := by decide +kernel
theorem dX9_endStroke_7 : decode cX9_endStroke 7 = .ok (.getfield 7, 3) := by decide +kernel
theorem dX9_endStroke_10 : decode cX9_endStroke 10 = .ok (.bipush 68, 2) := by decide +kernel
theorem dX9_endStroke_12 : decode cX9_endStroke 12 = .ok (.iload_n 1, 1) := by decide +kernel
theorem dX9_endStroke_13 : decode cX9_endStroke 13 = .ok (.iadd, 1) := by decide +kernel
theorem dX9_endStroke_14 : decode cX9_endStroke 14 = .ok (.iaload, 1) := by decide +kernel
theorem dX9_endStroke_15 : decode cX9_endStroke 15 = .ok (.istore_n 3, 1) := by decide +kernel
theorem dX9_endStroke_16 : decode cX9_endStroke 16 = .ok (.aload_n 0, 1) := by decide +kernel
theorem dX9_endStroke_17 : decode cX9_endStroke 17 = .ok (.getfield 7, 3) := by decide +kernel
theorem dX9_endStroke_20 : decode cX9_endStroke 20 = .ok (.iconst 2, 1) := by decide +kernel
theorem dX9_endStroke_21 : decode cX9_endStroke 21 = .ok (.iaload, 1) := by decide +kernel
theorem dX9_endStroke_22 : decode cX9_endStroke 22 = .ok (.iload_n 3, 1) := by decide +kernel
theorem dX9_endStroke_23 : decode cX9_endStroke 23 = .ok (.isub, 1) := by decide +kernel
theorem dX9_endStroke_24 : decode cX9_endStroke 24 = .ok (.istore 4, 2) := by decide +kernel
theorem dX9_endStroke_26 : decode cX9_endStroke 26 = .ok (.aload_n 0, 1) := by decide +kernel
theorem dX9_endStroke_27 : decode cX9_endStroke 27 = .ok (.getfield 7, 3) := by decide +kernel
theorem dX9_endStroke_30 : decode cX9_endStroke 30 = .ok (.bipush 9, 2) := by decide +kernel
theorem dX9_endStroke_32 : decode cX9_endStroke 32 = .ok (.iaload, 1) := by decide +kernel
theorem dX9_endStroke_33 : decode cX9_endStroke 33 = .ok (.istore 5, 2) := by decide +kernel
theorem dX9_endStroke_35 : decode cX9_endStroke 35 = .ok (.sipush 308, 3) := by decide +kernel
theorem dX9_endStroke_38 : decode cX9_endStroke 38 = .ok (.bipush 6, 2) := by decide +kernel
theorem dX9_endStroke_40 : decode cX9_endStroke 40 = .ok (.iload 5, 2) := by decide +kernel
theorem dX9_endStroke_42 : decode cX9_endStroke 42 = .ok (.bipush 16, 2) := by decide +kernel
theorem dX9_endStroke_44 : decode cX9_endStroke 44 = .ok (.irem, 1) := by decide +kernel
theorem dX9_endStroke_45 : decode cX9_endStroke 45 = .ok (.imul, 1) := by decide +kernel
theorem dX9_endStroke_46 : decode cX9_endStroke 46 = .ok (.iadd, 1) := by decide +kernel
theorem dX9_endStroke_47 : decode cX9_endStroke 47 = .ok (.istore 6, 2) := by decide +kernel
theorem dX9_endStroke_49 : decode cX9_endStroke 49 = .ok (.aload_n 0, 1) := by decide +kernel
theorem dX9_endStroke_50 : decode cX9_endStroke 50 = .ok (.getfield 7, 3) := by decide +kernel
theorem dX9_endStroke_53 : decode cX9_endStroke 53 = .ok (.iload 6, 2) := by decide +kernel
theorem dX9_endStroke_55 : decode cX9_endStroke 55 = .ok (.iconst 0, 1) := by decide +kernel
theorem dX9_endStroke_56 : decode cX9_endStroke 56 = .ok (.iadd, 1) := by decide +kernel
theorem dX9_endStroke_57 : decode cX9_endStroke 57 = .ok (.iload_n 1, 1) := by decide +kernel
theorem dX9_endStroke_58 : decode cX9_endStroke 58 = .ok (.iastore, 1) := by decide +kernel
theorem dX9_endStroke_59 : decode cX9_endStroke 59 = .ok (.aload_n 0, 1) := by decide +kernel
theorem dX9_endStroke_60 : decode cX9_endStroke 60 = .ok (.getfield 7, 3) := by decide +kernel
theorem dX9_endStroke_63 : decode cX9_endStroke 63 = .ok (.iload 6, 2) := by decide +kernel
theorem dX9_endStroke_65 : decode cX9_endStroke 65 = .ok (.iconst 1, 1) := by decide +kernel
theorem dX9_endStroke_66 : decode cX9_endStroke 66 = .ok (.iadd, 1) := by decide +kernel
theorem dX9_endStroke_67 : decode cX9_endStroke 67 = .ok (.iload_n 3, 1) := by decide +kernel
theorem dX9_endStroke_68 : decode cX9_endStroke 68 = .ok (.iastore, 1) := by decide +kernel
theorem dX9_endStroke_69 : decode cX9_endStroke 69 = .ok (.aload_n 0, 1) := by decide +kernel
theorem dX9_endStroke_70 : decode cX9_endStroke 70 = .ok (.getfield 7, 3) := by decide +kernel
theorem dX9_endStroke_73 : decode cX9_endStroke 73 = .ok (.iload 6, 2) := by decide +kernel
theorem dX9_endStroke_75 : decode cX9_endStroke 75 = .ok (.iconst 2, 1) := by decide +kernel
theorem dX9_endStroke_76 : decode cX9_endStroke 76 = .ok (.iadd, 1) := by decide +kernel
theorem dX9_endStroke_77 : decode cX9_endStroke 77 = .ok (.iload 4, 2) := by decide +kernel
theorem dX9_endStroke_79 : decode cX9_endStroke 79 = .ok (.iastore, 1) := by decide +kernel
theorem dX9_endStroke_80 : decode cX9_endStroke 80 = .ok (.aload_n 0, 1) := by decide +kernel
theorem dX9_endStroke_81 : decode cX9_endStroke 81 = .ok (.getfield 7, 3) := by decide +kernel
theorem dX9_endStroke_84 : decode cX9_endStroke 84 = .ok (.iload 6, 2) := by decide +kernel
theorem dX9_endStroke_86 : decode cX9_endStroke 86 = .ok (.iconst 3, 1) := by decide +kernel
theorem dX9_endStroke_87 : decode cX9_endStroke 87 = .ok (.iadd, 1) := by decide +kernel
theorem dX9_endStroke_88 : decode cX9_endStroke 88 = .ok (.iload_n 2, 1) := by decide +kernel
theorem dX9_endStroke_89 : decode cX9_endStroke 89 = .ok (.iastore, 1) := by decide +kernel
theorem dX9_endStroke_90 : decode cX9_endStroke 90 = .ok (.aload_n 0, 1) := by decide +kernel
theorem dX9_endStroke_91 : decode cX9_endStroke 91 = .ok (.getfield 7, 3) := by decide +kernel
theorem dX9_endStroke_94 : decode cX9_endStroke 94 = .ok (.iload 6, 2) := by decide +kernel
theorem dX9_endStroke_96 : decode cX9_endStroke 96 = .ok (.iconst 4, 1) := by decide +kernel
theorem dX9_endStroke_97 : decode cX9_endStroke 97 = .ok (.iadd, 1) := by decide +kernel
theorem dX9_endStroke_98 : decode cX9_endStroke 98 = .ok (.aload_n 0, 1) := by decide +kernel
theorem dX9_endStroke_99 : decode cX9_endStroke 99 = .ok (.getfield 7, 3) := by decide +kernel
theorem dX9_endStroke_102 : decode cX9_endStroke 102 = .ok (.sipush 212, 3) := by decide +kernel
theorem dX9_endStroke_105 : decode cX9_endStroke 105 = .ok (.iload_n 1, 1) := by decide +kernel
theorem dX9_endStroke_106 : decode cX9_endStroke 106 = .ok (.iadd, 1) := by decide +kernel
theorem dX9_endStroke_107 : decode cX9_endStroke 107 = .ok (.iaload, 1) := by decide +kernel
theorem dX9_endStroke_108 : decode cX9_endStroke 108 = .ok (.iastore, 1) := by decide +kernel
theorem dX9_endStroke_109 : decode cX9_endStroke 109 = .ok (.aload_n 0, 1) := by decide +kernel
theorem dX9_endStroke_110 : decode cX9_endStroke 110 = .ok (.getfield 7, 3) := by decide +kernel
theorem dX9_endStroke_113 : decode cX9_endStroke 113 = .ok (.iload 6, 2) := by decide +kernel
theorem dX9_endStroke_115 : decode cX9_endStroke 115 = .ok (.iconst 5, 1) := by decide +kernel
theorem dX9_endStroke_116 : decode cX9_endStroke 116 = .ok (.iadd, 1) := by decide +kernel
theorem dX9_endStroke_117 : decode cX9_endStroke 117 = .ok (.aload_n 0, 1) := by decide +kernel
theorem dX9_endStroke_118 : decode cX9_endStroke 118 = .ok (.getfield 7, 3) := by decide +kernel
theorem dX9_endStroke_121 : decode cX9_endStroke 121 = .ok (.sipush 164, 3) := by decide +kernel
theorem dX9_endStroke_124 : decode cX9_endStroke 124 = .ok (.iload_n 1, 1) := by decide +kernel
theorem dX9_endStroke_125 : decode cX9_endStroke 125 = .ok (.iadd, 1) := by decide +kernel
theorem dX9_endStroke_126 : decode cX9_endStroke 126 = .ok (.iaload, 1) := by decide +kernel
theorem dX9_endStroke_127 : decode cX9_endStroke 127 = .ok (.iastore, 1) := by decide +kernel
theorem dX9_endStroke_128 : decode cX9_endStroke 128 = .ok (.aload_n 0, 1) := by decide +kernel
theorem dX9_endStroke_129 : decode cX9_endStroke 129 = .ok (.getfield 7, 3) := by decide +kernel
theorem dX9_endStroke_132 : decode cX9_endStroke 132 = .ok (.bipush 9, 2) := by decide +kernel
theorem dX9_endStroke_134 : decode cX9_endStroke 134 = .ok (.dup2, 1) := by decide +kernel
theorem dX9_endStroke_135 : decode cX9_endStroke 135 = .ok (.iaload, 1) := by decide +kernel
theorem dX9_endStroke_136 : decode cX9_endStroke 136 = .ok (.iconst 1, 1) := by decide +kernel
theorem dX9_endStroke_137 : decode cX9_endStroke 137 = .ok (.iadd, 1) := by decide +kernel
theorem dX9_endStroke_138 : decode cX9_endStroke 138 = .ok (.iastore, 1) := by decide +kernel
theorem dX9_endStroke_139 : decode cX9_endStroke 139 = .ok (.iload_n 2, 1) := by decide +kernel
theorem dX9_endStroke_140 : decode cX9_endStroke 140 = .ok (.iconst 3, 1) := by decide +kernel
theorem dX9_endStroke_141 : decode cX9_endStroke 141 = .ok (.if_icmp .ne 89, 3) := by decide +kernel
theorem dX9_endStroke_144 : decode cX9_endStroke 144 = .ok (.sipush 404, 3) := by decide +kernel
theorem dX9_endStroke_147 : decode cX9_endStroke 147 = .ok (.bipush 7, 2) := by decide +kernel
theorem dX9_endStroke_149 : decode cX9_endStroke 149 = .ok (.aload_n 0, 1) := by decide +kernel
theorem dX9_endStroke_150 : decode cX9_endStroke 150 = .ok (.getfield 7, 3) := by decide +kernel
theorem dX9_endStroke_153 : decode cX9_endStroke 153 = .ok (.bipush 16, 2) := by decide +kernel
theorem dX9_endStroke_155 : decode cX9_endStroke 155 = .ok (.iaload, 1) := by decide +kernel
theorem dX9_endStroke_156 : decode cX9_endStroke 156 = .ok (.imul, 1) := by decide +kernel
theorem dX9_endStroke_157 : decode cX9_endStroke 157 = .ok (.iadd, 1) := by decide +kernel
theorem dX9_endStroke_158 : decode cX9_endStroke 158 = .ok (.istore 7, 2) := by decide +kernel
theorem dX9_endStroke_160 : decode cX9_endStroke 160 = .ok (.iconst 0, 1) := by decide +kernel
theorem dX9_endStroke_161 : decode cX9_endStroke 161 = .ok (.istore 8, 2) := by decide +kernel
theorem dX9_endStroke_163 : decode cX9_endStroke 163 = .ok (.iload 8, 2) := by decide +kernel
theorem dX9_endStroke_165 : decode cX9_endStroke 165 = .ok (.bipush 6, 2) := by decide +kernel
theorem dX9_endStroke_167 : decode cX9_endStroke 167 = .ok (.if_icmp .ge 29, 3) := by decide +kernel
theorem dX9_endStroke_170 : decode cX9_endStroke 170 = .ok (.aload_n 0, 1) := by decide +kernel
theorem dX9_endStroke_171 : decode cX9_endStroke 171 = .ok (.getfield 7, 3) := by decide +kernel
theorem dX9_endStroke_174 : decode cX9_endStroke 174 = .ok (.iload 7, 2) := by decide +kernel
theorem dX9_endStroke_176 : decode cX9_endStroke 176 = .ok (.iload 8, 2) := by decide +kernel
theorem dX9_endStroke_178 : decode cX9_endStroke 178 = .ok (.iadd, 1) := by decide +kernel
theorem dX9_endStroke_179 : decode cX9_endStroke 179 = .ok (.aload_n 0, 1) := by decide +kernel
theorem dX9_endStroke_180 : decode cX9_endStroke 180 = .ok (.getfield 7, 3) := by decide +kernel
theorem dX9_endStroke_183 : decode cX9_endStroke 183 = .ok (.iload 6, 2) := by decide +kernel
theorem dX9_endStroke_185 : decode cX9_endStroke 185 = .ok (.iload 8, 2) := by decide +kernel
theorem dX9_endStroke_187 : decode cX9_endStroke 187 = .ok (.iadd, 1) := by decide +kernel
theorem dX9_endStroke_188 : decode cX9_endStroke 188 = .ok (.iaload, 1) := by decide +kernel
theorem dX9_endStroke_189 : decode cX9_endStroke 189 = .ok (.iastore, 1) := by decide +kernel
theorem dX9_endStroke_190 : decode cX9_endStroke 190 = .ok (.iinc 8 1, 3) := by decide +kernel
theorem dX9_endStroke_193 : decode cX9_endStroke 193 = .ok (.goto (-30), 3) := by decide +kernel
theorem dX9_endStroke_196 : decode cX9_endStroke 196 = .ok (.aload_n 0, 1) := by decide +kernel
theorem dX9_endStroke_197 : decode cX9_endStroke 197 = .ok (.getfield 7, 3) := by decide +kernel
theorem dX9_endStroke_200 : decode cX9_endStroke 200 = .ok (.iload 7, 2) := by decide +kernel
theorem dX9_endStroke_202 : decode cX9_endStroke 202 = .ok (.iconst 3, 1) := by decide +kernel
theorem dX9_endStroke_203 : decode cX9_endStroke 203 = .ok (.iadd, 1) := by decide +kernel
theorem dX9_endStroke_204 : decode cX9_endStroke 204 = .ok (.bipush (-5), 2) := by decide +kernel
theorem dX9_endStroke_206 : decode cX9_endStroke 206 = .ok (.iastore, 1) := by decide +kernel
theorem dX9_endStroke_207 : decode cX9_endStroke 207 = .ok (.aload_n 0, 1) := by decide +kernel
theorem dX9_endStroke_208 : decode cX9_endStroke 208 = .ok (.getfield 7, 3) := by decide +kernel
theorem dX9_endStroke_211 : decode cX9_endStroke 211 = .ok (.iload 7, 2) := by decide +kernel
theorem dX9_endStroke_213 : decode cX9_endStroke 213 = .ok (.bipush 6, 2) := by decide +kernel
theorem dX9_endStroke_215 : decode cX9_endStroke 215 = .ok (.iadd, 1) := by decide +kernel
theorem dX9_endStroke_216 : decode cX9_endStroke 216 = .ok (.iload 5, 2) := by decide +kernel
theorem dX9_endStroke_218 : decode cX9_endStroke 218 = .ok (.iastore, 1) := by decide +kernel
theorem dX9_endStroke_219 : decode cX9_endStroke 219 = .ok (.aload_n 0, 1) := by decide +kernel
theorem dX9_endStroke_220 : decode cX9_endStroke 220 = .ok (.getfield 7, 3) := by decide +kernel
theorem dX9_endStroke_223 : decode cX9_endStroke 223 = .ok (.bipush 16, 2) := by decide +kernel
theorem dX9_endStroke_225 : decode cX9_endStroke 225 = .ok (.dup2, 1) := by decide +kernel
theorem dX9_endStroke_226 : decode cX9_endStroke 226 = .ok (.iaload, 1) := by decide +kernel
theorem dX9_endStroke_227 : decode cX9_endStroke 227 = .ok (.iconst 1, 1) := by decide +kernel
theorem dX9_endStroke_228 : decode cX9_endStroke 228 = .ok (.iadd, 1) := by decide +kernel
theorem dX9_endStroke_229 : decode cX9_endStroke 229 = .ok (.iastore, 1) := by decide +kernel
theorem dX9_endStroke_230 : decode cX9_endStroke 230 = .ok (.aload_n 0, 1) := by decide +kernel
theorem dX9_endStroke_231 : decode cX9_endStroke 231 = .ok (.iload_n 2, 1) := by decide +kernel
theorem dX9_endStroke_232 : decode cX9_endStroke 232 = .ok (.aload_n 0, 1) := by decide +kernel
theorem dX9_endStroke_233 : decode cX9_endStroke 233 = .ok (.getfield 7, 3) := by decide +kernel
theorem dX9_endStroke_236 : decode cX9_endStroke 236 = .ok (.sipush 212, 3) := by decide +kernel
theorem dX9_endStroke_239 : decode cX9_endStroke 239 = .ok (.iload_n 1, 1) := by decide +kernel
theorem dX9_endStroke_240 : decode cX9_endStroke 240 = .ok (.iadd, 1) := by decide +kernel
theorem dX9_endStroke_241 : decode cX9_endStroke 241 = .ok (.iaload, 1) := by decide +kernel
theorem dX9_endStroke_242 : decode cX9_endStroke 242 = .ok (.invokevirtual 139, 3) := by decide +kernel
theorem dX9_endStroke_245 : decode cX9_endStroke 245 = .ok (.iload_n 2, 1) := by decide +kernel
theorem dX9_endStroke_246 : decode cX9_endStroke 246 = .ok (.iconst 2, 1) := by decide +kernel
theorem dX9_endStroke_247 : decode cX9_endStroke 247 = .ok (.if_icmp .ge 35, 3) := by decide +kernel
theorem dX9_endStroke_250 : decode cX9_endStroke 250 = .ok (.aload_n 0, 1) := by decide +kernel
theorem dX9_endStroke_251 : decode cX9_endStroke 251 = .ok (.iload_n 1, 1) := by decide +kernel
theorem dX9_endStroke_252 : decode cX9_endStroke 252 = .ok (.invokevirtual 82, 3) := by decide +kernel
theorem dX9_endStroke_255 : decode cX9_endStroke 255 = .ok (.ifCond .ge 11, 3) := by decide +kernel
theorem dX9_endStroke_258 : decode cX9_endStroke 258 = .ok (.aload_n 0, 1) := by decide +kernel
theorem dX9_endStroke_259 : decode cX9_endStroke 259 = .ok (.iload_n 2, 1) := by decide +kernel
theorem dX9_endStroke_260 : decode cX9_endStroke 260 = .ok (.iload_n 3, 1) := by decide +kernel
theorem dX9_endStroke_261 : decode cX9_endStroke 261 = .ok (.iload 4, 2) := by decide +kernel
theorem dX9_endStroke_263 : decode cX9_endStroke 263 = .ok (.invokevirtual 143, 3) := by decide +kernel
theorem dX9_endStroke_266 : decode cX9_endStroke 266 = .ok (.aload_n 0, 1) := by decide +kernel
theorem dX9_endStroke_267 : decode cX9_endStroke 267 = .ok (.iload_n 2, 1) := by decide +kernel
theorem dX9_endStroke_268 : decode cX9_endStroke 268 = .ok (.iload_n 1, 1) := by decide +kernel
theorem dX9_endStroke_269 : decode cX9_endStroke 269 = .ok (.aload_n 0, 1) := by decide +kernel
theorem dX9_endStroke_270 : decode cX9_endStroke 270 = .ok (.getfield 7, 3) := by decide +kernel
theorem dX9_endStroke_273 : decode cX9_endStroke 273 = .ok (.sipush 164, 3) := by decide +kernel
theorem dX9_endStroke_276 : decode cX9_endStroke 276 = .ok (.iload_n 1, 1) := by decide +kernel
theorem dX9_endStroke_277 : decode cX9_endStroke 277 = .ok (.iadd, 1) := by decide +kernel
theorem dX9_endStroke_278 : decode cX9_endStroke 278 = .ok (.iaload, 1) := by decide +kernel
theorem dX9_endStroke_279 : decode cX9_endStroke 279 = .ok (.invokevirtual 147, 3) := by decide +kernel
theorem dX9_endStroke_282 : decode cX9_endStroke 282 = .ok (.aload_n 0, 1) := by decide +kernel
theorem dX9_endStroke_283 : decode cX9_endStroke 283 = .ok (.getfield 7, 3) := by decide +kernel
theorem dX9_endStroke_286 : decode cX9_endStroke 286 = .ok (.bipush 68, 2) := by decide +kernel
theorem dX9_endStroke_288 : decode cX9_endStroke 288 = .ok (.iload_n 1, 1) := by decide +kernel
theorem dX9_endStroke_289 : decode cX9_endStroke 289 = .ok (.iadd, 1) := by decide +kernel
theorem dX9_endStroke_290 : decode cX9_endStroke 290 = .ok (.bipush (-5), 2) := by decide +kernel
theorem dX9_endStroke_292 : decode cX9_endStroke 292 = .ok (.iastore, 1) := by decide +kernel
theorem dX9_endStroke_293 : decode cX9_endStroke 293 = .ok (.aload_n 0, 1) := by decide +kernel
theorem dX9_endStroke_294 : decode cX9_endStroke 294 = .ok (.getfield 7, 3) := by decide +kernel
theorem dX9_endStroke_297 : decode cX9_endStroke 297 = .ok (.bipush 116, 2) := by decide +kernel
theorem dX9_endStroke_299 : decode cX9_endStroke 299 = .ok (.iload_n 1, 1) := by decide +kernel
theorem dX9_endStroke_300 : decode cX9_endStroke 300 = .ok (.iadd, 1) := by decide +kernel
theorem dX9_endStroke_301 : decode cX9_endStroke 301 = .ok (.iconst 0, 1) := by decide +kernel
theorem dX9_endStroke_302 : decode cX9_endStroke 302 = .ok (.iastore, 1) := by decide +kernel
theorem dX9_endStroke_303 : decode cX9_endStroke 303 = .ok (.return_, 1) := by decide +kernel
theorem dX9_held_0 : decode cX9_held 0 = .ok (.iconst 0, 1) := by decide +kernel
theorem dX9_held_1 : decode cX9_held 1 = .ok (.istore_n 2, 1) := by decide +kernel
theorem dX9_held_2 : decode cX9_held 2 = .ok (.iconst 0, 1) := by decide +kernel
theorem dX9_held_3 : decode cX9_held 3 = .ok (.istore_n 3, 1) := by decide +kernel
theorem dX9_held_4 : decode cX9_held 4 = .ok (.iload_n 3, 1) := by decide +kernel
theorem dX9_held_5 : decode cX9_held 5 = .ok (.aload_n 0, 1) := by decide +kernel
theorem dX9_held_6 : decode cX9_held 6 = .ok (.invokevirtual 64, 3) := by decide +kernel
theorem dX9_held_9 : decode cX9_held 9 = .ok (.if_icmp .ge 30, 3) := by decide +kernel
theorem dX9_held_12 : decode cX9_held 12 = .ok (.iload_n 2, 1) := by decide +kernel
theorem dX9_held_13 : decode cX9_held 13 = .ok (.aload_n 0, 1) := by decide +kernel
theorem dX9_held_14 : decode cX9_held 14 = .ok (.getfield 7, 3) := by decide +kernel
theorem dX9_held_17 : decode cX9_held 17 = .ok (.bipush 20, 2) := by decide +kernel
theorem dX9_held_19 : decode cX9_held 19 = .ok (.iload_n 3, 1) := by decide +kernel
theorem dX9_held_20 : decode cX9_held 20 = .ok (.iadd, 1) := by decide +kernel
theorem dX9_held_21 : decode cX9_held 21 = .ok (.iaload, 1) := by decide +kernel
theorem dX9_held_22 : decode cX9_held 22 = .ok (.iload_n 1, 1) := by decide +kernel
theorem dX9_held_23 : decode cX9_held 23 = .ok (.if_icmp .ne 7, 3) := by decide +kernel
theorem dX9_held_26 : decode cX9_held 26 = .ok (.iconst 1, 1) := by decide +kernel
theorem dX9_held_27 : decode cX9_held 27 = .ok (.goto 4, 3) := by decide +kernel
theorem dX9_held_30 : decode cX9_held 30 = .ok (.iconst 0, 1) := by decide +kernel
theorem dX9_held_31 : decode cX9_held 31 = .ok (.iadd, 1) := by decide +kernel
theorem dX9_held_32 : decode cX9_held 32 = .ok (.istore_n 2, 1) := by decide +kernel
theorem dX9_held_33 : decode cX9_held 33 = .ok (.iinc 3 1, 3) := by decide +kernel
theorem dX9_held_36 : decode cX9_held 36 = .ok (.goto (-32), 3) := by decide +kernel
theorem dX9_held_39 : decode cX9_held 39 = .ok (.iload_n 2, 1) := by decide +kernel
theorem dX9_held_40 : decode cX9_held 40 = .ok (.ireturn, 1) := by decide +kernel
theorem dX9_againstPress_0 : decode cX9_againstPress 0 = .ok (.aload_n 0, 1) := by decide +kernel
theorem dX9_againstPress_1 : decode cX9_againstPress 1 = .ok (.iload_n 1, 1) := by decide +kernel
theorem dX9_againstPress_2 : decode cX9_againstPress 2 = .ok (.invokevirtual 86, 3) := by decide +kernel
theorem dX9_againstPress_5 : decode cX9_againstPress 5 = .ok (.ifCond .ne 11, 3) := by decide +kernel
theorem dX9_againstPress_8 : decode cX9_againstPress 8 = .ok (.aload_n 0, 1) := by decide +kernel
theorem dX9_againstPress_9 : decode cX9_againstPress 9 = .ok (.iload_n 2, 1) := by decide +kernel
theorem dX9_againstPress_10 : decode cX9_againstPress 10 = .ok (.invokevirtual 79, 3) := by decide +kernel
theorem dX9_againstPress_13 : decode cX9_againstPress 13 = .ok (.ifCond .eq 5, 3) := by decide +kernel
theorem dX9_againstPress_16 : decode cX9_againstPress 16 = .ok (.iconst (-1), 1) := by decide +kernel
theorem dX9_againstPress_17 : decode cX9_againstPress 17 = .ok (.ireturn, 1) := by decide +kernel
theorem dX9_againstPress_18 : decode cX9_againstPress 18 = .ok (.aload_n 0, 1) := by decide +kernel
theorem dX9_againstPress_19 : decode cX9_againstPress 19 = .ok (.iload_n 2, 1) := by decide +kernel
theorem dX9_againstPress_20 : decode cX9_againstPress 20 = .ok (.invokevirtual 72, 3) := by decide +kernel
theorem dX9_againstPress_23 : decode cX9_againstPress 23 = .ok (.ifCond .eq 8, 3) := by decide +kernel
theorem dX9_againstPress_26 : decode cX9_againstPress 26 = .ok (.bipush (-4), 2) := by decide +kernel
theorem dX9_againstPress_28 : decode cX9_againstPress 28 = .ok (.goto 18, 3) := by decide +kernel
theorem dX9_againstPress_31 : decode cX9_againstPress 31 = .ok (.aload_n 0, 1) := by decide +kernel
theorem dX9_againstPress_32 : decode cX9_againstPress 32 = .ok (.iload_n 1, 1) := by decide +kernel
theorem dX9_againstPress_33 : decode cX9_againstPress 33 = .ok (.invokevirtual 150, 3) := by decide +kernel
theorem dX9_againstPress_36 : decode cX9_againstPress 36 = .ok (.iconst 5, 1) := by decide +kernel
theorem dX9_againstPress_37 : decode cX9_againstPress 37 = .ok (.if_icmp .ne 8, 3) := by decide +kernel
theorem dX9_againstPress_40 : decode cX9_againstPress 40 = .ok (.bipush (-3), 2) := by decide +kernel
theorem dX9_againstPress_42 : decode cX9_againstPress 42 = .ok (.goto 4, 3) := by decide +kernel
theorem dX9_againstPress_45 : decode cX9_againstPress 45 = .ok (.iconst 0, 1) := by decide +kernel
theorem dX9_againstPress_46 : decode cX9_againstPress 46 = .ok (.ireturn, 1) := by decide +kernel
theorem dX9_againstRelease_0 : decode cX9_againstRelease 0 = .ok (.aload_n 0, 1) := by decide +kernel
theorem dX9_againstRelease_1 : decode cX9_againstRelease 1 = .ok (.iload_n 1, 1) := by decide +kernel
theorem dX9_againstRelease_2 : decode cX9_againstRelease 2 = .ok (.invokevirtual 86, 3) := by decide +kernel
theorem dX9_againstRelease_5 : decode cX9_againstRelease 5 = .ok (.ifCond .ne 11, 3) := by decide +kernel
theorem dX9_againstRelease_8 : decode cX9_againstRelease 8 = .ok (.aload_n 0, 1) := by decide +kernel
theorem dX9_againstRelease_9 : decode cX9_againstRelease 9 = .ok (.iload_n 2, 1) := by decide +kernel
theorem dX9_againstRelease_10 : decode cX9_againstRelease 10 = .ok (.invokevirtual 79, 3) := by decide +kernel
theorem dX9_againstRelease_13 : decode cX9_againstRelease 13 = .ok (.ifCond .eq 5, 3) := by decide +kernel
theorem dX9_againstRelease_16 : decode cX9_againstRelease 16 = .ok (.iconst (-1), 1) := by decide +kernel
theorem dX9_againstRelease_17 : decode cX9_againstRelease 17 = .ok (.ireturn, 1) := by decide +kernel
theorem dX9_againstRelease_18 : decode cX9_againstRelease 18 = .ok (.aload_n 0, 1) := by decide +kernel
theorem dX9_againstRelease_19 : decode cX9_againstRelease 19 = .ok (.getfield 7, 3) := by decide +kernel
theorem dX9_againstRelease_22 : decode cX9_againstRelease 22 = .ok (.bipush 20, 2) := by decide +kernel
theorem dX9_againstRelease_24 : decode cX9_againstRelease 24 = .ok (.iload_n 2, 1) := by decide +kernel
theorem dX9_againstRelease_25 : decode cX9_againstRelease 25 = .ok (.iadd, 1) := by decide +kernel
theorem dX9_againstRelease_26 : decode cX9_againstRelease 26 = .ok (.iaload, 1) := by decide +kernel
theorem dX9_againstRelease_27 : decode cX9_againstRelease 27 = .ok (.iload_n 1, 1) := by decide +kernel
theorem dX9_againstRelease_28 : decode cX9_againstRelease 28 = .ok (.if_icmp .ne 7, 3) := by decide +kernel
theorem dX9_againstRelease_31 : decode cX9_againstRelease 31 = .ok (.iconst 0, 1) := by decide +kernel
theorem dX9_againstRelease_32 : decode cX9_againstRelease 32 = .ok (.goto 5, 3) := by decide +kernel
theorem dX9_againstRelease_35 : decode cX9_againstRelease 35 = .ok (.bipush (-4), 2) := by decide +kernel
theorem dX9_againstRelease_37 : decode cX9_againstRelease 37 = .ok (.ireturn, 1) := by decide +kernel
theorem dX9_press_0 : decode cX9_press 0 = .ok (.aload_n 0, 1) := by decide +kernel
theorem dX9_press_1 : decode cX9_press 1 = .ok (.iload_n 1, 1) := by decide +kernel
theorem dX9_press_2 : decode cX9_press 2 = .ok (.iload_n 2, 1) := by decide +kernel
theorem dX9_press_3 : decode cX9_press 3 = .ok (.invokevirtual 153, 3) := by decide +kernel
theorem dX9_press_6 : decode cX9_press 6 = .ok (.istore_n 3, 1) := by decide +kernel
theorem dX9_press_7 : decode cX9_press 7 = .ok (.iload_n 3, 1) := by decide +kernel
theorem dX9_press_8 : decode cX9_press 8 = .ok (.ifCond .ge 5, 3) := by decide +kernel
theorem dX9_press_11 : decode cX9_press 11 = .ok (.iload_n 3, 1) := by decide +kernel
theorem dX9_press_12 : decode cX9_press 12 = .ok (.ireturn, 1) := by decide +kernel
theorem dX9_press_13 : decode cX9_press 13 = .ok (.aload_n 0, 1) := by decide +kernel
theorem dX9_press_14 : decode cX9_press 14 = .ok (.invokevirtual 61, 3) := by decide +kernel
theorem dX9_press_17 : decode cX9_press 17 = .ok (.aload_n 0, 1) := by decide +kernel
theorem dX9_press_18 : decode cX9_press 18 = .ok (.getfield 7, 3) := by decide +kernel
theorem dX9_press_21 : decode cX9_press 21 = .ok (.bipush 20, 2) := by decide +kernel
theorem dX9_press_23 : decode cX9_press 23 = .ok (.iload_n 2, 1) := by decide +kernel
theorem dX9_press_24 : decode cX9_press 24 = .ok (.iadd, 1) := by decide +kernel
theorem dX9_press_25 : decode cX9_press 25 = .ok (.iload_n 1, 1) := by decide +kernel
theorem dX9_press_26 : decode cX9_press 26 = .ok (.iastore, 1) := by decide +kernel
theorem dX9_press_27 : decode cX9_press 27 = .ok (.aload_n 0, 1) := by decide +kernel
theorem dX9_press_28 : decode cX9_press 28 = .ok (.iload_n 1, 1) := by decide +kernel
theorem dX9_press_29 : decode cX9_press 29 = .ok (.invokevirtual 150, 3) := by decide +kernel
theorem dX9_press_32 : decode cX9_press 32 = .ok (.ireturn, 1) := by decide +kernel
theorem dX9_release_0 : decode cX9_release 0 = .ok (.aload_n 0, 1) := by decide +kernel
theorem dX9_release_1 : decode cX9_release 1 = .ok (.iload_n 1, 1) := by decide +kernel
theorem dX9_release_2 : decode cX9_release 2 = .ok (.iload_n 2, 1) := by decide +kernel
theorem dX9_release_3 : decode cX9_release 3 = .ok (.invokevirtual 156, 3) := by decide +kernel
theorem dX9_release_6 : decode cX9_release 6 = .ok (.istore_n 3, 1) := by decide +kernel
theorem dX9_release_7 : decode cX9_release 7 = .ok (.iload_n 3, 1) := by decide +kernel
theorem dX9_release_8 : decode cX9_release 8 = .ok (.ifCond .ge 5, 3) := by decide +kernel
theorem dX9_release_11 : decode cX9_release 11 = .ok (.iload_n 3, 1) := by decide +kernel
theorem dX9_release_12 : decode cX9_release 12 = .ok (.ireturn, 1) := by decide +kernel
theorem dX9_release_13 : decode cX9_release 13 = .ok (.aload_n 0, 1) := by decide +kernel
theorem dX9_release_14 : decode cX9_release 14 = .ok (.invokevirtual 61, 3) := by decide +kernel
theorem dX9_release_17 : decode cX9_release 17 = .ok (.aload_n 0, 1) := by decide +kernel
theorem dX9_release_18 : decode cX9_release 18 = .ok (.getfield 7, 3) := by decide +kernel
theorem dX9_release_21 : decode cX9_release 21 = .ok (.bipush 20, 2) := by decide +kernel
theorem dX9_release_23 : decode cX9_release 23 = .ok (.iload_n 2, 1) := by decide +kernel
theorem dX9_release_24 : decode cX9_release 24 = .ok (.iadd, 1) := by decide +kernel
theorem dX9_release_25 : decode cX9_release 25 = .ok (.bipush (-5), 2) := by decide +kernel
theorem dX9_release_27 : decode cX9_release 27 = .ok (.iastore, 1) := by decide +kernel
theorem dX9_release_28 : decode cX9_release 28 = .ok (.aload_n 0, 1) := by decide +kernel
theorem dX9_release_29 : decode cX9_release 29 = .ok (.iload_n 1, 1) := by decide +kernel
theorem dX9_release_30 : decode cX9_release 30 = .ok (.invokevirtual 150, 3) := by decide +kernel
theorem dX9_release_33 : decode cX9_release 33 = .ok (.ireturn, 1) := by decide +kernel
theorem dX9_steps_0 : decode cX9_steps 0 = .ok (.iconst 0, 1) := by decide +kernel
theorem dX9_steps_1 : decode cX9_steps 1 = .ok (.istore_n 2, 1) := by decide +kernel
theorem dX9_steps_2 : decode cX9_steps 2 = .ok (.iconst 0, 1) := by decide +kernel
theorem dX9_steps_3 : decode cX9_steps 3 = .ok (.istore_n 3, 1) := by decide +kernel
theorem dX9_steps_4 : decode cX9_steps 4 = .ok (.iload_n 3, 1) := by decide +kernel
theorem dX9_steps_5 : decode cX9_steps 5 = .ok (.iload_n 1, 1) := by decide +kernel
theorem dX9_steps_6 : decode cX9_steps 6 = .ok (.if_icmp .ge 16, 3) := by decide +kernel
theorem dX9_steps_9 : decode cX9_steps 9 = .ok (.iload_n 2, 1) := by decide +kernel
theorem dX9_steps_10 : decode cX9_steps 10 = .ok (.aload_n 0, 1) := by decide +kernel
theorem dX9_steps_11 : decode cX9_steps 11 = .ok (.invokevirtual 159, 3) := by decide +kernel
theorem dX9_steps_14 : decode cX9_steps 14 = .ok (.iadd, 1) := by decide +kernel
theorem dX9_steps_15 : decode cX9_steps 15 = .ok (.istore_n 2, 1) := by decide +kernel
theorem dX9_steps_16 : decode cX9_steps 16 = .ok (.iinc 3 1, 3) := by decide +kernel
theorem dX9_steps_19 : decode cX9_steps 19 = .ok (.goto (-15), 3) := by decide +kernel
theorem dX9_steps_22 : decode cX9_steps 22 = .ok (.iload_n 2, 1) := by decide +kernel
theorem dX9_steps_23 : decode cX9_steps 23 = .ok (.ireturn, 1) := by decide +kernel
theorem dX9_tick_0 : decode cX9_tick 0 = .ok (.iload_n 1, 1) := by decide +kernel
theorem dX9_tick_1 : decode cX9_tick 1 = .ok (.iconst 1, 1) := by decide +kernel
theorem dX9_tick_2 : decode cX9_tick 2 = .ok (.bipush 99, 2) := by decide +kernel
theorem dX9_tick_4 : decode cX9_tick 4 = .ok (.invokestatic 68, 3) := by decide +kernel
theorem dX9_tick_7 : decode cX9_tick 7 = .ok (.ifCond .ne 6, 3) := by decide +kernel
theorem dX9_tick_10 : decode cX9_tick 10 = .ok (.bipush (-2), 2) := by decide +kernel
theorem dX9_tick_12 : decode cX9_tick 12 = .ok (.ireturn, 1) := by decide +kernel
theorem dX9_tick_13 : decode cX9_tick 13 = .ok (.aload_n 0, 1) := by decide +kernel
theorem dX9_tick_14 : decode cX9_tick 14 = .ok (.invokevirtual 61, 3) := by decide +kernel
theorem dX9_tick_17 : decode cX9_tick 17 = .ok (.aload_n 0, 1) := by decide +kernel
theorem dX9_tick_18 : decode cX9_tick 18 = .ok (.iload_n 1, 1) := by decide +kernel
theorem dX9_tick_19 : decode cX9_tick 19 = .ok (.invokevirtual 162, 3) := by decide +kernel
theorem dX9_tick_22 : decode cX9_tick 22 = .ok (.ireturn, 1) := by decide +kernel
theorem dX9_noDispute_0 : decode cX9_noDispute 0 = .ok (.iload_n 1, 1) := by decide +kernel
theorem dX9_noDispute_1 : decode cX9_noDispute 1 = .ok (.iconst 0, 1) := by decide +kernel
theorem dX9_noDispute_2 : decode cX9_noDispute 2 = .ok (.aload_n 0, 1) := by decide +kernel
theorem dX9_noDispute_3 : decode cX9_noDispute 3 = .ok (.getfield 7, 3) := by decide +kernel
theorem dX9_noDispute_6 : decode cX9_noDispute 6 = .ok (.bipush 16, 2) := by decide +kernel
theorem dX9_noDispute_8 : decode cX9_noDispute 8 = .ok (.iaload, 1) := by decide +kernel
theorem dX9_noDispute_9 : decode cX9_noDispute 9 = .ok (.iconst 1, 1) := by decide +kernel
theorem dX9_noDispute_10 : decode cX9_noDispute 10 = .ok (.isub, 1) := by decide +kernel
theorem dX9_noDispute_11 : decode cX9_noDispute 11 = .ok (.invokestatic 68, 3) := by decide +kernel
theorem dX9_noDispute_14 : decode cX9_noDispute 14 = .ok (.ifCond .ne 7, 3) := by decide +kernel
theorem dX9_noDispute_17 : decode cX9_noDispute 17 = .ok (.iconst 1, 1) := by decide +kernel
theorem dX9_noDispute_18 : decode cX9_noDispute 18 = .ok (.goto 4, 3) := by decide +kernel
theorem dX9_noDispute_21 : decode cX9_noDispute 21 = .ok (.iconst 0, 1) := by decide +kernel
theorem dX9_noDispute_22 : decode cX9_noDispute 22 = .ok (.ireturn, 1) := by decide +kernel
theorem dX9_settle_0 : decode cX9_settle 0 = .ok (.aload_n 0, 1) := by decide +kernel
theorem dX9_settle_1 : decode cX9_settle 1 = .ok (.iload_n 1, 1) := by decide +kernel
theorem dX9_settle_2 : decode cX9_settle 2 = .ok (.invokevirtual 165, 3) := by decide +kernel
theorem dX9_settle_5 : decode cX9_settle 5 = .ok (.ifCond .eq 5, 3) := by decide +kernel
theorem dX9_settle_8 : decode cX9_settle 8 = .ok (.iconst (-1), 1) := by decide +kernel
theorem dX9_settle_9 : decode cX9_settle 9 = .ok (.ireturn, 1) := by decide +kernel
theorem dX9_settle_10 : decode cX9_settle 10 = .ok (.iload_n 2, 1) := by decide +kernel
theorem dX9_settle_11 : decode cX9_settle 11 = .ok (.iconst 0, 1) := by decide +kernel
theorem dX9_settle_12 : decode cX9_settle 12 = .ok (.iconst 2, 1) := by decide +kernel
theorem dX9_settle_13 : decode cX9_settle 13 = .ok (.invokestatic 68, 3) := by decide +kernel
theorem dX9_settle_16 : decode cX9_settle 16 = .ok (.ifCond .ne 6, 3) := by decide +kernel
theorem dX9_settle_19 : decode cX9_settle 19 = .ok (.bipush (-2), 2) := by decide +kernel
theorem dX9_settle_21 : decode cX9_settle 21 = .ok (.ireturn, 1) := by decide +kernel
theorem dX9_settle_22 : decode cX9_settle 22 = .ok (.sipush 404, 3) := by decide +kernel
theorem dX9_settle_25 : decode cX9_settle 25 = .ok (.bipush 7, 2) := by decide +kernel
theorem dX9_settle_27 : decode cX9_settle 27 = .ok (.iload_n 1, 1) := by decide +kernel
theorem dX9_settle_28 : decode cX9_settle 28 = .ok (.imul, 1) := by decide +kernel
theorem dX9_settle_29 : decode cX9_settle 29 = .ok (.iadd, 1) := by decide +kernel
theorem dX9_settle_30 : decode cX9_settle 30 = .ok (.istore_n 3, 1) := by decide +kernel
theorem dX9_settle_31 : decode cX9_settle 31 = .ok (.aload_n 0, 1) := by decide +kernel
theorem dX9_settle_32 : decode cX9_settle 32 = .ok (.getfield 7, 3) := by decide +kernel
theorem dX9_settle_35 : decode cX9_settle 35 = .ok (.iload_n 3, 1) := by decide +kernel
theorem dX9_settle_36 : decode cX9_settle 36 = .ok (.iconst 3, 1) := by decide +kernel
theorem dX9_settle_37 : decode cX9_settle 37 = .ok (.iadd, 1) := by decide +kernel
theorem dX9_settle_38 : decode cX9_settle 38 = .ok (.iaload, 1) := by decide +kernel
theorem dX9_settle_39 : decode cX9_settle 39 = .ok (.ifCond .lt 6, 3) := by decide +kernel
theorem dX9_settle_42 : decode cX9_settle 42 = .ok (.bipush (-4), 2) := by decide +kernel
theorem dX9_settle_44 : decode cX9_settle 44 = .ok (.ireturn, 1) := by decide +kernel
theorem dX9_settle_45 : decode cX9_settle 45 = .ok (.aload_n 0, 1) := by decide +kernel
theorem dX9_settle_46 : decode cX9_settle 46 = .ok (.invokevirtual 61, 3) := by decide +kernel
theorem dX9_settle_49 : decode cX9_settle 49 = .ok (.aload_n 0, 1) := by decide +kernel
theorem dX9_settle_50 : decode cX9_settle 50 = .ok (.getfield 7, 3) := by decide +kernel
theorem dX9_settle_53 : decode cX9_settle 53 = .ok (.iload_n 3, 1) := by decide +kernel
theorem dX9_settle_54 : decode cX9_settle 54 = .ok (.iconst 3, 1) := by decide +kernel
theorem dX9_settle_55 : decode cX9_settle 55 = .ok (.iadd, 1) := by decide +kernel
theorem dX9_settle_56 : decode cX9_settle 56 = .ok (.iload_n 2, 1) := by decide +kernel
theorem dX9_settle_57 : decode cX9_settle 57 = .ok (.iastore, 1) := by decide +kernel
theorem dX9_settle_58 : decode cX9_settle 58 = .ok (.aload_n 0, 1) := by decide +kernel
theorem dX9_settle_59 : decode cX9_settle 59 = .ok (.getfield 7, 3) := by decide +kernel
theorem dX9_settle_62 : decode cX9_settle 62 = .ok (.bipush 9, 2) := by decide +kernel
theorem dX9_settle_64 : decode cX9_settle 64 = .ok (.iaload, 1) := by decide +kernel
theorem dX9_settle_65 : decode cX9_settle 65 = .ok (.aload_n 0, 1) := by decide +kernel
theorem dX9_settle_66 : decode cX9_settle 66 = .ok (.getfield 7, 3) := by decide +kernel
theorem dX9_settle_69 : decode cX9_settle 69 = .ok (.iload_n 3, 1) := by decide +kernel
theorem dX9_settle_70 : decode cX9_settle 70 = .ok (.bipush 6, 2) := by decide +kernel
theorem dX9_settle_72 : decode cX9_settle 72 = .ok (.iadd, 1) := by decide +kernel
theorem dX9_settle_73 : decode cX9_settle 73 = .ok (.iaload, 1) := by decide +kernel
theorem dX9_settle_74 : decode cX9_settle 74 = .ok (.isub, 1) := by decide +kernel
theorem dX9_settle_75 : decode cX9_settle 75 = .ok (.bipush 16, 2) := by decide +kernel
theorem dX9_settle_77 : decode cX9_settle 77 = .ok (.if_icmp .gt 30, 3) := by decide +kernel
theorem dX9_settle_80 : decode cX9_settle 80 = .ok (.aload_n 0, 1) := by decide +kernel
theorem dX9_settle_81 : decode cX9_settle 81 = .ok (.getfield 7, 3) := by decide +kernel
theorem dX9_settle_84 : decode cX9_settle 84 = .ok (.sipush 308, 3) := by decide +kernel
theorem dX9_settle_87 : decode cX9_settle 87 = .ok (.bipush 6, 2) := by decide +kernel
theorem dX9_settle_89 : decode cX9_settle 89 = .ok (.aload_n 0, 1) := by decide +kernel
theorem dX9_settle_90 : decode cX9_settle 90 = .ok (.getfield 7, 3) := by decide +kernel
theorem dX9_settle_93 : decode cX9_settle 93 = .ok (.iload_n 3, 1) := by decide +kernel
theorem dX9_settle_94 : decode cX9_settle 94 = .ok (.bipush 6, 2) := by decide +kernel
theorem dX9_settle_96 : decode cX9_settle 96 = .ok (.iadd, 1) := by decide +kernel
theorem dX9_settle_97 : decode cX9_settle 97 = .ok (.iaload, 1) := by decide +kernel
theorem dX9_settle_98 : decode cX9_settle 98 = .ok (.bipush 16, 2) := by decide +kernel
theorem dX9_settle_100 : decode cX9_settle 100 = .ok (.irem, 1) := by decide +kernel
theorem dX9_settle_101 : decode cX9_settle 101 = .ok (.imul, 1) := by decide +kernel
theorem dX9_settle_102 : decode cX9_settle 102 = .ok (.iadd, 1) := by decide +kernel
theorem dX9_settle_103 : decode cX9_settle 103 = .ok (.iconst 3, 1) := by decide +kernel
theorem dX9_settle_104 : decode cX9_settle 104 = .ok (.iadd, 1) := by decide +kernel
theorem dX9_settle_105 : decode cX9_settle 105 = .ok (.iload_n 2, 1) := by decide +kernel
theorem dX9_settle_106 : decode cX9_settle 106 = .ok (.iastore, 1) := by decide +kernel
theorem dX9_settle_107 : decode cX9_settle 107 = .ok (.aload_n 0, 1) := by decide +kernel
theorem dX9_settle_108 : decode cX9_settle 108 = .ok (.iload_n 2, 1) := by decide +kernel
theorem dX9_settle_109 : decode cX9_settle 109 = .ok (.aload_n 0, 1) := by decide +kernel
theorem dX9_settle_110 : decode cX9_settle 110 = .ok (.getfield 7, 3) := by decide +kernel
theorem dX9_settle_113 : decode cX9_settle 113 = .ok (.iload_n 3, 1) := by decide +kernel
theorem dX9_settle_114 : decode cX9_settle 114 = .ok (.iconst 4, 1) := by decide +kernel
theorem dX9_settle_115 : decode cX9_settle 115 = .ok (.iadd, 1) := by decide +kernel
theorem dX9_settle_116 : decode cX9_settle 116 = .ok (.iaload, 1) := by decide +kernel
theorem dX9_settle_117 : decode cX9_settle 117 = .ok (.invokevirtual 139, 3) := by decide +kernel
theorem dX9_settle_120 : decode cX9_settle 120 = .ok (.iload_n 2, 1) := by decide +kernel
theorem dX9_settle_121 : decode cX9_settle 121 = .ok (.iconst 2, 1) := by decide +kernel
theorem dX9_settle_122 : decode cX9_settle 122 = .ok (.if_icmp .ge 45, 3) := by decide +kernel
theorem dX9_settle_125 : decode cX9_settle 125 = .ok (.aload_n 0, 1) := by decide +kernel
theorem dX9_settle_126 : decode cX9_settle 126 = .ok (.iload_n 2, 1) := by decide +kernel
theorem dX9_settle_127 : decode cX9_settle 127 = .ok (.aload_n 0, 1) := by decide +kernel
theorem dX9_settle_128 : decode cX9_settle 128 = .ok (.getfield 7, 3) := by decide +kernel
theorem dX9_settle_131 : decode cX9_settle 131 = .ok (.iload_n 3, 1) := by decide +kernel
theorem dX9_settle_132 : decode cX9_settle 132 = .ok (.iconst 1, 1) := by decide +kernel
theorem dX9_settle_133 : decode cX9_settle 133 = .ok (.iadd, 1) := by decide +kernel
theorem dX9_settle_134 : decode cX9_settle 134 = .ok (.iaload, 1) := by decide +kernel
theorem dX9_settle_135 : decode cX9_settle 135 = .ok (.aload_n 0, 1) := by decide +kernel
theorem dX9_settle_136 : decode cX9_settle 136 = .ok (.getfield 7, 3) := by decide +kernel
theorem dX9_settle_139 : decode cX9_settle 139 = .ok (.iload_n 3, 1) := by decide +kernel
theorem dX9_settle_140 : decode cX9_settle 140 = .ok (.iconst 2, 1) := by decide +kernel
theorem dX9_settle_141 : decode cX9_settle 141 = .ok (.iadd, 1) := by decide +kernel
theorem dX9_settle_142 : decode cX9_settle 142 = .ok (.iaload, 1) := by decide +kernel
theorem dX9_settle_143 : decode cX9_settle 143 = .ok (.invokevirtual 143, 3) := by decide +kernel
theorem dX9_settle_146 : decode cX9_settle 146 = .ok (.aload_n 0, 1) := by decide +kernel
theorem dX9_settle_147 : decode cX9_settle 147 = .ok (.iload_n 2, 1) := by decide +kernel
theorem dX9_settle_148 : decode cX9_settle 148 = .ok (.aload_n 0, 1) := by decide +kernel
theorem dX9_settle_149 : decode cX9_settle 149 = .ok (.getfield 7, 3) := by decide +kernel
theorem dX9_settle_152 : decode cX9_settle 152 = .ok (.iload_n 3, 1) := by decide +kernel
theorem dX9_settle_153 : decode cX9_settle 153 = .ok (.iconst 0, 1) := by decide +kernel
theorem dX9_settle_154 : decode cX9_settle 154 = .ok (.iadd, 1) := by decide +kernel
theorem dX9_settle_155 : decode cX9_settle 155 = .ok (.iaload, 1) := by decide +kernel
theorem dX9_settle_156 : decode cX9_settle 156 = .ok (.aload_n 0, 1) := by decide +kernel
theorem dX9_settle_157 : decode cX9_settle 157 = .ok (.getfield 7, 3) := by decide +kernel
theorem dX9_settle_160 : decode cX9_settle 160 = .ok (.iload_n 3, 1) := by decide +kernel
theorem dX9_settle_161 : decode cX9_settle 161 = .ok (.iconst 5, 1) := by decide +kernel
theorem dX9_settle_162 : decode cX9_settle 162 = .ok (.iadd, 1) := by decide +kernel
theorem dX9_settle_163 : decode cX9_settle 163 = .ok (.iaload, 1) := by decide +kernel
theorem dX9_settle_164 : decode cX9_settle 164 = .ok (.invokevirtual 147, 3) := by decide +kernel
theorem dX9_settle_167 : decode cX9_settle 167 = .ok (.aload_n 0, 1) := by decide +kernel
theorem dX9_settle_168 : decode cX9_settle 168 = .ok (.getfield 7, 3) := by decide +kernel
theorem dX9_settle_171 : decode cX9_settle 171 = .ok (.iload_n 3, 1) := by decide +kernel
theorem dX9_settle_172 : decode cX9_settle 172 = .ok (.iconst 0, 1) := by decide +kernel
theorem dX9_settle_173 : decode cX9_settle 173 = .ok (.iadd, 1) := by decide +kernel
theorem dX9_settle_174 : decode cX9_settle 174 = .ok (.iaload, 1) := by decide +kernel
theorem dX9_settle_175 : decode cX9_settle 175 = .ok (.ireturn, 1) := by decide +kernel
theorem dX9_type_0 : decode cX9_type 0 = .ok (.aload_n 0, 1) := by decide +kernel
theorem dX9_type_1 : decode cX9_type 1 = .ok (.getfield 168, 3) := by decide +kernel
theorem dX9_type_4 : decode cX9_type 4 = .ok (.bipush 60, 2) := by decide +kernel
theorem dX9_type_6 : decode cX9_type 6 = .ok (.if_icmp .ne 6, 3) := by decide +kernel
theorem dX9_type_9 : decode cX9_type 9 = .ok (.bipush (-3), 2) := by decide +kernel
theorem dX9_type_11 : decode cX9_type 11 = .ok (.ireturn, 1) := by decide +kernel
theorem dX9_type_12 : decode cX9_type 12 = .ok (.aload_n 0, 1) := by decide +kernel
theorem dX9_type_13 : decode cX9_type 13 = .ok (.getfield 35, 3) := by decide +kernel
theorem dX9_type_16 : decode cX9_type 16 = .ok (.aload_n 0, 1) := by decide +kernel
theorem dX9_type_17 : decode cX9_type 17 = .ok (.getfield 168, 3) := by decide +kernel
theorem dX9_type_20 : decode cX9_type 20 = .ok (.iload_n 1, 1) := by decide +kernel
theorem dX9_type_21 : decode cX9_type 21 = .ok (.castore, 1) := by decide +kernel
theorem dX9_type_22 : decode cX9_type 22 = .ok (.aload_n 0, 1) := by decide +kernel
theorem dX9_type_23 : decode cX9_type 23 = .ok (.dup, 1) := by decide +kernel
theorem dX9_type_24 : decode cX9_type 24 = .ok (.getfield 168, 3) := by decide +kernel
theorem dX9_type_27 : decode cX9_type 27 = .ok (.iconst 1, 1) := by decide +kernel
theorem dX9_type_28 : decode cX9_type 28 = .ok (.iadd, 1) := by decide +kernel
theorem dX9_type_29 : decode cX9_type 29 = .ok (.putfield 168, 3) := by decide +kernel
theorem dX9_type_32 : decode cX9_type 32 = .ok (.aload_n 0, 1) := by decide +kernel
theorem dX9_type_33 : decode cX9_type 33 = .ok (.getfield 168, 3) := by decide +kernel
theorem dX9_type_36 : decode cX9_type 36 = .ok (.ireturn, 1) := by decide +kernel
theorem dX9_clearText_0 : decode cX9_clearText 0 = .ok (.aload_n 0, 1) := by decide +kernel
theorem dX9_clearText_1 : decode cX9_clearText 1 = .ok (.getfield 168, 3) := by decide +kernel
theorem dX9_clearText_4 : decode cX9_clearText 4 = .ok (.istore_n 1, 1) := by decide +kernel
theorem dX9_clearText_5 : decode cX9_clearText 5 = .ok (.aload_n 0, 1) := by decide +kernel
theorem dX9_clearText_6 : decode cX9_clearText 6 = .ok (.iconst 0, 1) := by decide +kernel
theorem dX9_clearText_7 : decode cX9_clearText 7 = .ok (.putfield 168, 3) := by decide +kernel
theorem dX9_clearText_10 : decode cX9_clearText 10 = .ok (.iload_n 1, 1) := by decide +kernel
theorem dX9_clearText_11 : decode cX9_clearText 11 = .ok (.ireturn, 1) := by decide +kernel
theorem dX9_sees_0 : decode cX9_sees 0 = .ok (.aload_n 0, 1) := by decide +kernel
theorem dX9_sees_1 : decode cX9_sees 1 = .ok (.getfield 171, 3) := by decide +kernel
theorem dX9_sees_4 : decode cX9_sees 4 = .ok (.aload_n 0, 1) := by decide +kernel
theorem dX9_sees_5 : decode cX9_sees 5 = .ok (.getfield 168, 3) := by decide +kernel
theorem dX9_sees_8 : decode cX9_sees 8 = .ok (.if_icmp .ge 24, 3) := by decide +kernel
theorem dX9_sees_11 : decode cX9_sees 11 = .ok (.aload_n 0, 1) := by decide +kernel
theorem dX9_sees_12 : decode cX9_sees 12 = .ok (.getfield 35, 3) := by decide +kernel
theorem dX9_sees_15 : decode cX9_sees 15 = .ok (.aload_n 0, 1) := by decide +kernel
theorem dX9_sees_16 : decode cX9_sees 16 = .ok (.getfield 171, 3) := by decide +kernel
theorem dX9_sees_19 : decode cX9_sees 19 = .ok (.caload, 1) := by decide +kernel
theorem dX9_sees_20 : decode cX9_sees 20 = .ok (.iload_n 1, 1) := by decide +kernel
theorem dX9_sees_21 : decode cX9_sees 21 = .ok (.iload_n 2, 1) := by decide +kernel
theorem dX9_sees_22 : decode cX9_sees 22 = .ok (.invokestatic 68, 3) := by decide +kernel
theorem dX9_sees_25 : decode cX9_sees 25 = .ok (.ifCond .eq 7, 3) := by decide +kernel
theorem dX9_sees_28 : decode cX9_sees 28 = .ok (.iconst 1, 1) := by decide +kernel
theorem dX9_sees_29 : decode cX9_sees 29 = .ok (.goto 4, 3) := by decide +kernel
theorem dX9_sees_32 : decode cX9_sees 32 = .ok (.iconst 0, 1) := by decide +kernel
theorem dX9_sees_33 : decode cX9_sees 33 = .ok (.ireturn, 1) := by decide +kernel
theorem dX9_readsNumber_0 : decode cX9_readsNumber 0 = .ok (.aload_n 0, 1) := by decide +kernel
theorem dX9_readsNumber_1 : decode cX9_readsNumber 1 = .ok (.bipush 48, 2) := by decide +kernel
theorem dX9_readsNumber_3 : decode cX9_readsNumber 3 = .ok (.iload_n 1, 1) := by decide +kernel
theorem dX9_readsNumber_4 : decode cX9_readsNumber 4 = .ok (.iadd, 1) := by decide +kernel
theorem dX9_readsNumber_5 : decode cX9_readsNumber 5 = .ok (.bipush 57, 2) := by decide +kernel
theorem dX9_readsNumber_7 : decode cX9_readsNumber 7 = .ok (.invokevirtual 174, 3) := by decide +kernel
theorem dX9_readsNumber_10 : decode cX9_readsNumber 10 = .ok (.ifCond .ne 5, 3) := by decide +kernel
theorem dX9_readsNumber_13 : decode cX9_readsNumber 13 = .ok (.iconst (-1), 1) := by decide +kernel
theorem dX9_readsNumber_14 : decode cX9_readsNumber 14 = .ok (.ireturn, 1) := by decide +kernel
theorem dX9_readsNumber_15 : decode cX9_readsNumber 15 = .ok (.aload_n 0, 1) := by decide +kernel
theorem dX9_readsNumber_16 : decode cX9_readsNumber 16 = .ok (.getfield 35, 3) := by decide +kernel
theorem dX9_readsNumber_19 : decode cX9_readsNumber 19 = .ok (.aload_n 0, 1) := by decide +kernel
theorem dX9_readsNumber_20 : decode cX9_readsNumber 20 = .ok (.getfield 171, 3) := by decide +kernel
theorem dX9_readsNumber_23 : decode cX9_readsNumber 23 = .ok (.caload, 1) := by decide +kernel
theorem dX9_readsNumber_24 : decode cX9_readsNumber 24 = .ok (.bipush 48, 2) := by decide +kernel
theorem dX9_readsNumber_26 : decode cX9_readsNumber 26 = .ok (.isub, 1) := by decide +kernel
theorem dX9_readsNumber_27 : decode cX9_readsNumber 27 = .ok (.istore_n 2, 1) := by decide +kernel
theorem dX9_readsNumber_28 : decode cX9_readsNumber 28 = .ok (.aload_n 0, 1) := by decide +kernel
theorem dX9_readsNumber_29 : decode cX9_readsNumber 29 = .ok (.dup, 1) := by decide +kernel
theorem dX9_readsNumber_30 : decode cX9_readsNumber 30 = .ok (.getfield 171, 3) := by decide +kernel
theorem dX9_readsNumber_33 : decode cX9_readsNumber 33 = .ok (.iconst 1, 1) := by decide +kernel
theorem dX9_readsNumber_34 : decode cX9_readsNumber 34 = .ok (.iadd, 1) := by decide +kernel
theorem dX9_readsNumber_35 : decode cX9_readsNumber 35 = .ok (.putfield 171, 3) := by decide +kernel
theorem dX9_readsNumber_38 : decode cX9_readsNumber 38 = .ok (.iload_n 2, 1) := by decide +kernel
theorem dX9_readsNumber_39 : decode cX9_readsNumber 39 = .ok (.ifCond .le 42, 3) := by decide +kernel
theorem dX9_readsNumber_42 : decode cX9_readsNumber 42 = .ok (.aload_n 0, 1) := by decide +kernel
theorem dX9_readsNumber_43 : decode cX9_readsNumber 43 = .ok (.bipush 48, 2) := by decide +kernel
theorem dX9_readsNumber_45 : decode cX9_readsNumber 45 = .ok (.bipush 57, 2) := by decide +kernel
theorem dX9_readsNumber_47 : decode cX9_readsNumber 47 = .ok (.invokevirtual 174, 3) := by decide +kernel
theorem dX9_readsNumber_50 : decode cX9_readsNumber 50 = .ok (.ifCond .eq 31, 3) := by decide +kernel
theorem dX9_readsNumber_53 : decode cX9_readsNumber 53 = .ok (.bipush 10, 2) := by decide +kernel
theorem dX9_readsNumber_55 : decode cX9_readsNumber 55 = .ok (.iload_n 2, 1) := by decide +kernel
theorem dX9_readsNumber_56 : decode cX9_readsNumber 56 = .ok (.imul, 1) := by decide +kernel
theorem dX9_readsNumber_57 : decode cX9_readsNumber 57 = .ok (.aload_n 0, 1) := by decide +kernel
theorem dX9_readsNumber_58 : decode cX9_readsNumber 58 = .ok (.getfield 35, 3) := by decide +kernel
theorem dX9_readsNumber_61 : decode cX9_readsNumber 61 = .ok (.aload_n 0, 1) := by decide +kernel
theorem dX9_readsNumber_62 : decode cX9_readsNumber 62 = .ok (.getfield 171, 3) := by decide +kernel
theorem dX9_readsNumber_65 : decode cX9_readsNumber 65 = .ok (.caload, 1) := by decide +kernel
theorem dX9_readsNumber_66 : decode cX9_readsNumber 66 = .ok (.iadd, 1) := by decide +kernel
theorem dX9_readsNumber_67 : decode cX9_readsNumber 67 = .ok (.bipush 48, 2) := by decide +kernel
theorem dX9_readsNumber_69 : decode cX9_readsNumber 69 = .ok (.isub, 1) := by decide +kernel
theorem dX9_readsNumber_70 : decode cX9_readsNumber 70 = .ok (.istore_n 2, 1) := by decide +kernel
theorem dX9_readsNumber_71 : decode cX9_readsNumber 71 = .ok (.aload_n 0, 1) := by decide +kernel
theorem dX9_readsNumber_72 : decode cX9_readsNumber 72 = .ok (.dup, 1) := by decide +kernel
theorem dX9_readsNumber_73 : decode cX9_readsNumber 73 = .ok (.getfield 171, 3) := by decide +kernel
theorem dX9_readsNumber_76 : decode cX9_readsNumber 76 = .ok (.iconst 1, 1) := by decide +kernel
theorem dX9_readsNumber_77 : decode cX9_readsNumber 77 = .ok (.iadd, 1) := by decide +kernel
theorem dX9_readsNumber_78 : decode cX9_readsNumber 78 = .ok (.putfield 171, 3) := by decide +kernel
theorem dX9_readsNumber_81 : decode cX9_readsNumber 81 = .ok (.iload_n 2, 1) := by decide +kernel
theorem dX9_readsNumber_82 : decode cX9_readsNumber 82 = .ok (.ireturn, 1) := by decide +kernel
theorem dX9_move_0 : decode cX9_move 0 = .ok (.aload_n 0, 1) := by decide +kernel
theorem dX9_move_1 : decode cX9_move 1 = .ok (.bipush 116, 2) := by decide +kernel
theorem dX9_move_3 : decode cX9_move 3 = .ok (.bipush 116, 2) := by decide +kernel
theorem dX9_move_5 : decode cX9_move 5 = .ok (.invokevirtual 174, 3) := by decide +kernel
theorem dX9_move_8 : decode cX9_move 8 = .ok (.ifCond .eq 42, 3) := by decide +kernel
theorem dX9_move_11 : decode cX9_move 11 = .ok (.aload_n 0, 1) := by decide +kernel
theorem dX9_move_12 : decode cX9_move 12 = .ok (.dup, 1) := by decide +kernel
theorem dX9_move_13 : decode cX9_move 13 = .ok (.getfield 171, 3) := by decide +kernel
theorem dX9_move_16 : decode cX9_move 16 = .ok (.iconst 1, 1) := by decide +kernel
theorem dX9_move_17 : decode cX9_move 17 = .ok (.iadd, 1) := by decide +kernel
theorem dX9_move_18 : decode cX9_move 18 = .ok (.putfield 171, 3) := by decide +kernel
theorem dX9_move_21 : decode cX9_move 21 = .ok (.aload_n 0, 1) := by decide +kernel
theorem dX9_move_22 : decode cX9_move 22 = .ok (.iconst 1, 1) := by decide +kernel
theorem dX9_move_23 : decode cX9_move 23 = .ok (.invokevirtual 178, 3) := by decide +kernel
theorem dX9_move_26 : decode cX9_move 26 = .ok (.istore_n 2, 1) := by decide +kernel
theorem dX9_move_27 : decode cX9_move 27 = .ok (.iload_n 2, 1) := by decide +kernel
theorem dX9_move_28 : decode cX9_move 28 = .ok (.ifCond .ge 8, 3) := by decide +kernel
theorem dX9_move_31 : decode cX9_move 31 = .ok (.bipush (-100), 2) := by decide +kernel
theorem dX9_move_33 : decode cX9_move 33 = .ok (.goto 16, 3) := by decide +kernel
theorem dX9_move_36 : decode cX9_move 36 = .ok (.iload_n 1, 1) := by decide +kernel
theorem dX9_move_37 : decode cX9_move 37 = .ok (.ifCond .eq 11, 3) := by decide +kernel
theorem dX9_move_40 : decode cX9_move 40 = .ok (.aload_n 0, 1) := by decide +kernel
theorem dX9_move_41 : decode cX9_move 41 = .ok (.iload_n 2, 1) := by decide +kernel
theorem dX9_move_42 : decode cX9_move 42 = .ok (.invokevirtual 162, 3) := by decide +kernel
theorem dX9_move_45 : decode cX9_move 45 = .ok (.goto 4, 3) := by decide +kernel
theorem dX9_move_48 : decode cX9_move 48 = .ok (.iconst 0, 1) := by decide +kernel
theorem dX9_move_49 : decode cX9_move 49 = .ok (.ireturn, 1) := by decide +kernel
theorem dX9_move_50 : decode cX9_move 50 = .ok (.aload_n 0, 1) := by decide +kernel
theorem dX9_move_51 : decode cX9_move 51 = .ok (.bipush 48, 2) := by decide +kernel
theorem dX9_move_53 : decode cX9_move 53 = .ok (.bipush 49, 2) := by decide +kernel
theorem dX9_move_55 : decode cX9_move 55 = .ok (.invokevirtual 174, 3) := by decide +kernel
theorem dX9_move_58 : decode cX9_move 58 = .ok (.ifCond .ne 6, 3) := by decide +kernel
theorem dX9_move_61 : decode cX9_move 61 = .ok (.bipush (-100), 2) := by decide +kernel
theorem dX9_move_63 : decode cX9_move 63 = .ok (.ireturn, 1) := by decide +kernel
theorem dX9_move_64 : decode cX9_move 64 = .ok (.aload_n 0, 1) := by decide +kernel
theorem dX9_move_65 : decode cX9_move 65 = .ok (.getfield 35, 3) := by decide +kernel
theorem dX9_move_68 : decode cX9_move 68 = .ok (.aload_n 0, 1) := by decide +kernel
theorem dX9_move_69 : decode cX9_move 69 = .ok (.getfield 171, 3) := by decide +kernel
theorem dX9_move_72 : decode cX9_move 72 = .ok (.caload, 1) := by decide +kernel
theorem dX9_move_73 : decode cX9_move 73 = .ok (.bipush 48, 2) := by decide +kernel
theorem dX9_move_75 : decode cX9_move 75 = .ok (.isub, 1) := by decide +kernel
theorem dX9_move_76 : decode cX9_move 76 = .ok (.istore_n 2, 1) := by decide +kernel
theorem dX9_move_77 : decode cX9_move 77 = .ok (.aload_n 0, 1) := by decide +kernel
theorem dX9_move_78 : decode cX9_move 78 = .ok (.dup, 1) := by decide +kernel
theorem dX9_move_79 : decode cX9_move 79 = .ok (.getfield 171, 3) := by decide +kernel
theorem dX9_move_82 : decode cX9_move 82 = .ok (.iconst 1, 1) := by decide +kernel
theorem dX9_move_83 : decode cX9_move 83 = .ok (.iadd, 1) := by decide +kernel
theorem dX9_move_84 : decode cX9_move 84 = .ok (.putfield 171, 3) := by decide +kernel
theorem dX9_move_87 : decode cX9_move 87 = .ok (.aload_n 0, 1) := by decide +kernel
theorem dX9_move_88 : decode cX9_move 88 = .ok (.bipush 100, 2) := by decide +kernel
theorem dX9_move_90 : decode cX9_move 90 = .ok (.bipush 100, 2) := by decide +kernel
theorem dX9_move_92 : decode cX9_move 92 = .ok (.invokevirtual 174, 3) := by decide +kernel
theorem dX9_move_95 : decode cX9_move 95 = .ok (.istore_n 3, 1) := by decide +kernel
theorem dX9_move_96 : decode cX9_move 96 = .ok (.iload_n 3, 1) := by decide +kernel
theorem dX9_move_97 : decode cX9_move 97 = .ok (.ifCond .ne 17, 3) := by decide +kernel
theorem dX9_move_100 : decode cX9_move 100 = .ok (.aload_n 0, 1) := by decide +kernel
theorem dX9_move_101 : decode cX9_move 101 = .ok (.bipush 117, 2) := by decide +kernel
theorem dX9_move_103 : decode cX9_move 103 = .ok (.bipush 117, 2) := by decide +kernel
theorem dX9_move_105 : decode cX9_move 105 = .ok (.invokevirtual 174, 3) := by decide +kernel
theorem dX9_move_108 : decode cX9_move 108 = .ok (.ifCond .ne 6, 3) := by decide +kernel
theorem dX9_move_111 : decode cX9_move 111 = .ok (.bipush (-100), 2) := by decide +kernel
theorem dX9_move_113 : decode cX9_move 113 = .ok (.ireturn, 1) := by decide +kernel
theorem dX9_move_114 : decode cX9_move 114 = .ok (.aload_n 0, 1) := by decide +kernel
theorem dX9_move_115 : decode cX9_move 115 = .ok (.dup, 1) := by decide +kernel
theorem dX9_move_116 : decode cX9_move 116 = .ok (.getfield 171, 3) := by decide +kernel
theorem dX9_move_119 : decode cX9_move 119 = .ok (.iconst 1, 1) := by decide +kernel
theorem dX9_move_120 : decode cX9_move 120 = .ok (.iadd, 1) := by decide +kernel
theorem dX9_move_121 : decode cX9_move 121 = .ok (.putfield 171, 3) := by decide +kernel
theorem dX9_move_124 : decode cX9_move 124 = .ok (.aload_n 0, 1) := by decide +kernel
theorem dX9_move_125 : decode cX9_move 125 = .ok (.iconst 0, 1) := by decide +kernel
theorem dX9_move_126 : decode cX9_move 126 = .ok (.invokevirtual 178, 3) := by decide +kernel
theorem dX9_move_129 : decode cX9_move 129 = .ok (.istore 4, 2) := by decide +kernel
theorem dX9_move_131 : decode cX9_move 131 = .ok (.iload 4, 2) := by decide +kernel
theorem dX9_move_133 : decode cX9_move 133 = .ok (.ifCond .ge 6, 3) := by decide +kernel
theorem dX9_move_136 : decode cX9_move 136 = .ok (.bipush (-100), 2) := by decide +kernel
theorem dX9_move_138 : decode cX9_move 138 = .ok (.ireturn, 1) := by decide +kernel
theorem dX9_move_139 : decode cX9_move 139 = .ok (.iload_n 1, 1) := by decide +kernel
theorem dX9_move_140 : decode cX9_move 140 = .ok (.ifCond .ne 5, 3) := by decide +kernel
theorem dX9_move_143 : decode cX9_move 143 = .ok (.iconst 0, 1) := by decide +kernel
theorem dX9_move_144 : decode cX9_move 144 = .ok (.ireturn, 1) := by decide +kernel
theorem dX9_move_145 : decode cX9_move 145 = .ok (.iload_n 3, 1) := by decide +kernel
theorem dX9_move_146 : decode cX9_move 146 = .ok (.ifCond .eq 13, 3) := by decide +kernel
theorem dX9_move_149 : decode cX9_move 149 = .ok (.aload_n 0, 1) := by decide +kernel
theorem dX9_move_150 : decode cX9_move 150 = .ok (.iload_n 2, 1) := by decide +kernel
theorem dX9_move_151 : decode cX9_move 151 = .ok (.iload 4, 2) := by decide +kernel
theorem dX9_move_153 : decode cX9_move 153 = .ok (.invokevirtual 153, 3) := by decide +kernel
theorem dX9_move_156 : decode cX9_move 156 = .ok (.goto 10, 3) := by decide +kernel
theorem dX9_move_159 : decode cX9_move 159 = .ok (.aload_n 0, 1) := by decide +kernel
theorem dX9_move_160 : decode cX9_move 160 = .ok (.iload_n 2, 1) := by decide +kernel
theorem dX9_move_161 : decode cX9_move 161 = .ok (.iload 4, 2) := by decide +kernel
theorem dX9_move_163 : decode cX9_move 163 = .ok (.invokevirtual 156, 3) := by decide +kernel
theorem dX9_move_166 : decode cX9_move 166 = .ok (.istore 5, 2) := by decide +kernel
theorem dX9_move_168 : decode cX9_move 168 = .ok (.iload 5, 2) := by decide +kernel
theorem dX9_move_170 : decode cX9_move 170 = .ok (.ifCond .ne 23, 3) := by decide +kernel
theorem dX9_move_173 : decode cX9_move 173 = .ok (.aload_n 0, 1) := by decide +kernel
theorem dX9_move_174 : decode cX9_move 174 = .ok (.getfield 7, 3) := by decide +kernel
theorem dX9_move_177 : decode cX9_move 177 = .ok (.bipush 20, 2) := by decide +kernel
theorem dX9_move_179 : decode cX9_move 179 = .ok (.iload 4, 2) := by decide +kernel
theorem dX9_move_181 : decode cX9_move 181 = .ok (.iadd, 1) := by decide +kernel
theorem dX9_move_182 : decode cX9_move 182 = .ok (.iload_n 3, 1) := by decide +kernel
theorem dX9_move_183 : decode cX9_move 183 = .ok (.ifCond .eq 7, 3) := by decide +kernel
theorem dX9_move_186 : decode cX9_move 186 = .ok (.iload_n 2, 1) := by decide +kernel
theorem dX9_move_187 : decode cX9_move 187 = .ok (.goto 5, 3) := by decide +kernel
theorem dX9_move_190 : decode cX9_move 190 = .ok (.bipush (-5), 2) := by decide +kernel
theorem dX9_move_192 : decode cX9_move 192 = .ok (.iastore, 1) := by decide +kernel
theorem dX9_move_193 : decode cX9_move 193 = .ok (.iload 5, 2) := by decide +kernel
theorem dX9_move_195 : decode cX9_move 195 = .ok (.ireturn, 1) := by decide +kernel
theorem dX9_moves_0 : decode cX9_moves 0 = .ok (.aload_n 0, 1) := by decide +kernel
theorem dX9_moves_1 : decode cX9_moves 1 = .ok (.iconst 0, 1) := by decide +kernel
theorem dX9_moves_2 : decode cX9_moves 2 = .ok (.putfield 171, 3) := by decide +kernel
theorem dX9_moves_5 : decode cX9_moves 5 = .ok (.iconst 0, 1) := by decide +kernel
theorem dX9_moves_6 : decode cX9_moves 6 = .ok (.istore_n 2, 1) := by decide +kernel
theorem dX9_moves_7 : decode cX9_moves 7 = .ok (.iconst 1, 1) := by decide +kernel
theorem dX9_moves_8 : decode cX9_moves 8 = .ok (.istore_n 3, 1) := by decide +kernel
theorem dX9_moves_9 : decode cX9_moves 9 = .ok (.iload_n 3, 1) := by decide +kernel
theorem dX9_moves_10 : decode cX9_moves 10 = .ok (.ifCond .eq 53, 3) := by decide +kernel
theorem dX9_moves_13 : decode cX9_moves 13 = .ok (.aload_n 0, 1) := by decide +kernel
theorem dX9_moves_14 : decode cX9_moves 14 = .ok (.iload_n 1, 1) := by decide +kernel
theorem dX9_moves_15 : decode cX9_moves 15 = .ok (.invokevirtual 181, 3) := by decide +kernel
theorem dX9_moves_18 : decode cX9_moves 18 = .ok (.istore 4, 2) := by decide +kernel
theorem dX9_moves_20 : decode cX9_moves 20 = .ok (.iload 4, 2) := by decide +kernel
theorem dX9_moves_22 : decode cX9_moves 22 = .ok (.ifCond .ge 6, 3) := by decide +kernel
theorem dX9_moves_25 : decode cX9_moves 25 = .ok (.iload 4, 2) := by decide +kernel
theorem dX9_moves_27 : decode cX9_moves 27 = .ok (.ireturn, 1) := by decide +kernel
theorem dX9_moves_28 : decode cX9_moves 28 = .ok (.iload_n 2, 1) := by decide +kernel
theorem dX9_moves_29 : decode cX9_moves 29 = .ok (.iload 4, 2) := by decide +kernel
theorem dX9_moves_31 : decode cX9_moves 31 = .ok (.iadd, 1) := by decide +kernel
theorem dX9_moves_32 : decode cX9_moves 32 = .ok (.istore_n 2, 1) := by decide +kernel
theorem dX9_moves_33 : decode cX9_moves 33 = .ok (.aload_n 0, 1) := by decide +kernel
theorem dX9_moves_34 : decode cX9_moves 34 = .ok (.bipush 59, 2) := by decide +kernel
theorem dX9_moves_36 : decode cX9_moves 36 = .ok (.bipush 59, 2) := by decide +kernel
theorem dX9_moves_38 : decode cX9_moves 38 = .ok (.invokevirtual 174, 3) := by decide +kernel
theorem dX9_moves_41 : decode cX9_moves 41 = .ok (.istore_n 3, 1) := by decide +kernel
theorem dX9_moves_42 : decode cX9_moves 42 = .ok (.aload_n 0, 1) := by decide +kernel
theorem dX9_moves_43 : decode cX9_moves 43 = .ok (.dup, 1) := by decide +kernel
theorem dX9_moves_44 : decode cX9_moves 44 = .ok (.getfield 171, 3) := by decide +kernel
theorem dX9_moves_47 : decode cX9_moves 47 = .ok (.iload_n 3, 1) := by decide +kernel
theorem dX9_moves_48 : decode cX9_moves 48 = .ok (.ifCond .eq 7, 3) := by decide +kernel
theorem dX9_moves_51 : decode cX9_moves 51 = .ok (.iconst 1, 1) := by decide +kernel
theorem dX9_moves_52 : decode cX9_moves 52 = .ok (.goto 4, 3) := by decide +kernel
theorem dX9_moves_55 : decode cX9_moves 55 = .ok (.iconst 0, 1) := by decide +kernel
theorem dX9_moves_56 : decode cX9_moves 56 = .ok (.iadd, 1) := by decide +kernel
theorem dX9_moves_57 : decode cX9_moves 57 = .ok (.putfield 171, 3) := by decide +kernel
theorem dX9_moves_60 : decode cX9_moves 60 = .ok (.goto (-51), 3) := by decide +kernel
theorem dX9_moves_63 : decode cX9_moves 63 = .ok (.aload_n 0, 1) := by decide +kernel
theorem dX9_moves_64 : decode cX9_moves 64 = .ok (.getfield 171, 3) := by decide +kernel
theorem dX9_moves_67 : decode cX9_moves 67 = .ok (.aload_n 0, 1) := by decide +kernel
theorem dX9_moves_68 : decode cX9_moves 68 = .ok (.getfield 168, 3) := by decide +kernel
theorem dX9_moves_71 : decode cX9_moves 71 = .ok (.if_icmp .ge 8, 3) := by decide +kernel
theorem dX9_moves_74 : decode cX9_moves 74 = .ok (.bipush (-100), 2) := by decide +kernel
theorem dX9_moves_76 : decode cX9_moves 76 = .ok (.goto 4, 3) := by decide +kernel
theorem dX9_moves_79 : decode cX9_moves 79 = .ok (.iload_n 2, 1) := by decide +kernel
theorem dX9_moves_80 : decode cX9_moves 80 = .ok (.ireturn, 1) := by decide +kernel
theorem dX9_perform_0 : decode cX9_perform 0 = .ok (.aload_n 0, 1) := by decide +kernel
theorem dX9_perform_1 : decode cX9_perform 1 = .ok (.iconst 0, 1) := by decide +kernel
theorem dX9_perform_2 : decode cX9_perform 2 = .ok (.invokevirtual 185, 3) := by decide +kernel
theorem dX9_perform_5 : decode cX9_perform 5 = .ok (.ifCond .ge 11, 3) := by decide +kernel
theorem dX9_perform_8 : decode cX9_perform 8 = .ok (.bipush (-100), 2) := by decide +kernel
theorem dX9_perform_10 : decode cX9_perform 10 = .ok (.aload_n 0, 1) := by decide +kernel
theorem dX9_perform_11 : decode cX9_perform 11 = .ok (.getfield 171, 3) := by decide +kernel
theorem dX9_perform_14 : decode cX9_perform 14 = .ok (.isub, 1) := by decide +kernel
theorem dX9_perform_15 : decode cX9_perform 15 = .ok (.ireturn, 1) := by decide +kernel
theorem dX9_perform_16 : decode cX9_perform 16 = .ok (.aload_n 0, 1) := by decide +kernel
theorem dX9_perform_17 : decode cX9_perform 17 = .ok (.invokevirtual 51, 3) := by decide +kernel
theorem dX9_perform_20 : decode cX9_perform 20 = .ok (.aload_n 0, 1) := by decide +kernel
theorem dX9_perform_21 : decode cX9_perform 21 = .ok (.iconst 1, 1) := by decide +kernel
theorem dX9_perform_22 : decode cX9_perform 22 = .ok (.invokevirtual 185, 3) := by decide +kernel
theorem dX9_perform_25 : decode cX9_perform 25 = .ok (.istore_n 1, 1) := by decide +kernel
theorem dX9_perform_26 : decode cX9_perform 26 = .ok (.iload_n 1, 1) := by decide +kernel
theorem dX9_perform_27 : decode cX9_perform 27 = .ok (.ifCond .ge 9, 3) := by decide +kernel
theorem dX9_perform_30 : decode cX9_perform 30 = .ok (.aload_n 0, 1) := by decide +kernel
theorem dX9_perform_31 : decode cX9_perform 31 = .ok (.invokevirtual 188, 3) := by decide +kernel
theorem dX9_perform_34 : decode cX9_perform 34 = .ok (.iload_n 1, 1) := by decide +kernel
theorem dX9_perform_35 : decode cX9_perform 35 = .ok (.ireturn, 1) := by decide +kernel
theorem dX9_perform_36 : decode cX9_perform 36 = .ok (.aload_n 0, 1) := by decide +kernel
theorem dX9_perform_37 : decode cX9_perform 37 = .ok (.invokevirtual 54, 3) := by decide +kernel
theorem dX9_perform_40 : decode cX9_perform 40 = .ok (.iload_n 1, 1) := by decide +kernel
theorem dX9_perform_41 : decode cX9_perform 41 = .ok (.ireturn, 1) := by decide +kernel
theorem dX9_key_0 : decode cX9_key 0 = .ok (.aload_n 0, 1) := by decide +kernel
theorem dX9_key_1 : decode cX9_key 1 = .ok (.iload_n 1, 1) := by decide +kernel
theorem dX9_key_2 : decode cX9_key 2 = .ok (.invokevirtual 79, 3) := by decide +kernel
theorem dX9_key_5 : decode cX9_key 5 = .ok (.ifCond .eq 5, 3) := by decide +kernel
theorem dX9_key_8 : decode cX9_key 8 = .ok (.iconst (-1), 1) := by decide +kernel
theorem dX9_key_9 : decode cX9_key 9 = .ok (.ireturn, 1) := by decide +kernel
theorem dX9_key_10 : decode cX9_key 10 = .ok (.iload_n 2, 1) := by decide +kernel
theorem dX9_key_11 : decode cX9_key 11 = .ok (.tableswitch 128 0 6 #[41, 51, 65, 75, 97, 108, 114], 41) := by decide +kernel
theorem dX9_key_52 : decode cX9_key 52 = .ok (.aload_n 0, 1) := by decide +kernel
theorem dX9_key_53 : decode cX9_key 53 = .ok (.getfield 7, 3) := by decide +kernel
theorem dX9_key_56 : decode cX9_key 56 = .ok (.bipush 20, 2) := by decide +kernel
theorem dX9_key_58 : decode cX9_key 58 = .ok (.iload_n 1, 1) := by decide +kernel
theorem dX9_key_59 : decode cX9_key 59 = .ok (.iadd, 1) := by decide +kernel
theorem dX9_key_60 : decode cX9_key 60 = .ok (.iaload, 1) := by decide +kernel
theorem dX9_key_61 : decode cX9_key 61 = .ok (.ireturn, 1) := by decide +kernel
theorem dX9_key_62 : decode cX9_key 62 = .ok (.aload_n 0, 1) := by decide +kernel
theorem dX9_key_63 : decode cX9_key 63 = .ok (.iload_n 1, 1) := by decide +kernel
theorem dX9_key_64 : decode cX9_key 64 = .ok (.invokevirtual 76, 3) := by decide +kernel
theorem dX9_key_67 : decode cX9_key 67 = .ok (.ifCond .eq 7, 3) := by decide +kernel
theorem dX9_key_70 : decode cX9_key 70 = .ok (.iconst 1, 1) := by decide +kernel
theorem dX9_key_71 : decode cX9_key 71 = .ok (.goto 4, 3) := by decide +kernel
theorem dX9_key_74 : decode cX9_key 74 = .ok (.iconst 0, 1) := by decide +kernel
theorem dX9_key_75 : decode cX9_key 75 = .ok (.ireturn, 1) := by decide +kernel
theorem dX9_key_76 : decode cX9_key 76 = .ok (.aload_n 0, 1) := by decide +kernel
theorem dX9_key_77 : decode cX9_key 77 = .ok (.getfield 7, 3) := by decide +kernel
theorem dX9_key_80 : decode cX9_key 80 = .ok (.bipush 68, 2) := by decide +kernel
theorem dX9_key_82 : decode cX9_key 82 = .ok (.iload_n 1, 1) := by decide +kernel
theorem dX9_key_83 : decode cX9_key 83 = .ok (.iadd, 1) := by decide +kernel
theorem dX9_key_84 : decode cX9_key 84 = .ok (.iaload, 1) := by decide +kernel
theorem dX9_key_85 : decode cX9_key 85 = .ok (.ireturn, 1) := by decide +kernel
theorem dX9_key_86 : decode cX9_key 86 = .ok (.aload_n 0, 1) := by decide +kernel
theorem dX9_key_87 : decode cX9_key 87 = .ok (.iload_n 1, 1) := by decide +kernel
theorem dX9_key_88 : decode cX9_key 88 = .ok (.invokevirtual 76, 3) := by decide +kernel
theorem dX9_key_91 : decode cX9_key 91 = .ok (.ifCond .eq 15, 3) := by decide +kernel
theorem dX9_key_94 : decode cX9_key 94 = .ok (.aload_n 0, 1) := by decide +kernel
theorem dX9_key_95 : decode cX9_key 95 = .ok (.getfield 7, 3) := by decide +kernel
theorem dX9_key_98 : decode cX9_key 98 = .ok (.bipush 116, 2) := by decide +kernel
theorem dX9_key_100 : decode cX9_key 100 = .ok (.iload_n 1, 1) := by decide +kernel
theorem dX9_key_101 : decode cX9_key 101 = .ok (.iadd, 1) := by decide +kernel
theorem dX9_key_102 : decode cX9_key 102 = .ok (.iaload, 1) := by decide +kernel
theorem dX9_key_103 : decode cX9_key 103 = .ok (.goto 4, 3) := by decide +kernel
theorem dX9_key_106 : decode cX9_key 106 = .ok (.iconst 0, 1) := by decide +kernel
theorem dX9_key_107 : decode cX9_key 107 = .ok (.ireturn, 1) := by decide +kernel
theorem dX9_key_108 : decode cX9_key 108 = .ok (.aload_n 0, 1) := by decide +kernel
theorem dX9_key_109 : decode cX9_key 109 = .ok (.getfield 7, 3) := by decide +kernel
theorem dX9_key_112 : decode cX9_key 112 = .ok (.sipush 260, 3) := by decide +kernel
theorem dX9_key_115 : decode cX9_key 115 = .ok (.iload_n 1, 1) := by decide +kernel
theorem dX9_key_116 : decode cX9_key 116 = .ok (.iadd, 1) := by decide +kernel
theorem dX9_key_117 : decode cX9_key 117 = .ok (.iaload, 1) := by decide +kernel
theorem dX9_key_118 : decode cX9_key 118 = .ok (.ireturn, 1) := by decide +kernel
theorem dX9_key_119 : decode cX9_key 119 = .ok (.aload_n 0, 1) := by decide +kernel
theorem dX9_key_120 : decode cX9_key 120 = .ok (.iload_n 1, 1) := by decide +kernel
theorem dX9_key_121 : decode cX9_key 121 = .ok (.invokevirtual 82, 3) := by decide +kernel
theorem dX9_key_124 : decode cX9_key 124 = .ok (.ireturn, 1) := by decide +kernel
theorem dX9_key_125 : decode cX9_key 125 = .ok (.aload_n 0, 1) := by decide +kernel
theorem dX9_key_126 : decode cX9_key 126 = .ok (.iload_n 1, 1) := by decide +kernel
theorem dX9_key_127 : decode cX9_key 127 = .ok (.invokevirtual 191, 3) := by decide +kernel
theorem dX9_key_130 : decode cX9_key 130 = .ok (.ifCond .eq 7, 3) := by decide +kernel
theorem dX9_key_133 : decode cX9_key 133 = .ok (.iconst 1, 1) := by decide +kernel
theorem dX9_key_134 : decode cX9_key 134 = .ok (.goto 4, 3) := by decide +kernel
theorem dX9_key_137 : decode cX9_key 137 = .ok (.iconst 0, 1) := by decide +kernel
theorem dX9_key_138 : decode cX9_key 138 = .ok (.ireturn, 1) := by decide +kernel
theorem dX9_key_139 : decode cX9_key 139 = .ok (.bipush (-2), 2) := by decide +kernel
theorem dX9_key_141 : decode cX9_key 141 = .ok (.ireturn, 1) := by decide +kernel
theorem dX9_typist_0 : decode cX9_typist 0 = .ok (.aload_n 0, 1) := by decide +kernel
theorem dX9_typist_1 : decode cX9_typist 1 = .ok (.iload_n 1, 1) := by decide +kernel
theorem dX9_typist_2 : decode cX9_typist 2 = .ok (.invokevirtual 86, 3) := by decide +kernel
theorem dX9_typist_5 : decode cX9_typist 5 = .ok (.ifCond .eq 5, 3) := by decide +kernel
theorem dX9_typist_8 : decode cX9_typist 8 = .ok (.iconst (-1), 1) := by decide +kernel
theorem dX9_typist_9 : decode cX9_typist 9 = .ok (.ireturn, 1) := by decide +kernel
theorem dX9_typist_10 : decode cX9_typist 10 = .ok (.iload_n 2, 1) := by decide +kernel
theorem dX9_typist_11 : decode cX9_typist 11 = .ok (.tableswitch 123 0 7 #[45, 51, 60, 74, 84, 94, 104, 114], 45) := by decide +kernel
theorem dX9_typist_56 : decode cX9_typist 56 = .ok (.aload_n 0, 1) := by decide +kernel
theorem dX9_typist_57 : decode cX9_typist 57 = .ok (.iload_n 1, 1) := by decide +kernel
theorem dX9_typist_58 : decode cX9_typist 58 = .ok (.invokevirtual 150, 3) := by decide +kernel
theorem dX9_typist_61 : decode cX9_typist 61 = .ok (.ireturn, 1) := by decide +kernel
theorem dX9_typist_62 : decode cX9_typist 62 = .ok (.aload_n 0, 1) := by decide +kernel
theorem dX9_typist_63 : decode cX9_typist 63 = .ok (.getfield 7, 3) := by decide +kernel
theorem dX9_typist_66 : decode cX9_typist 66 = .ok (.iconst 5, 1) := by decide +kernel
theorem dX9_typist_67 : decode cX9_typist 67 = .ok (.iload_n 1, 1) := by decide +kernel
theorem dX9_typist_68 : decode cX9_typist 68 = .ok (.iadd, 1) := by decide +kernel
theorem dX9_typist_69 : decode cX9_typist 69 = .ok (.iaload, 1) := by decide +kernel
theorem dX9_typist_70 : decode cX9_typist 70 = .ok (.ireturn, 1) := by decide +kernel
theorem dX9_typist_71 : decode cX9_typist 71 = .ok (.aload_n 0, 1) := by decide +kernel
theorem dX9_typist_72 : decode cX9_typist 72 = .ok (.iload_n 1, 1) := by decide +kernel
theorem dX9_typist_73 : decode cX9_typist 73 = .ok (.invokevirtual 117, 3) := by decide +kernel
theorem dX9_typist_76 : decode cX9_typist 76 = .ok (.ifCond .eq 7, 3) := by decide +kernel
theorem dX9_typist_79 : decode cX9_typist 79 = .ok (.iconst 1, 1) := by decide +kernel
theorem dX9_typist_80 : decode cX9_typist 80 = .ok (.goto 4, 3) := by decide +kernel
theorem dX9_typist_83 : decode cX9_typist 83 = .ok (.iconst 0, 1) := by decide +kernel
theorem dX9_typist_84 : decode cX9_typist 84 = .ok (.ireturn, 1) := by decide +kernel
theorem dX9_typist_85 : decode cX9_typist 85 = .ok (.aload_n 0, 1) := by decide +kernel
theorem dX9_typist_86 : decode cX9_typist 86 = .ok (.getfield 7, 3) := by decide +kernel
theorem dX9_typist_89 : decode cX9_typist 89 = .ok (.bipush 7, 2) := by decide +kernel
theorem dX9_typist_91 : decode cX9_typist 91 = .ok (.iload_n 1, 1) := by decide +kernel
theorem dX9_typist_92 : decode cX9_typist 92 = .ok (.iadd, 1) := by decide +kernel
theorem dX9_typist_93 : decode cX9_typist 93 = .ok (.iaload, 1) := by decide +kernel
theorem dX9_typist_94 : decode cX9_typist 94 = .ok (.ireturn, 1) := by decide +kernel
theorem dX9_typist_95 : decode cX9_typist 95 = .ok (.aload_n 0, 1) := by decide +kernel
theorem dX9_typist_96 : decode cX9_typist 96 = .ok (.getfield 7, 3) := by decide +kernel
theorem dX9_typist_99 : decode cX9_typist 99 = .ok (.bipush 10, 2) := by decide +kernel
theorem dX9_typist_101 : decode cX9_typist 101 = .ok (.iload_n 1, 1) := by decide +kernel
theorem dX9_typist_102 : decode cX9_typist 102 = .ok (.iadd, 1) := by decide +kernel
theorem dX9_typist_103 : decode cX9_typist 103 = .ok (.iaload, 1) := by decide +kernel
theorem dX9_typist_104 : decode cX9_typist 104 = .ok (.ireturn, 1) := by decide +kernel
theorem dX9_typist_105 : decode cX9_typist 105 = .ok (.aload_n 0, 1) := by decide +kernel
theorem dX9_typist_106 : decode cX9_typist 106 = .ok (.getfield 7, 3) := by decide +kernel
theorem dX9_typist_109 : decode cX9_typist 109 = .ok (.bipush 12, 2) := by decide +kernel
theorem dX9_typist_111 : decode cX9_typist 111 = .ok (.iload_n 1, 1) := by decide +kernel
theorem dX9_typist_112 : decode cX9_typist 112 = .ok (.iadd, 1) := by decide +kernel
theorem dX9_typist_113 : decode cX9_typist 113 = .ok (.iaload, 1) := by decide +kernel
theorem dX9_typist_114 : decode cX9_typist 114 = .ok (.ireturn, 1) := by decide +kernel
theorem dX9_typist_115 : decode cX9_typist 115 = .ok (.aload_n 0, 1) := by decide +kernel
theorem dX9_typist_116 : decode cX9_typist 116 = .ok (.getfield 7, 3) := by decide +kernel
theorem dX9_typist_119 : decode cX9_typist 119 = .ok (.bipush 17, 2) := by decide +kernel
theorem dX9_typist_121 : decode cX9_typist 121 = .ok (.iload_n 1, 1) := by decide +kernel
theorem dX9_typist_122 : decode cX9_typist 122 = .ok (.iadd, 1) := by decide +kernel
theorem dX9_typist_123 : decode cX9_typist 123 = .ok (.iaload, 1) := by decide +kernel
theorem dX9_typist_124 : decode cX9_typist 124 = .ok (.ireturn, 1) := by decide +kernel
theorem dX9_typist_125 : decode cX9_typist 125 = .ok (.aload_n 0, 1) := by decide +kernel
theorem dX9_typist_126 : decode cX9_typist 126 = .ok (.getfield 7, 3) := by decide +kernel
theorem dX9_typist_129 : decode cX9_typist 129 = .ok (.iconst 3, 1) := by decide +kernel
theorem dX9_typist_130 : decode cX9_typist 130 = .ok (.iload_n 1, 1) := by decide +kernel
theorem dX9_typist_131 : decode cX9_typist 131 = .ok (.iadd, 1) := by decide +kernel
theorem dX9_typist_132 : decode cX9_typist 132 = .ok (.iaload, 1) := by decide +kernel
theorem dX9_typist_133 : decode cX9_typist 133 = .ok (.ireturn, 1) := by decide +kernel
theorem dX9_typist_134 : decode cX9_typist 134 = .ok (.bipush (-2), 2) := by decide +kernel
theorem dX9_typist_136 : decode cX9_typist 136 = .ok (.ireturn, 1) := by decide +kernel
theorem dX9_style_0 : decode cX9_style 0 = .ok (.aload_n 0, 1) := by decide +kernel
theorem dX9_style_1 : decode cX9_style 1 = .ok (.iload_n 1, 1) := by decide +kernel
theorem dX9_style_2 : decode cX9_style 2 = .ok (.invokevirtual 86, 3) := by decide +kernel
theorem dX9_style_5 : decode cX9_style 5 = .ok (.ifCond .ne 12, 3) := by decide +kernel
theorem dX9_style_8 : decode cX9_style 8 = .ok (.iload_n 2, 1) := by decide +kernel
theorem dX9_style_9 : decode cX9_style 9 = .ok (.iconst 0, 1) := by decide +kernel
theorem dX9_style_10 : decode cX9_style 10 = .ok (.iconst 1, 1) := by decide +kernel
theorem dX9_style_11 : decode cX9_style 11 = .ok (.invokestatic 68, 3) := by decide +kernel
theorem dX9_style_14 : decode cX9_style 14 = .ok (.ifCond .ne 8, 3) := by decide +kernel
theorem dX9_style_17 : decode cX9_style 17 = .ok (.ldc 194, 2) := by decide +kernel
theorem dX9_style_19 : decode cX9_style 19 = .ok (.goto 13, 3) := by decide +kernel
theorem dX9_style_22 : decode cX9_style 22 = .ok (.aload_n 0, 1) := by decide +kernel
theorem dX9_style_23 : decode cX9_style 23 = .ok (.getfield 22, 3) := by decide +kernel
theorem dX9_style_26 : decode cX9_style 26 = .ok (.iconst 2, 1) := by decide +kernel
theorem dX9_style_27 : decode cX9_style 27 = .ok (.iload_n 2, 1) := by decide +kernel
theorem dX9_style_28 : decode cX9_style 28 = .ok (.imul, 1) := by decide +kernel
theorem dX9_style_29 : decode cX9_style 29 = .ok (.iload_n 1, 1) := by decide +kernel
theorem dX9_style_30 : decode cX9_style 30 = .ok (.iadd, 1) := by decide +kernel
theorem dX9_style_31 : decode cX9_style 31 = .ok (.faload, 1) := by decide +kernel
theorem dX9_style_32 : decode cX9_style 32 = .ok (.freturn, 1) := by decide +kernel
theorem dX9_hundredths_0 : decode cX9_hundredths 0 = .ok (.aload_n 0, 1) := by decide +kernel
theorem dX9_hundredths_1 : decode cX9_hundredths 1 = .ok (.iload_n 1, 1) := by decide +kernel
theorem dX9_hundredths_2 : decode cX9_hundredths 2 = .ok (.invokevirtual 86, 3) := by decide +kernel
theorem dX9_hundredths_5 : decode cX9_hundredths 5 = .ok (.ifCond .eq 5, 3) := by decide +kernel
theorem dX9_hundredths_8 : decode cX9_hundredths 8 = .ok (.iconst (-1), 1) := by decide +kernel
theorem dX9_hundredths_9 : decode cX9_hundredths 9 = .ok (.ireturn, 1) := by decide +kernel
theorem dX9_hundredths_10 : decode cX9_hundredths 10 = .ok (.iload_n 2, 1) := by decide +kernel
theorem dX9_hundredths_11 : decode cX9_hundredths 11 = .ok (.iconst 0, 1) := by decide +kernel
theorem dX9_hundredths_12 : decode cX9_hundredths 12 = .ok (.iconst 1, 1) := by decide +kernel
theorem dX9_hundredths_13 : decode cX9_hundredths 13 = .ok (.invokestatic 68, 3) := by decide +kernel
theorem dX9_hundredths_16 : decode cX9_hundredths 16 = .ok (.ifCond .eq 20, 3) := by decide +kernel
theorem dX9_hundredths_19 : decode cX9_hundredths 19 = .ok (.aload_n 0, 1) := by decide +kernel
theorem dX9_hundredths_20 : decode cX9_hundredths 20 = .ok (.getfield 22, 3) := by decide +kernel
theorem dX9_hundredths_23 : decode cX9_hundredths 23 = .ok (.iconst 2, 1) := by decide +kernel
theorem dX9_hundredths_24 : decode cX9_hundredths 24 = .ok (.iload_n 2, 1) := by decide +kernel
theorem dX9_hundredths_25 : decode cX9_hundredths 25 = .ok (.imul, 1) := by decide +kernel
theorem dX9_hundredths_26 : decode cX9_hundredths 26 = .ok (.iload_n 1, 1) := by decide +kernel
theorem dX9_hundredths_27 : decode cX9_hundredths 27 = .ok (.iadd, 1) := by decide +kernel
theorem dX9_hundredths_28 : decode cX9_hundredths 28 = .ok (.faload, 1) := by decide +kernel
theorem dX9_hundredths_29 : decode cX9_hundredths 29 = .ok (.ldc 195, 2) := by decide +kernel
theorem dX9_hundredths_31 : decode cX9_hundredths 31 = .ok (.fmul, 1) := by decide +kernel
theorem dX9_hundredths_32 : decode cX9_hundredths 32 = .ok (.f2i, 1) := by decide +kernel
theorem dX9_hundredths_33 : decode cX9_hundredths 33 = .ok (.goto 5, 3) := by decide +kernel
theorem dX9_hundredths_36 : decode cX9_hundredths 36 = .ok (.bipush (-2), 2) := by decide +kernel
theorem dX9_hundredths_38 : decode cX9_hundredths 38 = .ok (.ireturn, 1) := by decide +kernel
theorem dX9_typed_0 : decode cX9_typed 0 = .ok (.aload_n 0, 1) := by decide +kernel
theorem dX9_typed_1 : decode cX9_typed 1 = .ok (.iload_n 1, 1) := by decide +kernel
theorem dX9_typed_2 : decode cX9_typed 2 = .ok (.invokevirtual 86, 3) := by decide +kernel
theorem dX9_typed_5 : decode cX9_typed 5 = .ok (.ifCond .eq 5, 3) := by decide +kernel
theorem dX9_typed_8 : decode cX9_typed 8 = .ok (.iconst (-1), 1) := by decide +kernel
theorem dX9_typed_9 : decode cX9_typed 9 = .ok (.ireturn, 1) := by decide +kernel
theorem dX9_typed_10 : decode cX9_typed 10 = .ok (.iload_n 2, 1) := by decide +kernel
theorem dX9_typed_11 : decode cX9_typed 11 = .ok (.ifCond .ge 6, 3) := by decide +kernel
theorem dX9_typed_14 : decode cX9_typed 14 = .ok (.bipush (-2), 2) := by decide +kernel
theorem dX9_typed_16 : decode cX9_typed 16 = .ok (.ireturn, 1) := by decide +kernel
theorem dX9_typed_17 : decode cX9_typed 17 = .ok (.aload_n 0, 1) := by decide +kernel
theorem dX9_typed_18 : decode cX9_typed 18 = .ok (.getfield 7, 3) := by decide +kernel
theorem dX9_typed_21 : decode cX9_typed 21 = .ok (.bipush 17, 2) := by decide +kernel
theorem dX9_typed_23 : decode cX9_typed 23 = .ok (.iload_n 1, 1) := by decide +kernel
theorem dX9_typed_24 : decode cX9_typed 24 = .ok (.iadd, 1) := by decide +kernel
theorem dX9_typed_25 : decode cX9_typed 25 = .ok (.iaload, 1) := by decide +kernel
theorem dX9_typed_26 : decode cX9_typed 26 = .ok (.istore_n 3, 1) := by decide +kernel
theorem dX9_typed_27 : decode cX9_typed 27 = .ok (.iload_n 2, 1) := by decide +kernel
theorem dX9_typed_28 : decode cX9_typed 28 = .ok (.iload_n 3, 1) := by decide +kernel
theorem dX9_typed_29 : decode cX9_typed 29 = .ok (.if_icmp .ge 34, 3) := by decide +kernel
theorem dX9_typed_32 : decode cX9_typed 32 = .ok (.iload_n 2, 1) := by decide +kernel
theorem dX9_typed_33 : decode cX9_typed 33 = .ok (.bipush 24, 2) := by decide +kernel
theorem dX9_typed_35 : decode cX9_typed 35 = .ok (.if_icmp .ge 28, 3) := by decide +kernel
theorem dX9_typed_38 : decode cX9_typed 38 = .ok (.aload_n 0, 1) := by decide +kernel
theorem dX9_typed_39 : decode cX9_typed 39 = .ok (.getfield 7, 3) := by decide +kernel
theorem dX9_typed_42 : decode cX9_typed 42 = .ok (.sipush 544, 3) := by decide +kernel
theorem dX9_typed_45 : decode cX9_typed 45 = .ok (.bipush 24, 2) := by decide +kernel
theorem dX9_typed_47 : decode cX9_typed 47 = .ok (.iload_n 1, 1) := by decide +kernel
theorem dX9_typed_48 : decode cX9_typed 48 = .ok (.imul, 1) := by decide +kernel
theorem dX9_typed_49 : decode cX9_typed 49 = .ok (.iadd, 1) := by decide +kernel
theorem dX9_typed_50 : decode cX9_typed 50 = .ok (.iload_n 3, 1) := by decide +kernel
theorem dX9_typed_51 : decode cX9_typed 51 = .ok (.iconst 1, 1) := by decide +kernel
theorem dX9_typed_52 : decode cX9_typed 52 = .ok (.isub, 1) := by decide +kernel
theorem dX9_typed_53 : decode cX9_typed 53 = .ok (.iload_n 2, 1) := by decide +kernel
theorem dX9_typed_54 : decode cX9_typed 54 = .ok (.isub, 1) := by decide +kernel
theorem dX9_typed_55 : decode cX9_typed 55 = .ok (.bipush 24, 2) := by decide +kernel
theorem dX9_typed_57 : decode cX9_typed 57 = .ok (.irem, 1) := by decide +kernel
theorem dX9_typed_58 : decode cX9_typed 58 = .ok (.iadd, 1) := by decide +kernel
theorem dX9_typed_59 : decode cX9_typed 59 = .ok (.iaload, 1) := by decide +kernel
theorem dX9_typed_60 : decode cX9_typed 60 = .ok (.goto 5, 3) := by decide +kernel
theorem dX9_typed_63 : decode cX9_typed 63 = .ok (.bipush (-5), 2) := by decide +kernel
theorem dX9_typed_65 : decode cX9_typed 65 = .ok (.ireturn, 1) := by decide +kernel
theorem dX9_stroke_0 : decode cX9_stroke 0 = .ok (.iload_n 1, 1) := by decide +kernel
theorem dX9_stroke_1 : decode cX9_stroke 1 = .ok (.ifCond .lt 12, 3) := by decide +kernel
theorem dX9_stroke_4 : decode cX9_stroke 4 = .ok (.iload_n 2, 1) := by decide +kernel
theorem dX9_stroke_5 : decode cX9_stroke 5 = .ok (.iconst 0, 1) := by decide +kernel
theorem dX9_stroke_6 : decode cX9_stroke 6 = .ok (.iconst 5, 1) := by decide +kernel
theorem dX9_stroke_7 : decode cX9_stroke 7 = .ok (.invokestatic 68, 3) := by decide +kernel
theorem dX9_stroke_10 : decode cX9_stroke 10 = .ok (.ifCond .ne 6, 3) := by decide +kernel
theorem dX9_stroke_13 : decode cX9_stroke 13 = .ok (.bipush (-2), 2) := by decide +kernel
theorem dX9_stroke_15 : decode cX9_stroke 15 = .ok (.ireturn, 1) := by decide +kernel
theorem dX9_stroke_16 : decode cX9_stroke 16 = .ok (.aload_n 0, 1) := by decide +kernel
theorem dX9_stroke_17 : decode cX9_stroke 17 = .ok (.getfield 7, 3) := by decide +kernel
theorem dX9_stroke_20 : decode cX9_stroke 20 = .ok (.bipush 9, 2) := by decide +kernel
theorem dX9_stroke_22 : decode cX9_stroke 22 = .ok (.iaload, 1) := by decide +kernel
theorem dX9_stroke_23 : decode cX9_stroke 23 = .ok (.istore_n 3, 1) := by decide +kernel
theorem dX9_stroke_24 : decode cX9_stroke 24 = .ok (.iload_n 1, 1) := by decide +kernel
theorem dX9_stroke_25 : decode cX9_stroke 25 = .ok (.iload_n 3, 1) := by decide +kernel
theorem dX9_stroke_26 : decode cX9_stroke 26 = .ok (.if_icmp .ge 34, 3) := by decide +kernel
theorem dX9_stroke_29 : decode cX9_stroke 29 = .ok (.iload_n 1, 1) := by decide +kernel
theorem dX9_stroke_30 : decode cX9_stroke 30 = .ok (.bipush 16, 2) := by decide +kernel
theorem dX9_stroke_32 : decode cX9_stroke 32 = .ok (.if_icmp .ge 28, 3) := by decide +kernel
theorem dX9_stroke_35 : decode cX9_stroke 35 = .ok (.aload_n 0, 1) := by decide +kernel
theorem dX9_stroke_36 : decode cX9_stroke 36 = .ok (.getfield 7, 3) := by decide +kernel
theorem dX9_stroke_39 : decode cX9_stroke 39 = .ok (.sipush 308, 3) := by decide +kernel
theorem dX9_stroke_42 : decode cX9_stroke 42 = .ok (.bipush 6, 2) := by decide +kernel
theorem dX9_stroke_44 : decode cX9_stroke 44 = .ok (.iload_n 3, 1) := by decide +kernel
theorem dX9_stroke_45 : decode cX9_stroke 45 = .ok (.iconst 1, 1) := by decide +kernel
theorem dX9_stroke_46 : decode cX9_stroke 46 = .ok (.isub, 1) := by decide +kernel
theorem dX9_stroke_47 : decode cX9_stroke 47 = .ok (.iload_n 1, 1) := by decide +kernel
theorem dX9_stroke_48 : decode cX9_stroke 48 = .ok (.isub, 1) := by decide +kernel
theorem dX9_stroke_49 : decode cX9_stroke 49 = .ok (.bipush 16, 2) := by decide +kernel
theorem dX9_stroke_51 : decode cX9_stroke 51 = .ok (.irem, 1) := by decide +kernel
theorem dX9_stroke_52 : decode cX9_stroke 52 = .ok (.imul, 1) := by decide +kernel
theorem dX9_stroke_53 : decode cX9_stroke 53 = .ok (.iadd, 1) := by decide +kernel
theorem dX9_stroke_54 : decode cX9_stroke 54 = .ok (.iload_n 2, 1) := by decide +kernel
theorem dX9_stroke_55 : decode cX9_stroke 55 = .ok (.iadd, 1) := by decide +kernel
theorem dX9_stroke_56 : decode cX9_stroke 56 = .ok (.iaload, 1) := by decide +kernel
theorem dX9_stroke_57 : decode cX9_stroke 57 = .ok (.goto 5, 3) := by decide +kernel
theorem dX9_stroke_60 : decode cX9_stroke 60 = .ok (.bipush (-5), 2) := by decide +kernel
theorem dX9_stroke_62 : decode cX9_stroke 62 = .ok (.ireturn, 1) := by decide +kernel
theorem dX9_dispute_0 : decode cX9_dispute 0 = .ok (.aload_n 0, 1) := by decide +kernel
theorem dX9_dispute_1 : decode cX9_dispute 1 = .ok (.iload_n 1, 1) := by decide +kernel
theorem dX9_dispute_2 : decode cX9_dispute 2 = .ok (.invokevirtual 165, 3) := by decide +kernel
theorem dX9_dispute_5 : decode cX9_dispute 5 = .ok (.ifCond .eq 5, 3) := by decide +kernel
theorem dX9_dispute_8 : decode cX9_dispute 8 = .ok (.iconst (-1), 1) := by decide +kernel
theorem dX9_dispute_9 : decode cX9_dispute 9 = .ok (.ireturn, 1) := by decide +kernel
theorem dX9_dispute_10 : decode cX9_dispute 10 = .ok (.iload_n 2, 1) := by decide +kernel
theorem dX9_dispute_11 : decode cX9_dispute 11 = .ok (.iconst 0, 1) := by decide +kernel
theorem dX9_dispute_12 : decode cX9_dispute 12 = .ok (.iconst 4, 1) := by decide +kernel
theorem dX9_dispute_13 : decode cX9_dispute 13 = .ok (.invokestatic 68, 3) := by decide +kernel
theorem dX9_dispute_16 : decode cX9_dispute 16 = .ok (.ifCond .eq 21, 3) := by decide +kernel
theorem dX9_dispute_19 : decode cX9_dispute 19 = .ok (.aload_n 0, 1) := by decide +kernel
theorem dX9_dispute_20 : decode cX9_dispute 20 = .ok (.getfield 7, 3) := by decide +kernel
theorem dX9_dispute_23 : decode cX9_dispute 23 = .ok (.sipush 404, 3) := by decide +kernel
theorem dX9_dispute_26 : decode cX9_dispute 26 = .ok (.bipush 7, 2) := by decide +kernel
theorem dX9_dispute_28 : decode cX9_dispute 28 = .ok (.iload_n 1, 1) := by decide +kernel
theorem dX9_dispute_29 : decode cX9_dispute 29 = .ok (.imul, 1) := by decide +kernel
theorem dX9_dispute_30 : decode cX9_dispute 30 = .ok (.iadd, 1) := by decide +kernel
theorem dX9_dispute_31 : decode cX9_dispute 31 = .ok (.iload_n 2, 1) := by decide +kernel
theorem dX9_dispute_32 : decode cX9_dispute 32 = .ok (.iadd, 1) := by decide +kernel
theorem dX9_dispute_33 : decode cX9_dispute 33 = .ok (.iaload, 1) := by decide +kernel
theorem dX9_dispute_34 : decode cX9_dispute 34 = .ok (.goto 5, 3) := by decide +kernel
theorem dX9_dispute_37 : decode cX9_dispute 37 = .ok (.bipush (-2), 2) := by decide +kernel
theorem dX9_dispute_39 : decode cX9_dispute 39 = .ok (.ireturn, 1) := by decide +kernel
theorem dX9_distance_0 : decode cX9_distance 0 = .ok (.aload_n 0, 1) := by decide +kernel
theorem dX9_distance_1 : decode cX9_distance 1 = .ok (.iload_n 1, 1) := by decide +kernel
theorem dX9_distance_2 : decode cX9_distance 2 = .ok (.invokevirtual 86, 3) := by decide +kernel
theorem dX9_distance_5 : decode cX9_distance 5 = .ok (.ifCond .ne 18, 3) := by decide +kernel
theorem dX9_distance_8 : decode cX9_distance 8 = .ok (.iload_n 2, 1) := by decide +kernel
theorem dX9_distance_9 : decode cX9_distance 9 = .ok (.ifCond .lt 14, 3) := by decide +kernel
theorem dX9_distance_12 : decode cX9_distance 12 = .ok (.iload_n 3, 1) := by decide +kernel
theorem dX9_distance_13 : decode cX9_distance 13 = .ok (.iconst 0, 1) := by decide +kernel
theorem dX9_distance_14 : decode cX9_distance 14 = .ok (.sipush 9999, 3) := by decide +kernel
theorem dX9_distance_17 : decode cX9_distance 17 = .ok (.invokestatic 68, 3) := by decide +kernel
theorem dX9_distance_20 : decode cX9_distance 20 = .ok (.ifCond .ne 8, 3) := by decide +kernel
theorem dX9_distance_23 : decode cX9_distance 23 = .ok (.ldc 194, 2) := by decide +kernel
theorem dX9_distance_25 : decode cX9_distance 25 = .ok (.goto 10, 3) := by decide +kernel
theorem dX9_distance_28 : decode cX9_distance 28 = .ok (.aload_n 0, 1) := by decide +kernel
theorem dX9_distance_29 : decode cX9_distance 29 = .ok (.iload_n 1, 1) := by decide +kernel
theorem dX9_distance_30 : decode cX9_distance 30 = .ok (.iload_n 2, 1) := by decide +kernel
theorem dX9_distance_31 : decode cX9_distance 31 = .ok (.iload_n 3, 1) := by decide +kernel
theorem dX9_distance_32 : decode cX9_distance 32 = .ok (.invokevirtual 132, 3) := by decide +kernel
theorem dX9_distance_35 : decode cX9_distance 35 = .ok (.freturn, 1) := by decide +kernel
theorem dX9_verdict_0 : decode cX9_verdict 0 = .ok (.aload_n 0, 1) := by decide +kernel
theorem dX9_verdict_1 : decode cX9_verdict 1 = .ok (.iload_n 1, 1) := by decide +kernel
theorem dX9_verdict_2 : decode cX9_verdict 2 = .ok (.invokevirtual 79, 3) := by decide +kernel
theorem dX9_verdict_5 : decode cX9_verdict 5 = .ok (.ifCond .eq 5, 3) := by decide +kernel
theorem dX9_verdict_8 : decode cX9_verdict 8 = .ok (.iconst (-1), 1) := by decide +kernel
theorem dX9_verdict_9 : decode cX9_verdict 9 = .ok (.ireturn, 1) := by decide +kernel
theorem dX9_verdict_10 : decode cX9_verdict 10 = .ok (.aload_n 0, 1) := by decide +kernel
theorem dX9_verdict_11 : decode cX9_verdict 11 = .ok (.iload_n 1, 1) := by decide +kernel
theorem dX9_verdict_12 : decode cX9_verdict 12 = .ok (.invokevirtual 76, 3) := by decide +kernel
theorem dX9_verdict_15 : decode cX9_verdict 15 = .ok (.ifCond .eq 11, 3) := by decide +kernel
theorem dX9_verdict_18 : decode cX9_verdict 18 = .ok (.aload_n 0, 1) := by decide +kernel
theorem dX9_verdict_19 : decode cX9_verdict 19 = .ok (.iload_n 1, 1) := by decide +kernel
theorem dX9_verdict_20 : decode cX9_verdict 20 = .ok (.invokevirtual 136, 3) := by decide +kernel
theorem dX9_verdict_23 : decode cX9_verdict 23 = .ok (.goto 5, 3) := by decide +kernel
theorem dX9_verdict_26 : decode cX9_verdict 26 = .ok (.bipush (-5), 2) := by decide +kernel
theorem dX9_verdict_28 : decode cX9_verdict 28 = .ok (.ireturn, 1) := by decide +kernel
theorem dX9_ghostsBy_0 : decode cX9_ghostsBy 0 = .ok (.aload_n 0, 1) := by decide +kernel
theorem dX9_ghostsBy_1 : decode cX9_ghostsBy 1 = .ok (.iload_n 1, 1) := by decide +kernel
theorem dX9_ghostsBy_2 : decode cX9_ghostsBy 2 = .ok (.invokevirtual 79, 3) := by decide +kernel
theorem dX9_ghostsBy_5 : decode cX9_ghostsBy 5 = .ok (.ifCond .eq 5, 3) := by decide +kernel
theorem dX9_ghostsBy_8 : decode cX9_ghostsBy 8 = .ok (.iconst (-1), 1) := by decide +kernel
theorem dX9_ghostsBy_9 : decode cX9_ghostsBy 9 = .ok (.ireturn, 1) := by decide +kernel
theorem dX9_ghostsBy_10 : decode cX9_ghostsBy 10 = .ok (.aload_n 0, 1) := by decide +kernel
theorem dX9_ghostsBy_11 : decode cX9_ghostsBy 11 = .ok (.getfield 7, 3) := by decide +kernel
theorem dX9_ghostsBy_14 : decode cX9_ghostsBy 14 = .ok (.bipush 20, 2) := by decide +kernel
theorem dX9_ghostsBy_16 : decode cX9_ghostsBy 16 = .ok (.iload_n 1, 1) := by decide +kernel
theorem dX9_ghostsBy_17 : decode cX9_ghostsBy 17 = .ok (.iadd, 1) := by decide +kernel
theorem dX9_ghostsBy_18 : decode cX9_ghostsBy 18 = .ok (.iaload, 1) := by decide +kernel
theorem dX9_ghostsBy_19 : decode cX9_ghostsBy 19 = .ok (.istore_n 2, 1) := by decide +kernel
theorem dX9_ghostsBy_20 : decode cX9_ghostsBy 20 = .ok (.iload_n 2, 1) := by decide +kernel
theorem dX9_ghostsBy_21 : decode cX9_ghostsBy 21 = .ok (.ifCond .ge 7, 3) := by decide +kernel
theorem dX9_ghostsBy_24 : decode cX9_ghostsBy 24 = .ok (.iconst 0, 1) := by decide +kernel
theorem dX9_ghostsBy_25 : decode cX9_ghostsBy 25 = .ok (.goto 5, 3) := by decide +kernel
theorem dX9_ghostsBy_28 : decode cX9_ghostsBy 28 = .ok (.bipush (-5), 2) := by decide +kernel
theorem dX9_ghostsBy_30 : decode cX9_ghostsBy 30 = .ok (.istore_n 3, 1) := by decide +kernel
theorem dX9_ghostsBy_31 : decode cX9_ghostsBy 31 = .ok (.bipush 100, 2) := by decide +kernel
theorem dX9_ghostsBy_33 : decode cX9_ghostsBy 33 = .ok (.istore 4, 2) := by decide +kernel
theorem dX9_ghostsBy_35 : decode cX9_ghostsBy 35 = .ok (.iconst 0, 1) := by decide +kernel
theorem dX9_ghostsBy_36 : decode cX9_ghostsBy 36 = .ok (.istore 5, 2) := by decide +kernel
theorem dX9_ghostsBy_38 : decode cX9_ghostsBy 38 = .ok (.iload 5, 2) := by decide +kernel
theorem dX9_ghostsBy_40 : decode cX9_ghostsBy 40 = .ok (.aload_n 0, 1) := by decide +kernel
theorem dX9_ghostsBy_41 : decode cX9_ghostsBy 41 = .ok (.invokevirtual 64, 3) := by decide +kernel
theorem dX9_ghostsBy_44 : decode cX9_ghostsBy 44 = .ok (.if_icmp .ge 94, 3) := by decide +kernel
theorem dX9_ghostsBy_47 : decode cX9_ghostsBy 47 = .ok (.iload 5, 2) := by decide +kernel
theorem dX9_ghostsBy_49 : decode cX9_ghostsBy 49 = .ok (.iload_n 1, 1) := by decide +kernel
theorem dX9_ghostsBy_50 : decode cX9_ghostsBy 50 = .ok (.if_icmp .eq 82, 3) := by decide +kernel
theorem dX9_ghostsBy_53 : decode cX9_ghostsBy 53 = .ok (.aload_n 0, 1) := by decide +kernel
theorem dX9_ghostsBy_54 : decode cX9_ghostsBy 54 = .ok (.iload 5, 2) := by decide +kernel
theorem dX9_ghostsBy_56 : decode cX9_ghostsBy 56 = .ok (.invokevirtual 72, 3) := by decide +kernel
theorem dX9_ghostsBy_59 : decode cX9_ghostsBy 59 = .ok (.ifCond .ne 73, 3) := by decide +kernel
theorem dX9_ghostsBy_62 : decode cX9_ghostsBy 62 = .ok (.aload_n 0, 1) := by decide +kernel
theorem dX9_ghostsBy_63 : decode cX9_ghostsBy 63 = .ok (.iload 5, 2) := by decide +kernel
theorem dX9_ghostsBy_65 : decode cX9_ghostsBy 65 = .ok (.invokevirtual 191, 3) := by decide +kernel
theorem dX9_ghostsBy_68 : decode cX9_ghostsBy 68 = .ok (.istore 6, 2) := by decide +kernel
theorem dX9_ghostsBy_70 : decode cX9_ghostsBy 70 = .ok (.aload_n 0, 1) := by decide +kernel
theorem dX9_ghostsBy_71 : decode cX9_ghostsBy 71 = .ok (.getfield 7, 3) := by decide +kernel
theorem dX9_ghostsBy_74 : decode cX9_ghostsBy 74 = .ok (.bipush 20, 2) := by decide +kernel
theorem dX9_ghostsBy_76 : decode cX9_ghostsBy 76 = .ok (.iload_n 1, 1) := by decide +kernel
theorem dX9_ghostsBy_77 : decode cX9_ghostsBy 77 = .ok (.iadd, 1) := by decide +kernel
theorem dX9_ghostsBy_78 : decode cX9_ghostsBy 78 = .ok (.iload_n 3, 1) := by decide +kernel
theorem dX9_ghostsBy_79 : decode cX9_ghostsBy 79 = .ok (.iastore, 1) := by decide +kernel
theorem dX9_ghostsBy_80 : decode cX9_ghostsBy 80 = .ok (.aload_n 0, 1) := by decide +kernel
theorem dX9_ghostsBy_81 : decode cX9_ghostsBy 81 = .ok (.iload 5, 2) := by decide +kernel
theorem dX9_ghostsBy_83 : decode cX9_ghostsBy 83 = .ok (.invokevirtual 191, 3) := by decide +kernel
theorem dX9_ghostsBy_86 : decode cX9_ghostsBy 86 = .ok (.istore 7, 2) := by decide +kernel
theorem dX9_ghostsBy_88 : decode cX9_ghostsBy 88 = .ok (.aload_n 0, 1) := by decide +kernel
theorem dX9_ghostsBy_89 : decode cX9_ghostsBy 89 = .ok (.getfield 7, 3) := by decide +kernel
theorem dX9_ghostsBy_92 : decode cX9_ghostsBy 92 = .ok (.bipush 20, 2) := by decide +kernel
theorem dX9_ghostsBy_94 : decode cX9_ghostsBy 94 = .ok (.iload_n 1, 1) := by decide +kernel
theorem dX9_ghostsBy_95 : decode cX9_ghostsBy 95 = .ok (.iadd, 1) := by decide +kernel
theorem dX9_ghostsBy_96 : decode cX9_ghostsBy 96 = .ok (.iload_n 2, 1) := by decide +kernel
theorem dX9_ghostsBy_97 : decode cX9_ghostsBy 97 = .ok (.iastore, 1) := by decide +kernel
theorem dX9_ghostsBy_98 : decode cX9_ghostsBy 98 = .ok (.iload 4, 2) := by decide +kernel
theorem dX9_ghostsBy_100 : decode cX9_ghostsBy 100 = .ok (.iload 6, 2) := by decide +kernel
theorem dX9_ghostsBy_102 : decode cX9_ghostsBy 102 = .ok (.ifCond .eq 12, 3) := by decide +kernel
theorem dX9_ghostsBy_105 : decode cX9_ghostsBy 105 = .ok (.iload 7, 2) := by decide +kernel
theorem dX9_ghostsBy_107 : decode cX9_ghostsBy 107 = .ok (.ifCond .ne 7, 3) := by decide +kernel
theorem dX9_ghostsBy_110 : decode cX9_ghostsBy 110 = .ok (.iconst 1, 1) := by decide +kernel
theorem dX9_ghostsBy_111 : decode cX9_ghostsBy 111 = .ok (.goto 18, 3) := by decide +kernel
theorem dX9_ghostsBy_114 : decode cX9_ghostsBy 114 = .ok (.iload 6, 2) := by decide +kernel
theorem dX9_ghostsBy_116 : decode cX9_ghostsBy 116 = .ok (.ifCond .ne 12, 3) := by decide +kernel
theorem dX9_ghostsBy_119 : decode cX9_ghostsBy 119 = .ok (.iload 7, 2) := by decide +kernel
theorem dX9_ghostsBy_121 : decode cX9_ghostsBy 121 = .ok (.ifCond .eq 7, 3) := by decide +kernel
theorem dX9_ghostsBy_124 : decode cX9_ghostsBy 124 = .ok (.iconst (-1), 1) := by decide +kernel
theorem dX9_ghostsBy_125 : decode cX9_ghostsBy 125 = .ok (.goto 4, 3) := by decide +kernel
theorem dX9_ghostsBy_128 : decode cX9_ghostsBy 128 = .ok (.iconst 0, 1) := by decide +kernel
theorem dX9_ghostsBy_129 : decode cX9_ghostsBy 129 = .ok (.iadd, 1) := by decide +kernel
theorem dX9_ghostsBy_130 : decode cX9_ghostsBy 130 = .ok (.istore 4, 2) := by decide +kernel
theorem dX9_ghostsBy_132 : decode cX9_ghostsBy 132 = .ok (.iinc 5 1, 3) := by decide +kernel
theorem dX9_ghostsBy_135 : decode cX9_ghostsBy 135 = .ok (.goto (-97), 3) := by decide +kernel
theorem dX9_ghostsBy_138 : decode cX9_ghostsBy 138 = .ok (.iload 4, 2) := by decide +kernel
theorem dX9_ghostsBy_140 : decode cX9_ghostsBy 140 = .ok (.ireturn, 1) := by decide +kernel
theorem dX9_openDisputes_0 : decode cX9_openDisputes 0 = .ok (.iconst 0, 1) := by decide +kernel
theorem dX9_openDisputes_1 : decode cX9_openDisputes 1 = .ok (.istore_n 1, 1) := by decide +kernel
theorem dX9_openDisputes_2 : decode cX9_openDisputes 2 = .ok (.iconst 0, 1) := by decide +kernel
theorem dX9_openDisputes_3 : decode cX9_openDisputes 3 = .ok (.istore_n 2, 1) := by decide +kernel
theorem dX9_openDisputes_4 : decode cX9_openDisputes 4 = .ok (.iload_n 2, 1) := by decide +kernel
theorem dX9_openDisputes_5 : decode cX9_openDisputes 5 = .ok (.aload_n 0, 1) := by decide +kernel
theorem dX9_openDisputes_6 : decode cX9_openDisputes 6 = .ok (.getfield 7, 3) := by decide +kernel
theorem dX9_openDisputes_9 : decode cX9_openDisputes 9 = .ok (.bipush 16, 2) := by decide +kernel
theorem dX9_openDisputes_11 : decode cX9_openDisputes 11 = .ok (.iaload, 1) := by decide +kernel
theorem dX9_openDisputes_12 : decode cX9_openDisputes 12 = .ok (.if_icmp .ge 35, 3) := by decide +kernel
theorem dX9_openDisputes_15 : decode cX9_openDisputes 15 = .ok (.iload_n 1, 1) := by decide +kernel
theorem dX9_openDisputes_16 : decode cX9_openDisputes 16 = .ok (.aload_n 0, 1) := by decide +kernel
theorem dX9_openDisputes_17 : decode cX9_openDisputes 17 = .ok (.getfield 7, 3) := by decide +kernel
theorem dX9_openDisputes_20 : decode cX9_openDisputes 20 = .ok (.sipush 404, 3) := by decide +kernel
theorem dX9_openDisputes_23 : decode cX9_openDisputes 23 = .ok (.bipush 7, 2) := by decide +kernel
theorem dX9_openDisputes_25 : decode cX9_openDisputes 25 = .ok (.iload_n 2, 1) := by decide +kernel
theorem dX9_openDisputes_26 : decode cX9_openDisputes 26 = .ok (.imul, 1) := by decide +kernel
theorem dX9_openDisputes_27 : decode cX9_openDisputes 27 = .ok (.iadd, 1) := by decide +kernel
theorem dX9_openDisputes_28 : decode cX9_openDisputes 28 = .ok (.iconst 3, 1) := by decide +kernel
theorem dX9_openDisputes_29 : decode cX9_openDisputes 29 = .ok (.iadd, 1) := by decide +kernel
theorem dX9_openDisputes_30 : decode cX9_openDisputes 30 = .ok (.iaload, 1) := by decide +kernel
theorem dX9_openDisputes_31 : decode cX9_openDisputes 31 = .ok (.ifCond .ge 7, 3) := by decide +kernel
theorem dX9_openDisputes_34 : decode cX9_openDisputes 34 = .ok (.iconst 1, 1) := by decide +kernel
theorem dX9_openDisputes_35 : decode cX9_openDisputes 35 = .ok (.goto 4, 3) := by decide +kernel
theorem dX9_openDisputes_38 : decode cX9_openDisputes 38 = .ok (.iconst 0, 1) := by decide +kernel
theorem dX9_openDisputes_39 : decode cX9_openDisputes 39 = .ok (.iadd, 1) := by decide +kernel
theorem dX9_openDisputes_40 : decode cX9_openDisputes 40 = .ok (.istore_n 1, 1) := by decide +kernel
theorem dX9_openDisputes_41 : decode cX9_openDisputes 41 = .ok (.iinc 2 1, 3) := by decide +kernel
theorem dX9_openDisputes_44 : decode cX9_openDisputes 44 = .ok (.goto (-40), 3) := by decide +kernel
theorem dX9_openDisputes_47 : decode cX9_openDisputes 47 = .ok (.iload_n 1, 1) := by decide +kernel
theorem dX9_openDisputes_48 : decode cX9_openDisputes 48 = .ok (.ireturn, 1) := by decide +kernel
theorem dX9_keysThat_0 : decode cX9_keysThat 0 = .ok (.iconst 0, 1) := by decide +kernel
theorem dX9_keysThat_1 : decode cX9_keysThat 1 = .ok (.istore_n 2, 1) := by decide +kernel
theorem dX9_keysThat_2 : decode cX9_keysThat 2 = .ok (.iconst 0, 1) := by decide +kernel
theorem dX9_keysThat_3 : decode cX9_keysThat 3 = .ok (.istore_n 3, 1) := by decide +kernel
theorem dX9_keysThat_4 : decode cX9_keysThat 4 = .ok (.iload_n 3, 1) := by decide +kernel
theorem dX9_keysThat_5 : decode cX9_keysThat 5 = .ok (.aload_n 0, 1) := by decide +kernel
theorem dX9_keysThat_6 : decode cX9_keysThat 6 = .ok (.invokevirtual 64, 3) := by decide +kernel
theorem dX9_keysThat_9 : decode cX9_keysThat 9 = .ok (.if_icmp .ge 76, 3) := by decide +kernel
theorem dX9_keysThat_12 : decode cX9_keysThat 12 = .ok (.iload_n 1, 1) := by decide +kernel
theorem dX9_keysThat_13 : decode cX9_keysThat 13 = .ok (.iconst 3, 1) := by decide +kernel
theorem dX9_keysThat_14 : decode cX9_keysThat 14 = .ok (.if_icmp .ne 11, 3) := by decide +kernel
theorem dX9_keysThat_17 : decode cX9_keysThat 17 = .ok (.aload_n 0, 1) := by decide +kernel
theorem dX9_keysThat_18 : decode cX9_keysThat 18 = .ok (.iload_n 3, 1) := by decide +kernel
theorem dX9_keysThat_19 : decode cX9_keysThat 19 = .ok (.invokevirtual 72, 3) := by decide +kernel
theorem dX9_keysThat_22 : decode cX9_keysThat 22 = .ok (.goto 42, 3) := by decide +kernel
theorem dX9_keysThat_25 : decode cX9_keysThat 25 = .ok (.iload_n 1, 1) := by decide +kernel
theorem dX9_keysThat_26 : decode cX9_keysThat 26 = .ok (.iconst 4, 1) := by decide +kernel
theorem dX9_keysThat_27 : decode cX9_keysThat 27 = .ok (.if_icmp .ne 11, 3) := by decide +kernel
theorem dX9_keysThat_30 : decode cX9_keysThat 30 = .ok (.aload_n 0, 1) := by decide +kernel
theorem dX9_keysThat_31 : decode cX9_keysThat 31 = .ok (.iload_n 3, 1) := by decide +kernel
theorem dX9_keysThat_32 : decode cX9_keysThat 32 = .ok (.invokevirtual 76, 3) := by decide +kernel
theorem dX9_keysThat_35 : decode cX9_keysThat 35 = .ok (.goto 29, 3) := by decide +kernel
theorem dX9_keysThat_38 : decode cX9_keysThat 38 = .ok (.aload_n 0, 1) := by decide +kernel
theorem dX9_keysThat_39 : decode cX9_keysThat 39 = .ok (.iload_n 3, 1) := by decide +kernel
theorem dX9_keysThat_40 : decode cX9_keysThat 40 = .ok (.invokevirtual 76, 3) := by decide +kernel
theorem dX9_keysThat_43 : decode cX9_keysThat 43 = .ok (.ifCond .eq 20, 3) := by decide +kernel
theorem dX9_keysThat_46 : decode cX9_keysThat 46 = .ok (.aload_n 0, 1) := by decide +kernel
theorem dX9_keysThat_47 : decode cX9_keysThat 47 = .ok (.getfield 7, 3) := by decide +kernel
theorem dX9_keysThat_50 : decode cX9_keysThat 50 = .ok (.bipush 116, 2) := by decide +kernel
theorem dX9_keysThat_52 : decode cX9_keysThat 52 = .ok (.iload_n 3, 1) := by decide +kernel
theorem dX9_keysThat_53 : decode cX9_keysThat 53 = .ok (.iadd, 1) := by decide +kernel
theorem dX9_keysThat_54 : decode cX9_keysThat 54 = .ok (.iaload, 1) := by decide +kernel
theorem dX9_keysThat_55 : decode cX9_keysThat 55 = .ok (.iconst 1, 1) := by decide +kernel
theorem dX9_keysThat_56 : decode cX9_keysThat 56 = .ok (.if_icmp .ne 7, 3) := by decide +kernel
theorem dX9_keysThat_59 : decode cX9_keysThat 59 = .ok (.iconst 1, 1) := by decide +kernel
theorem dX9_keysThat_60 : decode cX9_keysThat 60 = .ok (.goto 4, 3) := by decide +kernel
theorem dX9_keysThat_63 : decode cX9_keysThat 63 = .ok (.iconst 0, 1) := by decide +kernel
theorem dX9_keysThat_64 : decode cX9_keysThat 64 = .ok (.istore 4, 2) := by decide +kernel
theorem dX9_keysThat_66 : decode cX9_keysThat 66 = .ok (.iload_n 2, 1) := by decide +kernel
theorem dX9_keysThat_67 : decode cX9_keysThat 67 = .ok (.iload 4, 2) := by decide +kernel
theorem dX9_keysThat_69 : decode cX9_keysThat 69 = .ok (.ifCond .eq 7, 3) := by decide +kernel
theorem dX9_keysThat_72 : decode cX9_keysThat 72 = .ok (.iconst 1, 1) := by decide +kernel
theorem dX9_keysThat_73 : decode cX9_keysThat 73 = .ok (.goto 4, 3) := by decide +kernel
theorem dX9_keysThat_76 : decode cX9_keysThat 76 = .ok (.iconst 0, 1) := by decide +kernel
theorem dX9_keysThat_77 : decode cX9_keysThat 77 = .ok (.iadd, 1) := by decide +kernel
theorem dX9_keysThat_78 : decode cX9_keysThat 78 = .ok (.istore_n 2, 1) := by decide +kernel
theorem dX9_keysThat_79 : decode cX9_keysThat 79 = .ok (.iinc 3 1, 3) := by decide +kernel
theorem dX9_keysThat_82 : decode cX9_keysThat 82 = .ok (.goto (-78), 3) := by decide +kernel
theorem dX9_keysThat_85 : decode cX9_keysThat 85 = .ok (.iload_n 2, 1) := by decide +kernel
theorem dX9_keysThat_86 : decode cX9_keysThat 86 = .ok (.ireturn, 1) := by decide +kernel
theorem dX9_count_0 : decode cX9_count 0 = .ok (.iload_n 1, 1) := by decide +kernel
theorem dX9_count_1 : decode cX9_count 1 = .ok (.tableswitch 199 0 15 #[79, 86, 93, 100, 100, 100, 106, 114, 130, 138, 143, 151, 167, 175, 189, 194], 79) := by decide +kernel
theorem dX9_count_80 : decode cX9_count 80 = .ok (.aload_n 0, 1) := by decide +kernel
theorem dX9_count_81 : decode cX9_count 81 = .ok (.getfield 7, 3) := by decide +kernel
theorem dX9_count_84 : decode cX9_count 84 = .ok (.iconst 2, 1) := by decide +kernel
theorem dX9_count_85 : decode cX9_count 85 = .ok (.iaload, 1) := by decide +kernel
theorem dX9_count_86 : decode cX9_count 86 = .ok (.ireturn, 1) := by decide +kernel
theorem dX9_count_87 : decode cX9_count 87 = .ok (.aload_n 0, 1) := by decide +kernel
theorem dX9_count_88 : decode cX9_count 88 = .ok (.getfield 7, 3) := by decide +kernel
theorem dX9_count_91 : decode cX9_count 91 = .ok (.iconst 0, 1) := by decide +kernel
theorem dX9_count_92 : decode cX9_count 92 = .ok (.iaload, 1) := by decide +kernel
theorem dX9_count_93 : decode cX9_count 93 = .ok (.ireturn, 1) := by decide +kernel
theorem dX9_count_94 : decode cX9_count 94 = .ok (.aload_n 0, 1) := by decide +kernel
theorem dX9_count_95 : decode cX9_count 95 = .ok (.getfield 7, 3) := by decide +kernel
theorem dX9_count_98 : decode cX9_count 98 = .ok (.iconst 1, 1) := by decide +kernel
theorem dX9_count_99 : decode cX9_count 99 = .ok (.iaload, 1) := by decide +kernel
theorem dX9_count_100 : decode cX9_count 100 = .ok (.ireturn, 1) := by decide +kernel
theorem dX9_count_101 : decode cX9_count 101 = .ok (.aload_n 0, 1) := by decide +kernel
theorem dX9_count_102 : decode cX9_count 102 = .ok (.iload_n 1, 1) := by decide +kernel
theorem dX9_count_103 : decode cX9_count 103 = .ok (.invokevirtual 196, 3) := by decide +kernel
theorem dX9_count_106 : decode cX9_count 106 = .ok (.ireturn, 1) := by decide +kernel
theorem dX9_count_107 : decode cX9_count 107 = .ok (.aload_n 0, 1) := by decide +kernel
theorem dX9_count_108 : decode cX9_count 108 = .ok (.getfield 7, 3) := by decide +kernel
theorem dX9_count_111 : decode cX9_count 111 = .ok (.bipush 9, 2) := by decide +kernel
theorem dX9_count_113 : decode cX9_count 113 = .ok (.iaload, 1) := by decide +kernel
theorem dX9_count_114 : decode cX9_count 114 = .ok (.ireturn, 1) := by decide +kernel
theorem dX9_count_115 : decode cX9_count 115 = .ok (.aload_n 0, 1) := by decide +kernel
theorem dX9_count_116 : decode cX9_count 116 = .ok (.getfield 7, 3) := by decide +kernel
theorem dX9_count_119 : decode cX9_count 119 = .ok (.bipush 10, 2) := by decide +kernel
theorem dX9_count_121 : decode cX9_count 121 = .ok (.iaload, 1) := by decide +kernel
theorem dX9_count_122 : decode cX9_count 122 = .ok (.aload_n 0, 1) := by decide +kernel
theorem dX9_count_123 : decode cX9_count 123 = .ok (.getfield 7, 3) := by decide +kernel
theorem dX9_count_126 : decode cX9_count 126 = .ok (.bipush 11, 2) := by decide +kernel
theorem dX9_count_128 : decode cX9_count 128 = .ok (.iaload, 1) := by decide +kernel
theorem dX9_count_129 : decode cX9_count 129 = .ok (.iadd, 1) := by decide +kernel
theorem dX9_count_130 : decode cX9_count 130 = .ok (.ireturn, 1) := by decide +kernel
theorem dX9_count_131 : decode cX9_count 131 = .ok (.aload_n 0, 1) := by decide +kernel
theorem dX9_count_132 : decode cX9_count 132 = .ok (.getfield 7, 3) := by decide +kernel
theorem dX9_count_135 : decode cX9_count 135 = .ok (.bipush 14, 2) := by decide +kernel
theorem dX9_count_137 : decode cX9_count 137 = .ok (.iaload, 1) := by decide +kernel
theorem dX9_count_138 : decode cX9_count 138 = .ok (.ireturn, 1) := by decide +kernel
theorem dX9_count_139 : decode cX9_count 139 = .ok (.aload_n 0, 1) := by decide +kernel
theorem dX9_count_140 : decode cX9_count 140 = .ok (.invokevirtual 199, 3) := by decide +kernel
theorem dX9_count_143 : decode cX9_count 143 = .ok (.ireturn, 1) := by decide +kernel
theorem dX9_count_144 : decode cX9_count 144 = .ok (.aload_n 0, 1) := by decide +kernel
theorem dX9_count_145 : decode cX9_count 145 = .ok (.getfield 7, 3) := by decide +kernel
theorem dX9_count_148 : decode cX9_count 148 = .ok (.bipush 16, 2) := by decide +kernel
theorem dX9_count_150 : decode cX9_count 150 = .ok (.iaload, 1) := by decide +kernel
theorem dX9_count_151 : decode cX9_count 151 = .ok (.ireturn, 1) := by decide +kernel
theorem dX9_count_152 : decode cX9_count 152 = .ok (.aload_n 0, 1) := by decide +kernel
theorem dX9_count_153 : decode cX9_count 153 = .ok (.getfield 7, 3) := by decide +kernel
theorem dX9_count_156 : decode cX9_count 156 = .ok (.bipush 12, 2) := by decide +kernel
theorem dX9_count_158 : decode cX9_count 158 = .ok (.iaload, 1) := by decide +kernel
theorem dX9_count_159 : decode cX9_count 159 = .ok (.aload_n 0, 1) := by decide +kernel
theorem dX9_count_160 : decode cX9_count 160 = .ok (.getfield 7, 3) := by decide +kernel
theorem dX9_count_163 : decode cX9_count 163 = .ok (.bipush 13, 2) := by decide +kernel
theorem dX9_count_165 : decode cX9_count 165 = .ok (.iaload, 1) := by decide +kernel
theorem dX9_count_166 : decode cX9_count 166 = .ok (.iadd, 1) := by decide +kernel
theorem dX9_count_167 : decode cX9_count 167 = .ok (.ireturn, 1) := by decide +kernel
theorem dX9_count_168 : decode cX9_count 168 = .ok (.aload_n 0, 1) := by decide +kernel
theorem dX9_count_169 : decode cX9_count 169 = .ok (.getfield 7, 3) := by decide +kernel
theorem dX9_count_172 : decode cX9_count 172 = .ok (.bipush 15, 2) := by decide +kernel
theorem dX9_count_174 : decode cX9_count 174 = .ok (.iaload, 1) := by decide +kernel
theorem dX9_count_175 : decode cX9_count 175 = .ok (.ireturn, 1) := by decide +kernel
theorem dX9_count_176 : decode cX9_count 176 = .ok (.aload_n 0, 1) := by decide +kernel
theorem dX9_count_177 : decode cX9_count 177 = .ok (.getfield 7, 3) := by decide +kernel
theorem dX9_count_180 : decode cX9_count 180 = .ok (.iconst 2, 1) := by decide +kernel
theorem dX9_count_181 : decode cX9_count 181 = .ok (.iaload, 1) := by decide +kernel
theorem dX9_count_182 : decode cX9_count 182 = .ok (.aload_n 0, 1) := by decide +kernel
theorem dX9_count_183 : decode cX9_count 183 = .ok (.getfield 7, 3) := by decide +kernel
theorem dX9_count_186 : decode cX9_count 186 = .ok (.iconst 0, 1) := by decide +kernel
theorem dX9_count_187 : decode cX9_count 187 = .ok (.iaload, 1) := by decide +kernel
theorem dX9_count_188 : decode cX9_count 188 = .ok (.irem, 1) := by decide +kernel
theorem dX9_count_189 : decode cX9_count 189 = .ok (.ireturn, 1) := by decide +kernel
theorem dX9_count_190 : decode cX9_count 190 = .ok (.aload_n 0, 1) := by decide +kernel
theorem dX9_count_191 : decode cX9_count 191 = .ok (.getfield 47, 3) := by decide +kernel
theorem dX9_count_194 : decode cX9_count 194 = .ok (.ireturn, 1) := by decide +kernel
theorem dX9_count_195 : decode cX9_count 195 = .ok (.aload_n 0, 1) := by decide +kernel
theorem dX9_count_196 : decode cX9_count 196 = .ok (.getfield 168, 3) := by decide +kernel
theorem dX9_count_199 : decode cX9_count 199 = .ok (.ireturn, 1) := by decide +kernel
theorem dX9_count_200 : decode cX9_count 200 = .ok (.bipush (-2), 2) := by decide +kernel
theorem dX9_count_202 : decode cX9_count 202 = .ok (.ireturn, 1) := by decide +kernel

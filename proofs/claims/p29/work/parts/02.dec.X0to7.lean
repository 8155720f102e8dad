theorem dX0_init_0 : decode cX0_init 0 = .ok (.aload_n 0, 1) := by decide +kernel
theorem dX0_init_1 : decode cX0_init 1 = .ok (.invokespecial 3, 3) := by decide +kernel
theorem dX0_init_4 : decode cX0_init 4 = .ok (.aload_n 0, 1) := by decide +kernel
theorem dX0_init_5 : decode cX0_init 5 = .ok (.iconst 4, 1) := by decide +kernel
theorem dX0_init_6 : decode cX0_init 6 = .ok (.putfield 9, 3) := by decide +kernel
theorem dX0_init_9 : decode cX0_init 9 = .ok (.aload_n 0, 1) := by decide +kernel
theorem dX0_init_10 : decode cX0_init 10 = .ok (.bipush 6, 2) := by decide +kernel
theorem dX0_init_12 : decode cX0_init 12 = .ok (.putfield 15, 3) := by decide +kernel
theorem dX0_init_15 : decode cX0_init 15 = .ok (.aload_n 0, 1) := by decide +kernel
theorem dX0_init_16 : decode cX0_init 16 = .ok (.bipush 48, 2) := by decide +kernel
theorem dX0_init_18 : decode cX0_init 18 = .ok (.newarray .int, 2) := by decide +kernel
theorem dX0_init_20 : decode cX0_init 20 = .ok (.putfield 18, 3) := by decide +kernel
theorem dX0_init_23 : decode cX0_init 23 = .ok (.aload_n 0, 1) := by decide +kernel
theorem dX0_init_24 : decode cX0_init 24 = .ok (.bipush 48, 2) := by decide +kernel
theorem dX0_init_26 : decode cX0_init 26 = .ok (.newarray .int, 2) := by decide +kernel
theorem dX0_init_28 : decode cX0_init 28 = .ok (.putfield 22, 3) := by decide +kernel
theorem dX0_init_31 : decode cX0_init 31 = .ok (.aload_n 0, 1) := by decide +kernel
theorem dX0_init_32 : decode cX0_init 32 = .ok (.bipush 48, 2) := by decide +kernel
theorem dX0_init_34 : decode cX0_init 34 = .ok (.newarray .int, 2) := by decide +kernel
theorem dX0_init_36 : decode cX0_init 36 = .ok (.putfield 25, 3) := by decide +kernel
theorem dX0_init_39 : decode cX0_init 39 = .ok (.aload_n 0, 1) := by decide +kernel
theorem dX0_init_40 : decode cX0_init 40 = .ok (.bipush 48, 2) := by decide +kernel
theorem dX0_init_42 : decode cX0_init 42 = .ok (.newarray .int, 2) := by decide +kernel
theorem dX0_init_44 : decode cX0_init 44 = .ok (.putfield 28, 3) := by decide +kernel
theorem dX0_init_47 : decode cX0_init 47 = .ok (.aload_n 0, 1) := by decide +kernel
theorem dX0_init_48 : decode cX0_init 48 = .ok (.bipush 48, 2) := by decide +kernel
theorem dX0_init_50 : decode cX0_init 50 = .ok (.newarray .int, 2) := by decide +kernel
theorem dX0_init_52 : decode cX0_init 52 = .ok (.putfield 31, 3) := by decide +kernel
theorem dX0_init_55 : decode cX0_init 55 = .ok (.aload_n 0, 1) := by decide +kernel
theorem dX0_init_56 : decode cX0_init 56 = .ok (.bipush 6, 2) := by decide +kernel
theorem dX0_init_58 : decode cX0_init 58 = .ok (.newarray .int, 2) := by decide +kernel
theorem dX0_init_60 : decode cX0_init 60 = .ok (.putfield 34, 3) := by decide +kernel
theorem dX0_init_63 : decode cX0_init 63 = .ok (.aload_n 0, 1) := by decide +kernel
theorem dX0_init_64 : decode cX0_init 64 = .ok (.bipush 6, 2) := by decide +kernel
theorem dX0_init_66 : decode cX0_init 66 = .ok (.newarray .int, 2) := by decide +kernel
theorem dX0_init_68 : decode cX0_init 68 = .ok (.putfield 37, 3) := by decide +kernel
theorem dX0_init_71 : decode cX0_init 71 = .ok (.aload_n 0, 1) := by decide +kernel
theorem dX0_init_72 : decode cX0_init 72 = .ok (.bipush 6, 2) := by decide +kernel
theorem dX0_init_74 : decode cX0_init 74 = .ok (.newarray .int, 2) := by decide +kernel
theorem dX0_init_76 : decode cX0_init 76 = .ok (.putfield 40, 3) := by decide +kernel
theorem dX0_init_79 : decode cX0_init 79 = .ok (.aload_n 0, 1) := by decide +kernel
theorem dX0_init_80 : decode cX0_init 80 = .ok (.iconst 2, 1) := by decide +kernel
theorem dX0_init_81 : decode cX0_init 81 = .ok (.newarray .int, 2) := by decide +kernel
theorem dX0_init_83 : decode cX0_init 83 = .ok (.putfield 43, 3) := by decide +kernel
theorem dX0_init_86 : decode cX0_init 86 = .ok (.aload_n 0, 1) := by decide +kernel
theorem dX0_init_87 : decode cX0_init 87 = .ok (.getfield 18, 3) := by decide +kernel
theorem dX0_init_90 : decode cX0_init 90 = .ok (.iconst (-1), 1) := by decide +kernel
theorem dX0_init_91 : decode cX0_init 91 = .ok (.invokestatic 46, 3) := by decide +kernel
theorem dX0_init_94 : decode cX0_init 94 = .ok (.aload_n 0, 1) := by decide +kernel
theorem dX0_init_95 : decode cX0_init 95 = .ok (.getfield 22, 3) := by decide +kernel
theorem dX0_init_98 : decode cX0_init 98 = .ok (.bipush 46, 2) := by decide +kernel
theorem dX0_init_100 : decode cX0_init 100 = .ok (.invokestatic 46, 3) := by decide +kernel
theorem dX0_init_103 : decode cX0_init 103 = .ok (.aload_n 0, 1) := by decide +kernel
theorem dX0_init_104 : decode cX0_init 104 = .ok (.getfield 31, 3) := by decide +kernel
theorem dX0_init_107 : decode cX0_init 107 = .ok (.iconst (-1), 1) := by decide +kernel
theorem dX0_init_108 : decode cX0_init 108 = .ok (.invokestatic 46, 3) := by decide +kernel
theorem dX0_init_111 : decode cX0_init 111 = .ok (.aload_n 0, 1) := by decide +kernel
theorem dX0_init_112 : decode cX0_init 112 = .ok (.getfield 43, 3) := by decide +kernel
theorem dX0_init_115 : decode cX0_init 115 = .ok (.iconst (-1), 1) := by decide +kernel
theorem dX0_init_116 : decode cX0_init 116 = .ok (.invokestatic 46, 3) := by decide +kernel
theorem dX0_init_119 : decode cX0_init 119 = .ok (.return_, 1) := by decide +kernel
theorem dX0_copyFrom_0 : decode cX0_copyFrom 0 = .ok (.aload_n 0, 1) := by decide +kernel
theorem dX0_copyFrom_1 : decode cX0_copyFrom 1 = .ok (.aload_n 1, 1) := by decide +kernel
theorem dX0_copyFrom_2 : decode cX0_copyFrom 2 = .ok (.getfield 9, 3) := by decide +kernel
theorem dX0_copyFrom_5 : decode cX0_copyFrom 5 = .ok (.putfield 9, 3) := by decide +kernel
theorem dX0_copyFrom_8 : decode cX0_copyFrom 8 = .ok (.aload_n 0, 1) := by decide +kernel
theorem dX0_copyFrom_9 : decode cX0_copyFrom 9 = .ok (.aload_n 1, 1) := by decide +kernel
theorem dX0_copyFrom_10 : decode cX0_copyFrom 10 = .ok (.getfield 15, 3) := by decide +kernel
theorem dX0_copyFrom_13 : decode cX0_copyFrom 13 = .ok (.putfield 15, 3) := by decide +kernel
theorem dX0_copyFrom_16 : decode cX0_copyFrom 16 = .ok (.aload_n 1, 1) := by decide +kernel
theorem dX0_copyFrom_17 : decode cX0_copyFrom 17 = .ok (.getfield 18, 3) := by decide +kernel
theorem dX0_copyFrom_20 : decode cX0_copyFrom 20 = .ok (.aload_n 0, 1) := by decide +kernel
theorem dX0_copyFrom_21 : decode cX0_copyFrom 21 = .ok (.getfield 18, 3) := by decide +kernel
theorem dX0_copyFrom_24 : decode cX0_copyFrom 24 = .ok (.invokestatic 52, 3) := by decide +kernel
theorem dX0_copyFrom_27 : decode cX0_copyFrom 27 = .ok (.aload_n 1, 1) := by decide +kernel
theorem dX0_copyFrom_28 : decode cX0_copyFrom 28 = .ok (.getfield 22, 3) := by decide +kernel
theorem dX0_copyFrom_31 : decode cX0_copyFrom 31 = .ok (.aload_n 0, 1) := by decide +kernel
theorem dX0_copyFrom_32 : decode cX0_copyFrom 32 = .ok (.getfield 22, 3) := by decide +kernel
theorem dX0_copyFrom_35 : decode cX0_copyFrom 35 = .ok (.invokestatic 52, 3) := by decide +kernel
theorem dX0_copyFrom_38 : decode cX0_copyFrom 38 = .ok (.aload_n 1, 1) := by decide +kernel
theorem dX0_copyFrom_39 : decode cX0_copyFrom 39 = .ok (.getfield 25, 3) := by decide +kernel
theorem dX0_copyFrom_42 : decode cX0_copyFrom 42 = .ok (.aload_n 0, 1) := by decide +kernel
theorem dX0_copyFrom_43 : decode cX0_copyFrom 43 = .ok (.getfield 25, 3) := by decide +kernel
theorem dX0_copyFrom_46 : decode cX0_copyFrom 46 = .ok (.invokestatic 52, 3) := by decide +kernel
theorem dX0_copyFrom_49 : decode cX0_copyFrom 49 = .ok (.aload_n 1, 1) := by decide +kernel
theorem dX0_copyFrom_50 : decode cX0_copyFrom 50 = .ok (.getfield 28, 3) := by decide +kernel
theorem dX0_copyFrom_53 : decode cX0_copyFrom 53 = .ok (.aload_n 0, 1) := by decide +kernel
theorem dX0_copyFrom_54 : decode cX0_copyFrom 54 = .ok (.getfield 28, 3) := by decide +kernel
theorem dX0_copyFrom_57 : decode cX0_copyFrom 57 = .ok (.invokestatic 52, 3) := by decide +kernel
theorem dX0_copyFrom_60 : decode cX0_copyFrom 60 = .ok (.aload_n 1, 1) := by decide +kernel
theorem dX0_copyFrom_61 : decode cX0_copyFrom 61 = .ok (.getfield 31, 3) := by decide +kernel
theorem dX0_copyFrom_64 : decode cX0_copyFrom 64 = .ok (.aload_n 0, 1) := by decide +kernel
theorem dX0_copyFrom_65 : decode cX0_copyFrom 65 = .ok (.getfield 31, 3) := by decide +kernel
theorem dX0_copyFrom_68 : decode cX0_copyFrom 68 = .ok (.invokestatic 52, 3) := by decide +kernel
theorem dX0_copyFrom_71 : decode cX0_copyFrom 71 = .ok (.aload_n 1, 1) := by decide +kernel
theorem dX0_copyFrom_72 : decode cX0_copyFrom 72 = .ok (.getfield 34, 3) := by decide +kernel
theorem dX0_copyFrom_75 : decode cX0_copyFrom 75 = .ok (.aload_n 0, 1) := by decide +kernel
theorem dX0_copyFrom_76 : decode cX0_copyFrom 76 = .ok (.getfield 34, 3) := by decide +kernel
theorem dX0_copyFrom_79 : decode cX0_copyFrom 79 = .ok (.invokestatic 52, 3) := by decide +kernel
theorem dX0_copyFrom_82 : decode cX0_copyFrom 82 = .ok (.aload_n 1, 1) := by decide +kernel
theorem dX0_copyFrom_83 : decode cX0_copyFrom 83 = .ok (.getfield 37, 3) := by decide +kernel
theorem dX0_copyFrom_86 : decode cX0_copyFrom 86 = .ok (.aload_n 0, 1) := by decide +kernel
theorem dX0_copyFrom_87 : decode cX0_copyFrom 87 = .ok (.getfield 37, 3) := by decide +kernel
theorem dX0_copyFrom_90 : decode cX0_copyFrom 90 = .ok (.invokestatic 52, 3) := by decide +kernel
theorem dX0_copyFrom_93 : decode cX0_copyFrom 93 = .ok (.aload_n 1, 1) := by decide +kernel
theorem dX0_copyFrom_94 : decode cX0_copyFrom 94 = .ok (.getfield 40, 3) := by decide +kernel
theorem dX0_copyFrom_97 : decode cX0_copyFrom 97 = .ok (.aload_n 0, 1) := by decide +kernel
theorem dX0_copyFrom_98 : decode cX0_copyFrom 98 = .ok (.getfield 40, 3) := by decide +kernel
theorem dX0_copyFrom_101 : decode cX0_copyFrom 101 = .ok (.invokestatic 52, 3) := by decide +kernel
theorem dX0_copyFrom_104 : decode cX0_copyFrom 104 = .ok (.aload_n 1, 1) := by decide +kernel
theorem dX0_copyFrom_105 : decode cX0_copyFrom 105 = .ok (.getfield 43, 3) := by decide +kernel
theorem dX0_copyFrom_108 : decode cX0_copyFrom 108 = .ok (.aload_n 0, 1) := by decide +kernel
theorem dX0_copyFrom_109 : decode cX0_copyFrom 109 = .ok (.getfield 43, 3) := by decide +kernel
theorem dX0_copyFrom_112 : decode cX0_copyFrom 112 = .ok (.invokestatic 52, 3) := by decide +kernel
theorem dX0_copyFrom_115 : decode cX0_copyFrom 115 = .ok (.return_, 1) := by decide +kernel
theorem dX0_rebuild_0 : decode cX0_rebuild 0 = .ok (.aload_n 0, 1) := by decide +kernel
theorem dX0_rebuild_1 : decode cX0_rebuild 1 = .ok (.iload_n 1, 1) := by decide +kernel
theorem dX0_rebuild_2 : decode cX0_rebuild 2 = .ok (.putfield 9, 3) := by decide +kernel
theorem dX0_rebuild_5 : decode cX0_rebuild 5 = .ok (.aload_n 0, 1) := by decide +kernel
theorem dX0_rebuild_6 : decode cX0_rebuild 6 = .ok (.iload_n 2, 1) := by decide +kernel
theorem dX0_rebuild_7 : decode cX0_rebuild 7 = .ok (.putfield 15, 3) := by decide +kernel
theorem dX0_rebuild_10 : decode cX0_rebuild 10 = .ok (.aload_n 0, 1) := by decide +kernel
theorem dX0_rebuild_11 : decode cX0_rebuild 11 = .ok (.getfield 22, 3) := by decide +kernel
theorem dX0_rebuild_14 : decode cX0_rebuild 14 = .ok (.bipush 46, 2) := by decide +kernel
theorem dX0_rebuild_16 : decode cX0_rebuild 16 = .ok (.invokestatic 46, 3) := by decide +kernel
theorem dX0_rebuild_19 : decode cX0_rebuild 19 = .ok (.aload_n 0, 1) := by decide +kernel
theorem dX0_rebuild_20 : decode cX0_rebuild 20 = .ok (.getfield 43, 3) := by decide +kernel
theorem dX0_rebuild_23 : decode cX0_rebuild 23 = .ok (.iconst (-1), 1) := by decide +kernel
theorem dX0_rebuild_24 : decode cX0_rebuild 24 = .ok (.invokestatic 46, 3) := by decide +kernel
theorem dX0_rebuild_27 : decode cX0_rebuild 27 = .ok (.return_, 1) := by decide +kernel
theorem dX0_size_0 : decode cX0_size 0 = .ok (.aload_n 0, 1) := by decide +kernel
theorem dX0_size_1 : decode cX0_size 1 = .ok (.getfield 9, 3) := by decide +kernel
theorem dX0_size_4 : decode cX0_size 4 = .ok (.aload_n 0, 1) := by decide +kernel
theorem dX0_size_5 : decode cX0_size 5 = .ok (.getfield 15, 3) := by decide +kernel
theorem dX0_size_8 : decode cX0_size 8 = .ok (.imul, 1) := by decide +kernel
theorem dX0_size_9 : decode cX0_size 9 = .ok (.ireturn, 1) := by decide +kernel
theorem dX0_has_0 : decode cX0_has 0 = .ok (.iload_n 1, 1) := by decide +kernel
theorem dX0_has_1 : decode cX0_has 1 = .ok (.ifCond .lt 20, 3) := by decide +kernel
theorem dX0_has_4 : decode cX0_has 4 = .ok (.iload_n 1, 1) := by decide +kernel
theorem dX0_has_5 : decode cX0_has 5 = .ok (.aload_n 0, 1) := by decide +kernel
theorem dX0_has_6 : decode cX0_has 6 = .ok (.getfield 9, 3) := by decide +kernel
theorem dX0_has_9 : decode cX0_has 9 = .ok (.aload_n 0, 1) := by decide +kernel
theorem dX0_has_10 : decode cX0_has 10 = .ok (.getfield 15, 3) := by decide +kernel
theorem dX0_has_13 : decode cX0_has 13 = .ok (.imul, 1) := by decide +kernel
theorem dX0_has_14 : decode cX0_has 14 = .ok (.if_icmp .ge 7, 3) := by decide +kernel
theorem dX0_has_17 : decode cX0_has 17 = .ok (.iconst 1, 1) := by decide +kernel
theorem dX0_has_18 : decode cX0_has 18 = .ok (.goto 4, 3) := by decide +kernel
theorem dX0_has_21 : decode cX0_has 21 = .ok (.iconst 0, 1) := by decide +kernel
theorem dX0_has_22 : decode cX0_has 22 = .ok (.ireturn, 1) := by decide +kernel
theorem dX0_rowOf_0 : decode cX0_rowOf 0 = .ok (.aload_n 0, 1) := by decide +kernel
theorem dX0_rowOf_1 : decode cX0_rowOf 1 = .ok (.getfield 15, 3) := by decide +kernel
theorem dX0_rowOf_4 : decode cX0_rowOf 4 = .ok (.ifCond .le 12, 3) := by decide +kernel
theorem dX0_rowOf_7 : decode cX0_rowOf 7 = .ok (.iload_n 1, 1) := by decide +kernel
theorem dX0_rowOf_8 : decode cX0_rowOf 8 = .ok (.aload_n 0, 1) := by decide +kernel
theorem dX0_rowOf_9 : decode cX0_rowOf 9 = .ok (.getfield 15, 3) := by decide +kernel
theorem dX0_rowOf_12 : decode cX0_rowOf 12 = .ok (.idiv, 1) := by decide +kernel
theorem dX0_rowOf_13 : decode cX0_rowOf 13 = .ok (.goto 4, 3) := by decide +kernel
theorem dX0_rowOf_16 : decode cX0_rowOf 16 = .ok (.iconst 0, 1) := by decide +kernel
theorem dX0_rowOf_17 : decode cX0_rowOf 17 = .ok (.ireturn, 1) := by decide +kernel
theorem dX0_bitOf_0 : decode cX0_bitOf 0 = .ok (.aload_n 0, 1) := by decide +kernel
theorem dX0_bitOf_1 : decode cX0_bitOf 1 = .ok (.getfield 15, 3) := by decide +kernel
theorem dX0_bitOf_4 : decode cX0_bitOf 4 = .ok (.ifCond .le 14, 3) := by decide +kernel
theorem dX0_bitOf_7 : decode cX0_bitOf 7 = .ok (.iconst 1, 1) := by decide +kernel
theorem dX0_bitOf_8 : decode cX0_bitOf 8 = .ok (.iload_n 1, 1) := by decide +kernel
theorem dX0_bitOf_9 : decode cX0_bitOf 9 = .ok (.aload_n 0, 1) := by decide +kernel
theorem dX0_bitOf_10 : decode cX0_bitOf 10 = .ok (.getfield 15, 3) := by decide +kernel
theorem dX0_bitOf_13 : decode cX0_bitOf 13 = .ok (.irem, 1) := by decide +kernel
theorem dX0_bitOf_14 : decode cX0_bitOf 14 = .ok (.ishl, 1) := by decide +kernel
theorem dX0_bitOf_15 : decode cX0_bitOf 15 = .ok (.goto 4, 3) := by decide +kernel
theorem dX0_bitOf_18 : decode cX0_bitOf 18 = .ok (.iconst 0, 1) := by decide +kernel
theorem dX0_bitOf_19 : decode cX0_bitOf 19 = .ok (.ireturn, 1) := by decide +kernel
theorem dX0_isDown_0 : decode cX0_isDown 0 = .ok (.aload_n 0, 1) := by decide +kernel
theorem dX0_isDown_1 : decode cX0_isDown 1 = .ok (.getfield 34, 3) := by decide +kernel
theorem dX0_isDown_4 : decode cX0_isDown 4 = .ok (.aload_n 0, 1) := by decide +kernel
theorem dX0_isDown_5 : decode cX0_isDown 5 = .ok (.iload_n 1, 1) := by decide +kernel
theorem dX0_isDown_6 : decode cX0_isDown 6 = .ok (.invokevirtual 58, 3) := by decide +kernel
theorem dX0_isDown_9 : decode cX0_isDown 9 = .ok (.invokestatic 62, 3) := by decide +kernel
theorem dX0_isDown_12 : decode cX0_isDown 12 = .ok (.aload_n 0, 1) := by decide +kernel
theorem dX0_isDown_13 : decode cX0_isDown 13 = .ok (.iload_n 1, 1) := by decide +kernel
theorem dX0_isDown_14 : decode cX0_isDown 14 = .ok (.invokevirtual 66, 3) := by decide +kernel
theorem dX0_isDown_17 : decode cX0_isDown 17 = .ok (.iand, 1) := by decide +kernel
theorem dX0_isDown_18 : decode cX0_isDown 18 = .ok (.ifCond .eq 7, 3) := by decide +kernel
theorem dX0_isDown_21 : decode cX0_isDown 21 = .ok (.iconst 1, 1) := by decide +kernel
theorem dX0_isDown_22 : decode cX0_isDown 22 = .ok (.goto 4, 3) := by decide +kernel
theorem dX0_isDown_25 : decode cX0_isDown 25 = .ok (.iconst 0, 1) := by decide +kernel
theorem dX0_isDown_26 : decode cX0_isDown 26 = .ok (.ireturn, 1) := by decide +kernel
theorem dX0_isSeen_0 : decode cX0_isSeen 0 = .ok (.aload_n 0, 1) := by decide +kernel
theorem dX0_isSeen_1 : decode cX0_isSeen 1 = .ok (.getfield 37, 3) := by decide +kernel
theorem dX0_isSeen_4 : decode cX0_isSeen 4 = .ok (.aload_n 0, 1) := by decide +kernel
theorem dX0_isSeen_5 : decode cX0_isSeen 5 = .ok (.iload_n 1, 1) := by decide +kernel
theorem dX0_isSeen_6 : decode cX0_isSeen 6 = .ok (.invokevirtual 58, 3) := by decide +kernel
theorem dX0_isSeen_9 : decode cX0_isSeen 9 = .ok (.invokestatic 62, 3) := by decide +kernel
theorem dX0_isSeen_12 : decode cX0_isSeen 12 = .ok (.aload_n 0, 1) := by decide +kernel
theorem dX0_isSeen_13 : decode cX0_isSeen 13 = .ok (.iload_n 1, 1) := by decide +kernel
theorem dX0_isSeen_14 : decode cX0_isSeen 14 = .ok (.invokevirtual 66, 3) := by decide +kernel
theorem dX0_isSeen_17 : decode cX0_isSeen 17 = .ok (.iand, 1) := by decide +kernel
theorem dX0_isSeen_18 : decode cX0_isSeen 18 = .ok (.ifCond .eq 7, 3) := by decide +kernel
theorem dX0_isSeen_21 : decode cX0_isSeen 21 = .ok (.iconst 1, 1) := by decide +kernel
theorem dX0_isSeen_22 : decode cX0_isSeen 22 = .ok (.goto 4, 3) := by decide +kernel
theorem dX0_isSeen_25 : decode cX0_isSeen 25 = .ok (.iconst 0, 1) := by decide +kernel
theorem dX0_isSeen_26 : decode cX0_isSeen 26 = .ok (.ireturn, 1) := by decide +kernel
theorem dX0_isDoubtful_0 : decode cX0_isDoubtful 0 = .ok (.aload_n 0, 1) := by decide +kernel
theorem dX0_isDoubtful_1 : decode cX0_isDoubtful 1 = .ok (.getfield 40, 3) := by decide +kernel
theorem dX0_isDoubtful_4 : decode cX0_isDoubtful 4 = .ok (.aload_n 0, 1) := by decide +kernel
theorem dX0_isDoubtful_5 : decode cX0_isDoubtful 5 = .ok (.iload_n 1, 1) := by decide +kernel
theorem dX0_isDoubtful_6 : decode cX0_isDoubtful 6 = .ok (.invokevirtual 58, 3) := by decide +kernel
theorem dX0_isDoubtful_9 : decode cX0_isDoubtful 9 = .ok (.invokestatic 62, 3) := by decide +kernel
theorem dX0_isDoubtful_12 : decode cX0_isDoubtful 12 = .ok (.aload_n 0, 1) := by decide +kernel
theorem dX0_isDoubtful_13 : decode cX0_isDoubtful 13 = .ok (.iload_n 1, 1) := by decide +kernel
theorem dX0_isDoubtful_14 : decode cX0_isDoubtful 14 = .ok (.invokevirtual 66, 3) := by decide +kernel
theorem dX0_isDoubtful_17 : decode cX0_isDoubtful 17 = .ok (.iand, 1) := by decide +kernel
theorem dX0_isDoubtful_18 : decode cX0_isDoubtful 18 = .ok (.ifCond .eq 7, 3) := by decide +kernel
theorem dX0_isDoubtful_21 : decode cX0_isDoubtful 21 = .ok (.iconst 1, 1) := by decide +kernel
theorem dX0_isDoubtful_22 : decode cX0_isDoubtful 22 = .ok (.goto 4, 3) := by decide +kernel
theorem dX0_isDoubtful_25 : decode cX0_isDoubtful 25 = .ok (.iconst 0, 1) := by decide +kernel
theorem dX0_isDoubtful_26 : decode cX0_isDoubtful 26 = .ok (.ireturn, 1) := by decide +kernel
theorem dX0_downKeys_0 : decode cX0_downKeys 0 = .ok (.aload_n 0, 1) := by decide +kernel
theorem dX0_downKeys_1 : decode cX0_downKeys 1 = .ok (.getfield 34, 3) := by decide +kernel
theorem dX0_downKeys_4 : decode cX0_downKeys 4 = .ok (.invokestatic 69, 3) := by decide +kernel
theorem dX0_downKeys_7 : decode cX0_downKeys 7 = .ok (.ireturn, 1) := by decide +kernel
theorem dX0_seenKeys_0 : decode cX0_seenKeys 0 = .ok (.aload_n 0, 1) := by decide +kernel
theorem dX0_seenKeys_1 : decode cX0_seenKeys 1 = .ok (.getfield 37, 3) := by decide +kernel
theorem dX0_seenKeys_4 : decode cX0_seenKeys 4 = .ok (.invokestatic 69, 3) := by decide +kernel
theorem dX0_seenKeys_7 : decode cX0_seenKeys 7 = .ok (.ireturn, 1) := by decide +kernel
theorem dX0_doubtfulKeys_0 : decode cX0_doubtfulKeys 0 = .ok (.aload_n 0, 1) := by decide +kernel
theorem dX0_doubtfulKeys_1 : decode cX0_doubtfulKeys 1 = .ok (.getfield 40, 3) := by decide +kernel
theorem dX0_doubtfulKeys_4 : decode cX0_doubtfulKeys 4 = .ok (.invokestatic 69, 3) := by decide +kernel
theorem dX0_doubtfulKeys_7 : decode cX0_doubtfulKeys 7 = .ok (.ireturn, 1) := by decide +kernel
theorem dX0_holderOf_0 : decode cX0_holderOf 0 = .ok (.aload_n 0, 1) := by decide +kernel
theorem dX0_holderOf_1 : decode cX0_holderOf 1 = .ok (.getfield 18, 3) := by decide +kernel
theorem dX0_holderOf_4 : decode cX0_holderOf 4 = .ok (.iload_n 1, 1) := by decide +kernel
theorem dX0_holderOf_5 : decode cX0_holderOf 5 = .ok (.invokestatic 62, 3) := by decide +kernel
theorem dX0_holderOf_8 : decode cX0_holderOf 8 = .ok (.ireturn, 1) := by decide +kernel
theorem dX0_heldBy_0 : decode cX0_heldBy 0 = .ok (.iconst 0, 1) := by decide +kernel
theorem dX0_heldBy_1 : decode cX0_heldBy 1 = .ok (.istore_n 2, 1) := by decide +kernel
theorem dX0_heldBy_2 : decode cX0_heldBy 2 = .ok (.aload_n 0, 1) := by decide +kernel
theorem dX0_heldBy_3 : decode cX0_heldBy 3 = .ok (.getfield 18, 3) := by decide +kernel
theorem dX0_heldBy_6 : decode cX0_heldBy 6 = .ok (.astore_n 3, 1) := by decide +kernel
theorem dX0_heldBy_7 : decode cX0_heldBy 7 = .ok (.aload_n 3, 1) := by decide +kernel
theorem dX0_heldBy_8 : decode cX0_heldBy 8 = .ok (.arraylength, 1) := by decide +kernel
theorem dX0_heldBy_9 : decode cX0_heldBy 9 = .ok (.istore 4, 2) := by decide +kernel
theorem dX0_heldBy_11 : decode cX0_heldBy 11 = .ok (.iconst 0, 1) := by decide +kernel
theorem dX0_heldBy_12 : decode cX0_heldBy 12 = .ok (.istore 5, 2) := by decide +kernel
theorem dX0_heldBy_14 : decode cX0_heldBy 14 = .ok (.iload 5, 2) := by decide +kernel
theorem dX0_heldBy_16 : decode cX0_heldBy 16 = .ok (.iload 4, 2) := by decide +kernel
theorem dX0_heldBy_18 : decode cX0_heldBy 18 = .ok (.if_icmp .ge 29, 3) := by decide +kernel
theorem dX0_heldBy_21 : decode cX0_heldBy 21 = .ok (.aload_n 3, 1) := by decide +kernel
theorem dX0_heldBy_22 : decode cX0_heldBy 22 = .ok (.iload 5, 2) := by decide +kernel
theorem dX0_heldBy_24 : decode cX0_heldBy 24 = .ok (.iaload, 1) := by decide +kernel
theorem dX0_heldBy_25 : decode cX0_heldBy 25 = .ok (.istore 6, 2) := by decide +kernel
theorem dX0_heldBy_27 : decode cX0_heldBy 27 = .ok (.iload_n 2, 1) := by decide +kernel
theorem dX0_heldBy_28 : decode cX0_heldBy 28 = .ok (.iload 6, 2) := by decide +kernel
theorem dX0_heldBy_30 : decode cX0_heldBy 30 = .ok (.iload_n 1, 1) := by decide +kernel
theorem dX0_heldBy_31 : decode cX0_heldBy 31 = .ok (.if_icmp .ne 7, 3) := by decide +kernel
theorem dX0_heldBy_34 : decode cX0_heldBy 34 = .ok (.iconst 1, 1) := by decide +kernel
theorem dX0_heldBy_35 : decode cX0_heldBy 35 = .ok (.goto 4, 3) := by decide +kernel
theorem dX0_heldBy_38 : decode cX0_heldBy 38 = .ok (.iconst 0, 1) := by decide +kernel
theorem dX0_heldBy_39 : decode cX0_heldBy 39 = .ok (.iadd, 1) := by decide +kernel
theorem dX0_heldBy_40 : decode cX0_heldBy 40 = .ok (.istore_n 2, 1) := by decide +kernel
theorem dX0_heldBy_41 : decode cX0_heldBy 41 = .ok (.iinc 5 1, 3) := by decide +kernel
theorem dX0_heldBy_44 : decode cX0_heldBy 44 = .ok (.goto (-30), 3) := by decide +kernel
theorem dX0_heldBy_47 : decode cX0_heldBy 47 = .ok (.iload_n 2, 1) := by decide +kernel
theorem dX0_heldBy_48 : decode cX0_heldBy 48 = .ok (.ireturn, 1) := by decide +kernel
theorem dX0_putDown_0 : decode cX0_putDown 0 = .ok (.aload_n 0, 1) := by decide +kernel
theorem dX0_putDown_1 : decode cX0_putDown 1 = .ok (.iload_n 2, 1) := by decide +kernel
theorem dX0_putDown_2 : decode cX0_putDown 2 = .ok (.invokevirtual 58, 3) := by decide +kernel
theorem dX0_putDown_5 : decode cX0_putDown 5 = .ok (.istore_n 3, 1) := by decide +kernel
theorem dX0_putDown_6 : decode cX0_putDown 6 = .ok (.aload_n 0, 1) := by decide +kernel
theorem dX0_putDown_7 : decode cX0_putDown 7 = .ok (.getfield 18, 3) := by decide +kernel
theorem dX0_putDown_10 : decode cX0_putDown 10 = .ok (.iload_n 2, 1) := by decide +kernel
theorem dX0_putDown_11 : decode cX0_putDown 11 = .ok (.iload_n 1, 1) := by decide +kernel
theorem dX0_putDown_12 : decode cX0_putDown 12 = .ok (.invokestatic 73, 3) := by decide +kernel
theorem dX0_putDown_15 : decode cX0_putDown 15 = .ok (.aload_n 0, 1) := by decide +kernel
theorem dX0_putDown_16 : decode cX0_putDown 16 = .ok (.getfield 34, 3) := by decide +kernel
theorem dX0_putDown_19 : decode cX0_putDown 19 = .ok (.iload_n 3, 1) := by decide +kernel
theorem dX0_putDown_20 : decode cX0_putDown 20 = .ok (.aload_n 0, 1) := by decide +kernel
theorem dX0_putDown_21 : decode cX0_putDown 21 = .ok (.getfield 34, 3) := by decide +kernel
theorem dX0_putDown_24 : decode cX0_putDown 24 = .ok (.iload_n 3, 1) := by decide +kernel
theorem dX0_putDown_25 : decode cX0_putDown 25 = .ok (.invokestatic 62, 3) := by decide +kernel
theorem dX0_putDown_28 : decode cX0_putDown 28 = .ok (.aload_n 0, 1) := by decide +kernel
theorem dX0_putDown_29 : decode cX0_putDown 29 = .ok (.iload_n 2, 1) := by decide +kernel
theorem dX0_putDown_30 : decode cX0_putDown 30 = .ok (.invokevirtual 66, 3) := by decide +kernel
theorem dX0_putDown_33 : decode cX0_putDown 33 = .ok (.ior, 1) := by decide +kernel
theorem dX0_putDown_34 : decode cX0_putDown 34 = .ok (.invokestatic 73, 3) := by decide +kernel
theorem dX0_putDown_37 : decode cX0_putDown 37 = .ok (.return_, 1) := by decide +kernel
theorem dX0_liftUp_0 : decode cX0_liftUp 0 = .ok (.aload_n 0, 1) := by decide +kernel
theorem dX0_liftUp_1 : decode cX0_liftUp 1 = .ok (.iload_n 1, 1) := by decide +kernel
theorem dX0_liftUp_2 : decode cX0_liftUp 2 = .ok (.invokevirtual 58, 3) := by decide +kernel
theorem dX0_liftUp_5 : decode cX0_liftUp 5 = .ok (.istore_n 2, 1) := by decide +kernel
theorem dX0_liftUp_6 : decode cX0_liftUp 6 = .ok (.aload_n 0, 1) := by decide +kernel
theorem dX0_liftUp_7 : decode cX0_liftUp 7 = .ok (.getfield 18, 3) := by decide +kernel
theorem dX0_liftUp_10 : decode cX0_liftUp 10 = .ok (.iload_n 1, 1) := by decide +kernel
theorem dX0_liftUp_11 : decode cX0_liftUp 11 = .ok (.iconst (-1), 1) := by decide +kernel
theorem dX0_liftUp_12 : decode cX0_liftUp 12 = .ok (.invokestatic 73, 3) := by decide +kernel
theorem dX0_liftUp_15 : decode cX0_liftUp 15 = .ok (.aload_n 0, 1) := by decide +kernel
theorem dX0_liftUp_16 : decode cX0_liftUp 16 = .ok (.getfield 34, 3) := by decide +kernel
theorem dX0_liftUp_19 : decode cX0_liftUp 19 = .ok (.iload_n 2, 1) := by decide +kernel
theorem dX0_liftUp_20 : decode cX0_liftUp 20 = .ok (.aload_n 0, 1) := by decide +kernel
theorem dX0_liftUp_21 : decode cX0_liftUp 21 = .ok (.getfield 34, 3) := by decide +kernel
theorem dX0_liftUp_24 : decode cX0_liftUp 24 = .ok (.iload_n 2, 1) := by decide +kernel
theorem dX0_liftUp_25 : decode cX0_liftUp 25 = .ok (.invokestatic 62, 3) := by decide +kernel
theorem dX0_liftUp_28 : decode cX0_liftUp 28 = .ok (.aload_n 0, 1) := by decide +kernel
theorem dX0_liftUp_29 : decode cX0_liftUp 29 = .ok (.iload_n 1, 1) := by decide +kernel
theorem dX0_liftUp_30 : decode cX0_liftUp 30 = .ok (.invokevirtual 66, 3) := by decide +kernel
theorem dX0_liftUp_33 : decode cX0_liftUp 33 = .ok (.iconst (-1), 1) := by decide +kernel
theorem dX0_liftUp_34 : decode cX0_liftUp 34 = .ok (.ixor, 1) := by decide +kernel
theorem dX0_liftUp_35 : decode cX0_liftUp 35 = .ok (.iand, 1) := by decide +kernel
theorem dX0_liftUp_36 : decode cX0_liftUp 36 = .ok (.invokestatic 73, 3) := by decide +kernel
theorem dX0_liftUp_39 : decode cX0_liftUp 39 = .ok (.return_, 1) := by decide +kernel
theorem dX0_signOf_0 : decode cX0_signOf 0 = .ok (.aload_n 0, 1) := by decide +kernel
theorem dX0_signOf_1 : decode cX0_signOf 1 = .ok (.iload_n 1, 1) := by decide +kernel
theorem dX0_signOf_2 : decode cX0_signOf 2 = .ok (.invokevirtual 77, 3) := by decide +kernel
theorem dX0_signOf_5 : decode cX0_signOf 5 = .ok (.ifCond .eq 14, 3) := by decide +kernel
theorem dX0_signOf_8 : decode cX0_signOf 8 = .ok (.aload_n 0, 1) := by decide +kernel
theorem dX0_signOf_9 : decode cX0_signOf 9 = .ok (.getfield 22, 3) := by decide +kernel
theorem dX0_signOf_12 : decode cX0_signOf 12 = .ok (.iload_n 1, 1) := by decide +kernel
theorem dX0_signOf_13 : decode cX0_signOf 13 = .ok (.invokestatic 62, 3) := by decide +kernel
theorem dX0_signOf_16 : decode cX0_signOf 16 = .ok (.goto 5, 3) := by decide +kernel
theorem dX0_signOf_19 : decode cX0_signOf 19 = .ok (.bipush 46, 2) := by decide +kernel
theorem dX0_signOf_21 : decode cX0_signOf 21 = .ok (.ireturn, 1) := by decide +kernel
theorem dX0_giveSign_0 : decode cX0_giveSign 0 = .ok (.aload_n 0, 1) := by decide +kernel
theorem dX0_giveSign_1 : decode cX0_giveSign 1 = .ok (.iload_n 1, 1) := by decide +kernel
theorem dX0_giveSign_2 : decode cX0_giveSign 2 = .ok (.invokevirtual 81, 3) := by decide +kernel
theorem dX0_giveSign_5 : decode cX0_giveSign 5 = .ok (.istore_n 3, 1) := by decide +kernel
theorem dX0_giveSign_6 : decode cX0_giveSign 6 = .ok (.iload_n 3, 1) := by decide +kernel
theorem dX0_giveSign_7 : decode cX0_giveSign 7 = .ok (.iconst (-1), 1) := by decide +kernel
theorem dX0_giveSign_8 : decode cX0_giveSign 8 = .ok (.if_icmp .eq 12, 3) := by decide +kernel
theorem dX0_giveSign_11 : decode cX0_giveSign 11 = .ok (.aload_n 0, 1) := by decide +kernel
theorem dX0_giveSign_12 : decode cX0_giveSign 12 = .ok (.getfield 43, 3) := by decide +kernel
theorem dX0_giveSign_15 : decode cX0_giveSign 15 = .ok (.iload_n 3, 1) := by decide +kernel
theorem dX0_giveSign_16 : decode cX0_giveSign 16 = .ok (.iconst (-1), 1) := by decide +kernel
theorem dX0_giveSign_17 : decode cX0_giveSign 17 = .ok (.invokestatic 73, 3) := by decide +kernel
theorem dX0_giveSign_20 : decode cX0_giveSign 20 = .ok (.aload_n 0, 1) := by decide +kernel
theorem dX0_giveSign_21 : decode cX0_giveSign 21 = .ok (.getfield 22, 3) := by decide +kernel
theorem dX0_giveSign_24 : decode cX0_giveSign 24 = .ok (.iload_n 1, 1) := by decide +kernel
theorem dX0_giveSign_25 : decode cX0_giveSign 25 = .ok (.iload_n 2, 1) := by decide +kernel
theorem dX0_giveSign_26 : decode cX0_giveSign 26 = .ok (.invokestatic 73, 3) := by decide +kernel
theorem dX0_giveSign_29 : decode cX0_giveSign 29 = .ok (.return_, 1) := by decide +kernel
theorem dX0_shiftOf_0 : decode cX0_shiftOf 0 = .ok (.aload_n 0, 1) := by decide +kernel
theorem dX0_shiftOf_1 : decode cX0_shiftOf 1 = .ok (.getfield 43, 3) := by decide +kernel
theorem dX0_shiftOf_4 : decode cX0_shiftOf 4 = .ok (.iload_n 1, 1) := by decide +kernel
theorem dX0_shiftOf_5 : decode cX0_shiftOf 5 = .ok (.invokestatic 62, 3) := by decide +kernel
theorem dX0_shiftOf_8 : decode cX0_shiftOf 8 = .ok (.ireturn, 1) := by decide +kernel
theorem dX0_shiftOwner_0 : decode cX0_shiftOwner 0 = .ok (.aload_n 0, 1) := by decide +kernel
theorem dX0_shiftOwner_1 : decode cX0_shiftOwner 1 = .ok (.getfield 43, 3) := by decide +kernel
theorem dX0_shiftOwner_4 : decode cX0_shiftOwner 4 = .ok (.iconst 0, 1) := by decide +kernel
theorem dX0_shiftOwner_5 : decode cX0_shiftOwner 5 = .ok (.invokestatic 62, 3) := by decide +kernel
theorem dX0_shiftOwner_8 : decode cX0_shiftOwner 8 = .ok (.iload_n 1, 1) := by decide +kernel
theorem dX0_shiftOwner_9 : decode cX0_shiftOwner 9 = .ok (.if_icmp .ne 5, 3) := by decide +kernel
theorem dX0_shiftOwner_12 : decode cX0_shiftOwner 12 = .ok (.iconst 0, 1) := by decide +kernel
theorem dX0_shiftOwner_13 : decode cX0_shiftOwner 13 = .ok (.ireturn, 1) := by decide +kernel
theorem dX0_shiftOwner_14 : decode cX0_shiftOwner 14 = .ok (.aload_n 0, 1) := by decide +kernel
theorem dX0_shiftOwner_15 : decode cX0_shiftOwner 15 = .ok (.getfield 43, 3) := by decide +kernel
theorem dX0_shiftOwner_18 : decode cX0_shiftOwner 18 = .ok (.iconst 1, 1) := by decide +kernel
theorem dX0_shiftOwner_19 : decode cX0_shiftOwner 19 = .ok (.invokestatic 62, 3) := by decide +kernel
theorem dX0_shiftOwner_22 : decode cX0_shiftOwner 22 = .ok (.iload_n 1, 1) := by decide +kernel
theorem dX0_shiftOwner_23 : decode cX0_shiftOwner 23 = .ok (.if_icmp .ne 7, 3) := by decide +kernel
theorem dX0_shiftOwner_26 : decode cX0_shiftOwner 26 = .ok (.iconst 1, 1) := by decide +kernel
theorem dX0_shiftOwner_27 : decode cX0_shiftOwner 27 = .ok (.goto 4, 3) := by decide +kernel
theorem dX0_shiftOwner_30 : decode cX0_shiftOwner 30 = .ok (.iconst (-1), 1) := by decide +kernel
theorem dX0_shiftOwner_31 : decode cX0_shiftOwner 31 = .ok (.ireturn, 1) := by decide +kernel
theorem dX0_giveShift_0 : decode cX0_giveShift 0 = .ok (.aload_n 0, 1) := by decide +kernel
theorem dX0_giveShift_1 : decode cX0_giveShift 1 = .ok (.getfield 43, 3) := by decide +kernel
theorem dX0_giveShift_4 : decode cX0_giveShift 4 = .ok (.iload_n 1, 1) := by decide +kernel
theorem dX0_giveShift_5 : decode cX0_giveShift 5 = .ok (.iload_n 2, 1) := by decide +kernel
theorem dX0_giveShift_6 : decode cX0_giveShift 6 = .ok (.invokestatic 73, 3) := by decide +kernel
theorem dX0_giveShift_9 : decode cX0_giveShift 9 = .ok (.aload_n 0, 1) := by decide +kernel
theorem dX0_giveShift_10 : decode cX0_giveShift 10 = .ok (.getfield 22, 3) := by decide +kernel
theorem dX0_giveShift_13 : decode cX0_giveShift 13 = .ok (.iload_n 2, 1) := by decide +kernel
theorem dX0_giveShift_14 : decode cX0_giveShift 14 = .ok (.bipush 46, 2) := by decide +kernel
theorem dX0_giveShift_16 : decode cX0_giveShift 16 = .ok (.invokestatic 73, 3) := by decide +kernel
theorem dX0_giveShift_19 : decode cX0_giveShift 19 = .ok (.return_, 1) := by decide +kernel
theorem dX0_isShiftOn_0 : decode cX0_isShiftOn 0 = .ok (.aload_n 0, 1) := by decide +kernel
theorem dX0_isShiftOn_1 : decode cX0_isShiftOn 1 = .ok (.iload_n 1, 1) := by decide +kernel
theorem dX0_isShiftOn_2 : decode cX0_isShiftOn 2 = .ok (.invokevirtual 84, 3) := by decide +kernel
theorem dX0_isShiftOn_5 : decode cX0_isShiftOn 5 = .ok (.istore_n 2, 1) := by decide +kernel
theorem dX0_isShiftOn_6 : decode cX0_isShiftOn 6 = .ok (.iload_n 2, 1) := by decide +kernel
theorem dX0_isShiftOn_7 : decode cX0_isShiftOn 7 = .ok (.iconst (-1), 1) := by decide +kernel
theorem dX0_isShiftOn_8 : decode cX0_isShiftOn 8 = .ok (.if_icmp .eq 23, 3) := by decide +kernel
theorem dX0_isShiftOn_11 : decode cX0_isShiftOn 11 = .ok (.aload_n 0, 1) := by decide +kernel
theorem dX0_isShiftOn_12 : decode cX0_isShiftOn 12 = .ok (.iload_n 2, 1) := by decide +kernel
theorem dX0_isShiftOn_13 : decode cX0_isShiftOn 13 = .ok (.invokevirtual 87, 3) := by decide +kernel
theorem dX0_isShiftOn_16 : decode cX0_isShiftOn 16 = .ok (.ifCond .eq 15, 3) := by decide +kernel
theorem dX0_isShiftOn_19 : decode cX0_isShiftOn 19 = .ok (.aload_n 0, 1) := by decide +kernel
theorem dX0_isShiftOn_20 : decode cX0_isShiftOn 20 = .ok (.iload_n 2, 1) := by decide +kernel
theorem dX0_isShiftOn_21 : decode cX0_isShiftOn 21 = .ok (.invokevirtual 90, 3) := by decide +kernel
theorem dX0_isShiftOn_24 : decode cX0_isShiftOn 24 = .ok (.ifCond .ne 7, 3) := by decide +kernel
theorem dX0_isShiftOn_27 : decode cX0_isShiftOn 27 = .ok (.iconst 1, 1) := by decide +kernel
theorem dX0_isShiftOn_28 : decode cX0_isShiftOn 28 = .ok (.goto 4, 3) := by decide +kernel
theorem dX0_isShiftOn_31 : decode cX0_isShiftOn 31 = .ok (.iconst 0, 1) := by decide +kernel
theorem dX0_isShiftOn_32 : decode cX0_isShiftOn 32 = .ok (.ireturn, 1) := by decide +kernel
theorem dX0_joined_0 : decode cX0_joined 0 = .ok (.aload_n 0, 1) := by decide +kernel
theorem dX0_joined_1 : decode cX0_joined 1 = .ok (.getfield 34, 3) := by decide +kernel
theorem dX0_joined_4 : decode cX0_joined 4 = .ok (.iload_n 1, 1) := by decide +kernel
theorem dX0_joined_5 : decode cX0_joined 5 = .ok (.invokestatic 62, 3) := by decide +kernel
theorem dX0_joined_8 : decode cX0_joined 8 = .ok (.istore_n 3, 1) := by decide +kernel
theorem dX0_joined_9 : decode cX0_joined 9 = .ok (.iload_n 2, 1) := by decide +kernel
theorem dX0_joined_10 : decode cX0_joined 10 = .ok (.iconst (-1), 1) := by decide +kernel
theorem dX0_joined_11 : decode cX0_joined 11 = .ok (.if_icmp .eq 22, 3) := by decide +kernel
theorem dX0_joined_14 : decode cX0_joined 14 = .ok (.aload_n 0, 1) := by decide +kernel
theorem dX0_joined_15 : decode cX0_joined 15 = .ok (.iload_n 2, 1) := by decide +kernel
theorem dX0_joined_16 : decode cX0_joined 16 = .ok (.invokevirtual 58, 3) := by decide +kernel
theorem dX0_joined_19 : decode cX0_joined 19 = .ok (.iload_n 1, 1) := by decide +kernel
theorem dX0_joined_20 : decode cX0_joined 20 = .ok (.if_icmp .ne 13, 3) := by decide +kernel
theorem dX0_joined_23 : decode cX0_joined 23 = .ok (.iload_n 3, 1) := by decide +kernel
theorem dX0_joined_24 : decode cX0_joined 24 = .ok (.aload_n 0, 1) := by decide +kernel
theorem dX0_joined_25 : decode cX0_joined 25 = .ok (.iload_n 2, 1) := by decide +kernel
theorem dX0_joined_26 : decode cX0_joined 26 = .ok (.invokevirtual 66, 3) := by decide +kernel
theorem dX0_joined_29 : decode cX0_joined 29 = .ok (.ixor, 1) := by decide +kernel
theorem dX0_joined_30 : decode cX0_joined 30 = .ok (.goto 4, 3) := by decide +kernel
theorem dX0_joined_33 : decode cX0_joined 33 = .ok (.iload_n 3, 1) := by decide +kernel
theorem dX0_joined_34 : decode cX0_joined 34 = .ok (.ireturn, 1) := by decide +kernel
theorem dX0_sensed_0 : decode cX0_sensed 0 = .ok (.aload_n 0, 1) := by decide +kernel
theorem dX0_sensed_1 : decode cX0_sensed 1 = .ok (.iload_n 1, 1) := by decide +kernel
theorem dX0_sensed_2 : decode cX0_sensed 2 = .ok (.iload_n 2, 1) := by decide +kernel
theorem dX0_sensed_3 : decode cX0_sensed 3 = .ok (.invokevirtual 93, 3) := by decide +kernel
theorem dX0_sensed_6 : decode cX0_sensed 6 = .ok (.istore_n 3, 1) := by decide +kernel
theorem dX0_sensed_7 : decode cX0_sensed 7 = .ok (.iconst 0, 1) := by decide +kernel
theorem dX0_sensed_8 : decode cX0_sensed 8 = .ok (.istore 4, 2) := by decide +kernel
theorem dX0_sensed_10 : decode cX0_sensed 10 = .ok (.iconst 0, 1) := by decide +kernel
theorem dX0_sensed_11 : decode cX0_sensed 11 = .ok (.istore 5, 2) := by decide +kernel
theorem dX0_sensed_13 : decode cX0_sensed 13 = .ok (.iload 5, 2) := by decide +kernel
theorem dX0_sensed_15 : decode cX0_sensed 15 = .ok (.aload_n 0, 1) := by decide +kernel
theorem dX0_sensed_16 : decode cX0_sensed 16 = .ok (.getfield 9, 3) := by decide +kernel
theorem dX0_sensed_19 : decode cX0_sensed 19 = .ok (.if_icmp .ge 57, 3) := by decide +kernel
theorem dX0_sensed_22 : decode cX0_sensed 22 = .ok (.iload_n 3, 1) := by decide +kernel
theorem dX0_sensed_23 : decode cX0_sensed 23 = .ok (.iload 4, 2) := by decide +kernel
theorem dX0_sensed_25 : decode cX0_sensed 25 = .ok (.if_icmp .eq 51, 3) := by decide +kernel
theorem dX0_sensed_28 : decode cX0_sensed 28 = .ok (.iload_n 3, 1) := by decide +kernel
theorem dX0_sensed_29 : decode cX0_sensed 29 = .ok (.istore 4, 2) := by decide +kernel
theorem dX0_sensed_31 : decode cX0_sensed 31 = .ok (.iconst 0, 1) := by decide +kernel
theorem dX0_sensed_32 : decode cX0_sensed 32 = .ok (.istore 6, 2) := by decide +kernel
theorem dX0_sensed_34 : decode cX0_sensed 34 = .ok (.iload 6, 2) := by decide +kernel
theorem dX0_sensed_36 : decode cX0_sensed 36 = .ok (.aload_n 0, 1) := by decide +kernel
theorem dX0_sensed_37 : decode cX0_sensed 37 = .ok (.getfield 9, 3) := by decide +kernel
theorem dX0_sensed_40 : decode cX0_sensed 40 = .ok (.if_icmp .ge 30, 3) := by decide +kernel
theorem dX0_sensed_43 : decode cX0_sensed 43 = .ok (.aload_n 0, 1) := by decide +kernel
theorem dX0_sensed_44 : decode cX0_sensed 44 = .ok (.iload 6, 2) := by decide +kernel
theorem dX0_sensed_46 : decode cX0_sensed 46 = .ok (.iload_n 2, 1) := by decide +kernel
theorem dX0_sensed_47 : decode cX0_sensed 47 = .ok (.invokevirtual 93, 3) := by decide +kernel
theorem dX0_sensed_50 : decode cX0_sensed 50 = .ok (.istore 7, 2) := by decide +kernel
theorem dX0_sensed_52 : decode cX0_sensed 52 = .ok (.iload 7, 2) := by decide +kernel
theorem dX0_sensed_54 : decode cX0_sensed 54 = .ok (.iload_n 3, 1) := by decide +kernel
theorem dX0_sensed_55 : decode cX0_sensed 55 = .ok (.iand, 1) := by decide +kernel
theorem dX0_sensed_56 : decode cX0_sensed 56 = .ok (.ifCond .eq 8, 3) := by decide +kernel
theorem dX0_sensed_59 : decode cX0_sensed 59 = .ok (.iload_n 3, 1) := by decide +kernel
theorem dX0_sensed_60 : decode cX0_sensed 60 = .ok (.iload 7, 2) := by decide +kernel
theorem dX0_sensed_62 : decode cX0_sensed 62 = .ok (.ior, 1) := by decide +kernel
theorem dX0_sensed_63 : decode cX0_sensed 63 = .ok (.istore_n 3, 1) := by decide +kernel
theorem dX0_sensed_64 : decode cX0_sensed 64 = .ok (.iinc 6 1, 3) := by decide +kernel
theorem dX0_sensed_67 : decode cX0_sensed 67 = .ok (.goto (-33), 3) := by decide +kernel
theorem dX0_sensed_70 : decode cX0_sensed 70 = .ok (.iinc 5 1, 3) := by decide +kernel
theorem dX0_sensed_73 : decode cX0_sensed 73 = .ok (.goto (-60), 3) := by decide +kernel
theorem dX0_sensed_76 : decode cX0_sensed 76 = .ok (.iload_n 3, 1) := by decide +kernel
theorem dX0_sensed_77 : decode cX0_sensed 77 = .ok (.ireturn, 1) := by decide +kernel
theorem dX0_ghostsBeside_0 : decode cX0_ghostsBeside 0 = .ok (.iconst 0, 1) := by decide +kernel
theorem dX0_ghostsBeside_1 : decode cX0_ghostsBeside 1 = .ok (.istore_n 3, 1) := by decide +kernel
theorem dX0_ghostsBeside_2 : decode cX0_ghostsBeside 2 = .ok (.iconst 0, 1) := by decide +kernel
theorem dX0_ghostsBeside_3 : decode cX0_ghostsBeside 3 = .ok (.istore 4, 2) := by decide +kernel
theorem dX0_ghostsBeside_5 : decode cX0_ghostsBeside 5 = .ok (.iload 4, 2) := by decide +kernel
theorem dX0_ghostsBeside_7 : decode cX0_ghostsBeside 7 = .ok (.aload_n 0, 1) := by decide +kernel
theorem dX0_ghostsBeside_8 : decode cX0_ghostsBeside 8 = .ok (.getfield 9, 3) := by decide +kernel
theorem dX0_ghostsBeside_11 : decode cX0_ghostsBeside 11 = .ok (.if_icmp .ge 60, 3) := by decide +kernel
theorem dX0_ghostsBeside_14 : decode cX0_ghostsBeside 14 = .ok (.aload_n 0, 1) := by decide +kernel
theorem dX0_ghostsBeside_15 : decode cX0_ghostsBeside 15 = .ok (.getfield 34, 3) := by decide +kernel
theorem dX0_ghostsBeside_18 : decode cX0_ghostsBeside 18 = .ok (.iload 4, 2) := by decide +kernel
theorem dX0_ghostsBeside_20 : decode cX0_ghostsBeside 20 = .ok (.invokestatic 62, 3) := by decide +kernel
theorem dX0_ghostsBeside_23 : decode cX0_ghostsBeside 23 = .ok (.iconst (-1), 1) := by decide +kernel
theorem dX0_ghostsBeside_24 : decode cX0_ghostsBeside 24 = .ok (.ixor, 1) := by decide +kernel
theorem dX0_ghostsBeside_25 : decode cX0_ghostsBeside 25 = .ok (.istore 5, 2) := by decide +kernel
theorem dX0_ghostsBeside_27 : decode cX0_ghostsBeside 27 = .ok (.iload 4, 2) := by decide +kernel
theorem dX0_ghostsBeside_29 : decode cX0_ghostsBeside 29 = .ok (.aload_n 0, 1) := by decide +kernel
theorem dX0_ghostsBeside_30 : decode cX0_ghostsBeside 30 = .ok (.iload_n 1, 1) := by decide +kernel
theorem dX0_ghostsBeside_31 : decode cX0_ghostsBeside 31 = .ok (.invokevirtual 58, 3) := by decide +kernel
theorem dX0_ghostsBeside_34 : decode cX0_ghostsBeside 34 = .ok (.if_icmp .ne 15, 3) := by decide +kernel
theorem dX0_ghostsBeside_37 : decode cX0_ghostsBeside 37 = .ok (.iload 5, 2) := by decide +kernel
theorem dX0_ghostsBeside_39 : decode cX0_ghostsBeside 39 = .ok (.aload_n 0, 1) := by decide +kernel
theorem dX0_ghostsBeside_40 : decode cX0_ghostsBeside 40 = .ok (.iload_n 1, 1) := by decide +kernel
theorem dX0_ghostsBeside_41 : decode cX0_ghostsBeside 41 = .ok (.invokevirtual 66, 3) := by decide +kernel
theorem dX0_ghostsBeside_44 : decode cX0_ghostsBeside 44 = .ok (.iconst (-1), 1) := by decide +kernel
theorem dX0_ghostsBeside_45 : decode cX0_ghostsBeside 45 = .ok (.ixor, 1) := by decide +kernel
theorem dX0_ghostsBeside_46 : decode cX0_ghostsBeside 46 = .ok (.iand, 1) := by decide +kernel
theorem dX0_ghostsBeside_47 : decode cX0_ghostsBeside 47 = .ok (.istore 5, 2) := by decide +kernel
theorem dX0_ghostsBeside_49 : decode cX0_ghostsBeside 49 = .ok (.iload_n 3, 1) := by decide +kernel
theorem dX0_ghostsBeside_50 : decode cX0_ghostsBeside 50 = .ok (.aload_n 0, 1) := by decide +kernel
theorem dX0_ghostsBeside_51 : decode cX0_ghostsBeside 51 = .ok (.iload 4, 2) := by decide +kernel
theorem dX0_ghostsBeside_53 : decode cX0_ghostsBeside 53 = .ok (.iload_n 2, 1) := by decide +kernel
theorem dX0_ghostsBeside_54 : decode cX0_ghostsBeside 54 = .ok (.invokevirtual 97, 3) := by decide +kernel
theorem dX0_ghostsBeside_57 : decode cX0_ghostsBeside 57 = .ok (.iload 5, 2) := by decide +kernel
theorem dX0_ghostsBeside_59 : decode cX0_ghostsBeside 59 = .ok (.iand, 1) := by decide +kernel
theorem dX0_ghostsBeside_60 : decode cX0_ghostsBeside 60 = .ok (.invokestatic 100, 3) := by decide +kernel
theorem dX0_ghostsBeside_63 : decode cX0_ghostsBeside 63 = .ok (.iadd, 1) := by decide +kernel
theorem dX0_ghostsBeside_64 : decode cX0_ghostsBeside 64 = .ok (.istore_n 3, 1) := by decide +kernel
theorem dX0_ghostsBeside_65 : decode cX0_ghostsBeside 65 = .ok (.iinc 4 1, 3) := by decide +kernel
theorem dX0_ghostsBeside_68 : decode cX0_ghostsBeside 68 = .ok (.goto (-63), 3) := by decide +kernel
theorem dX0_ghostsBeside_71 : decode cX0_ghostsBeside 71 = .ok (.iload_n 3, 1) := by decide +kernel
theorem dX0_ghostsBeside_72 : decode cX0_ghostsBeside 72 = .ok (.ireturn, 1) := by decide +kernel
theorem dX0_see_0 : decode cX0_see 0 = .ok (.aload_n 0, 1) := by decide +kernel
theorem dX0_see_1 : decode cX0_see 1 = .ok (.getfield 37, 3) := by decide +kernel
theorem dX0_see_4 : decode cX0_see 4 = .ok (.iload_n 1, 1) := by decide +kernel
theorem dX0_see_5 : decode cX0_see 5 = .ok (.aload_n 0, 1) := by decide +kernel
theorem dX0_see_6 : decode cX0_see 6 = .ok (.getfield 37, 3) := by decide +kernel
theorem dX0_see_9 : decode cX0_see 9 = .ok (.iload_n 1, 1) := by decide +kernel
theorem dX0_see_10 : decode cX0_see 10 = .ok (.invokestatic 62, 3) := by decide +kernel
theorem dX0_see_13 : decode cX0_see 13 = .ok (.iload_n 2, 1) := by decide +kernel
theorem dX0_see_14 : decode cX0_see 14 = .ok (.ior, 1) := by decide +kernel
theorem dX0_see_15 : decode cX0_see 15 = .ok (.invokestatic 73, 3) := by decide +kernel
theorem dX0_see_18 : decode cX0_see 18 = .ok (.iconst 0, 1) := by decide +kernel
theorem dX0_see_19 : decode cX0_see 19 = .ok (.istore 4, 2) := by decide +kernel
theorem dX0_see_21 : decode cX0_see 21 = .ok (.iload 4, 2) := by decide +kernel
theorem dX0_see_23 : decode cX0_see 23 = .ok (.aload_n 0, 1) := by decide +kernel
theorem dX0_see_24 : decode cX0_see 24 = .ok (.getfield 15, 3) := by decide +kernel
theorem dX0_see_27 : decode cX0_see 27 = .ok (.if_icmp .ge 68, 3) := by decide +kernel
theorem dX0_see_30 : decode cX0_see 30 = .ok (.iload_n 2, 1) := by decide +kernel
theorem dX0_see_31 : decode cX0_see 31 = .ok (.iload 4, 2) := by decide +kernel
theorem dX0_see_33 : decode cX0_see 33 = .ok (.ishr, 1) := by decide +kernel
theorem dX0_see_34 : decode cX0_see 34 = .ok (.iconst 1, 1) := by decide +kernel
theorem dX0_see_35 : decode cX0_see 35 = .ok (.iand, 1) := by decide +kernel
theorem dX0_see_36 : decode cX0_see 36 = .ok (.ifCond .eq 53, 3) := by decide +kernel
theorem dX0_see_39 : decode cX0_see 39 = .ok (.aload_n 0, 1) := by decide +kernel
theorem dX0_see_40 : decode cX0_see 40 = .ok (.getfield 25, 3) := by decide +kernel
theorem dX0_see_43 : decode cX0_see 43 = .ok (.iload_n 1, 1) := by decide +kernel
theorem dX0_see_44 : decode cX0_see 44 = .ok (.aload_n 0, 1) := by decide +kernel
theorem dX0_see_45 : decode cX0_see 45 = .ok (.getfield 15, 3) := by decide +kernel
theorem dX0_see_48 : decode cX0_see 48 = .ok (.imul, 1) := by decide +kernel
theorem dX0_see_49 : decode cX0_see 49 = .ok (.iload 4, 2) := by decide +kernel
theorem dX0_see_51 : decode cX0_see 51 = .ok (.iadd, 1) := by decide +kernel
theorem dX0_see_52 : decode cX0_see 52 = .ok (.iload_n 3, 1) := by decide +kernel
theorem dX0_see_53 : decode cX0_see 53 = .ok (.invokestatic 73, 3) := by decide +kernel
theorem dX0_see_56 : decode cX0_see 56 = .ok (.aload_n 0, 1) := by decide +kernel
theorem dX0_see_57 : decode cX0_see 57 = .ok (.iload_n 1, 1) := by decide +kernel
theorem dX0_see_58 : decode cX0_see 58 = .ok (.iconst 1, 1) := by decide +kernel
theorem dX0_see_59 : decode cX0_see 59 = .ok (.iload 4, 2) := by decide +kernel
theorem dX0_see_61 : decode cX0_see 61 = .ok (.ishl, 1) := by decide +kernel
theorem dX0_see_62 : decode cX0_see 62 = .ok (.invokevirtual 105, 3) := by decide +kernel
theorem dX0_see_65 : decode cX0_see 65 = .ok (.ifCond .eq 24, 3) := by decide +kernel
theorem dX0_see_68 : decode cX0_see 68 = .ok (.aload_n 0, 1) := by decide +kernel
theorem dX0_see_69 : decode cX0_see 69 = .ok (.getfield 40, 3) := by decide +kernel
theorem dX0_see_72 : decode cX0_see 72 = .ok (.iload_n 1, 1) := by decide +kernel
theorem dX0_see_73 : decode cX0_see 73 = .ok (.aload_n 0, 1) := by decide +kernel
theorem dX0_see_74 : decode cX0_see 74 = .ok (.getfield 40, 3) := by decide +kernel
theorem dX0_see_77 : decode cX0_see 77 = .ok (.iload_n 1, 1) := by decide +kernel
theorem dX0_see_78 : decode cX0_see 78 = .ok (.invokestatic 62, 3) := by decide +kernel
theorem dX0_see_81 : decode cX0_see 81 = .ok (.iconst 1, 1) := by decide +kernel
theorem dX0_see_82 : decode cX0_see 82 = .ok (.iload 4, 2) := by decide +kernel
theorem dX0_see_84 : decode cX0_see 84 = .ok (.ishl, 1) := by decide +kernel
theorem dX0_see_85 : decode cX0_see 85 = .ok (.ior, 1) := by decide +kernel
theorem dX0_see_86 : decode cX0_see 86 = .ok (.invokestatic 73, 3) := by decide +kernel
theorem dX0_see_89 : decode cX0_see 89 = .ok (.iinc 4 1, 3) := by decide +kernel
theorem dX0_see_92 : decode cX0_see 92 = .ok (.goto (-71), 3) := by decide +kernel
theorem dX0_see_95 : decode cX0_see 95 = .ok (.aload_n 0, 1) := by decide +kernel
theorem dX0_see_96 : decode cX0_see 96 = .ok (.iconst 0, 1) := by decide +kernel
theorem dX0_see_97 : decode cX0_see 97 = .ok (.invokevirtual 109, 3) := by decide +kernel
theorem dX0_see_100 : decode cX0_see 100 = .ok (.ifCond .eq 7, 3) := by decide +kernel
theorem dX0_see_103 : decode cX0_see 103 = .ok (.iconst 1, 1) := by decide +kernel
theorem dX0_see_104 : decode cX0_see 104 = .ok (.goto 4, 3) := by decide +kernel
theorem dX0_see_107 : decode cX0_see 107 = .ok (.iconst 0, 1) := by decide +kernel
theorem dX0_see_108 : decode cX0_see 108 = .ok (.aload_n 0, 1) := by decide +kernel
theorem dX0_see_109 : decode cX0_see 109 = .ok (.iconst 1, 1) := by decide +kernel
theorem dX0_see_110 : decode cX0_see 110 = .ok (.invokevirtual 109, 3) := by decide +kernel
theorem dX0_see_113 : decode cX0_see 113 = .ok (.ifCond .eq 7, 3) := by decide +kernel
theorem dX0_see_116 : decode cX0_see 116 = .ok (.iconst 2, 1) := by decide +kernel
theorem dX0_see_117 : decode cX0_see 117 = .ok (.goto 4, 3) := by decide +kernel
theorem dX0_see_120 : decode cX0_see 120 = .ok (.iconst 0, 1) := by decide +kernel
theorem dX0_see_121 : decode cX0_see 121 = .ok (.iadd, 1) := by decide +kernel
theorem dX0_see_122 : decode cX0_see 122 = .ok (.istore 4, 2) := by decide +kernel
theorem dX0_see_124 : decode cX0_see 124 = .ok (.iconst 0, 1) := by decide +kernel
theorem dX0_see_125 : decode cX0_see 125 = .ok (.istore 5, 2) := by decide +kernel
theorem dX0_see_127 : decode cX0_see 127 = .ok (.iload 5, 2) := by decide +kernel
theorem dX0_see_129 : decode cX0_see 129 = .ok (.aload_n 0, 1) := by decide +kernel
theorem dX0_see_130 : decode cX0_see 130 = .ok (.getfield 15, 3) := by decide +kernel
theorem dX0_see_133 : decode cX0_see 133 = .ok (.if_icmp .ge 58, 3) := by decide +kernel
theorem dX0_see_136 : decode cX0_see 136 = .ok (.iload_n 2, 1) := by decide +kernel
theorem dX0_see_137 : decode cX0_see 137 = .ok (.iload 5, 2) := by decide +kernel
theorem dX0_see_139 : decode cX0_see 139 = .ok (.ishr, 1) := by decide +kernel
theorem dX0_see_140 : decode cX0_see 140 = .ok (.iconst 1, 1) := by decide +kernel
theorem dX0_see_141 : decode cX0_see 141 = .ok (.iand, 1) := by decide +kernel
theorem dX0_see_142 : decode cX0_see 142 = .ok (.ifCond .eq 43, 3) := by decide +kernel
theorem dX0_see_145 : decode cX0_see 145 = .ok (.iload_n 1, 1) := by decide +kernel
theorem dX0_see_146 : decode cX0_see 146 = .ok (.aload_n 0, 1) := by decide +kernel
theorem dX0_see_147 : decode cX0_see 147 = .ok (.getfield 15, 3) := by decide +kernel
theorem dX0_see_150 : decode cX0_see 150 = .ok (.imul, 1) := by decide +kernel
theorem dX0_see_151 : decode cX0_see 151 = .ok (.iload 5, 2) := by decide +kernel
theorem dX0_see_153 : decode cX0_see 153 = .ok (.iadd, 1) := by decide +kernel
theorem dX0_see_154 : decode cX0_see 154 = .ok (.istore 6, 2) := by decide +kernel
theorem dX0_see_156 : decode cX0_see 156 = .ok (.aload_n 0, 1) := by decide +kernel
theorem dX0_see_157 : decode cX0_see 157 = .ok (.getfield 28, 3) := by decide +kernel
theorem dX0_see_160 : decode cX0_see 160 = .ok (.iload 6, 2) := by decide +kernel
theorem dX0_see_162 : decode cX0_see 162 = .ok (.iload 4, 2) := by decide +kernel
theorem dX0_see_164 : decode cX0_see 164 = .ok (.invokestatic 73, 3) := by decide +kernel
theorem dX0_see_167 : decode cX0_see 167 = .ok (.aload_n 0, 1) := by decide +kernel
theorem dX0_see_168 : decode cX0_see 168 = .ok (.getfield 31, 3) := by decide +kernel
theorem dX0_see_171 : decode cX0_see 171 = .ok (.iload 6, 2) := by decide +kernel
theorem dX0_see_173 : decode cX0_see 173 = .ok (.aload_n 0, 1) := by decide +kernel
theorem dX0_see_174 : decode cX0_see 174 = .ok (.getfield 18, 3) := by decide +kernel
theorem dX0_see_177 : decode cX0_see 177 = .ok (.iload 6, 2) := by decide +kernel
theorem dX0_see_179 : decode cX0_see 179 = .ok (.invokestatic 62, 3) := by decide +kernel
theorem dX0_see_182 : decode cX0_see 182 = .ok (.invokestatic 73, 3) := by decide +kernel
theorem dX0_see_185 : decode cX0_see 185 = .ok (.iinc 5 1, 3) := by decide +kernel
theorem dX0_see_188 : decode cX0_see 188 = .ok (.goto (-61), 3) := by decide +kernel
theorem dX0_see_191 : decode cX0_see 191 = .ok (.return_, 1) := by decide +kernel
theorem dX0_closesCorner_0 : decode cX0_closesCorner 0 = .ok (.aload_n 0, 1) := by decide +kernel
theorem dX0_closesCorner_1 : decode cX0_closesCorner 1 = .ok (.getfield 37, 3) := by decide +kernel
theorem dX0_closesCorner_4 : decode cX0_closesCorner 4 = .ok (.iload_n 1, 1) := by decide +kernel
theorem dX0_closesCorner_5 : decode cX0_closesCorner 5 = .ok (.invokestatic 62, 3) := by decide +kernel
theorem dX0_closesCorner_8 : decode cX0_closesCorner 8 = .ok (.iload_n 2, 1) := by decide +kernel
theorem dX0_closesCorner_9 : decode cX0_closesCorner 9 = .ok (.iconst (-1), 1) := by decide +kernel
theorem dX0_closesCorner_10 : decode cX0_closesCorner 10 = .ok (.ixor, 1) := by decide +kernel
theorem dX0_closesCorner_11 : decode cX0_closesCorner 11 = .ok (.iand, 1) := by decide +kernel
theorem dX0_closesCorner_12 : decode cX0_closesCorner 12 = .ok (.istore_n 3, 1) := by decide +kernel
theorem dX0_closesCorner_13 : decode cX0_closesCorner 13 = .ok (.iconst 0, 1) := by decide +kernel
theorem dX0_closesCorner_14 : decode cX0_closesCorner 14 = .ok (.istore 4, 2) := by decide +kernel
theorem dX0_closesCorner_16 : decode cX0_closesCorner 16 = .ok (.iload 4, 2) := by decide +kernel
theorem dX0_closesCorner_18 : decode cX0_closesCorner 18 = .ok (.aload_n 0, 1) := by decide +kernel
theorem dX0_closesCorner_19 : decode cX0_closesCorner 19 = .ok (.getfield 9, 3) := by decide +kernel
theorem dX0_closesCorner_22 : decode cX0_closesCorner 22 = .ok (.if_icmp .ge 42, 3) := by decide +kernel
theorem dX0_closesCorner_25 : decode cX0_closesCorner 25 = .ok (.aload_n 0, 1) := by decide +kernel
theorem dX0_closesCorner_26 : decode cX0_closesCorner 26 = .ok (.getfield 37, 3) := by decide +kernel
theorem dX0_closesCorner_29 : decode cX0_closesCorner 29 = .ok (.iload 4, 2) := by decide +kernel
theorem dX0_closesCorner_31 : decode cX0_closesCorner 31 = .ok (.invokestatic 62, 3) := by decide +kernel
theorem dX0_closesCorner_34 : decode cX0_closesCorner 34 = .ok (.istore 5, 2) := by decide +kernel
theorem dX0_closesCorner_36 : decode cX0_closesCorner 36 = .ok (.iload 4, 2) := by decide +kernel
theorem dX0_closesCorner_38 : decode cX0_closesCorner 38 = .ok (.iload_n 1, 1) := by decide +kernel
theorem dX0_closesCorner_39 : decode cX0_closesCorner 39 = .ok (.if_icmp .eq 19, 3) := by decide +kernel
theorem dX0_closesCorner_42 : decode cX0_closesCorner 42 = .ok (.iload 5, 2) := by decide +kernel
theorem dX0_closesCorner_44 : decode cX0_closesCorner 44 = .ok (.iload_n 2, 1) := by decide +kernel
theorem dX0_closesCorner_45 : decode cX0_closesCorner 45 = .ok (.iand, 1) := by decide +kernel
theorem dX0_closesCorner_46 : decode cX0_closesCorner 46 = .ok (.ifCond .eq 12, 3) := by decide +kernel
theorem dX0_closesCorner_49 : decode cX0_closesCorner 49 = .ok (.iload 5, 2) := by decide +kernel
theorem dX0_closesCorner_51 : decode cX0_closesCorner 51 = .ok (.iload_n 3, 1) := by decide +kernel
theorem dX0_closesCorner_52 : decode cX0_closesCorner 52 = .ok (.iand, 1) := by decide +kernel
theorem dX0_closesCorner_53 : decode cX0_closesCorner 53 = .ok (.ifCond .eq 5, 3) := by decide +kernel
theorem dX0_closesCorner_56 : decode cX0_closesCorner 56 = .ok (.iconst 1, 1) := by decide +kernel
theorem dX0_closesCorner_57 : decode cX0_closesCorner 57 = .ok (.ireturn, 1) := by decide +kernel
theorem dX0_closesCorner_58 : decode cX0_closesCorner 58 = .ok (.iinc 4 1, 3) := by decide +kernel
theorem dX0_closesCorner_61 : decode cX0_closesCorner 61 = .ok (.goto (-45), 3) := by decide +kernel
theorem dX0_closesCorner_64 : decode cX0_closesCorner 64 = .ok (.iconst 0, 1) := by decide +kernel
theorem dX0_closesCorner_65 : decode cX0_closesCorner 65 = .ok (.ireturn, 1) := by decide +kernel
theorem dX0_loseSight_0 : decode cX0_loseSight 0 = .ok (.aload_n 0, 1) := by decide +kernel
theorem dX0_loseSight_1 : decode cX0_loseSight 1 = .ok (.iload_n 1, 1) := by decide +kernel
theorem dX0_loseSight_2 : decode cX0_loseSight 2 = .ok (.invokevirtual 58, 3) := by decide +kernel
theorem dX0_loseSight_5 : decode cX0_loseSight 5 = .ok (.istore_n 2, 1) := by decide +kernel
theorem dX0_loseSight_6 : decode cX0_loseSight 6 = .ok (.aload_n 0, 1) := by decide +kernel
theorem dX0_loseSight_7 : decode cX0_loseSight 7 = .ok (.getfield 37, 3) := by decide +kernel
theorem dX0_loseSight_10 : decode cX0_loseSight 10 = .ok (.iload_n 2, 1) := by decide +kernel
theorem dX0_loseSight_11 : decode cX0_loseSight 11 = .ok (.aload_n 0, 1) := by decide +kernel
theorem dX0_loseSight_12 : decode cX0_loseSight 12 = .ok (.getfield 37, 3) := by decide +kernel
theorem dX0_loseSight_15 : decode cX0_loseSight 15 = .ok (.iload_n 2, 1) := by decide +kernel
theorem dX0_loseSight_16 : decode cX0_loseSight 16 = .ok (.invokestatic 62, 3) := by decide +kernel
theorem dX0_loseSight_19 : decode cX0_loseSight 19 = .ok (.aload_n 0, 1) := by decide +kernel
theorem dX0_loseSight_20 : decode cX0_loseSight 20 = .ok (.iload_n 1, 1) := by decide +kernel
theorem dX0_loseSight_21 : decode cX0_loseSight 21 = .ok (.invokevirtual 66, 3) := by decide +kernel
theorem dX0_loseSight_24 : decode cX0_loseSight 24 = .ok (.iconst (-1), 1) := by decide +kernel
theorem dX0_loseSight_25 : decode cX0_loseSight 25 = .ok (.ixor, 1) := by decide +kernel
theorem dX0_loseSight_26 : decode cX0_loseSight 26 = .ok (.iand, 1) := by decide +kernel
theorem dX0_loseSight_27 : decode cX0_loseSight 27 = .ok (.invokestatic 73, 3) := by decide +kernel
theorem dX0_loseSight_30 : decode cX0_loseSight 30 = .ok (.aload_n 0, 1) := by decide +kernel
theorem dX0_loseSight_31 : decode cX0_loseSight 31 = .ok (.getfield 40, 3) := by decide +kernel
theorem dX0_loseSight_34 : decode cX0_loseSight 34 = .ok (.iload_n 2, 1) := by decide +kernel
theorem dX0_loseSight_35 : decode cX0_loseSight 35 = .ok (.aload_n 0, 1) := by decide +kernel
theorem dX0_loseSight_36 : decode cX0_loseSight 36 = .ok (.getfield 40, 3) := by decide +kernel
theorem dX0_loseSight_39 : decode cX0_loseSight 39 = .ok (.iload_n 2, 1) := by decide +kernel
theorem dX0_loseSight_40 : decode cX0_loseSight 40 = .ok (.invokestatic 62, 3) := by decide +kernel
theorem dX0_loseSight_43 : decode cX0_loseSight 43 = .ok (.aload_n 0, 1) := by decide +kernel
theorem dX0_loseSight_44 : decode cX0_loseSight 44 = .ok (.iload_n 1, 1) := by decide +kernel
theorem dX0_loseSight_45 : decode cX0_loseSight 45 = .ok (.invokevirtual 66, 3) := by decide +kernel
theorem dX0_loseSight_48 : decode cX0_loseSight 48 = .ok (.iconst (-1), 1) := by decide +kernel
theorem dX0_loseSight_49 : decode cX0_loseSight 49 = .ok (.ixor, 1) := by decide +kernel
theorem dX0_loseSight_50 : decode cX0_loseSight 50 = .ok (.iand, 1) := by decide +kernel
theorem dX0_loseSight_51 : decode cX0_loseSight 51 = .ok (.invokestatic 73, 3) := by decide +kernel
theorem dX0_loseSight_54 : decode cX0_loseSight 54 = .ok (.return_, 1) := by decide +kernel
theorem dX0_sinceOf_0 : decode cX0_sinceOf 0 = .ok (.aload_n 0, 1) := by decide +kernel
theorem dX0_sinceOf_1 : decode cX0_sinceOf 1 = .ok (.getfield 25, 3) := by decide +kernel
theorem dX0_sinceOf_4 : decode cX0_sinceOf 4 = .ok (.iload_n 1, 1) := by decide +kernel
theorem dX0_sinceOf_5 : decode cX0_sinceOf 5 = .ok (.invokestatic 62, 3) := by decide +kernel
theorem dX0_sinceOf_8 : decode cX0_sinceOf 8 = .ok (.ireturn, 1) := by decide +kernel
theorem dX0_notedFor_0 : decode cX0_notedFor 0 = .ok (.aload_n 0, 1) := by decide +kernel
theorem dX0_notedFor_1 : decode cX0_notedFor 1 = .ok (.getfield 28, 3) := by decide +kernel
theorem dX0_notedFor_4 : decode cX0_notedFor 4 = .ok (.iload_n 1, 1) := by decide +kernel
theorem dX0_notedFor_5 : decode cX0_notedFor 5 = .ok (.invokestatic 62, 3) := by decide +kernel
theorem dX0_notedFor_8 : decode cX0_notedFor 8 = .ok (.ireturn, 1) := by decide +kernel
theorem dX0_trueHolderOf_0 : decode cX0_trueHolderOf 0 = .ok (.aload_n 0, 1) := by decide +kernel
theorem dX0_trueHolderOf_1 : decode cX0_trueHolderOf 1 = .ok (.getfield 31, 3) := by decide +kernel
theorem dX0_trueHolderOf_4 : decode cX0_trueHolderOf 4 = .ok (.iload_n 1, 1) := by decide +kernel
theorem dX0_trueHolderOf_5 : decode cX0_trueHolderOf 5 = .ok (.invokestatic 62, 3) := by decide +kernel
theorem dX0_trueHolderOf_8 : decode cX0_trueHolderOf 8 = .ok (.ireturn, 1) := by decide +kernel
theorem dX1_at_0 : decode cX1_at 0 = .ok (.iload_n 1, 1) := by decide +kernel
theorem dX1_at_1 : decode cX1_at 1 = .ok (.ifCond .lt 15, 3) := by decide +kernel
theorem dX1_at_4 : decode cX1_at 4 = .ok (.iload_n 1, 1) := by decide +kernel
theorem dX1_at_5 : decode cX1_at 5 = .ok (.aload_n 0, 1) := by decide +kernel
theorem dX1_at_6 : decode cX1_at 6 = .ok (.arraylength, 1) := by decide +kernel
theorem dX1_at_7 : decode cX1_at 7 = .ok (.if_icmp .ge 9, 3) := by decide +kernel
theorem dX1_at_10 : decode cX1_at 10 = .ok (.aload_n 0, 1) := by decide +kernel
theorem dX1_at_11 : decode cX1_at 11 = .ok (.iload_n 1, 1) := by decide +kernel
theorem dX1_at_12 : decode cX1_at 12 = .ok (.iaload, 1) := by decide +kernel
theorem dX1_at_13 : decode cX1_at 13 = .ok (.goto 4, 3) := by decide +kernel
theorem dX1_at_16 : decode cX1_at 16 = .ok (.iconst 0, 1) := by decide +kernel
theorem dX1_at_17 : decode cX1_at 17 = .ok (.ireturn, 1) := by decide +kernel
theorem dX1_put_0 : decode cX1_put 0 = .ok (.iload_n 1, 1) := by decide +kernel
theorem dX1_put_1 : decode cX1_put 1 = .ok (.ifCond .lt 13, 3) := by decide +kernel
theorem dX1_put_4 : decode cX1_put 4 = .ok (.iload_n 1, 1) := by decide +kernel
theorem dX1_put_5 : decode cX1_put 5 = .ok (.aload_n 0, 1) := by decide +kernel
theorem dX1_put_6 : decode cX1_put 6 = .ok (.arraylength, 1) := by decide +kernel
theorem dX1_put_7 : decode cX1_put 7 = .ok (.if_icmp .ge 7, 3) := by decide +kernel
theorem dX1_put_10 : decode cX1_put 10 = .ok (.aload_n 0, 1) := by decide +kernel
theorem dX1_put_11 : decode cX1_put 11 = .ok (.iload_n 1, 1) := by decide +kernel
theorem dX1_put_12 : decode cX1_put 12 = .ok (.iload_n 2, 1) := by decide +kernel
theorem dX1_put_13 : decode cX1_put 13 = .ok (.iastore, 1) := by decide +kernel
theorem dX1_put_14 : decode cX1_put 14 = .ok (.return_, 1) := by decide +kernel
theorem dX1_copy_0 : decode cX1_copy 0 = .ok (.aload_n 0, 1) := by decide +kernel
theorem dX1_copy_1 : decode cX1_copy 1 = .ok (.iconst 0, 1) := by decide +kernel
theorem dX1_copy_2 : decode cX1_copy 2 = .ok (.aload_n 1, 1) := by decide +kernel
theorem dX1_copy_3 : decode cX1_copy 3 = .ok (.iconst 0, 1) := by decide +kernel
theorem dX1_copy_4 : decode cX1_copy 4 = .ok (.aload_n 0, 1) := by decide +kernel
theorem dX1_copy_5 : decode cX1_copy 5 = .ok (.arraylength, 1) := by decide +kernel
theorem dX1_copy_6 : decode cX1_copy 6 = .ok (.aload_n 1, 1) := by decide +kernel
theorem dX1_copy_7 : decode cX1_copy 7 = .ok (.arraylength, 1) := by decide +kernel
theorem dX1_copy_8 : decode cX1_copy 8 = .ok (.invokestatic 7, 3) := by decide +kernel
theorem dX1_copy_11 : decode cX1_copy 11 = .ok (.invokestatic 13, 3) := by decide +kernel
theorem dX1_copy_14 : decode cX1_copy 14 = .ok (.return_, 1) := by decide +kernel
theorem dX1_bitsIn_0 : decode cX1_bitsIn 0 = .ok (.iconst 0, 1) := by decide +kernel
theorem dX1_bitsIn_1 : decode cX1_bitsIn 1 = .ok (.istore_n 1, 1) := by decide +kernel
theorem dX1_bitsIn_2 : decode cX1_bitsIn 2 = .ok (.aload_n 0, 1) := by decide +kernel
theorem dX1_bitsIn_3 : decode cX1_bitsIn 3 = .ok (.astore_n 2, 1) := by decide +kernel
theorem dX1_bitsIn_4 : decode cX1_bitsIn 4 = .ok (.aload_n 2, 1) := by decide +kernel
theorem dX1_bitsIn_5 : decode cX1_bitsIn 5 = .ok (.arraylength, 1) := by decide +kernel
theorem dX1_bitsIn_6 : decode cX1_bitsIn 6 = .ok (.istore_n 3, 1) := by decide +kernel
theorem dX1_bitsIn_7 : decode cX1_bitsIn 7 = .ok (.iconst 0, 1) := by decide +kernel
theorem dX1_bitsIn_8 : decode cX1_bitsIn 8 = .ok (.istore 4, 2) := by decide +kernel
theorem dX1_bitsIn_10 : decode cX1_bitsIn 10 = .ok (.iload 4, 2) := by decide +kernel
theorem dX1_bitsIn_12 : decode cX1_bitsIn 12 = .ok (.iload_n 3, 1) := by decide +kernel
theorem dX1_bitsIn_13 : decode cX1_bitsIn 13 = .ok (.if_icmp .ge 23, 3) := by decide +kernel
theorem dX1_bitsIn_16 : decode cX1_bitsIn 16 = .ok (.aload_n 2, 1) := by decide +kernel
theorem dX1_bitsIn_17 : decode cX1_bitsIn 17 = .ok (.iload 4, 2) := by decide +kernel
theorem dX1_bitsIn_19 : decode cX1_bitsIn 19 = .ok (.iaload, 1) := by decide +kernel
theorem dX1_bitsIn_20 : decode cX1_bitsIn 20 = .ok (.istore 5, 2) := by decide +kernel
theorem dX1_bitsIn_22 : decode cX1_bitsIn 22 = .ok (.iload_n 1, 1) := by decide +kernel
theorem dX1_bitsIn_23 : decode cX1_bitsIn 23 = .ok (.iload 5, 2) := by decide +kernel
theorem dX1_bitsIn_25 : decode cX1_bitsIn 25 = .ok (.invokestatic 19, 3) := by decide +kernel
theorem dX1_bitsIn_28 : decode cX1_bitsIn 28 = .ok (.iadd, 1) := by decide +kernel
theorem dX1_bitsIn_29 : decode cX1_bitsIn 29 = .ok (.istore_n 1, 1) := by decide +kernel
theorem dX1_bitsIn_30 : decode cX1_bitsIn 30 = .ok (.iinc 4 1, 3) := by decide +kernel
theorem dX1_bitsIn_33 : decode cX1_bitsIn 33 = .ok (.goto (-23), 3) := by decide +kernel
theorem dX1_bitsIn_36 : decode cX1_bitsIn 36 = .ok (.iload_n 1, 1) := by decide +kernel
theorem dX1_bitsIn_37 : decode cX1_bitsIn 37 = .ok (.ireturn, 1) := by decide +kernel
theorem dX2_init_0 : decode cX2_init 0 = .ok (.aload_n 0, 1) := by decide +kernel
theorem dX2_init_1 : decode cX2_init 1 = .ok (.invokespecial 3, 3) := by decide +kernel
theorem dX2_init_4 : decode cX2_init 4 = .ok (.aload_n 0, 1) := by decide +kernel
theorem dX2_init_5 : decode cX2_init 5 = .ok (.new 9, 3) := by decide +kernel
theorem dX2_init_8 : decode cX2_init 8 = .ok (.dup, 1) := by decide +kernel
theorem dX2_init_9 : decode cX2_init 9 = .ok (.invokespecial 11, 3) := by decide +kernel
theorem dX2_init_12 : decode cX2_init 12 = .ok (.putfield 12, 3) := by decide +kernel
theorem dX2_init_15 : decode cX2_init 15 = .ok (.aload_n 0, 1) := by decide +kernel
theorem dX2_init_16 : decode cX2_init 16 = .ok (.new 9, 3) := by decide +kernel
theorem dX2_init_19 : decode cX2_init 19 = .ok (.dup, 1) := by decide +kernel
theorem dX2_init_20 : decode cX2_init 20 = .ok (.invokespecial 11, 3) := by decide +kernel
theorem dX2_init_23 : decode cX2_init 23 = .ok (.putfield 18, 3) := by decide +kernel
theorem dX2_init_26 : decode cX2_init 26 = .ok (.aload_n 0, 1) := by decide +kernel
theorem dX2_init_27 : decode cX2_init 27 = .ok (.new 9, 3) := by decide +kernel
theorem dX2_init_30 : decode cX2_init 30 = .ok (.dup, 1) := by decide +kernel
theorem dX2_init_31 : decode cX2_init 31 = .ok (.invokespecial 11, 3) := by decide +kernel
theorem dX2_init_34 : decode cX2_init 34 = .ok (.putfield 21, 3) := by decide +kernel
theorem dX2_init_37 : decode cX2_init 37 = .ok (.aload_n 0, 1) := by decide +kernel
theorem dX2_init_38 : decode cX2_init 38 = .ok (.new 9, 3) := by decide +kernel
theorem dX2_init_41 : decode cX2_init 41 = .ok (.dup, 1) := by decide +kernel
theorem dX2_init_42 : decode cX2_init 42 = .ok (.invokespecial 11, 3) := by decide +kernel
theorem dX2_init_45 : decode cX2_init 45 = .ok (.putfield 24, 3) := by decide +kernel
theorem dX2_init_48 : decode cX2_init 48 = .ok (.return_, 1) := by decide +kernel
theorem dX2_remember_0 : decode cX2_remember 0 = .ok (.aload_n 0, 1) := by decide +kernel
theorem dX2_remember_1 : decode cX2_remember 1 = .ok (.getfield 24, 3) := by decide +kernel
theorem dX2_remember_4 : decode cX2_remember 4 = .ok (.astore_n 2, 1) := by decide +kernel
theorem dX2_remember_5 : decode cX2_remember 5 = .ok (.aload_n 0, 1) := by decide +kernel
theorem dX2_remember_6 : decode cX2_remember 6 = .ok (.aload_n 0, 1) := by decide +kernel
theorem dX2_remember_7 : decode cX2_remember 7 = .ok (.getfield 21, 3) := by decide +kernel
theorem dX2_remember_10 : decode cX2_remember 10 = .ok (.putfield 24, 3) := by decide +kernel
theorem dX2_remember_13 : decode cX2_remember 13 = .ok (.aload_n 0, 1) := by decide +kernel
theorem dX2_remember_14 : decode cX2_remember 14 = .ok (.aload_n 0, 1) := by decide +kernel
theorem dX2_remember_15 : decode cX2_remember 15 = .ok (.getfield 18, 3) := by decide +kernel
theorem dX2_remember_18 : decode cX2_remember 18 = .ok (.putfield 21, 3) := by decide +kernel
theorem dX2_remember_21 : decode cX2_remember 21 = .ok (.aload_n 0, 1) := by decide +kernel
theorem dX2_remember_22 : decode cX2_remember 22 = .ok (.aload_n 0, 1) := by decide +kernel
theorem dX2_remember_23 : decode cX2_remember 23 = .ok (.getfield 12, 3) := by decide +kernel
theorem dX2_remember_26 : decode cX2_remember 26 = .ok (.putfield 18, 3) := by decide +kernel
theorem dX2_remember_29 : decode cX2_remember 29 = .ok (.aload_n 0, 1) := by decide +kernel
theorem dX2_remember_30 : decode cX2_remember 30 = .ok (.aload_n 2, 1) := by decide +kernel
theorem dX2_remember_31 : decode cX2_remember 31 = .ok (.putfield 12, 3) := by decide +kernel
theorem dX2_remember_34 : decode cX2_remember 34 = .ok (.aload_n 0, 1) := by decide +kernel
theorem dX2_remember_35 : decode cX2_remember 35 = .ok (.getfield 12, 3) := by decide +kernel
theorem dX2_remember_38 : decode cX2_remember 38 = .ok (.aload_n 1, 1) := by decide +kernel
theorem dX2_remember_39 : decode cX2_remember 39 = .ok (.invokevirtual 27, 3) := by decide +kernel
theorem dX2_remember_42 : decode cX2_remember 42 = .ok (.aload_n 0, 1) := by decide +kernel
theorem dX2_remember_43 : decode cX2_remember 43 = .ok (.aload_n 0, 1) := by decide +kernel
theorem dX2_remember_44 : decode cX2_remember 44 = .ok (.getfield 31, 3) := by decide +kernel
theorem dX2_remember_47 : decode cX2_remember 47 = .ok (.iconst 1, 1) := by decide +kernel
theorem dX2_remember_48 : decode cX2_remember 48 = .ok (.iadd, 1) := by decide +kernel
theorem dX2_remember_49 : decode cX2_remember 49 = .ok (.iconst 4, 1) := by decide +kernel
theorem dX2_remember_50 : decode cX2_remember 50 = .ok (.invokestatic 35, 3) := by decide +kernel
theorem dX2_remember_53 : decode cX2_remember 53 = .ok (.putfield 31, 3) := by decide +kernel
theorem dX2_remember_56 : decode cX2_remember 56 = .ok (.return_, 1) := by decide +kernel
theorem dX2_takeBack_0 : decode cX2_takeBack 0 = .ok (.aload_n 0, 1) := by decide +kernel
theorem dX2_takeBack_1 : decode cX2_takeBack 1 = .ok (.getfield 12, 3) := by decide +kernel
theorem dX2_takeBack_4 : decode cX2_takeBack 4 = .ok (.astore_n 2, 1) := by decide +kernel
theorem dX2_takeBack_5 : decode cX2_takeBack 5 = .ok (.aload_n 1, 1) := by decide +kernel
theorem dX2_takeBack_6 : decode cX2_takeBack 6 = .ok (.aload_n 2, 1) := by decide +kernel
theorem dX2_takeBack_7 : decode cX2_takeBack 7 = .ok (.invokevirtual 27, 3) := by decide +kernel
theorem dX2_takeBack_10 : decode cX2_takeBack 10 = .ok (.aload_n 0, 1) := by decide +kernel
theorem dX2_takeBack_11 : decode cX2_takeBack 11 = .ok (.aload_n 0, 1) := by decide +kernel
theorem dX2_takeBack_12 : decode cX2_takeBack 12 = .ok (.getfield 18, 3) := by decide +kernel
theorem dX2_takeBack_15 : decode cX2_takeBack 15 = .ok (.putfield 12, 3) := by decide +kernel
theorem dX2_takeBack_18 : decode cX2_takeBack 18 = .ok (.aload_n 0, 1) := by decide +kernel
theorem dX2_takeBack_19 : decode cX2_takeBack 19 = .ok (.aload_n 0, 1) := by decide +kernel
theorem dX2_takeBack_20 : decode cX2_takeBack 20 = .ok (.getfield 21, 3) := by decide +kernel
theorem dX2_takeBack_23 : decode cX2_takeBack 23 = .ok (.putfield 18, 3) := by decide +kernel
theorem dX2_takeBack_26 : decode cX2_takeBack 26 = .ok (.aload_n 0, 1) := by decide +kernel
theorem dX2_takeBack_27 : decode cX2_takeBack 27 = .ok (.aload_n 0, 1) := by decide +kernel
theorem dX2_takeBack_28 : decode cX2_takeBack 28 = .ok (.getfield 24, 3) := by decide +kernel
theorem dX2_takeBack_31 : decode cX2_takeBack 31 = .ok (.putfield 21, 3) := by decide +kernel
theorem dX2_takeBack_34 : decode cX2_takeBack 34 = .ok (.aload_n 0, 1) := by decide +kernel
theorem dX2_takeBack_35 : decode cX2_takeBack 35 = .ok (.aload_n 2, 1) := by decide +kernel
theorem dX2_takeBack_36 : decode cX2_takeBack 36 = .ok (.putfield 24, 3) := by decide +kernel
theorem dX2_takeBack_39 : decode cX2_takeBack 39 = .ok (.aload_n 0, 1) := by decide +kernel
theorem dX2_takeBack_40 : decode cX2_takeBack 40 = .ok (.dup, 1) := by decide +kernel
theorem dX2_takeBack_41 : decode cX2_takeBack 41 = .ok (.getfield 31, 3) := by decide +kernel
theorem dX2_takeBack_44 : decode cX2_takeBack 44 = .ok (.iconst 1, 1) := by decide +kernel
theorem dX2_takeBack_45 : decode cX2_takeBack 45 = .ok (.isub, 1) := by decide +kernel
theorem dX2_takeBack_46 : decode cX2_takeBack 46 = .ok (.putfield 31, 3) := by decide +kernel
theorem dX2_takeBack_49 : decode cX2_takeBack 49 = .ok (.return_, 1) := by decide +kernel
theorem dX3_init_0 : decode cX3_init 0 = .ok (.aload_n 0, 1) := by decide +kernel
theorem dX3_init_1 : decode cX3_init 1 = .ok (.invokespecial 3, 3) := by decide +kernel
theorem dX3_init_4 : decode cX3_init 4 = .ok (.aload_n 0, 1) := by decide +kernel
theorem dX3_init_5 : decode cX3_init 5 = .ok (.bipush 60, 2) := by decide +kernel
theorem dX3_init_7 : decode cX3_init 7 = .ok (.newarray .char, 2) := by decide +kernel
theorem dX3_init_9 : decode cX3_init 9 = .ok (.putfield 9, 3) := by decide +kernel
theorem dX3_init_12 : decode cX3_init 12 = .ok (.return_, 1) := by decide +kernel
theorem dX3_append_0 : decode cX3_append 0 = .ok (.aload_n 0, 1) := by decide +kernel
theorem dX3_append_1 : decode cX3_append 1 = .ok (.getfield 15, 3) := by decide +kernel
theorem dX3_append_4 : decode cX3_append 4 = .ok (.ifCond .lt 15, 3) := by decide +kernel
theorem dX3_append_7 : decode cX3_append 7 = .ok (.aload_n 0, 1) := by decide +kernel
theorem dX3_append_8 : decode cX3_append 8 = .ok (.getfield 15, 3) := by decide +kernel
theorem dX3_append_11 : decode cX3_append 11 = .ok (.aload_n 0, 1) := by decide +kernel
theorem dX3_append_12 : decode cX3_append 12 = .ok (.getfield 9, 3) := by decide +kernel
theorem dX3_append_15 : decode cX3_append 15 = .ok (.arraylength, 1) := by decide +kernel
theorem dX3_append_16 : decode cX3_append 16 = .ok (.if_icmp .lt 5, 3) := by decide +kernel
theorem dX3_append_19 : decode cX3_append 19 = .ok (.iconst 0, 1) := by decide +kernel
theorem dX3_append_20 : decode cX3_append 20 = .ok (.ireturn, 1) := by decide +kernel
theorem dX3_append_21 : decode cX3_append 21 = .ok (.aload_n 0, 1) := by decide +kernel
theorem dX3_append_22 : decode cX3_append 22 = .ok (.getfield 9, 3) := by decide +kernel
theorem dX3_append_25 : decode cX3_append 25 = .ok (.aload_n 0, 1) := by decide +kernel
theorem dX3_append_26 : decode cX3_append 26 = .ok (.getfield 15, 3) := by decide +kernel
theorem dX3_append_29 : decode cX3_append 29 = .ok (.iload_n 1, 1) := by decide +kernel
theorem dX3_append_30 : decode cX3_append 30 = .ok (.castore, 1) := by decide +kernel
theorem dX3_append_31 : decode cX3_append 31 = .ok (.aload_n 0, 1) := by decide +kernel
theorem dX3_append_32 : decode cX3_append 32 = .ok (.dup, 1) := by decide +kernel
theorem dX3_append_33 : decode cX3_append 33 = .ok (.getfield 15, 3) := by decide +kernel
theorem dX3_append_36 : decode cX3_append 36 = .ok (.iconst 1, 1) := by decide +kernel
theorem dX3_append_37 : decode cX3_append 37 = .ok (.iadd, 1) := by decide +kernel
theorem dX3_append_38 : decode cX3_append 38 = .ok (.putfield 15, 3) := by decide +kernel
theorem dX3_append_41 : decode cX3_append 41 = .ok (.iconst 1, 1) := by decide +kernel
theorem dX3_append_42 : decode cX3_append 42 = .ok (.ireturn, 1) := by decide +kernel
theorem dX3_characterAt_0 : decode cX3_characterAt 0 = .ok (.iload_n 1, 1) := by decide +kernel
theorem dX3_characterAt_1 : decode cX3_characterAt 1 = .ok (.ifCond .lt 29, 3) := by decide +kernel
theorem dX3_characterAt_4 : decode cX3_characterAt 4 = .ok (.iload_n 1, 1) := by decide +kernel
theorem dX3_characterAt_5 : decode cX3_characterAt 5 = .ok (.aload_n 0, 1) := by decide +kernel
theorem dX3_characterAt_6 : decode cX3_characterAt 6 = .ok (.getfield 15, 3) := by decide +kernel
theorem dX3_characterAt_9 : decode cX3_characterAt 9 = .ok (.if_icmp .ge 21, 3) := by decide +kernel
theorem dX3_characterAt_12 : decode cX3_characterAt 12 = .ok (.iload_n 1, 1) := by decide +kernel
theorem dX3_characterAt_13 : decode cX3_characterAt 13 = .ok (.aload_n 0, 1) := by decide +kernel
theorem dX3_characterAt_14 : decode cX3_characterAt 14 = .ok (.getfield 9, 3) := by decide +kernel
theorem dX3_characterAt_17 : decode cX3_characterAt 17 = .ok (.arraylength, 1) := by decide +kernel
theorem dX3_characterAt_18 : decode cX3_characterAt 18 = .ok (.if_icmp .ge 12, 3) := by decide +kernel
theorem dX3_characterAt_21 : decode cX3_characterAt 21 = .ok (.aload_n 0, 1) := by decide +kernel
theorem dX3_characterAt_22 : decode cX3_characterAt 22 = .ok (.getfield 9, 3) := by decide +kernel
theorem dX3_characterAt_25 : decode cX3_characterAt 25 = .ok (.iload_n 1, 1) := by decide +kernel
theorem dX3_characterAt_26 : decode cX3_characterAt 26 = .ok (.caload, 1) := by decide +kernel
theorem dX3_characterAt_27 : decode cX3_characterAt 27 = .ok (.goto 4, 3) := by decide +kernel
theorem dX3_characterAt_30 : decode cX3_characterAt 30 = .ok (.iconst 0, 1) := by decide +kernel
theorem dX3_characterAt_31 : decode cX3_characterAt 31 = .ok (.ireturn, 1) := by decide +kernel
theorem dX3_fault_0 : decode cX3_fault 0 = .ok (.iconst 0, 1) := by decide +kernel
theorem dX3_fault_1 : decode cX3_fault 1 = .ok (.istore_n 1, 1) := by decide +kernel
theorem dX3_fault_2 : decode cX3_fault 2 = .ok (.iconst 0, 1) := by decide +kernel
theorem dX3_fault_3 : decode cX3_fault 3 = .ok (.istore_n 2, 1) := by decide +kernel
theorem dX3_fault_4 : decode cX3_fault 4 = .ok (.iload_n 2, 1) := by decide +kernel
theorem dX3_fault_5 : decode cX3_fault 5 = .ok (.aload_n 0, 1) := by decide +kernel
theorem dX3_fault_6 : decode cX3_fault 6 = .ok (.getfield 15, 3) := by decide +kernel
theorem dX3_fault_9 : decode cX3_fault 9 = .ok (.if_icmp .ge 26, 3) := by decide +kernel
theorem dX3_fault_12 : decode cX3_fault 12 = .ok (.iload_n 1, 1) := by decide +kernel
theorem dX3_fault_13 : decode cX3_fault 13 = .ok (.aload_n 0, 1) := by decide +kernel
theorem dX3_fault_14 : decode cX3_fault 14 = .ok (.iload_n 2, 1) := by decide +kernel
theorem dX3_fault_15 : decode cX3_fault 15 = .ok (.invokevirtual 19, 3) := by decide +kernel
theorem dX3_fault_18 : decode cX3_fault 18 = .ok (.invokestatic 23, 3) := by decide +kernel
theorem dX3_fault_21 : decode cX3_fault 21 = .ok (.istore_n 1, 1) := by decide +kernel
theorem dX3_fault_22 : decode cX3_fault 22 = .ok (.iload_n 1, 1) := by decide +kernel
theorem dX3_fault_23 : decode cX3_fault 23 = .ok (.iconst (-1), 1) := by decide +kernel
theorem dX3_fault_24 : decode cX3_fault 24 = .ok (.if_icmp .ne 5, 3) := by decide +kernel
theorem dX3_fault_27 : decode cX3_fault 27 = .ok (.iload_n 2, 1) := by decide +kernel
theorem dX3_fault_28 : decode cX3_fault 28 = .ok (.ireturn, 1) := by decide +kernel
theorem dX3_fault_29 : decode cX3_fault 29 = .ok (.iinc 2 1, 3) := by decide +kernel
theorem dX3_fault_32 : decode cX3_fault 32 = .ok (.goto (-28), 3) := by decide +kernel
theorem dX3_fault_35 : decode cX3_fault 35 = .ok (.iload_n 1, 1) := by decide +kernel
theorem dX3_fault_36 : decode cX3_fault 36 = .ok (.iconst 4, 1) := by decide +kernel
theorem dX3_fault_37 : decode cX3_fault 37 = .ok (.if_icmp .eq 8, 3) := by decide +kernel
theorem dX3_fault_40 : decode cX3_fault 40 = .ok (.iload_n 1, 1) := by decide +kernel
theorem dX3_fault_41 : decode cX3_fault 41 = .ok (.iconst 5, 1) := by decide +kernel
theorem dX3_fault_42 : decode cX3_fault 42 = .ok (.if_icmp .ne 7, 3) := by decide +kernel
theorem dX3_fault_45 : decode cX3_fault 45 = .ok (.iconst (-1), 1) := by decide +kernel
theorem dX3_fault_46 : decode cX3_fault 46 = .ok (.goto 7, 3) := by decide +kernel
theorem dX3_fault_49 : decode cX3_fault 49 = .ok (.aload_n 0, 1) := by decide +kernel
theorem dX3_fault_50 : decode cX3_fault 50 = .ok (.getfield 15, 3) := by decide +kernel
theorem dX3_fault_53 : decode cX3_fault 53 = .ok (.ireturn, 1) := by decide +kernel
theorem dX3_placeAfter_0 : decode cX3_placeAfter 0 = .ok (.iload_n 0, 1) := by decide +kernel
theorem dX3_placeAfter_1 : decode cX3_placeAfter 1 = .ok (.tableswitch 140 0 4 #[35, 61, 79, 100, 119], 35) := by decide +kernel
theorem dX3_placeAfter_36 : decode cX3_placeAfter 36 = .ok (.iload_n 1, 1) := by decide +kernel
theorem dX3_placeAfter_37 : decode cX3_placeAfter 37 = .ok (.bipush 116, 2) := by decide +kernel
theorem dX3_placeAfter_39 : decode cX3_placeAfter 39 = .ok (.if_icmp .ne 5, 3) := by decide +kernel
theorem dX3_placeAfter_42 : decode cX3_placeAfter 42 = .ok (.iconst 3, 1) := by decide +kernel
theorem dX3_placeAfter_43 : decode cX3_placeAfter 43 = .ok (.ireturn, 1) := by decide +kernel
theorem dX3_placeAfter_44 : decode cX3_placeAfter 44 = .ok (.iload_n 1, 1) := by decide +kernel
theorem dX3_placeAfter_45 : decode cX3_placeAfter 45 = .ok (.bipush 48, 2) := by decide +kernel
theorem dX3_placeAfter_47 : decode cX3_placeAfter 47 = .ok (.if_icmp .eq 9, 3) := by decide +kernel
theorem dX3_placeAfter_50 : decode cX3_placeAfter 50 = .ok (.iload_n 1, 1) := by decide +kernel
theorem dX3_placeAfter_51 : decode cX3_placeAfter 51 = .ok (.bipush 49, 2) := by decide +kernel
theorem dX3_placeAfter_53 : decode cX3_placeAfter 53 = .ok (.if_icmp .ne 7, 3) := by decide +kernel
theorem dX3_placeAfter_56 : decode cX3_placeAfter 56 = .ok (.iconst 1, 1) := by decide +kernel
theorem dX3_placeAfter_57 : decode cX3_placeAfter 57 = .ok (.goto 4, 3) := by decide +kernel
theorem dX3_placeAfter_60 : decode cX3_placeAfter 60 = .ok (.iconst (-1), 1) := by decide +kernel
theorem dX3_placeAfter_61 : decode cX3_placeAfter 61 = .ok (.ireturn, 1) := by decide +kernel
theorem dX3_placeAfter_62 : decode cX3_placeAfter 62 = .ok (.iload_n 1, 1) := by decide +kernel
theorem dX3_placeAfter_63 : decode cX3_placeAfter 63 = .ok (.bipush 100, 2) := by decide +kernel
theorem dX3_placeAfter_65 : decode cX3_placeAfter 65 = .ok (.if_icmp .eq 9, 3) := by decide +kernel
theorem dX3_placeAfter_68 : decode cX3_placeAfter 68 = .ok (.iload_n 1, 1) := by decide +kernel
theorem dX3_placeAfter_69 : decode cX3_placeAfter 69 = .ok (.bipush 117, 2) := by decide +kernel
theorem dX3_placeAfter_71 : decode cX3_placeAfter 71 = .ok (.if_icmp .ne 7, 3) := by decide +kernel
theorem dX3_placeAfter_74 : decode cX3_placeAfter 74 = .ok (.iconst 2, 1) := by decide +kernel
theorem dX3_placeAfter_75 : decode cX3_placeAfter 75 = .ok (.goto 4, 3) := by decide +kernel
theorem dX3_placeAfter_78 : decode cX3_placeAfter 78 = .ok (.iconst (-1), 1) := by decide +kernel
theorem dX3_placeAfter_79 : decode cX3_placeAfter 79 = .ok (.ireturn, 1) := by decide +kernel
theorem dX3_placeAfter_80 : decode cX3_placeAfter 80 = .ok (.iload_n 1, 1) := by decide +kernel
theorem dX3_placeAfter_81 : decode cX3_placeAfter 81 = .ok (.bipush 48, 2) := by decide +kernel
theorem dX3_placeAfter_83 : decode cX3_placeAfter 83 = .ok (.if_icmp .ne 5, 3) := by decide +kernel
theorem dX3_placeAfter_86 : decode cX3_placeAfter 86 = .ok (.iconst 5, 1) := by decide +kernel
theorem dX3_placeAfter_87 : decode cX3_placeAfter 87 = .ok (.ireturn, 1) := by decide +kernel
theorem dX3_placeAfter_88 : decode cX3_placeAfter 88 = .ok (.iload_n 1, 1) := by decide +kernel
theorem dX3_placeAfter_89 : decode cX3_placeAfter 89 = .ok (.invokestatic 27, 3) := by decide +kernel
theorem dX3_placeAfter_92 : decode cX3_placeAfter 92 = .ok (.ifCond .eq 7, 3) := by decide +kernel
theorem dX3_placeAfter_95 : decode cX3_placeAfter 95 = .ok (.iconst 4, 1) := by decide +kernel
theorem dX3_placeAfter_96 : decode cX3_placeAfter 96 = .ok (.goto 4, 3) := by decide +kernel
theorem dX3_placeAfter_99 : decode cX3_placeAfter 99 = .ok (.iconst (-1), 1) := by decide +kernel
theorem dX3_placeAfter_100 : decode cX3_placeAfter 100 = .ok (.ireturn, 1) := by decide +kernel
theorem dX3_placeAfter_101 : decode cX3_placeAfter 101 = .ok (.iload_n 1, 1) := by decide +kernel
theorem dX3_placeAfter_102 : decode cX3_placeAfter 102 = .ok (.invokestatic 27, 3) := by decide +kernel
theorem dX3_placeAfter_105 : decode cX3_placeAfter 105 = .ok (.ifCond .eq 13, 3) := by decide +kernel
theorem dX3_placeAfter_108 : decode cX3_placeAfter 108 = .ok (.iload_n 1, 1) := by decide +kernel
theorem dX3_placeAfter_109 : decode cX3_placeAfter 109 = .ok (.bipush 48, 2) := by decide +kernel
theorem dX3_placeAfter_111 : decode cX3_placeAfter 111 = .ok (.if_icmp .eq 7, 3) := by decide +kernel
theorem dX3_placeAfter_114 : decode cX3_placeAfter 114 = .ok (.iconst 4, 1) := by decide +kernel
theorem dX3_placeAfter_115 : decode cX3_placeAfter 115 = .ok (.goto 4, 3) := by decide +kernel
theorem dX3_placeAfter_118 : decode cX3_placeAfter 118 = .ok (.iconst (-1), 1) := by decide +kernel
theorem dX3_placeAfter_119 : decode cX3_placeAfter 119 = .ok (.ireturn, 1) := by decide +kernel
theorem dX3_placeAfter_120 : decode cX3_placeAfter 120 = .ok (.iload_n 1, 1) := by decide +kernel
theorem dX3_placeAfter_121 : decode cX3_placeAfter 121 = .ok (.invokestatic 27, 3) := by decide +kernel
theorem dX3_placeAfter_124 : decode cX3_placeAfter 124 = .ok (.ifCond .eq 5, 3) := by decide +kernel
theorem dX3_placeAfter_127 : decode cX3_placeAfter 127 = .ok (.iconst 5, 1) := by decide +kernel
theorem dX3_placeAfter_128 : decode cX3_placeAfter 128 = .ok (.ireturn, 1) := by decide +kernel
theorem dX3_placeAfter_129 : decode cX3_placeAfter 129 = .ok (.iload_n 1, 1) := by decide +kernel
theorem dX3_placeAfter_130 : decode cX3_placeAfter 130 = .ok (.bipush 59, 2) := by decide +kernel
theorem dX3_placeAfter_132 : decode cX3_placeAfter 132 = .ok (.if_icmp .ne 7, 3) := by decide +kernel
theorem dX3_placeAfter_135 : decode cX3_placeAfter 135 = .ok (.iconst 0, 1) := by decide +kernel
theorem dX3_placeAfter_136 : decode cX3_placeAfter 136 = .ok (.goto 4, 3) := by decide +kernel
theorem dX3_placeAfter_139 : decode cX3_placeAfter 139 = .ok (.iconst (-1), 1) := by decide +kernel
theorem dX3_placeAfter_140 : decode cX3_placeAfter 140 = .ok (.ireturn, 1) := by decide +kernel
theorem dX3_placeAfter_141 : decode cX3_placeAfter 141 = .ok (.iload_n 1, 1) := by decide +kernel
theorem dX3_placeAfter_142 : decode cX3_placeAfter 142 = .ok (.bipush 59, 2) := by decide +kernel
theorem dX3_placeAfter_144 : decode cX3_placeAfter 144 = .ok (.if_icmp .ne 7, 3) := by decide +kernel
theorem dX3_placeAfter_147 : decode cX3_placeAfter 147 = .ok (.iconst 0, 1) := by decide +kernel
theorem dX3_placeAfter_148 : decode cX3_placeAfter 148 = .ok (.goto 4, 3) := by decide +kernel
theorem dX3_placeAfter_151 : decode cX3_placeAfter 151 = .ok (.iconst (-1), 1) := by decide +kernel
theorem dX3_placeAfter_152 : decode cX3_placeAfter 152 = .ok (.ireturn, 1) := by decide +kernel
theorem dX3_isDigit_0 : decode cX3_isDigit 0 = .ok (.iload_n 0, 1) := by decide +kernel
theorem dX3_isDigit_1 : decode cX3_isDigit 1 = .ok (.bipush 48, 2) := by decide +kernel
theorem dX3_isDigit_3 : decode cX3_isDigit 3 = .ok (.if_icmp .lt 13, 3) := by decide +kernel
theorem dX3_isDigit_6 : decode cX3_isDigit 6 = .ok (.iload_n 0, 1) := by decide +kernel
theorem dX3_isDigit_7 : decode cX3_isDigit 7 = .ok (.bipush 57, 2) := by decide +kernel
theorem dX3_isDigit_9 : decode cX3_isDigit 9 = .ok (.if_icmp .gt 7, 3) := by decide +kernel
theorem dX3_isDigit_12 : decode cX3_isDigit 12 = .ok (.iconst 1, 1) := by decide +kernel
theorem dX3_isDigit_13 : decode cX3_isDigit 13 = .ok (.goto 4, 3) := by decide +kernel
theorem dX3_isDigit_16 : decode cX3_isDigit 16 = .ok (.iconst 0, 1) := by decide +kernel
theorem dX3_isDigit_17 : decode cX3_isDigit 17 = .ok (.ireturn, 1) := by decide +kernel
theorem dX3_isMoveEnd_0 : decode cX3_isMoveEnd 0 = .ok (.iload_n 1, 1) := by decide +kernel
theorem dX3_isMoveEnd_1 : decode cX3_isMoveEnd 1 = .ok (.aload_n 0, 1) := by decide +kernel
theorem dX3_isMoveEnd_2 : decode cX3_isMoveEnd 2 = .ok (.getfield 15, 3) := by decide +kernel
theorem dX3_isMoveEnd_5 : decode cX3_isMoveEnd 5 = .ok (.if_icmp .eq 13, 3) := by decide +kernel
theorem dX3_isMoveEnd_8 : decode cX3_isMoveEnd 8 = .ok (.aload_n 0, 1) := by decide +kernel
theorem dX3_isMoveEnd_9 : decode cX3_isMoveEnd 9 = .ok (.iload_n 1, 1) := by decide +kernel
theorem dX3_isMoveEnd_10 : decode cX3_isMoveEnd 10 = .ok (.invokevirtual 19, 3) := by decide +kernel
theorem dX3_isMoveEnd_13 : decode cX3_isMoveEnd 13 = .ok (.bipush 59, 2) := by decide +kernel
theorem dX3_isMoveEnd_15 : decode cX3_isMoveEnd 15 = .ok (.if_icmp .ne 7, 3) := by decide +kernel
theorem dX3_isMoveEnd_18 : decode cX3_isMoveEnd 18 = .ok (.iconst 1, 1) := by decide +kernel
theorem dX3_isMoveEnd_19 : decode cX3_isMoveEnd 19 = .ok (.goto 4, 3) := by decide +kernel
theorem dX3_isMoveEnd_22 : decode cX3_isMoveEnd 22 = .ok (.iconst 0, 1) := by decide +kernel
theorem dX3_isMoveEnd_23 : decode cX3_isMoveEnd 23 = .ok (.ireturn, 1) := by decide +kernel
theorem dX3_number_0 : decode cX3_number 0 = .ok (.iconst 0, 1) := by decide +kernel
theorem dX3_number_1 : decode cX3_number 1 = .ok (.istore_n 3, 1) := by decide +kernel
theorem dX3_number_2 : decode cX3_number 2 = .ok (.iload_n 1, 1) := by decide +kernel
theorem dX3_number_3 : decode cX3_number 3 = .ok (.istore 4, 2) := by decide +kernel
theorem dX3_number_5 : decode cX3_number 5 = .ok (.iload 4, 2) := by decide +kernel
theorem dX3_number_7 : decode cX3_number 7 = .ok (.iload_n 2, 1) := by decide +kernel
theorem dX3_number_8 : decode cX3_number 8 = .ok (.if_icmp .ge 24, 3) := by decide +kernel
theorem dX3_number_11 : decode cX3_number 11 = .ok (.iload_n 3, 1) := by decide +kernel
theorem dX3_number_12 : decode cX3_number 12 = .ok (.bipush 10, 2) := by decide +kernel
theorem dX3_number_14 : decode cX3_number 14 = .ok (.imul, 1) := by decide +kernel
theorem dX3_number_15 : decode cX3_number 15 = .ok (.aload_n 0, 1) := by decide +kernel
theorem dX3_number_16 : decode cX3_number 16 = .ok (.iload 4, 2) := by decide +kernel
theorem dX3_number_18 : decode cX3_number 18 = .ok (.invokevirtual 19, 3) := by decide +kernel
theorem dX3_number_21 : decode cX3_number 21 = .ok (.bipush 48, 2) := by decide +kernel
theorem dX3_number_23 : decode cX3_number 23 = .ok (.isub, 1) := by decide +kernel
theorem dX3_number_24 : decode cX3_number 24 = .ok (.iadd, 1) := by decide +kernel
theorem dX3_number_25 : decode cX3_number 25 = .ok (.istore_n 3, 1) := by decide +kernel
theorem dX3_number_26 : decode cX3_number 26 = .ok (.iinc 4 1, 3) := by decide +kernel
theorem dX3_number_29 : decode cX3_number 29 = .ok (.goto (-24), 3) := by decide +kernel
theorem dX3_number_32 : decode cX3_number 32 = .ok (.iload_n 3, 1) := by decide +kernel
theorem dX3_number_33 : decode cX3_number 33 = .ok (.ireturn, 1) := by decide +kernel
theorem dX4_init_0 : decode cX4_init 0 = .ok (.aload_n 0, 1) := by decide +kernel
theorem dX4_init_1 : decode cX4_init 1 = .ok (.invokespecial 3, 3) := by decide +kernel
theorem dX4_init_4 : decode cX4_init 4 = .ok (.aload_n 0, 1) := by decide +kernel
theorem dX4_init_5 : decode cX4_init 5 = .ok (.iconst 3, 1) := by decide +kernel
theorem dX4_init_6 : decode cX4_init 6 = .ok (.newarray .int, 2) := by decide +kernel
theorem dX4_init_8 : decode cX4_init 8 = .ok (.dup, 1) := by decide +kernel
theorem dX4_init_9 : decode cX4_init 9 = .ok (.iconst 0, 1) := by decide +kernel
theorem dX4_init_10 : decode cX4_init 10 = .ok (.ldc 9, 2) := by decide +kernel
theorem dX4_init_12 : decode cX4_init 12 = .ok (.iastore, 1) := by decide +kernel
theorem dX4_init_13 : decode cX4_init 13 = .ok (.dup, 1) := by decide +kernel
theorem dX4_init_14 : decode cX4_init 14 = .ok (.iconst 1, 1) := by decide +kernel
theorem dX4_init_15 : decode cX4_init 15 = .ok (.ldc 10, 2) := by decide +kernel
theorem dX4_init_17 : decode cX4_init 17 = .ok (.iastore, 1) := by decide +kernel
theorem dX4_init_18 : decode cX4_init 18 = .ok (.dup, 1) := by decide +kernel
theorem dX4_init_19 : decode cX4_init 19 = .ok (.iconst 2, 1) := by decide +kernel
theorem dX4_init_20 : decode cX4_init 20 = .ok (.ldc 11, 2) := by decide +kernel
theorem dX4_init_22 : decode cX4_init 22 = .ok (.iastore, 1) := by decide +kernel
theorem dX4_init_23 : decode cX4_init 23 = .ok (.putfield 12, 3) := by decide +kernel
theorem dX4_init_26 : decode cX4_init 26 = .ok (.aload_n 0, 1) := by decide +kernel
theorem dX4_init_27 : decode cX4_init 27 = .ok (.ldc 16, 2) := by decide +kernel
theorem dX4_init_29 : decode cX4_init 29 = .ok (.putfield 17, 3) := by decide +kernel
theorem dX4_init_32 : decode cX4_init 32 = .ok (.aload_n 0, 1) := by decide +kernel
theorem dX4_init_33 : decode cX4_init 33 = .ok (.ldc 21, 2) := by decide +kernel
theorem dX4_init_35 : decode cX4_init 35 = .ok (.putfield 22, 3) := by decide +kernel
theorem dX4_init_38 : decode cX4_init 38 = .ok (.aload_n 0, 1) := by decide +kernel
theorem dX4_init_39 : decode cX4_init 39 = .ok (.ldc 25, 2) := by decide +kernel
theorem dX4_init_41 : decode cX4_init 41 = .ok (.putfield 26, 3) := by decide +kernel
theorem dX4_init_44 : decode cX4_init 44 = .ok (.return_, 1) := by decide +kernel
theorem dX4_copyFrom_0 : decode cX4_copyFrom 0 = .ok (.aload_n 1, 1) := by decide +kernel
theorem dX4_copyFrom_1 : decode cX4_copyFrom 1 = .ok (.getfield 12, 3) := by decide +kernel
theorem dX4_copyFrom_4 : decode cX4_copyFrom 4 = .ok (.aload_n 0, 1) := by decide +kernel
theorem dX4_copyFrom_5 : decode cX4_copyFrom 5 = .ok (.getfield 12, 3) := by decide +kernel
theorem dX4_copyFrom_8 : decode cX4_copyFrom 8 = .ok (.invokestatic 29, 3) := by decide +kernel
theorem dX4_copyFrom_11 : decode cX4_copyFrom 11 = .ok (.aload_n 0, 1) := by decide +kernel
theorem dX4_copyFrom_12 : decode cX4_copyFrom 12 = .ok (.aload_n 1, 1) := by decide +kernel
theorem dX4_copyFrom_13 : decode cX4_copyFrom 13 = .ok (.getfield 17, 3) := by decide +kernel
theorem dX4_copyFrom_16 : decode cX4_copyFrom 16 = .ok (.putfield 17, 3) := by decide +kernel
theorem dX4_copyFrom_19 : decode cX4_copyFrom 19 = .ok (.aload_n 0, 1) := by decide +kernel
theorem dX4_copyFrom_20 : decode cX4_copyFrom 20 = .ok (.aload_n 1, 1) := by decide +kernel
theorem dX4_copyFrom_21 : decode cX4_copyFrom 21 = .ok (.getfield 22, 3) := by decide +kernel
theorem dX4_copyFrom_24 : decode cX4_copyFrom 24 = .ok (.putfield 22, 3) := by decide +kernel
theorem dX4_copyFrom_27 : decode cX4_copyFrom 27 = .ok (.aload_n 0, 1) := by decide +kernel
theorem dX4_copyFrom_28 : decode cX4_copyFrom 28 = .ok (.aload_n 1, 1) := by decide +kernel
theorem dX4_copyFrom_29 : decode cX4_copyFrom 29 = .ok (.getfield 26, 3) := by decide +kernel
theorem dX4_copyFrom_32 : decode cX4_copyFrom 32 = .ok (.putfield 26, 3) := by decide +kernel
theorem dX4_copyFrom_35 : decode cX4_copyFrom 35 = .ok (.return_, 1) := by decide +kernel
theorem dX4_accepts_0 : decode cX4_accepts 0 = .ok (.iload_n 0, 1) := by decide +kernel
theorem dX4_accepts_1 : decode cX4_accepts 1 = .ok (.ifCond .lt 28, 3) := by decide +kernel
theorem dX4_accepts_4 : decode cX4_accepts 4 = .ok (.iload_n 0, 1) := by decide +kernel
theorem dX4_accepts_5 : decode cX4_accepts 5 = .ok (.getstatic 35, 3) := by decide +kernel
theorem dX4_accepts_8 : decode cX4_accepts 8 = .ok (.arraylength, 1) := by decide +kernel
theorem dX4_accepts_9 : decode cX4_accepts 9 = .ok (.if_icmp .ge 20, 3) := by decide +kernel
theorem dX4_accepts_12 : decode cX4_accepts 12 = .ok (.iload_n 1, 1) := by decide +kernel
theorem dX4_accepts_13 : decode cX4_accepts 13 = .ok (.ifCond .lt 16, 3) := by decide +kernel
theorem dX4_accepts_16 : decode cX4_accepts 16 = .ok (.iload_n 1, 1) := by decide +kernel
theorem dX4_accepts_17 : decode cX4_accepts 17 = .ok (.getstatic 35, 3) := by decide +kernel
theorem dX4_accepts_20 : decode cX4_accepts 20 = .ok (.iload_n 0, 1) := by decide +kernel
theorem dX4_accepts_21 : decode cX4_accepts 21 = .ok (.iaload, 1) := by decide +kernel
theorem dX4_accepts_22 : decode cX4_accepts 22 = .ok (.if_icmp .ge 7, 3) := by decide +kernel
theorem dX4_accepts_25 : decode cX4_accepts 25 = .ok (.iconst 1, 1) := by decide +kernel
theorem dX4_accepts_26 : decode cX4_accepts 26 = .ok (.goto 4, 3) := by decide +kernel
theorem dX4_accepts_29 : decode cX4_accepts 29 = .ok (.iconst 0, 1) := by decide +kernel
theorem dX4_accepts_30 : decode cX4_accepts 30 = .ok (.ireturn, 1) := by decide +kernel
theorem dX4_bitsOf_0 : decode cX4_bitsOf 0 = .ok (.aload_n 0, 1) := by decide +kernel
theorem dX4_bitsOf_1 : decode cX4_bitsOf 1 = .ok (.getfield 12, 3) := by decide +kernel
theorem dX4_bitsOf_4 : decode cX4_bitsOf 4 = .ok (.iload_n 1, 1) := by decide +kernel
theorem dX4_bitsOf_5 : decode cX4_bitsOf 5 = .ok (.invokestatic 38, 3) := by decide +kernel
theorem dX4_bitsOf_8 : decode cX4_bitsOf 8 = .ok (.ireturn, 1) := by decide +kernel
theorem dX4_change_0 : decode cX4_change 0 = .ok (.aload_n 0, 1) := by decide +kernel
theorem dX4_change_1 : decode cX4_change 1 = .ok (.getfield 12, 3) := by decide +kernel
theorem dX4_change_4 : decode cX4_change 4 = .ok (.iload_n 1, 1) := by decide +kernel
theorem dX4_change_5 : decode cX4_change 5 = .ok (.iload_n 2, 1) := by decide +kernel
theorem dX4_change_6 : decode cX4_change 6 = .ok (.invokestatic 42, 3) := by decide +kernel
theorem dX4_change_9 : decode cX4_change 9 = .ok (.iload_n 2, 1) := by decide +kernel
theorem dX4_change_10 : decode cX4_change 10 = .ok (.invokestatic 46, 3) := by decide +kernel
theorem dX4_change_13 : decode cX4_change 13 = .ok (.fstore_n 3, 1) := by decide +kernel
theorem dX4_change_14 : decode cX4_change 14 = .ok (.iload_n 1, 1) := by decide +kernel
theorem dX4_change_15 : decode cX4_change 15 = .ok (.lookupswitch 41 #[(0, 25), (1, 33)], 25) := by decide +kernel
theorem dX4_change_40 : decode cX4_change 40 = .ok (.aload_n 0, 1) := by decide +kernel
theorem dX4_change_41 : decode cX4_change 41 = .ok (.fload_n 3, 1) := by decide +kernel
theorem dX4_change_42 : decode cX4_change 42 = .ok (.putfield 17, 3) := by decide +kernel
theorem dX4_change_45 : decode cX4_change 45 = .ok (.goto 16, 3) := by decide +kernel
theorem dX4_change_48 : decode cX4_change 48 = .ok (.aload_n 0, 1) := by decide +kernel
theorem dX4_change_49 : decode cX4_change 49 = .ok (.fload_n 3, 1) := by decide +kernel
theorem dX4_change_50 : decode cX4_change 50 = .ok (.putfield 22, 3) := by decide +kernel
theorem dX4_change_53 : decode cX4_change 53 = .ok (.goto 8, 3) := by decide +kernel
theorem dX4_change_56 : decode cX4_change 56 = .ok (.aload_n 0, 1) := by decide +kernel
theorem dX4_change_57 : decode cX4_change 57 = .ok (.fload_n 3, 1) := by decide +kernel
theorem dX4_change_58 : decode cX4_change 58 = .ok (.putfield 26, 3) := by decide +kernel
theorem dX4_change_61 : decode cX4_change 61 = .ok (.return_, 1) := by decide +kernel
theorem dX4_valueOf_0 : decode cX4_valueOf 0 = .ok (.iload_n 0, 1) := by decide +kernel
theorem dX4_valueOf_1 : decode cX4_valueOf 1 = .ok (.bipush 23, 2) := by decide +kernel
theorem dX4_valueOf_3 : decode cX4_valueOf 3 = .ok (.ishr, 1) := by decide +kernel
theorem dX4_valueOf_4 : decode cX4_valueOf 4 = .ok (.istore_n 1, 1) := by decide +kernel
theorem dX4_valueOf_5 : decode cX4_valueOf 5 = .ok (.iload_n 0, 1) := by decide +kernel
theorem dX4_valueOf_6 : decode cX4_valueOf 6 = .ok (.ldc 50, 2) := by decide +kernel
theorem dX4_valueOf_8 : decode cX4_valueOf 8 = .ok (.iand, 1) := by decide +kernel
theorem dX4_valueOf_9 : decode cX4_valueOf 9 = .ok (.istore_n 2, 1) := by decide +kernel
theorem dX4_valueOf_10 : decode cX4_valueOf 10 = .ok (.iload_n 1, 1) := by decide +kernel
theorem dX4_valueOf_11 : decode cX4_valueOf 11 = .ok (.ifCond .ne 7, 3) := by decide +kernel
theorem dX4_valueOf_14 : decode cX4_valueOf 14 = .ok (.iload_n 2, 1) := by decide +kernel
theorem dX4_valueOf_15 : decode cX4_valueOf 15 = .ok (.goto 7, 3) := by decide +kernel
theorem dX4_valueOf_18 : decode cX4_valueOf 18 = .ok (.iload_n 2, 1) := by decide +kernel
theorem dX4_valueOf_19 : decode cX4_valueOf 19 = .ok (.ldc 51, 2) := by decide +kernel
theorem dX4_valueOf_21 : decode cX4_valueOf 21 = .ok (.iadd, 1) := by decide +kernel
theorem dX4_valueOf_22 : decode cX4_valueOf 22 = .ok (.i2f, 1) := by decide +kernel
theorem dX4_valueOf_23 : decode cX4_valueOf 23 = .ok (.fstore_n 3, 1) := by decide +kernel
theorem dX4_valueOf_24 : decode cX4_valueOf 24 = .ok (.sipush 150, 3) := by decide +kernel
theorem dX4_valueOf_27 : decode cX4_valueOf 27 = .ok (.iload_n 1, 1) := by decide +kernel
theorem dX4_valueOf_28 : decode cX4_valueOf 28 = .ok (.ifCond .ne 7, 3) := by decide +kernel
theorem dX4_valueOf_31 : decode cX4_valueOf 31 = .ok (.iconst 1, 1) := by decide +kernel
theorem dX4_valueOf_32 : decode cX4_valueOf 32 = .ok (.goto 4, 3) := by decide +kernel
theorem dX4_valueOf_35 : decode cX4_valueOf 35 = .ok (.iload_n 1, 1) := by decide +kernel
theorem dX4_valueOf_36 : decode cX4_valueOf 36 = .ok (.isub, 1) := by decide +kernel
theorem dX4_valueOf_37 : decode cX4_valueOf 37 = .ok (.istore 4, 2) := by decide +kernel
theorem dX4_valueOf_39 : decode cX4_valueOf 39 = .ok (.iconst 0, 1) := by decide +kernel
theorem dX4_valueOf_40 : decode cX4_valueOf 40 = .ok (.istore 5, 2) := by decide +kernel
theorem dX4_valueOf_42 : decode cX4_valueOf 42 = .ok (.iload 5, 2) := by decide +kernel
theorem dX4_valueOf_44 : decode cX4_valueOf 44 = .ok (.iload 4, 2) := by decide +kernel
theorem dX4_valueOf_46 : decode cX4_valueOf 46 = .ok (.if_icmp .ge 14, 3) := by decide +kernel
theorem dX4_valueOf_49 : decode cX4_valueOf 49 = .ok (.fload_n 3, 1) := by decide +kernel
theorem dX4_valueOf_50 : decode cX4_valueOf 50 = .ok (.ldc 21, 2) := by decide +kernel
theorem dX4_valueOf_52 : decode cX4_valueOf 52 = .ok (.fmul, 1) := by decide +kernel
theorem dX4_valueOf_53 : decode cX4_valueOf 53 = .ok (.fstore_n 3, 1) := by decide +kernel
theorem dX4_valueOf_54 : decode cX4_valueOf 54 = .ok (.iinc 5 1, 3) := by decide +kernel
theorem dX4_valueOf_57 : decode cX4_valueOf 57 = .ok (.goto (-15), 3) := by decide +kernel
theorem dX4_valueOf_60 : decode cX4_valueOf 60 = .ok (.fload_n 3, 1) := by decide +kernel
theorem dX4_valueOf_61 : decode cX4_valueOf 61 = .ok (.freturn, 1) := by decide +kernel
theorem dX5_init_0 : decode cX5_init 0 = .ok (.aload_n 0, 1) := by decide +kernel
theorem dX5_init_1 : decode cX5_init 1 = .ok (.invokespecial 3, 3) := by decide +kernel
theorem dX5_init_4 : decode cX5_init 4 = .ok (.aload_n 0, 1) := by decide +kernel
theorem dX5_init_5 : decode cX5_init 5 = .ok (.new 9, 3) := by decide +kernel
theorem dX5_init_8 : decode cX5_init 8 = .ok (.dup, 1) := by decide +kernel
theorem dX5_init_9 : decode cX5_init 9 = .ok (.invokespecial 11, 3) := by decide +kernel
theorem dX5_init_12 : decode cX5_init 12 = .ok (.putfield 12, 3) := by decide +kernel
theorem dX5_init_15 : decode cX5_init 15 = .ok (.aload_n 0, 1) := by decide +kernel
theorem dX5_init_16 : decode cX5_init 16 = .ok (.new 18, 3) := by decide +kernel
theorem dX5_init_19 : decode cX5_init 19 = .ok (.dup, 1) := by decide +kernel
theorem dX5_init_20 : decode cX5_init 20 = .ok (.ldc 20, 2) := by decide +kernel
theorem dX5_init_22 : decode cX5_init 22 = .ok (.ldc 21, 2) := by decide +kernel
theorem dX5_init_24 : decode cX5_init 24 = .ok (.invokespecial 22, 3) := by decide +kernel
theorem dX5_init_27 : decode cX5_init 27 = .ok (.putfield 25, 3) := by decide +kernel
theorem dX5_init_30 : decode cX5_init 30 = .ok (.aload_n 0, 1) := by decide +kernel
theorem dX5_init_31 : decode cX5_init 31 = .ok (.new 18, 3) := by decide +kernel
theorem dX5_init_34 : decode cX5_init 34 = .ok (.dup, 1) := by decide +kernel
theorem dX5_init_35 : decode cX5_init 35 = .ok (.ldc 29, 2) := by decide +kernel
theorem dX5_init_37 : decode cX5_init 37 = .ok (.ldc 30, 2) := by decide +kernel
theorem dX5_init_39 : decode cX5_init 39 = .ok (.invokespecial 22, 3) := by decide +kernel
theorem dX5_init_42 : decode cX5_init 42 = .ok (.putfield 31, 3) := by decide +kernel
theorem dX5_init_45 : decode cX5_init 45 = .ok (.aload_n 0, 1) := by decide +kernel
theorem dX5_init_46 : decode cX5_init 46 = .ok (.new 34, 3) := by decide +kernel
theorem dX5_init_49 : decode cX5_init 49 = .ok (.dup, 1) := by decide +kernel
theorem dX5_init_50 : decode cX5_init 50 = .ok (.invokespecial 36, 3) := by decide +kernel
theorem dX5_init_53 : decode cX5_init 53 = .ok (.putfield 37, 3) := by decide +kernel
theorem dX5_init_56 : decode cX5_init 56 = .ok (.aload_n 0, 1) := by decide +kernel
theorem dX5_init_57 : decode cX5_init 57 = .ok (.new 34, 3) := by decide +kernel
theorem dX5_init_60 : decode cX5_init 60 = .ok (.dup, 1) := by decide +kernel
theorem dX5_init_61 : decode cX5_init 61 = .ok (.invokespecial 36, 3) := by decide +kernel
theorem dX5_init_64 : decode cX5_init 64 = .ok (.putfield 41, 3) := by decide +kernel
theorem dX5_init_67 : decode cX5_init 67 = .ok (.aload_n 0, 1) := by decide +kernel
theorem dX5_init_68 : decode cX5_init 68 = .ok (.new 44, 3) := by decide +kernel
theorem dX5_init_71 : decode cX5_init 71 = .ok (.dup, 1) := by decide +kernel
theorem dX5_init_72 : decode cX5_init 72 = .ok (.invokespecial 46, 3) := by decide +kernel
theorem dX5_init_75 : decode cX5_init 75 = .ok (.putfield 47, 3) := by decide +kernel
theorem dX5_init_78 : decode cX5_init 78 = .ok (.return_, 1) := by decide +kernel
theorem dX5_copyFrom_0 : decode cX5_copyFrom 0 = .ok (.aload_n 0, 1) := by decide +kernel
theorem dX5_copyFrom_1 : decode cX5_copyFrom 1 = .ok (.getfield 12, 3) := by decide +kernel
theorem dX5_copyFrom_4 : decode cX5_copyFrom 4 = .ok (.aload_n 1, 1) := by decide +kernel
theorem dX5_copyFrom_5 : decode cX5_copyFrom 5 = .ok (.getfield 12, 3) := by decide +kernel
theorem dX5_copyFrom_8 : decode cX5_copyFrom 8 = .ok (.invokevirtual 51, 3) := by decide +kernel
theorem dX5_copyFrom_11 : decode cX5_copyFrom 11 = .ok (.aload_n 0, 1) := by decide +kernel
theorem dX5_copyFrom_12 : decode cX5_copyFrom 12 = .ok (.getfield 25, 3) := by decide +kernel
theorem dX5_copyFrom_15 : decode cX5_copyFrom 15 = .ok (.aload_n 1, 1) := by decide +kernel
theorem dX5_copyFrom_16 : decode cX5_copyFrom 16 = .ok (.getfield 25, 3) := by decide +kernel
theorem dX5_copyFrom_19 : decode cX5_copyFrom 19 = .ok (.invokevirtual 55, 3) := by decide +kernel
theorem dX5_copyFrom_22 : decode cX5_copyFrom 22 = .ok (.aload_n 0, 1) := by decide +kernel
theorem dX5_copyFrom_23 : decode cX5_copyFrom 23 = .ok (.getfield 31, 3) := by decide +kernel
theorem dX5_copyFrom_26 : decode cX5_copyFrom 26 = .ok (.aload_n 1, 1) := by decide +kernel
theorem dX5_copyFrom_27 : decode cX5_copyFrom 27 = .ok (.getfield 31, 3) := by decide +kernel
theorem dX5_copyFrom_30 : decode cX5_copyFrom 30 = .ok (.invokevirtual 55, 3) := by decide +kernel
theorem dX5_copyFrom_33 : decode cX5_copyFrom 33 = .ok (.aload_n 0, 1) := by decide +kernel
theorem dX5_copyFrom_34 : decode cX5_copyFrom 34 = .ok (.getfield 37, 3) := by decide +kernel
theorem dX5_copyFrom_37 : decode cX5_copyFrom 37 = .ok (.aload_n 1, 1) := by decide +kernel
theorem dX5_copyFrom_38 : decode cX5_copyFrom 38 = .ok (.getfield 37, 3) := by decide +kernel
theorem dX5_copyFrom_41 : decode cX5_copyFrom 41 = .ok (.invokevirtual 58, 3) := by decide +kernel
theorem dX5_copyFrom_44 : decode cX5_copyFrom 44 = .ok (.aload_n 0, 1) := by decide +kernel
theorem dX5_copyFrom_45 : decode cX5_copyFrom 45 = .ok (.getfield 41, 3) := by decide +kernel
theorem dX5_copyFrom_48 : decode cX5_copyFrom 48 = .ok (.aload_n 1, 1) := by decide +kernel
theorem dX5_copyFrom_49 : decode cX5_copyFrom 49 = .ok (.getfield 41, 3) := by decide +kernel
theorem dX5_copyFrom_52 : decode cX5_copyFrom 52 = .ok (.invokevirtual 58, 3) := by decide +kernel
theorem dX5_copyFrom_55 : decode cX5_copyFrom 55 = .ok (.aload_n 0, 1) := by decide +kernel
theorem dX5_copyFrom_56 : decode cX5_copyFrom 56 = .ok (.getfield 47, 3) := by decide +kernel
theorem dX5_copyFrom_59 : decode cX5_copyFrom 59 = .ok (.aload_n 1, 1) := by decide +kernel
theorem dX5_copyFrom_60 : decode cX5_copyFrom 60 = .ok (.getfield 47, 3) := by decide +kernel
theorem dX5_copyFrom_63 : decode cX5_copyFrom 63 = .ok (.invokevirtual 61, 3) := by decide +kernel
theorem dX5_copyFrom_66 : decode cX5_copyFrom 66 = .ok (.aload_n 0, 1) := by decide +kernel
theorem dX5_copyFrom_67 : decode cX5_copyFrom 67 = .ok (.aload_n 1, 1) := by decide +kernel
theorem dX5_copyFrom_68 : decode cX5_copyFrom 68 = .ok (.getfield 64, 3) := by decide +kernel
theorem dX5_copyFrom_71 : decode cX5_copyFrom 71 = .ok (.putfield 64, 3) := by decide +kernel
theorem dX5_copyFrom_74 : decode cX5_copyFrom 74 = .ok (.aload_n 0, 1) := by decide +kernel
theorem dX5_copyFrom_75 : decode cX5_copyFrom 75 = .ok (.aload_n 1, 1) := by decide +kernel
theorem dX5_copyFrom_76 : decode cX5_copyFrom 76 = .ok (.getfield 68, 3) := by decide +kernel
theorem dX5_copyFrom_79 : decode cX5_copyFrom 79 = .ok (.putfield 68, 3) := by decide +kernel
theorem dX5_copyFrom_82 : decode cX5_copyFrom 82 = .ok (.aload_n 0, 1) := by decide +kernel
theorem dX5_copyFrom_83 : decode cX5_copyFrom 83 = .ok (.aload_n 1, 1) := by decide +kernel
theorem dX5_copyFrom_84 : decode cX5_copyFrom 84 = .ok (.getfield 71, 3) := by decide +kernel
theorem dX5_copyFrom_87 : decode cX5_copyFrom 87 = .ok (.putfield 71, 3) := by decide +kernel
theorem dX5_copyFrom_90 : decode cX5_copyFrom 90 = .ok (.aload_n 0, 1) := by decide +kernel
theorem dX5_copyFrom_91 : decode cX5_copyFrom 91 = .ok (.aload_n 1, 1) := by decide +kernel
theorem dX5_copyFrom_92 : decode cX5_copyFrom 92 = .ok (.getfield 74, 3) := by decide +kernel
theorem dX5_copyFrom_95 : decode cX5_copyFrom 95 = .ok (.putfield 74, 3) := by decide +kernel
theorem dX5_copyFrom_98 : decode cX5_copyFrom 98 = .ok (.return_, 1) := by decide +kernel
theorem dX5_isTypist_0 : decode cX5_isTypist 0 = .ok (.iload_n 0, 1) := by decide +kernel
theorem dX5_isTypist_1 : decode cX5_isTypist 1 = .ok (.ifCond .eq 8, 3) := by decide +kernel
theorem dX5_isTypist_4 : decode cX5_isTypist 4 = .ok (.iload_n 0, 1) := by decide +kernel
theorem dX5_isTypist_5 : decode cX5_isTypist 5 = .ok (.iconst 1, 1) := by decide +kernel
theorem dX5_isTypist_6 : decode cX5_isTypist 6 = .ok (.if_icmp .ne 7, 3) := by decide +kernel
theorem dX5_isTypist_9 : decode cX5_isTypist 9 = .ok (.iconst 1, 1) := by decide +kernel
theorem dX5_isTypist_10 : decode cX5_isTypist 10 = .ok (.goto 4, 3) := by decide +kernel
theorem dX5_isTypist_13 : decode cX5_isTypist 13 = .ok (.iconst 0, 1) := by decide +kernel
theorem dX5_isTypist_14 : decode cX5_isTypist 14 = .ok (.ireturn, 1) := by decide +kernel
theorem dX5_typistOf_0 : decode cX5_typistOf 0 = .ok (.iload_n 1, 1) := by decide +kernel
theorem dX5_typistOf_1 : decode cX5_typistOf 1 = .ok (.ifCond .ne 10, 3) := by decide +kernel
theorem dX5_typistOf_4 : decode cX5_typistOf 4 = .ok (.aload_n 0, 1) := by decide +kernel
theorem dX5_typistOf_5 : decode cX5_typistOf 5 = .ok (.getfield 25, 3) := by decide +kernel
theorem dX5_typistOf_8 : decode cX5_typistOf 8 = .ok (.goto 7, 3) := by decide +kernel
theorem dX5_typistOf_11 : decode cX5_typistOf 11 = .ok (.aload_n 0, 1) := by decide +kernel
theorem dX5_typistOf_12 : decode cX5_typistOf 12 = .ok (.getfield 31, 3) := by decide +kernel
theorem dX5_typistOf_15 : decode cX5_typistOf 15 = .ok (.areturn, 1) := by decide +kernel
theorem dX5_hasDispute_0 : decode cX5_hasDispute 0 = .ok (.iload_n 1, 1) := by decide +kernel
theorem dX5_hasDispute_1 : decode cX5_hasDispute 1 = .ok (.ifCond .lt 18, 3) := by decide +kernel
theorem dX5_hasDispute_4 : decode cX5_hasDispute 4 = .ok (.iload_n 1, 1) := by decide +kernel
theorem dX5_hasDispute_5 : decode cX5_hasDispute 5 = .ok (.aload_n 0, 1) := by decide +kernel
theorem dX5_hasDispute_6 : decode cX5_hasDispute 6 = .ok (.getfield 41, 3) := by decide +kernel
theorem dX5_hasDispute_9 : decode cX5_hasDispute 9 = .ok (.getfield 77, 3) := by decide +kernel
theorem dX5_hasDispute_12 : decode cX5_hasDispute 12 = .ok (.if_icmp .ge 7, 3) := by decide +kernel
theorem dX5_hasDispute_15 : decode cX5_hasDispute 15 = .ok (.iconst 1, 1) := by decide +kernel
theorem dX5_hasDispute_16 : decode cX5_hasDispute 16 = .ok (.goto 4, 3) := by decide +kernel
theorem dX5_hasDispute_19 : decode cX5_hasDispute 19 = .ok (.iconst 0, 1) := by decide +kernel
theorem dX5_hasDispute_20 : decode cX5_hasDispute 20 = .ok (.ireturn, 1) := by decide +kernel
theorem dX5_pressError_0 : decode cX5_pressError 0 = .ok (.iload_n 1, 1) := by decide +kernel
theorem dX5_pressError_1 : decode cX5_pressError 1 = .ok (.invokestatic 80, 3) := by decide +kernel
theorem dX5_pressError_4 : decode cX5_pressError 4 = .ok (.ifCond .eq 14, 3) := by decide +kernel
theorem dX5_pressError_7 : decode cX5_pressError 7 = .ok (.aload_n 0, 1) := by decide +kernel
theorem dX5_pressError_8 : decode cX5_pressError 8 = .ok (.getfield 12, 3) := by decide +kernel
theorem dX5_pressError_11 : decode cX5_pressError 11 = .ok (.iload_n 2, 1) := by decide +kernel
theorem dX5_pressError_12 : decode cX5_pressError 12 = .ok (.invokevirtual 84, 3) := by decide +kernel
theorem dX5_pressError_15 : decode cX5_pressError 15 = .ok (.ifCond .ne 5, 3) := by decide +kernel
theorem dX5_pressError_18 : decode cX5_pressError 18 = .ok (.iconst (-1), 1) := by decide +kernel
theorem dX5_pressError_19 : decode cX5_pressError 19 = .ok (.ireturn, 1) := by decide +kernel
theorem dX5_pressError_20 : decode cX5_pressError 20 = .ok (.aload_n 0, 1) := by decide +kernel
theorem dX5_pressError_21 : decode cX5_pressError 21 = .ok (.getfield 12, 3) := by decide +kernel
theorem dX5_pressError_24 : decode cX5_pressError 24 = .ok (.iload_n 2, 1) := by decide +kernel
theorem dX5_pressError_25 : decode cX5_pressError 25 = .ok (.invokevirtual 87, 3) := by decide +kernel
theorem dX5_pressError_28 : decode cX5_pressError 28 = .ok (.ifCond .eq 6, 3) := by decide +kernel
theorem dX5_pressError_31 : decode cX5_pressError 31 = .ok (.bipush (-4), 2) := by decide +kernel
theorem dX5_pressError_33 : decode cX5_pressError 33 = .ok (.ireturn, 1) := by decide +kernel
theorem dX5_pressError_34 : decode cX5_pressError 34 = .ok (.aload_n 0, 1) := by decide +kernel
theorem dX5_pressError_35 : decode cX5_pressError 35 = .ok (.getfield 12, 3) := by decide +kernel
theorem dX5_pressError_38 : decode cX5_pressError 38 = .ok (.iload_n 1, 1) := by decide +kernel
theorem dX5_pressError_39 : decode cX5_pressError 39 = .ok (.invokevirtual 90, 3) := by decide +kernel
theorem dX5_pressError_42 : decode cX5_pressError 42 = .ok (.iconst 5, 1) := by decide +kernel
theorem dX5_pressError_43 : decode cX5_pressError 43 = .ok (.if_icmp .lt 8, 3) := by decide +kernel
theorem dX5_pressError_46 : decode cX5_pressError 46 = .ok (.bipush (-3), 2) := by decide +kernel
theorem dX5_pressError_48 : decode cX5_pressError 48 = .ok (.goto 4, 3) := by decide +kernel
theorem dX5_pressError_51 : decode cX5_pressError 51 = .ok (.iconst 0, 1) := by decide +kernel
theorem dX5_pressError_52 : decode cX5_pressError 52 = .ok (.ireturn, 1) := by decide +kernel
theorem dX5_releaseError_0 : decode cX5_releaseError 0 = .ok (.iload_n 1, 1) := by decide +kernel
theorem dX5_releaseError_1 : decode cX5_releaseError 1 = .ok (.invokestatic 80, 3) := by decide +kernel
theorem dX5_releaseError_4 : decode cX5_releaseError 4 = .ok (.ifCond .eq 14, 3) := by decide +kernel
theorem dX5_releaseError_7 : decode cX5_releaseError 7 = .ok (.aload_n 0, 1) := by decide +kernel
theorem dX5_releaseError_8 : decode cX5_releaseError 8 = .ok (.getfield 12, 3) := by decide +kernel
theorem dX5_releaseError_11 : decode cX5_releaseError 11 = .ok (.iload_n 2, 1) := by decide +kernel
theorem dX5_releaseError_12 : decode cX5_releaseError 12 = .ok (.invokevirtual 84, 3) := by decide +kernel
theorem dX5_releaseError_15 : decode cX5_releaseError 15 = .ok (.ifCond .ne 5, 3) := by decide +kernel
theorem dX5_releaseError_18 : decode cX5_releaseError 18 = .ok (.iconst (-1), 1) := by decide +kernel
theorem dX5_releaseError_19 : decode cX5_releaseError 19 = .ok (.ireturn, 1) := by decide +kernel
theorem dX5_releaseError_20 : decode cX5_releaseError 20 = .ok (.aload_n 0, 1) := by decide +kernel
theorem dX5_releaseError_21 : decode cX5_releaseError 21 = .ok (.getfield 12, 3) := by decide +kernel
theorem dX5_releaseError_24 : decode cX5_releaseError 24 = .ok (.iload_n 2, 1) := by decide +kernel
theorem dX5_releaseError_25 : decode cX5_releaseError 25 = .ok (.invokevirtual 94, 3) := by decide +kernel
theorem dX5_releaseError_28 : decode cX5_releaseError 28 = .ok (.iload_n 1, 1) := by decide +kernel
theorem dX5_releaseError_29 : decode cX5_releaseError 29 = .ok (.if_icmp .ne 7, 3) := by decide +kernel
theorem dX5_releaseError_32 : decode cX5_releaseError 32 = .ok (.iconst 0, 1) := by decide +kernel
theorem dX5_releaseError_33 : decode cX5_releaseError 33 = .ok (.goto 5, 3) := by decide +kernel
theorem dX5_releaseError_36 : decode cX5_releaseError 36 = .ok (.bipush (-4), 2) := by decide +kernel
theorem dX5_releaseError_38 : decode cX5_releaseError 38 = .ok (.ireturn, 1) := by decide +kernel
theorem dX5_drivenRow_0 : decode cX5_drivenRow 0 = .ok (.aload_n 0, 1) := by decide +kernel
theorem dX5_drivenRow_1 : decode cX5_drivenRow 1 = .ok (.getfield 12, 3) := by decide +kernel
theorem dX5_drivenRow_4 : decode cX5_drivenRow 4 = .ok (.getfield 97, 3) := by decide +kernel
theorem dX5_drivenRow_7 : decode cX5_drivenRow 7 = .ok (.ifCond .le 20, 3) := by decide +kernel
theorem dX5_drivenRow_10 : decode cX5_drivenRow 10 = .ok (.aload_n 0, 1) := by decide +kernel
theorem dX5_drivenRow_11 : decode cX5_drivenRow 11 = .ok (.getfield 64, 3) := by decide +kernel
theorem dX5_drivenRow_14 : decode cX5_drivenRow 14 = .ok (.aload_n 0, 1) := by decide +kernel
theorem dX5_drivenRow_15 : decode cX5_drivenRow 15 = .ok (.getfield 12, 3) := by decide +kernel
theorem dX5_drivenRow_18 : decode cX5_drivenRow 18 = .ok (.getfield 97, 3) := by decide +kernel
theorem dX5_drivenRow_21 : decode cX5_drivenRow 21 = .ok (.invokestatic 100, 3) := by decide +kernel
theorem dX5_drivenRow_24 : decode cX5_drivenRow 24 = .ok (.goto 4, 3) := by decide +kernel
theorem dX5_drivenRow_27 : decode cX5_drivenRow 27 = .ok (.iconst 0, 1) := by decide +kernel
theorem dX5_drivenRow_28 : decode cX5_drivenRow 28 = .ok (.ireturn, 1) := by decide +kernel
theorem dX5_pass_0 : decode cX5_pass 0 = .ok (.aload_n 0, 1) := by decide +kernel
theorem dX5_pass_1 : decode cX5_pass 1 = .ok (.getfield 37, 3) := by decide +kernel
theorem dX5_pass_4 : decode cX5_pass 4 = .ok (.getfield 77, 3) := by decide +kernel
theorem dX5_pass_7 : decode cX5_pass 7 = .ok (.istore_n 2, 1) := by decide +kernel
theorem dX5_pass_8 : decode cX5_pass 8 = .ok (.iconst 0, 1) := by decide +kernel
theorem dX5_pass_9 : decode cX5_pass 9 = .ok (.istore_n 3, 1) := by decide +kernel
theorem dX5_pass_10 : decode cX5_pass 10 = .ok (.iload_n 3, 1) := by decide +kernel
theorem dX5_pass_11 : decode cX5_pass 11 = .ok (.iload_n 1, 1) := by decide +kernel
theorem dX5_pass_12 : decode cX5_pass 12 = .ok (.if_icmp .ge 134, 3) := by decide +kernel
theorem dX5_pass_15 : decode cX5_pass 15 = .ok (.aload_n 0, 1) := by decide +kernel
theorem dX5_pass_16 : decode cX5_pass 16 = .ok (.invokevirtual 106, 3) := by decide +kernel
theorem dX5_pass_19 : decode cX5_pass 19 = .ok (.istore 4, 2) := by decide +kernel
theorem dX5_pass_21 : decode cX5_pass 21 = .ok (.aload_n 0, 1) := by decide +kernel
theorem dX5_pass_22 : decode cX5_pass 22 = .ok (.getfield 12, 3) := by decide +kernel
theorem dX5_pass_25 : decode cX5_pass 25 = .ok (.getfield 110, 3) := by decide +kernel
theorem dX5_pass_28 : decode cX5_pass 28 = .ok (.iload 4, 2) := by decide +kernel
theorem dX5_pass_30 : decode cX5_pass 30 = .ok (.invokestatic 114, 3) := by decide +kernel
theorem dX5_pass_33 : decode cX5_pass 33 = .ok (.istore 5, 2) := by decide +kernel
theorem dX5_pass_35 : decode cX5_pass 35 = .ok (.aload_n 0, 1) := by decide +kernel
theorem dX5_pass_36 : decode cX5_pass 36 = .ok (.getfield 12, 3) := by decide +kernel
theorem dX5_pass_39 : decode cX5_pass 39 = .ok (.iload 4, 2) := by decide +kernel
theorem dX5_pass_41 : decode cX5_pass 41 = .ok (.iconst (-1), 1) := by decide +kernel
theorem dX5_pass_42 : decode cX5_pass 42 = .ok (.invokevirtual 120, 3) := by decide +kernel
theorem dX5_pass_45 : decode cX5_pass 45 = .ok (.istore 6, 2) := by decide +kernel
theorem dX5_pass_47 : decode cX5_pass 47 = .ok (.iconst 0, 1) := by decide +kernel
theorem dX5_pass_48 : decode cX5_pass 48 = .ok (.istore 7, 2) := by decide +kernel
theorem dX5_pass_50 : decode cX5_pass 50 = .ok (.iload 7, 2) := by decide +kernel
theorem dX5_pass_52 : decode cX5_pass 52 = .ok (.aload_n 0, 1) := by decide +kernel
theorem dX5_pass_53 : decode cX5_pass 53 = .ok (.getfield 12, 3) := by decide +kernel
theorem dX5_pass_56 : decode cX5_pass 56 = .ok (.getfield 123, 3) := by decide +kernel
theorem dX5_pass_59 : decode cX5_pass 59 = .ok (.if_icmp .ge 41, 3) := by decide +kernel
theorem dX5_pass_62 : decode cX5_pass 62 = .ok (.iload 5, 2) := by decide +kernel
theorem dX5_pass_64 : decode cX5_pass 64 = .ok (.iload 6, 2) := by decide +kernel
theorem dX5_pass_66 : decode cX5_pass 66 = .ok (.iconst (-1), 1) := by decide +kernel
theorem dX5_pass_67 : decode cX5_pass 67 = .ok (.ixor, 1) := by decide +kernel
theorem dX5_pass_68 : decode cX5_pass 68 = .ok (.iand, 1) := by decide +kernel
theorem dX5_pass_69 : decode cX5_pass 69 = .ok (.iconst 1, 1) := by decide +kernel
theorem dX5_pass_70 : decode cX5_pass 70 = .ok (.iload 7, 2) := by decide +kernel
theorem dX5_pass_72 : decode cX5_pass 72 = .ok (.ishl, 1) := by decide +kernel
theorem dX5_pass_73 : decode cX5_pass 73 = .ok (.iand, 1) := by decide +kernel
theorem dX5_pass_74 : decode cX5_pass 74 = .ok (.ifCond .eq 20, 3) := by decide +kernel
theorem dX5_pass_77 : decode cX5_pass 77 = .ok (.aload_n 0, 1) := by decide +kernel
theorem dX5_pass_78 : decode cX5_pass 78 = .ok (.iload 4, 2) := by decide +kernel
theorem dX5_pass_80 : decode cX5_pass 80 = .ok (.aload_n 0, 1) := by decide +kernel
theorem dX5_pass_81 : decode cX5_pass 81 = .ok (.getfield 12, 3) := by decide +kernel
theorem dX5_pass_84 : decode cX5_pass 84 = .ok (.getfield 123, 3) := by decide +kernel
theorem dX5_pass_87 : decode cX5_pass 87 = .ok (.imul, 1) := by decide +kernel
theorem dX5_pass_88 : decode cX5_pass 88 = .ok (.iload 7, 2) := by decide +kernel
theorem dX5_pass_90 : decode cX5_pass 90 = .ok (.iadd, 1) := by decide +kernel
theorem dX5_pass_91 : decode cX5_pass 91 = .ok (.invokevirtual 126, 3) := by decide +kernel
theorem dX5_pass_94 : decode cX5_pass 94 = .ok (.iinc 7 1, 3) := by decide +kernel
theorem dX5_pass_97 : decode cX5_pass 97 = .ok (.goto (-47), 3) := by decide +kernel
theorem dX5_pass_100 : decode cX5_pass 100 = .ok (.iload 6, 2) := by decide +kernel
theorem dX5_pass_102 : decode cX5_pass 102 = .ok (.iload 5, 2) := by decide +kernel
theorem dX5_pass_104 : decode cX5_pass 104 = .ok (.iconst (-1), 1) := by decide +kernel
theorem dX5_pass_105 : decode cX5_pass 105 = .ok (.ixor, 1) := by decide +kernel
theorem dX5_pass_106 : decode cX5_pass 106 = .ok (.iand, 1) := by decide +kernel
theorem dX5_pass_107 : decode cX5_pass 107 = .ok (.ifCond .eq 23, 3) := by decide +kernel
theorem dX5_pass_110 : decode cX5_pass 110 = .ok (.aload_n 0, 1) := by decide +kernel
theorem dX5_pass_111 : decode cX5_pass 111 = .ok (.getfield 12, 3) := by decide +kernel
theorem dX5_pass_114 : decode cX5_pass 114 = .ok (.iload 4, 2) := by decide +kernel
theorem dX5_pass_116 : decode cX5_pass 116 = .ok (.iload 6, 2) := by decide +kernel
theorem dX5_pass_118 : decode cX5_pass 118 = .ok (.iload 5, 2) := by decide +kernel
theorem dX5_pass_120 : decode cX5_pass 120 = .ok (.iconst (-1), 1) := by decide +kernel
theorem dX5_pass_121 : decode cX5_pass 121 = .ok (.ixor, 1) := by decide +kernel
theorem dX5_pass_122 : decode cX5_pass 122 = .ok (.iand, 1) := by decide +kernel
theorem dX5_pass_123 : decode cX5_pass 123 = .ok (.aload_n 0, 1) := by decide +kernel
theorem dX5_pass_124 : decode cX5_pass 124 = .ok (.getfield 64, 3) := by decide +kernel
theorem dX5_pass_127 : decode cX5_pass 127 = .ok (.invokevirtual 130, 3) := by decide +kernel
theorem dX5_pass_130 : decode cX5_pass 130 = .ok (.aload_n 0, 1) := by decide +kernel
theorem dX5_pass_131 : decode cX5_pass 131 = .ok (.dup, 1) := by decide +kernel
theorem dX5_pass_132 : decode cX5_pass 132 = .ok (.getfield 64, 3) := by decide +kernel
theorem dX5_pass_135 : decode cX5_pass 135 = .ok (.iconst 1, 1) := by decide +kernel
theorem dX5_pass_136 : decode cX5_pass 136 = .ok (.iadd, 1) := by decide +kernel
theorem dX5_pass_137 : decode cX5_pass 137 = .ok (.putfield 64, 3) := by decide +kernel
theorem dX5_pass_140 : decode cX5_pass 140 = .ok (.iinc 3 1, 3) := by decide +kernel
theorem dX5_pass_143 : decode cX5_pass 143 = .ok (.goto (-133), 3) := by decide +kernel
theorem dX5_pass_146 : decode cX5_pass 146 = .ok (.aload_n 0, 1) := by decide +kernel
theorem dX5_pass_147 : decode cX5_pass 147 = .ok (.getfield 37, 3) := by decide +kernel
theorem dX5_pass_150 : decode cX5_pass 150 = .ok (.getfield 77, 3) := by decide +kernel
theorem dX5_pass_153 : decode cX5_pass 153 = .ok (.iload_n 2, 1) := by decide +kernel
theorem dX5_pass_154 : decode cX5_pass 154 = .ok (.isub, 1) := by decide +kernel
theorem dX5_pass_155 : decode cX5_pass 155 = .ok (.ireturn, 1) := by decide +kernel
theorem dX5_fateNow_0 : decode cX5_fateNow 0 = .ok (.aload_n 0, 1) := by decide +kernel
theorem dX5_fateNow_1 : decode cX5_fateNow 1 = .ok (.getfield 12, 3) := by decide +kernel
theorem dX5_fateNow_4 : decode cX5_fateNow 4 = .ok (.iload_n 1, 1) := by decide +kernel
theorem dX5_fateNow_5 : decode cX5_fateNow 5 = .ok (.invokevirtual 134, 3) := by decide +kernel
theorem dX5_fateNow_8 : decode cX5_fateNow 8 = .ok (.istore_n 2, 1) := by decide +kernel
theorem dX5_fateNow_9 : decode cX5_fateNow 9 = .ok (.aload_n 0, 1) := by decide +kernel
theorem dX5_fateNow_10 : decode cX5_fateNow 10 = .ok (.getfield 12, 3) := by decide +kernel
theorem dX5_fateNow_13 : decode cX5_fateNow 13 = .ok (.iload_n 1, 1) := by decide +kernel
theorem dX5_fateNow_14 : decode cX5_fateNow 14 = .ok (.invokevirtual 137, 3) := by decide +kernel
theorem dX5_fateNow_17 : decode cX5_fateNow 17 = .ok (.istore_n 3, 1) := by decide +kernel
theorem dX5_fateNow_18 : decode cX5_fateNow 18 = .ok (.iload_n 3, 1) := by decide +kernel
theorem dX5_fateNow_19 : decode cX5_fateNow 19 = .ok (.iconst (-1), 1) := by decide +kernel
theorem dX5_fateNow_20 : decode cX5_fateNow 20 = .ok (.if_icmp .eq 13, 3) := by decide +kernel
theorem dX5_fateNow_23 : decode cX5_fateNow 23 = .ok (.iload_n 2, 1) := by decide +kernel
theorem dX5_fateNow_24 : decode cX5_fateNow 24 = .ok (.ifCond .eq 7, 3) := by decide +kernel
theorem dX5_fateNow_27 : decode cX5_fateNow 27 = .ok (.iconst 2, 1) := by decide +kernel
theorem dX5_fateNow_28 : decode cX5_fateNow 28 = .ok (.goto 4, 3) := by decide +kernel
theorem dX5_fateNow_31 : decode cX5_fateNow 31 = .ok (.iload_n 3, 1) := by decide +kernel
theorem dX5_fateNow_32 : decode cX5_fateNow 32 = .ok (.ireturn, 1) := by decide +kernel
theorem dX5_fateNow_33 : decode cX5_fateNow 33 = .ok (.aload_n 0, 1) := by decide +kernel
theorem dX5_fateNow_34 : decode cX5_fateNow 34 = .ok (.getfield 12, 3) := by decide +kernel
theorem dX5_fateNow_37 : decode cX5_fateNow 37 = .ok (.iload_n 1, 1) := by decide +kernel
theorem dX5_fateNow_38 : decode cX5_fateNow 38 = .ok (.invokevirtual 140, 3) := by decide +kernel
theorem dX5_fateNow_41 : decode cX5_fateNow 41 = .ok (.istore 4, 2) := by decide +kernel
theorem dX5_fateNow_43 : decode cX5_fateNow 43 = .ok (.aload_n 0, 1) := by decide +kernel
theorem dX5_fateNow_44 : decode cX5_fateNow 44 = .ok (.getfield 25, 3) := by decide +kernel
theorem dX5_fateNow_47 : decode cX5_fateNow 47 = .ok (.iload 4, 2) := by decide +kernel
theorem dX5_fateNow_49 : decode cX5_fateNow 49 = .ok (.aload_n 0, 1) := by decide +kernel
theorem dX5_fateNow_50 : decode cX5_fateNow 50 = .ok (.getfield 64, 3) := by decide +kernel
theorem dX5_fateNow_53 : decode cX5_fateNow 53 = .ok (.iload 4, 2) := by decide +kernel
theorem dX5_fateNow_55 : decode cX5_fateNow 55 = .ok (.isub, 1) := by decide +kernel
theorem dX5_fateNow_56 : decode cX5_fateNow 56 = .ok (.invokevirtual 143, 3) := by decide +kernel
theorem dX5_fateNow_59 : decode cX5_fateNow 59 = .ok (.fstore 5, 2) := by decide +kernel
theorem dX5_fateNow_61 : decode cX5_fateNow 61 = .ok (.aload_n 0, 1) := by decide +kernel
theorem dX5_fateNow_62 : decode cX5_fateNow 62 = .ok (.getfield 31, 3) := by decide +kernel
theorem dX5_fateNow_65 : decode cX5_fateNow 65 = .ok (.iload 4, 2) := by decide +kernel
theorem dX5_fateNow_67 : decode cX5_fateNow 67 = .ok (.aload_n 0, 1) := by decide +kernel
theorem dX5_fateNow_68 : decode cX5_fateNow 68 = .ok (.getfield 64, 3) := by decide +kernel
theorem dX5_fateNow_71 : decode cX5_fateNow 71 = .ok (.iload 4, 2) := by decide +kernel
theorem dX5_fateNow_73 : decode cX5_fateNow 73 = .ok (.isub, 1) := by decide +kernel
theorem dX5_fateNow_74 : decode cX5_fateNow 74 = .ok (.invokevirtual 143, 3) := by decide +kernel
theorem dX5_fateNow_77 : decode cX5_fateNow 77 = .ok (.fstore 6, 2) := by decide +kernel
theorem dX5_fateNow_79 : decode cX5_fateNow 79 = .ok (.fload 6, 2) := by decide +kernel
theorem dX5_fateNow_81 : decode cX5_fateNow 81 = .ok (.fload 5, 2) := by decide +kernel
theorem dX5_fateNow_83 : decode cX5_fateNow 83 = .ok (.fcmp .g, 1) := by decide +kernel
theorem dX5_fateNow_84 : decode cX5_fateNow 84 = .ok (.ifCond .ge 7, 3) := by decide +kernel
theorem dX5_fateNow_87 : decode cX5_fateNow 87 = .ok (.iconst 1, 1) := by decide +kernel
theorem dX5_fateNow_88 : decode cX5_fateNow 88 = .ok (.goto 4, 3) := by decide +kernel
theorem dX5_fateNow_91 : decode cX5_fateNow 91 = .ok (.iconst 0, 1) := by decide +kernel
theorem dX5_fateNow_92 : decode cX5_fateNow 92 = .ok (.istore 7, 2) := by decide +kernel
theorem dX5_fateNow_94 : decode cX5_fateNow 94 = .ok (.iload_n 2, 1) := by decide +kernel
theorem dX5_fateNow_95 : decode cX5_fateNow 95 = .ok (.ifCond .eq 37, 3) := by decide +kernel
theorem dX5_fateNow_98 : decode cX5_fateNow 98 = .ok (.iload 7, 2) := by decide +kernel
theorem dX5_fateNow_100 : decode cX5_fateNow 100 = .ok (.ifCond .ne 8, 3) := by decide +kernel
theorem dX5_fateNow_103 : decode cX5_fateNow 103 = .ok (.fload 5, 2) := by decide +kernel
theorem dX5_fateNow_105 : decode cX5_fateNow 105 = .ok (.goto 5, 3) := by decide +kernel
theorem dX5_fateNow_108 : decode cX5_fateNow 108 = .ok (.fload 6, 2) := by decide +kernel
theorem dX5_fateNow_110 : decode cX5_fateNow 110 = .ok (.fstore 8, 2) := by decide +kernel
theorem dX5_fateNow_112 : decode cX5_fateNow 112 = .ok (.fload 8, 2) := by decide +kernel
theorem dX5_fateNow_114 : decode cX5_fateNow 114 = .ok (.aload_n 0, 1) := by decide +kernel
theorem dX5_fateNow_115 : decode cX5_fateNow 115 = .ok (.getfield 47, 3) := by decide +kernel
theorem dX5_fateNow_118 : decode cX5_fateNow 118 = .ok (.getfield 147, 3) := by decide +kernel
theorem dX5_fateNow_121 : decode cX5_fateNow 121 = .ok (.fcmp .g, 1) := by decide +kernel
theorem dX5_fateNow_122 : decode cX5_fateNow 122 = .ok (.ifCond .gt 8, 3) := by decide +kernel
theorem dX5_fateNow_125 : decode cX5_fateNow 125 = .ok (.iload 7, 2) := by decide +kernel
theorem dX5_fateNow_127 : decode cX5_fateNow 127 = .ok (.goto 4, 3) := by decide +kernel
theorem dX5_fateNow_130 : decode cX5_fateNow 130 = .ok (.iconst 2, 1) := by decide +kernel
theorem dX5_fateNow_131 : decode cX5_fateNow 131 = .ok (.ireturn, 1) := by decide +kernel
theorem dX5_fateNow_132 : decode cX5_fateNow 132 = .ok (.fload 5, 2) := by decide +kernel
theorem dX5_fateNow_134 : decode cX5_fateNow 134 = .ok (.fload 6, 2) := by decide +kernel
theorem dX5_fateNow_136 : decode cX5_fateNow 136 = .ok (.fsub, 1) := by decide +kernel
theorem dX5_fateNow_137 : decode cX5_fateNow 137 = .ok (.invokestatic 151, 3) := by decide +kernel
theorem dX5_fateNow_140 : decode cX5_fateNow 140 = .ok (.aload_n 0, 1) := by decide +kernel
theorem dX5_fateNow_141 : decode cX5_fateNow 141 = .ok (.getfield 47, 3) := by decide +kernel
theorem dX5_fateNow_144 : decode cX5_fateNow 144 = .ok (.getfield 155, 3) := by decide +kernel
theorem dX5_fateNow_147 : decode cX5_fateNow 147 = .ok (.fcmp .g, 1) := by decide +kernel
theorem dX5_fateNow_148 : decode cX5_fateNow 148 = .ok (.ifCond .ge 21, 3) := by decide +kernel
theorem dX5_fateNow_151 : decode cX5_fateNow 151 = .ok (.aload_n 0, 1) := by decide +kernel
theorem dX5_fateNow_152 : decode cX5_fateNow 152 = .ok (.getfield 41, 3) := by decide +kernel
theorem dX5_fateNow_155 : decode cX5_fateNow 155 = .ok (.getfield 77, 3) := by decide +kernel
theorem dX5_fateNow_158 : decode cX5_fateNow 158 = .ok (.bipush 20, 2) := by decide +kernel
theorem dX5_fateNow_160 : decode cX5_fateNow 160 = .ok (.if_icmp .ge 7, 3) := by decide +kernel
theorem dX5_fateNow_163 : decode cX5_fateNow 163 = .ok (.iconst 3, 1) := by decide +kernel
theorem dX5_fateNow_164 : decode cX5_fateNow 164 = .ok (.goto 4, 3) := by decide +kernel
theorem dX5_fateNow_167 : decode cX5_fateNow 167 = .ok (.iconst 2, 1) := by decide +kernel
theorem dX5_fateNow_168 : decode cX5_fateNow 168 = .ok (.ireturn, 1) := by decide +kernel
theorem dX5_fateNow_169 : decode cX5_fateNow 169 = .ok (.iload 7, 2) := by decide +kernel
theorem dX5_fateNow_171 : decode cX5_fateNow 171 = .ok (.ireturn, 1) := by decide +kernel
theorem dX5_endStroke_0 : decode cX5_endStroke 0 = .ok (.aload_n 0, 1) := by decide +kernel
theorem dX5_endStroke_1 : decode cX5_endStroke 1 = .ok (.iload_n 1, 1) := by decide +kernel
theorem dX5_endStroke_2 : decode cX5_endStroke 2 = .ok (.invokevirtual 158, 3) := by decide +kernel
theorem dX5_endStroke_5 : decode cX5_endStroke 5 = .ok (.istore_n 2, 1) := by decide +kernel
theorem dX5_endStroke_6 : decode cX5_endStroke 6 = .ok (.aload_n 0, 1) := by decide +kernel
theorem dX5_endStroke_7 : decode cX5_endStroke 7 = .ok (.getfield 37, 3) := by decide +kernel
theorem dX5_endStroke_10 : decode cX5_endStroke 10 = .ok (.aload_n 0, 1) := by decide +kernel
theorem dX5_endStroke_11 : decode cX5_endStroke 11 = .ok (.getfield 12, 3) := by decide +kernel
theorem dX5_endStroke_14 : decode cX5_endStroke 14 = .ok (.iload_n 1, 1) := by decide +kernel
theorem dX5_endStroke_15 : decode cX5_endStroke 15 = .ok (.aload_n 0, 1) := by decide +kernel
theorem dX5_endStroke_16 : decode cX5_endStroke 16 = .ok (.getfield 64, 3) := by decide +kernel
theorem dX5_endStroke_19 : decode cX5_endStroke 19 = .ok (.iload_n 2, 1) := by decide +kernel
theorem dX5_endStroke_20 : decode cX5_endStroke 20 = .ok (.invokevirtual 161, 3) := by decide +kernel
theorem dX5_endStroke_23 : decode cX5_endStroke 23 = .ok (.aload_n 0, 1) := by decide +kernel
theorem dX5_endStroke_24 : decode cX5_endStroke 24 = .ok (.getfield 12, 3) := by decide +kernel
theorem dX5_endStroke_27 : decode cX5_endStroke 27 = .ok (.iload_n 1, 1) := by decide +kernel
theorem dX5_endStroke_28 : decode cX5_endStroke 28 = .ok (.invokevirtual 165, 3) := by decide +kernel
theorem dX5_endStroke_31 : decode cX5_endStroke 31 = .ok (.iload_n 2, 1) := by decide +kernel
theorem dX5_endStroke_32 : decode cX5_endStroke 32 = .ok (.iconst 3, 1) := by decide +kernel
theorem dX5_endStroke_33 : decode cX5_endStroke 33 = .ok (.if_icmp .ne 27, 3) := by decide +kernel
theorem dX5_endStroke_36 : decode cX5_endStroke 36 = .ok (.aload_n 0, 1) := by decide +kernel
theorem dX5_endStroke_37 : decode cX5_endStroke 37 = .ok (.getfield 41, 3) := by decide +kernel
theorem dX5_endStroke_40 : decode cX5_endStroke 40 = .ok (.aload_n 0, 1) := by decide +kernel
theorem dX5_endStroke_41 : decode cX5_endStroke 41 = .ok (.getfield 37, 3) := by decide +kernel
theorem dX5_endStroke_44 : decode cX5_endStroke 44 = .ok (.invokevirtual 168, 3) := by decide +kernel
theorem dX5_endStroke_47 : decode cX5_endStroke 47 = .ok (.aload_n 0, 1) := by decide +kernel
theorem dX5_endStroke_48 : decode cX5_endStroke 48 = .ok (.dup, 1) := by decide +kernel
theorem dX5_endStroke_49 : decode cX5_endStroke 49 = .ok (.getfield 74, 3) := by decide +kernel
theorem dX5_endStroke_52 : decode cX5_endStroke 52 = .ok (.iconst 1, 1) := by decide +kernel
theorem dX5_endStroke_53 : decode cX5_endStroke 53 = .ok (.iadd, 1) := by decide +kernel
theorem dX5_endStroke_54 : decode cX5_endStroke 54 = .ok (.putfield 74, 3) := by decide +kernel
theorem dX5_endStroke_57 : decode cX5_endStroke 57 = .ok (.goto 38, 3) := by decide +kernel
theorem dX5_endStroke_60 : decode cX5_endStroke 60 = .ok (.aload_n 0, 1) := by decide +kernel
theorem dX5_endStroke_61 : decode cX5_endStroke 61 = .ok (.aload_n 0, 1) := by decide +kernel
theorem dX5_endStroke_62 : decode cX5_endStroke 62 = .ok (.getfield 37, 3) := by decide +kernel
theorem dX5_endStroke_65 : decode cX5_endStroke 65 = .ok (.aload_n 0, 1) := by decide +kernel
theorem dX5_endStroke_66 : decode cX5_endStroke 66 = .ok (.getfield 37, 3) := by decide +kernel
theorem dX5_endStroke_69 : decode cX5_endStroke 69 = .ok (.getfield 77, 3) := by decide +kernel
theorem dX5_endStroke_72 : decode cX5_endStroke 72 = .ok (.iconst 1, 1) := by decide +kernel
theorem dX5_endStroke_73 : decode cX5_endStroke 73 = .ok (.isub, 1) := by decide +kernel
theorem dX5_endStroke_74 : decode cX5_endStroke 74 = .ok (.iload_n 2, 1) := by decide +kernel
theorem dX5_endStroke_75 : decode cX5_endStroke 75 = .ok (.aload_n 0, 1) := by decide +kernel
theorem dX5_endStroke_76 : decode cX5_endStroke 76 = .ok (.getfield 12, 3) := by decide +kernel
theorem dX5_endStroke_79 : decode cX5_endStroke 79 = .ok (.iload_n 1, 1) := by decide +kernel
theorem dX5_endStroke_80 : decode cX5_endStroke 80 = .ok (.invokevirtual 137, 3) := by decide +kernel
theorem dX5_endStroke_83 : decode cX5_endStroke 83 = .ok (.iconst (-1), 1) := by decide +kernel
theorem dX5_endStroke_84 : decode cX5_endStroke 84 = .ok (.if_icmp .ne 7, 3) := by decide +kernel
theorem dX5_endStroke_87 : decode cX5_endStroke 87 = .ok (.iconst 1, 1) := by decide +kernel
theorem dX5_endStroke_88 : decode cX5_endStroke 88 = .ok (.goto 4, 3) := by decide +kernel
theorem dX5_endStroke_91 : decode cX5_endStroke 91 = .ok (.iconst 0, 1) := by decide +kernel
theorem dX5_endStroke_92 : decode cX5_endStroke 92 = .ok (.invokevirtual 171, 3) := by decide +kernel
theorem dX5_endStroke_95 : decode cX5_endStroke 95 = .ok (.return_, 1) := by decide +kernel
theorem dX5_settleByHand_0 : decode cX5_settleByHand 0 = .ok (.aload_n 0, 1) := by decide +kernel
theorem dX5_settleByHand_1 : decode cX5_settleByHand 1 = .ok (.getfield 41, 3) := by decide +kernel
theorem dX5_settleByHand_4 : decode cX5_settleByHand 4 = .ok (.iload_n 1, 1) := by decide +kernel
theorem dX5_settleByHand_5 : decode cX5_settleByHand 5 = .ok (.iload_n 2, 1) := by decide +kernel
theorem dX5_settleByHand_6 : decode cX5_settleByHand 6 = .ok (.invokevirtual 175, 3) := by decide +kernel
theorem dX5_settleByHand_9 : decode cX5_settleByHand 9 = .ok (.aload_n 0, 1) := by decide +kernel
theorem dX5_settleByHand_10 : decode cX5_settleByHand 10 = .ok (.getfield 37, 3) := by decide +kernel
theorem dX5_settleByHand_13 : decode cX5_settleByHand 13 = .ok (.aload_n 0, 1) := by decide +kernel
theorem dX5_settleByHand_14 : decode cX5_settleByHand 14 = .ok (.getfield 41, 3) := by decide +kernel
theorem dX5_settleByHand_17 : decode cX5_settleByHand 17 = .ok (.iload_n 1, 1) := by decide +kernel
theorem dX5_settleByHand_18 : decode cX5_settleByHand 18 = .ok (.invokevirtual 179, 3) := by decide +kernel
theorem dX5_settleByHand_21 : decode cX5_settleByHand 21 = .ok (.iload_n 2, 1) := by decide +kernel
theorem dX5_settleByHand_22 : decode cX5_settleByHand 22 = .ok (.invokevirtual 175, 3) := by decide +kernel
theorem dX5_settleByHand_25 : decode cX5_settleByHand 25 = .ok (.aload_n 0, 1) := by decide +kernel
theorem dX5_settleByHand_26 : decode cX5_settleByHand 26 = .ok (.dup, 1) := by decide +kernel
theorem dX5_settleByHand_27 : decode cX5_settleByHand 27 = .ok (.getfield 74, 3) := by decide +kernel
theorem dX5_settleByHand_30 : decode cX5_settleByHand 30 = .ok (.iconst 1, 1) := by decide +kernel
theorem dX5_settleByHand_31 : decode cX5_settleByHand 31 = .ok (.isub, 1) := by decide +kernel
theorem dX5_settleByHand_32 : decode cX5_settleByHand 32 = .ok (.putfield 74, 3) := by decide +kernel
theorem dX5_settleByHand_35 : decode cX5_settleByHand 35 = .ok (.aload_n 0, 1) := by decide +kernel
theorem dX5_settleByHand_36 : decode cX5_settleByHand 36 = .ok (.aload_n 0, 1) := by decide +kernel
theorem dX5_settleByHand_37 : decode cX5_settleByHand 37 = .ok (.getfield 41, 3) := by decide +kernel
theorem dX5_settleByHand_40 : decode cX5_settleByHand 40 = .ok (.iload_n 1, 1) := by decide +kernel
theorem dX5_settleByHand_41 : decode cX5_settleByHand 41 = .ok (.iload_n 2, 1) := by decide +kernel
theorem dX5_settleByHand_42 : decode cX5_settleByHand 42 = .ok (.iconst 1, 1) := by decide +kernel
theorem dX5_settleByHand_43 : decode cX5_settleByHand 43 = .ok (.invokevirtual 171, 3) := by decide +kernel
theorem dX5_settleByHand_46 : decode cX5_settleByHand 46 = .ok (.return_, 1) := by decide +kernel
theorem dX5_finish_0 : decode cX5_finish 0 = .ok (.aload_n 1, 1) := by decide +kernel
theorem dX5_finish_1 : decode cX5_finish 1 = .ok (.iload_n 2, 1) := by decide +kernel
theorem dX5_finish_2 : decode cX5_finish 2 = .ok (.invokevirtual 182, 3) := by decide +kernel
theorem dX5_finish_5 : decode cX5_finish 5 = .ok (.istore 5, 2) := by decide +kernel
theorem dX5_finish_7 : decode cX5_finish 7 = .ok (.iload_n 3, 1) := by decide +kernel
theorem dX5_finish_8 : decode cX5_finish 8 = .ok (.iconst 2, 1) := by decide +kernel
theorem dX5_finish_9 : decode cX5_finish 9 = .ok (.if_icmp .ne 34, 3) := by decide +kernel
theorem dX5_finish_12 : decode cX5_finish 12 = .ok (.aload_n 0, 1) := by decide +kernel
theorem dX5_finish_13 : decode cX5_finish 13 = .ok (.dup, 1) := by decide +kernel
theorem dX5_finish_14 : decode cX5_finish 14 = .ok (.getfield 68, 3) := by decide +kernel
theorem dX5_finish_17 : decode cX5_finish 17 = .ok (.iconst 1, 1) := by decide +kernel
theorem dX5_finish_18 : decode cX5_finish 18 = .ok (.iadd, 1) := by decide +kernel
theorem dX5_finish_19 : decode cX5_finish 19 = .ok (.putfield 68, 3) := by decide +kernel
theorem dX5_finish_22 : decode cX5_finish 22 = .ok (.aload_n 0, 1) := by decide +kernel
theorem dX5_finish_23 : decode cX5_finish 23 = .ok (.dup, 1) := by decide +kernel
theorem dX5_finish_24 : decode cX5_finish 24 = .ok (.getfield 71, 3) := by decide +kernel
theorem dX5_finish_27 : decode cX5_finish 27 = .ok (.iload 5, 2) := by decide +kernel
theorem dX5_finish_29 : decode cX5_finish 29 = .ok (.iconst (-1), 1) := by decide +kernel
theorem dX5_finish_30 : decode cX5_finish 30 = .ok (.if_icmp .ne 7, 3) := by decide +kernel
theorem dX5_finish_33 : decode cX5_finish 33 = .ok (.iconst 1, 1) := by decide +kernel
theorem dX5_finish_34 : decode cX5_finish 34 = .ok (.goto 4, 3) := by decide +kernel
theorem dX5_finish_37 : decode cX5_finish 37 = .ok (.iconst 0, 1) := by decide +kernel
theorem dX5_finish_38 : decode cX5_finish 38 = .ok (.iadd, 1) := by decide +kernel
theorem dX5_finish_39 : decode cX5_finish 39 = .ok (.putfield 71, 3) := by decide +kernel
theorem dX5_finish_42 : decode cX5_finish 42 = .ok (.return_, 1) := by decide +kernel
theorem dX5_finish_43 : decode cX5_finish 43 = .ok (.aload_n 0, 1) := by decide +kernel
theorem dX5_finish_44 : decode cX5_finish 44 = .ok (.iload_n 3, 1) := by decide +kernel
theorem dX5_finish_45 : decode cX5_finish 45 = .ok (.invokevirtual 183, 3) := by decide +kernel
theorem dX5_finish_48 : decode cX5_finish 48 = .ok (.astore 6, 2) := by decide +kernel
theorem dX5_finish_50 : decode cX5_finish 50 = .ok (.aload 6, 2) := by decide +kernel
theorem dX5_finish_52 : decode cX5_finish 52 = .ok (.dup, 1) := by decide +kernel
theorem dX5_finish_53 : decode cX5_finish 53 = .ok (.getfield 187, 3) := by decide +kernel
theorem dX5_finish_56 : decode cX5_finish 56 = .ok (.iconst 1, 1) := by decide +kernel
theorem dX5_finish_57 : decode cX5_finish 57 = .ok (.iadd, 1) := by decide +kernel
theorem dX5_finish_58 : decode cX5_finish 58 = .ok (.putfield 187, 3) := by decide +kernel
theorem dX5_finish_61 : decode cX5_finish 61 = .ok (.aload 6, 2) := by decide +kernel
theorem dX5_finish_63 : decode cX5_finish 63 = .ok (.dup, 1) := by decide +kernel
theorem dX5_finish_64 : decode cX5_finish 64 = .ok (.getfield 190, 3) := by decide +kernel
theorem dX5_finish_67 : decode cX5_finish 67 = .ok (.iload 5, 2) := by decide +kernel
theorem dX5_finish_69 : decode cX5_finish 69 = .ok (.iload_n 3, 1) := by decide +kernel
theorem dX5_finish_70 : decode cX5_finish 70 = .ok (.if_icmp .ne 7, 3) := by decide +kernel
theorem dX5_finish_73 : decode cX5_finish 73 = .ok (.iconst 1, 1) := by decide +kernel
theorem dX5_finish_74 : decode cX5_finish 74 = .ok (.goto 4, 3) := by decide +kernel
theorem dX5_finish_77 : decode cX5_finish 77 = .ok (.iconst 0, 1) := by decide +kernel
theorem dX5_finish_78 : decode cX5_finish 78 = .ok (.iadd, 1) := by decide +kernel
theorem dX5_finish_79 : decode cX5_finish 79 = .ok (.putfield 190, 3) := by decide +kernel
theorem dX5_finish_82 : decode cX5_finish 82 = .ok (.iload 4, 2) := by decide +kernel
theorem dX5_finish_84 : decode cX5_finish 84 = .ok (.ifCond .eq 25, 3) := by decide +kernel
theorem dX5_finish_87 : decode cX5_finish 87 = .ok (.aload 6, 2) := by decide +kernel
theorem dX5_finish_89 : decode cX5_finish 89 = .ok (.aload_n 1, 1) := by decide +kernel
theorem dX5_finish_90 : decode cX5_finish 90 = .ok (.iload_n 2, 1) := by decide +kernel
theorem dX5_finish_91 : decode cX5_finish 91 = .ok (.invokevirtual 193, 3) := by decide +kernel
theorem dX5_finish_94 : decode cX5_finish 94 = .ok (.aload_n 1, 1) := by decide +kernel
theorem dX5_finish_95 : decode cX5_finish 95 = .ok (.iload_n 2, 1) := by decide +kernel
theorem dX5_finish_96 : decode cX5_finish 96 = .ok (.invokevirtual 194, 3) := by decide +kernel
theorem dX5_finish_99 : decode cX5_finish 99 = .ok (.aload_n 0, 1) := by decide +kernel
theorem dX5_finish_100 : decode cX5_finish 100 = .ok (.getfield 47, 3) := by decide +kernel
theorem dX5_finish_103 : decode cX5_finish 103 = .ok (.getfield 197, 3) := by decide +kernel
theorem dX5_finish_106 : decode cX5_finish 106 = .ok (.invokevirtual 200, 3) := by decide +kernel
theorem dX5_finish_109 : decode cX5_finish 109 = .ok (.aload_n 0, 1) := by decide +kernel
theorem dX5_finish_110 : decode cX5_finish 110 = .ok (.getfield 12, 3) := by decide +kernel
theorem dX5_finish_113 : decode cX5_finish 113 = .ok (.aload_n 1, 1) := by decide +kernel
theorem dX5_finish_114 : decode cX5_finish 114 = .ok (.iload_n 2, 1) := by decide +kernel
theorem dX5_finish_115 : decode cX5_finish 115 = .ok (.invokevirtual 204, 3) := by decide +kernel
theorem dX5_finish_118 : decode cX5_finish 118 = .ok (.invokevirtual 207, 3) := by decide +kernel
theorem dX5_finish_121 : decode cX5_finish 121 = .ok (.istore 7, 2) := by decide +kernel
theorem dX5_finish_123 : decode cX5_finish 123 = .ok (.iload 7, 2) := by decide +kernel
theorem dX5_finish_125 : decode cX5_finish 125 = .ok (.bipush 46, 2) := by decide +kernel
theorem dX5_finish_127 : decode cX5_finish 127 = .ok (.if_icmp .eq 58, 3) := by decide +kernel
theorem dX5_finish_130 : decode cX5_finish 130 = .ok (.aload 6, 2) := by decide +kernel
theorem dX5_finish_132 : decode cX5_finish 132 = .ok (.getfield 210, 3) := by decide +kernel
theorem dX5_finish_135 : decode cX5_finish 135 = .ok (.ifCond .eq 7, 3) := by decide +kernel
theorem dX5_finish_138 : decode cX5_finish 138 = .ok (.iconst 3, 1) := by decide +kernel
theorem dX5_finish_139 : decode cX5_finish 139 = .ok (.goto 6, 3) := by decide +kernel
theorem dX5_finish_142 : decode cX5_finish 142 = .ok (.iconst 1, 1) := by decide +kernel
theorem dX5_finish_143 : decode cX5_finish 143 = .ok (.iload_n 3, 1) := by decide +kernel
theorem dX5_finish_144 : decode cX5_finish 144 = .ok (.ishl, 1) := by decide +kernel
theorem dX5_finish_145 : decode cX5_finish 145 = .ok (.istore 8, 2) := by decide +kernel
theorem dX5_finish_147 : decode cX5_finish 147 = .ok (.aload_n 1, 1) := by decide +kernel
theorem dX5_finish_148 : decode cX5_finish 148 = .ok (.iload_n 2, 1) := by decide +kernel
theorem dX5_finish_149 : decode cX5_finish 149 = .ok (.invokevirtual 214, 3) := by decide +kernel
theorem dX5_finish_152 : decode cX5_finish 152 = .ok (.iload 8, 2) := by decide +kernel
theorem dX5_finish_154 : decode cX5_finish 154 = .ok (.iand, 1) := by decide +kernel
theorem dX5_finish_155 : decode cX5_finish 155 = .ok (.ifCond .eq 7, 3) := by decide +kernel
theorem dX5_finish_158 : decode cX5_finish 158 = .ok (.iconst 1, 1) := by decide +kernel
theorem dX5_finish_159 : decode cX5_finish 159 = .ok (.goto 4, 3) := by decide +kernel
theorem dX5_finish_162 : decode cX5_finish 162 = .ok (.iconst 0, 1) := by decide +kernel
theorem dX5_finish_163 : decode cX5_finish 163 = .ok (.istore 9, 2) := by decide +kernel
theorem dX5_finish_165 : decode cX5_finish 165 = .ok (.aload 6, 2) := by decide +kernel
theorem dX5_finish_167 : decode cX5_finish 167 = .ok (.iload 9, 2) := by decide +kernel
theorem dX5_finish_169 : decode cX5_finish 169 = .ok (.ifCond .eq 11, 3) := by decide +kernel
theorem dX5_finish_172 : decode cX5_finish 172 = .ok (.iload 7, 2) := by decide +kernel
theorem dX5_finish_174 : decode cX5_finish 174 = .ok (.bipush 32, 2) := by decide +kernel
theorem dX5_finish_176 : decode cX5_finish 176 = .ok (.isub, 1) := by decide +kernel
theorem dX5_finish_177 : decode cX5_finish 177 = .ok (.goto 5, 3) := by decide +kernel
theorem dX5_finish_180 : decode cX5_finish 180 = .ok (.iload 7, 2) := by decide +kernel
theorem dX5_finish_182 : decode cX5_finish 182 = .ok (.invokevirtual 217, 3) := by decide +kernel
theorem dX5_finish_185 : decode cX5_finish 185 = .ok (.return_, 1) := by decide +kernel
theorem dX6_init_0 : decode cX6_init 0 = .ok (.aload_n 0, 1) := by decide +kernel
theorem dX6_init_1 : decode cX6_init 1 = .ok (.invokespecial 3, 3) := by decide +kernel
theorem dX6_init_4 : decode cX6_init 4 = .ok (.aload_n 0, 1) := by decide +kernel
theorem dX6_init_5 : decode cX6_init 5 = .ok (.bipush 20, 2) := by decide +kernel
theorem dX6_init_7 : decode cX6_init 7 = .ok (.newarray .int, 2) := by decide +kernel
theorem dX6_init_9 : decode cX6_init 9 = .ok (.putfield 11, 3) := by decide +kernel
theorem dX6_init_12 : decode cX6_init 12 = .ok (.aload_n 0, 1) := by decide +kernel
theorem dX6_init_13 : decode cX6_init 13 = .ok (.bipush 20, 2) := by decide +kernel
theorem dX6_init_15 : decode cX6_init 15 = .ok (.newarray .int, 2) := by decide +kernel
theorem dX6_init_17 : decode cX6_init 17 = .ok (.putfield 15, 3) := by decide +kernel
theorem dX6_init_20 : decode cX6_init 20 = .ok (.aload_n 0, 1) := by decide +kernel
theorem dX6_init_21 : decode cX6_init 21 = .ok (.bipush 20, 2) := by decide +kernel
theorem dX6_init_23 : decode cX6_init 23 = .ok (.newarray .int, 2) := by decide +kernel
theorem dX6_init_25 : decode cX6_init 25 = .ok (.putfield 18, 3) := by decide +kernel
theorem dX6_init_28 : decode cX6_init 28 = .ok (.aload_n 0, 1) := by decide +kernel
theorem dX6_init_29 : decode cX6_init 29 = .ok (.bipush 20, 2) := by decide +kernel
theorem dX6_init_31 : decode cX6_init 31 = .ok (.newarray .int, 2) := by decide +kernel
theorem dX6_init_33 : decode cX6_init 33 = .ok (.putfield 21, 3) := by decide +kernel
theorem dX6_init_36 : decode cX6_init 36 = .ok (.aload_n 0, 1) := by decide +kernel
theorem dX6_init_37 : decode cX6_init 37 = .ok (.bipush 20, 2) := by decide +kernel
theorem dX6_init_39 : decode cX6_init 39 = .ok (.newarray .int, 2) := by decide +kernel
theorem dX6_init_41 : decode cX6_init 41 = .ok (.putfield 24, 3) := by decide +kernel
theorem dX6_init_44 : decode cX6_init 44 = .ok (.aload_n 0, 1) := by decide +kernel
theorem dX6_init_45 : decode cX6_init 45 = .ok (.bipush 20, 2) := by decide +kernel
theorem dX6_init_47 : decode cX6_init 47 = .ok (.newarray .int, 2) := by decide +kernel
theorem dX6_init_49 : decode cX6_init 49 = .ok (.putfield 27, 3) := by decide +kernel
theorem dX6_init_52 : decode cX6_init 52 = .ok (.aload_n 0, 1) := by decide +kernel
theorem dX6_init_53 : decode cX6_init 53 = .ok (.bipush 20, 2) := by decide +kernel
theorem dX6_init_55 : decode cX6_init 55 = .ok (.newarray .int, 2) := by decide +kernel
theorem dX6_init_57 : decode cX6_init 57 = .ok (.putfield 30, 3) := by decide +kernel
theorem dX6_init_60 : decode cX6_init 60 = .ok (.return_, 1) := by decide +kernel
theorem dX6_copyFrom_0 : decode cX6_copyFrom 0 = .ok (.aload_n 0, 1) := by decide +kernel
theorem dX6_copyFrom_1 : decode cX6_copyFrom 1 = .ok (.aload_n 1, 1) := by decide +kernel
theorem dX6_copyFrom_2 : decode cX6_copyFrom 2 = .ok (.getfield 33, 3) := by decide +kernel
theorem dX6_copyFrom_5 : decode cX6_copyFrom 5 = .ok (.putfield 33, 3) := by decide +kernel
theorem dX6_copyFrom_8 : decode cX6_copyFrom 8 = .ok (.aload_n 1, 1) := by decide +kernel
theorem dX6_copyFrom_9 : decode cX6_copyFrom 9 = .ok (.getfield 11, 3) := by decide +kernel
theorem dX6_copyFrom_12 : decode cX6_copyFrom 12 = .ok (.aload_n 0, 1) := by decide +kernel
theorem dX6_copyFrom_13 : decode cX6_copyFrom 13 = .ok (.getfield 11, 3) := by decide +kernel
theorem dX6_copyFrom_16 : decode cX6_copyFrom 16 = .ok (.invokestatic 37, 3) := by decide +kernel
theorem dX6_copyFrom_19 : decode cX6_copyFrom 19 = .ok (.aload_n 1, 1) := by decide +kernel
theorem dX6_copyFrom_20 : decode cX6_copyFrom 20 = .ok (.getfield 15, 3) := by decide +kernel
theorem dX6_copyFrom_23 : decode cX6_copyFrom 23 = .ok (.aload_n 0, 1) := by decide +kernel
theorem dX6_copyFrom_24 : decode cX6_copyFrom 24 = .ok (.getfield 15, 3) := by decide +kernel
theorem dX6_copyFrom_27 : decode cX6_copyFrom 27 = .ok (.invokestatic 37, 3) := by decide +kernel
theorem dX6_copyFrom_30 : decode cX6_copyFrom 30 = .ok (.aload_n 1, 1) := by decide +kernel
theorem dX6_copyFrom_31 : decode cX6_copyFrom 31 = .ok (.getfield 18, 3) := by decide +kernel
theorem dX6_copyFrom_34 : decode cX6_copyFrom 34 = .ok (.aload_n 0, 1) := by decide +kernel
theorem dX6_copyFrom_35 : decode cX6_copyFrom 35 = .ok (.getfield 18, 3) := by decide +kernel
theorem dX6_copyFrom_38 : decode cX6_copyFrom 38 = .ok (.invokestatic 37, 3) := by decide +kernel
theorem dX6_copyFrom_41 : decode cX6_copyFrom 41 = .ok (.aload_n 1, 1) := by decide +kernel
theorem dX6_copyFrom_42 : decode cX6_copyFrom 42 = .ok (.getfield 21, 3) := by decide +kernel
theorem dX6_copyFrom_45 : decode cX6_copyFrom 45 = .ok (.aload_n 0, 1) := by decide +kernel
theorem dX6_copyFrom_46 : decode cX6_copyFrom 46 = .ok (.getfield 21, 3) := by decide +kernel
theorem dX6_copyFrom_49 : decode cX6_copyFrom 49 = .ok (.invokestatic 37, 3) := by decide +kernel
theorem dX6_copyFrom_52 : decode cX6_copyFrom 52 = .ok (.aload_n 1, 1) := by decide +kernel
theorem dX6_copyFrom_53 : decode cX6_copyFrom 53 = .ok (.getfield 24, 3) := by decide +kernel
theorem dX6_copyFrom_56 : decode cX6_copyFrom 56 = .ok (.aload_n 0, 1) := by decide +kernel
theorem dX6_copyFrom_57 : decode cX6_copyFrom 57 = .ok (.getfield 24, 3) := by decide +kernel
theorem dX6_copyFrom_60 : decode cX6_copyFrom 60 = .ok (.invokestatic 37, 3) := by decide +kernel
theorem dX6_copyFrom_63 : decode cX6_copyFrom 63 = .ok (.aload_n 1, 1) := by decide +kernel
theorem dX6_copyFrom_64 : decode cX6_copyFrom 64 = .ok (.getfield 27, 3) := by decide +kernel
theorem dX6_copyFrom_67 : decode cX6_copyFrom 67 = .ok (.aload_n 0, 1) := by decide +kernel
theorem dX6_copyFrom_68 : decode cX6_copyFrom 68 = .ok (.getfield 27, 3) := by decide +kernel
theorem dX6_copyFrom_71 : decode cX6_copyFrom 71 = .ok (.invokestatic 37, 3) := by decide +kernel
theorem dX6_copyFrom_74 : decode cX6_copyFrom 74 = .ok (.aload_n 1, 1) := by decide +kernel
theorem dX6_copyFrom_75 : decode cX6_copyFrom 75 = .ok (.getfield 30, 3) := by decide +kernel
theorem dX6_copyFrom_78 : decode cX6_copyFrom 78 = .ok (.aload_n 0, 1) := by decide +kernel
theorem dX6_copyFrom_79 : decode cX6_copyFrom 79 = .ok (.getfield 30, 3) := by decide +kernel
theorem dX6_copyFrom_82 : decode cX6_copyFrom 82 = .ok (.invokestatic 37, 3) := by decide +kernel
theorem dX6_copyFrom_85 : decode cX6_copyFrom 85 = .ok (.return_, 1) := by decide +kernel
theorem dX6_slot_0 : decode cX6_slot 0 = .ok (.iload_n 0, 1) := by decide +kernel
theorem dX6_slot_1 : decode cX6_slot 1 = .ok (.ifCond .ge 7, 3) := by decide +kernel
theorem dX6_slot_4 : decode cX6_slot 4 = .ok (.iconst 0, 1) := by decide +kernel
theorem dX6_slot_5 : decode cX6_slot 5 = .ok (.goto 7, 3) := by decide +kernel
theorem dX6_slot_8 : decode cX6_slot 8 = .ok (.iload_n 0, 1) := by decide +kernel
theorem dX6_slot_9 : decode cX6_slot 9 = .ok (.bipush 20, 2) := by decide +kernel
theorem dX6_slot_11 : decode cX6_slot 11 = .ok (.irem, 1) := by decide +kernel
theorem dX6_slot_12 : decode cX6_slot 12 = .ok (.ireturn, 1) := by decide +kernel
theorem dX6_holds_0 : decode cX6_holds 0 = .ok (.iload_n 1, 1) := by decide +kernel
theorem dX6_holds_1 : decode cX6_holds 1 = .ok (.ifCond .lt 26, 3) := by decide +kernel
theorem dX6_holds_4 : decode cX6_holds 4 = .ok (.iload_n 1, 1) := by decide +kernel
theorem dX6_holds_5 : decode cX6_holds 5 = .ok (.aload_n 0, 1) := by decide +kernel
theorem dX6_holds_6 : decode cX6_holds 6 = .ok (.getfield 33, 3) := by decide +kernel
theorem dX6_holds_9 : decode cX6_holds 9 = .ok (.if_icmp .ge 18, 3) := by decide +kernel
theorem dX6_holds_12 : decode cX6_holds 12 = .ok (.iload_n 1, 1) := by decide +kernel
theorem dX6_holds_13 : decode cX6_holds 13 = .ok (.aload_n 0, 1) := by decide +kernel
theorem dX6_holds_14 : decode cX6_holds 14 = .ok (.getfield 33, 3) := by decide +kernel
theorem dX6_holds_17 : decode cX6_holds 17 = .ok (.bipush 20, 2) := by decide +kernel
theorem dX6_holds_19 : decode cX6_holds 19 = .ok (.isub, 1) := by decide +kernel
theorem dX6_holds_20 : decode cX6_holds 20 = .ok (.if_icmp .lt 7, 3) := by decide +kernel
theorem dX6_holds_23 : decode cX6_holds 23 = .ok (.iconst 1, 1) := by decide +kernel
theorem dX6_holds_24 : decode cX6_holds 24 = .ok (.goto 4, 3) := by decide +kernel
theorem dX6_holds_27 : decode cX6_holds 27 = .ok (.iconst 0, 1) := by decide +kernel
theorem dX6_holds_28 : decode cX6_holds 28 = .ok (.ireturn, 1) := by decide +kernel
theorem dX6_addFrom_0 : decode cX6_addFrom 0 = .ok (.aload_n 0, 1) := by decide +kernel
theorem dX6_addFrom_1 : decode cX6_addFrom 1 = .ok (.getfield 33, 3) := by decide +kernel
theorem dX6_addFrom_4 : decode cX6_addFrom 4 = .ok (.invokestatic 43, 3) := by decide +kernel
theorem dX6_addFrom_7 : decode cX6_addFrom 7 = .ok (.istore 5, 2) := by decide +kernel
theorem dX6_addFrom_9 : decode cX6_addFrom 9 = .ok (.aload_n 0, 1) := by decide +kernel
theorem dX6_addFrom_10 : decode cX6_addFrom 10 = .ok (.getfield 11, 3) := by decide +kernel
theorem dX6_addFrom_13 : decode cX6_addFrom 13 = .ok (.iload 5, 2) := by decide +kernel
theorem dX6_addFrom_15 : decode cX6_addFrom 15 = .ok (.iload_n 2, 1) := by decide +kernel
theorem dX6_addFrom_16 : decode cX6_addFrom 16 = .ok (.invokestatic 47, 3) := by decide +kernel
theorem dX6_addFrom_19 : decode cX6_addFrom 19 = .ok (.aload_n 0, 1) := by decide +kernel
theorem dX6_addFrom_20 : decode cX6_addFrom 20 = .ok (.getfield 15, 3) := by decide +kernel
theorem dX6_addFrom_23 : decode cX6_addFrom 23 = .ok (.iload 5, 2) := by decide +kernel
theorem dX6_addFrom_25 : decode cX6_addFrom 25 = .ok (.aload_n 1, 1) := by decide +kernel
theorem dX6_addFrom_26 : decode cX6_addFrom 26 = .ok (.iload_n 2, 1) := by decide +kernel
theorem dX6_addFrom_27 : decode cX6_addFrom 27 = .ok (.invokevirtual 51, 3) := by decide +kernel
theorem dX6_addFrom_30 : decode cX6_addFrom 30 = .ok (.invokestatic 47, 3) := by decide +kernel
theorem dX6_addFrom_33 : decode cX6_addFrom 33 = .ok (.aload_n 0, 1) := by decide +kernel
theorem dX6_addFrom_34 : decode cX6_addFrom 34 = .ok (.getfield 18, 3) := by decide +kernel
theorem dX6_addFrom_37 : decode cX6_addFrom 37 = .ok (.iload 5, 2) := by decide +kernel
theorem dX6_addFrom_39 : decode cX6_addFrom 39 = .ok (.iload_n 3, 1) := by decide +kernel
theorem dX6_addFrom_40 : decode cX6_addFrom 40 = .ok (.aload_n 1, 1) := by decide +kernel
theorem dX6_addFrom_41 : decode cX6_addFrom 41 = .ok (.iload_n 2, 1) := by decide +kernel
theorem dX6_addFrom_42 : decode cX6_addFrom 42 = .ok (.invokevirtual 51, 3) := by decide +kernel
theorem dX6_addFrom_45 : decode cX6_addFrom 45 = .ok (.isub, 1) := by decide +kernel
theorem dX6_addFrom_46 : decode cX6_addFrom 46 = .ok (.invokestatic 47, 3) := by decide +kernel
theorem dX6_addFrom_49 : decode cX6_addFrom 49 = .ok (.aload_n 0, 1) := by decide +kernel
theorem dX6_addFrom_50 : decode cX6_addFrom 50 = .ok (.getfield 21, 3) := by decide +kernel
theorem dX6_addFrom_53 : decode cX6_addFrom 53 = .ok (.iload 5, 2) := by decide +kernel
theorem dX6_addFrom_55 : decode cX6_addFrom 55 = .ok (.iload 4, 2) := by decide +kernel
theorem dX6_addFrom_57 : decode cX6_addFrom 57 = .ok (.invokestatic 47, 3) := by decide +kernel
theorem dX6_addFrom_60 : decode cX6_addFrom 60 = .ok (.aload_n 0, 1) := by decide +kernel
theorem dX6_addFrom_61 : decode cX6_addFrom 61 = .ok (.getfield 24, 3) := by decide +kernel
theorem dX6_addFrom_64 : decode cX6_addFrom 64 = .ok (.iload 5, 2) := by decide +kernel
theorem dX6_addFrom_66 : decode cX6_addFrom 66 = .ok (.aload_n 1, 1) := by decide +kernel
theorem dX6_addFrom_67 : decode cX6_addFrom 67 = .ok (.iload_n 2, 1) := by decide +kernel
theorem dX6_addFrom_68 : decode cX6_addFrom 68 = .ok (.invokevirtual 56, 3) := by decide +kernel
theorem dX6_addFrom_71 : decode cX6_addFrom 71 = .ok (.invokestatic 47, 3) := by decide +kernel
theorem dX6_addFrom_74 : decode cX6_addFrom 74 = .ok (.aload_n 0, 1) := by decide +kernel
theorem dX6_addFrom_75 : decode cX6_addFrom 75 = .ok (.getfield 27, 3) := by decide +kernel
theorem dX6_addFrom_78 : decode cX6_addFrom 78 = .ok (.iload 5, 2) := by decide +kernel
theorem dX6_addFrom_80 : decode cX6_addFrom 80 = .ok (.aload_n 1, 1) := by decide +kernel
theorem dX6_addFrom_81 : decode cX6_addFrom 81 = .ok (.iload_n 2, 1) := by decide +kernel
theorem dX6_addFrom_82 : decode cX6_addFrom 82 = .ok (.invokevirtual 59, 3) := by decide +kernel
theorem dX6_addFrom_85 : decode cX6_addFrom 85 = .ok (.invokestatic 47, 3) := by decide +kernel
theorem dX6_addFrom_88 : decode cX6_addFrom 88 = .ok (.aload_n 0, 1) := by decide +kernel
theorem dX6_addFrom_89 : decode cX6_addFrom 89 = .ok (.dup, 1) := by decide +kernel
theorem dX6_addFrom_90 : decode cX6_addFrom 90 = .ok (.getfield 33, 3) := by decide +kernel
theorem dX6_addFrom_93 : decode cX6_addFrom 93 = .ok (.iconst 1, 1) := by decide +kernel
theorem dX6_addFrom_94 : decode cX6_addFrom 94 = .ok (.iadd, 1) := by decide +kernel
theorem dX6_addFrom_95 : decode cX6_addFrom 95 = .ok (.putfield 33, 3) := by decide +kernel
theorem dX6_addFrom_98 : decode cX6_addFrom 98 = .ok (.return_, 1) := by decide +kernel
theorem dX6_addLatestOf_0 : decode cX6_addLatestOf 0 = .ok (.aload_n 0, 1) := by decide +kernel
theorem dX6_addLatestOf_1 : decode cX6_addLatestOf 1 = .ok (.getfield 33, 3) := by decide +kernel
theorem dX6_addLatestOf_4 : decode cX6_addLatestOf 4 = .ok (.invokestatic 43, 3) := by decide +kernel
theorem dX6_addLatestOf_7 : decode cX6_addLatestOf 7 = .ok (.istore_n 2, 1) := by decide +kernel
theorem dX6_addLatestOf_8 : decode cX6_addLatestOf 8 = .ok (.aload_n 1, 1) := by decide +kernel
theorem dX6_addLatestOf_9 : decode cX6_addLatestOf 9 = .ok (.getfield 33, 3) := by decide +kernel
theorem dX6_addLatestOf_12 : decode cX6_addLatestOf 12 = .ok (.iconst 1, 1) := by decide +kernel
theorem dX6_addLatestOf_13 : decode cX6_addLatestOf 13 = .ok (.isub, 1) := by decide +kernel
theorem dX6_addLatestOf_14 : decode cX6_addLatestOf 14 = .ok (.istore_n 3, 1) := by decide +kernel
theorem dX6_addLatestOf_15 : decode cX6_addLatestOf 15 = .ok (.aload_n 0, 1) := by decide +kernel
theorem dX6_addLatestOf_16 : decode cX6_addLatestOf 16 = .ok (.getfield 11, 3) := by decide +kernel
theorem dX6_addLatestOf_19 : decode cX6_addLatestOf 19 = .ok (.iload_n 2, 1) := by decide +kernel
theorem dX6_addLatestOf_20 : decode cX6_addLatestOf 20 = .ok (.aload_n 1, 1) := by decide +kernel
theorem dX6_addLatestOf_21 : decode cX6_addLatestOf 21 = .ok (.iload_n 3, 1) := by decide +kernel
theorem dX6_addLatestOf_22 : decode cX6_addLatestOf 22 = .ok (.invokevirtual 62, 3) := by decide +kernel
theorem dX6_addLatestOf_25 : decode cX6_addLatestOf 25 = .ok (.invokestatic 47, 3) := by decide +kernel
theorem dX6_addLatestOf_28 : decode cX6_addLatestOf 28 = .ok (.aload_n 0, 1) := by decide +kernel
theorem dX6_addLatestOf_29 : decode cX6_addLatestOf 29 = .ok (.getfield 15, 3) := by decide +kernel
theorem dX6_addLatestOf_32 : decode cX6_addLatestOf 32 = .ok (.iload_n 2, 1) := by decide +kernel
theorem dX6_addLatestOf_33 : decode cX6_addLatestOf 33 = .ok (.aload_n 1, 1) := by decide +kernel
theorem dX6_addLatestOf_34 : decode cX6_addLatestOf 34 = .ok (.iload_n 3, 1) := by decide +kernel
theorem dX6_addLatestOf_35 : decode cX6_addLatestOf 35 = .ok (.invokevirtual 65, 3) := by decide +kernel
theorem dX6_addLatestOf_38 : decode cX6_addLatestOf 38 = .ok (.invokestatic 47, 3) := by decide +kernel
theorem dX6_addLatestOf_41 : decode cX6_addLatestOf 41 = .ok (.aload_n 0, 1) := by decide +kernel
theorem dX6_addLatestOf_42 : decode cX6_addLatestOf 42 = .ok (.getfield 18, 3) := by decide +kernel
theorem dX6_addLatestOf_45 : decode cX6_addLatestOf 45 = .ok (.iload_n 2, 1) := by decide +kernel
theorem dX6_addLatestOf_46 : decode cX6_addLatestOf 46 = .ok (.aload_n 1, 1) := by decide +kernel
theorem dX6_addLatestOf_47 : decode cX6_addLatestOf 47 = .ok (.iload_n 3, 1) := by decide +kernel
theorem dX6_addLatestOf_48 : decode cX6_addLatestOf 48 = .ok (.invokevirtual 66, 3) := by decide +kernel
theorem dX6_addLatestOf_51 : decode cX6_addLatestOf 51 = .ok (.invokestatic 47, 3) := by decide +kernel
theorem dX6_addLatestOf_54 : decode cX6_addLatestOf 54 = .ok (.aload_n 0, 1) := by decide +kernel
theorem dX6_addLatestOf_55 : decode cX6_addLatestOf 55 = .ok (.getfield 21, 3) := by decide +kernel
theorem dX6_addLatestOf_58 : decode cX6_addLatestOf 58 = .ok (.iload_n 2, 1) := by decide +kernel
theorem dX6_addLatestOf_59 : decode cX6_addLatestOf 59 = .ok (.aload_n 1, 1) := by decide +kernel
theorem dX6_addLatestOf_60 : decode cX6_addLatestOf 60 = .ok (.iload_n 3, 1) := by decide +kernel
theorem dX6_addLatestOf_61 : decode cX6_addLatestOf 61 = .ok (.invokevirtual 69, 3) := by decide +kernel
theorem dX6_addLatestOf_64 : decode cX6_addLatestOf 64 = .ok (.invokestatic 47, 3) := by decide +kernel
theorem dX6_addLatestOf_67 : decode cX6_addLatestOf 67 = .ok (.aload_n 0, 1) := by decide +kernel
theorem dX6_addLatestOf_68 : decode cX6_addLatestOf 68 = .ok (.getfield 24, 3) := by decide +kernel
theorem dX6_addLatestOf_71 : decode cX6_addLatestOf 71 = .ok (.iload_n 2, 1) := by decide +kernel
theorem dX6_addLatestOf_72 : decode cX6_addLatestOf 72 = .ok (.aload_n 1, 1) := by decide +kernel
theorem dX6_addLatestOf_73 : decode cX6_addLatestOf 73 = .ok (.iload_n 3, 1) := by decide +kernel
theorem dX6_addLatestOf_74 : decode cX6_addLatestOf 74 = .ok (.invokevirtual 72, 3) := by decide +kernel
theorem dX6_addLatestOf_77 : decode cX6_addLatestOf 77 = .ok (.invokestatic 47, 3) := by decide +kernel
theorem dX6_addLatestOf_80 : decode cX6_addLatestOf 80 = .ok (.aload_n 0, 1) := by decide +kernel
theorem dX6_addLatestOf_81 : decode cX6_addLatestOf 81 = .ok (.getfield 27, 3) := by decide +kernel
theorem dX6_addLatestOf_84 : decode cX6_addLatestOf 84 = .ok (.iload_n 2, 1) := by decide +kernel
theorem dX6_addLatestOf_85 : decode cX6_addLatestOf 85 = .ok (.aload_n 1, 1) := by decide +kernel
theorem dX6_addLatestOf_86 : decode cX6_addLatestOf 86 = .ok (.iload_n 3, 1) := by decide +kernel
theorem dX6_addLatestOf_87 : decode cX6_addLatestOf 87 = .ok (.invokevirtual 75, 3) := by decide +kernel
theorem dX6_addLatestOf_90 : decode cX6_addLatestOf 90 = .ok (.invokestatic 47, 3) := by decide +kernel
theorem dX6_addLatestOf_93 : decode cX6_addLatestOf 93 = .ok (.aload_n 0, 1) := by decide +kernel
theorem dX6_addLatestOf_94 : decode cX6_addLatestOf 94 = .ok (.getfield 30, 3) := by decide +kernel
theorem dX6_addLatestOf_97 : decode cX6_addLatestOf 97 = .ok (.iload_n 2, 1) := by decide +kernel
theorem dX6_addLatestOf_98 : decode cX6_addLatestOf 98 = .ok (.iload_n 3, 1) := by decide +kernel
theorem dX6_addLatestOf_99 : decode cX6_addLatestOf 99 = .ok (.invokestatic 47, 3) := by decide +kernel
theorem dX6_addLatestOf_102 : decode cX6_addLatestOf 102 = .ok (.aload_n 0, 1) := by decide +kernel
theorem dX6_addLatestOf_103 : decode cX6_addLatestOf 103 = .ok (.dup, 1) := by decide +kernel
theorem dX6_addLatestOf_104 : decode cX6_addLatestOf 104 = .ok (.getfield 33, 3) := by decide +kernel
theorem dX6_addLatestOf_107 : decode cX6_addLatestOf 107 = .ok (.iconst 1, 1) := by decide +kernel
theorem dX6_addLatestOf_108 : decode cX6_addLatestOf 108 = .ok (.iadd, 1) := by decide +kernel
theorem dX6_addLatestOf_109 : decode cX6_addLatestOf 109 = .ok (.putfield 33, 3) := by decide +kernel
theorem dX6_addLatestOf_112 : decode cX6_addLatestOf 112 = .ok (.return_, 1) := by decide +kernel
theorem dX6_keyOf_0 : decode cX6_keyOf 0 = .ok (.aload_n 0, 1) := by decide +kernel
theorem dX6_keyOf_1 : decode cX6_keyOf 1 = .ok (.getfield 11, 3) := by decide +kernel
theorem dX6_keyOf_4 : decode cX6_keyOf 4 = .ok (.iload_n 1, 1) := by decide +kernel
theorem dX6_keyOf_5 : decode cX6_keyOf 5 = .ok (.invokestatic 43, 3) := by decide +kernel
theorem dX6_keyOf_8 : decode cX6_keyOf 8 = .ok (.invokestatic 78, 3) := by decide +kernel
theorem dX6_keyOf_11 : decode cX6_keyOf 11 = .ok (.ireturn, 1) := by decide +kernel
theorem dX6_sinceOf_0 : decode cX6_sinceOf 0 = .ok (.aload_n 0, 1) := by decide +kernel
theorem dX6_sinceOf_1 : decode cX6_sinceOf 1 = .ok (.getfield 15, 3) := by decide +kernel
theorem dX6_sinceOf_4 : decode cX6_sinceOf 4 = .ok (.iload_n 1, 1) := by decide +kernel
theorem dX6_sinceOf_5 : decode cX6_sinceOf 5 = .ok (.invokestatic 43, 3) := by decide +kernel
theorem dX6_sinceOf_8 : decode cX6_sinceOf 8 = .ok (.invokestatic 78, 3) := by decide +kernel
theorem dX6_sinceOf_11 : decode cX6_sinceOf 11 = .ok (.ireturn, 1) := by decide +kernel
theorem dX6_dwellOf_0 : decode cX6_dwellOf 0 = .ok (.aload_n 0, 1) := by decide +kernel
theorem dX6_dwellOf_1 : decode cX6_dwellOf 1 = .ok (.getfield 18, 3) := by decide +kernel
theorem dX6_dwellOf_4 : decode cX6_dwellOf 4 = .ok (.iload_n 1, 1) := by decide +kernel
theorem dX6_dwellOf_5 : decode cX6_dwellOf 5 = .ok (.invokestatic 43, 3) := by decide +kernel
theorem dX6_dwellOf_8 : decode cX6_dwellOf 8 = .ok (.invokestatic 78, 3) := by decide +kernel
theorem dX6_dwellOf_11 : decode cX6_dwellOf 11 = .ok (.ireturn, 1) := by decide +kernel
theorem dX6_fateOf_0 : decode cX6_fateOf 0 = .ok (.aload_n 0, 1) := by decide +kernel
theorem dX6_fateOf_1 : decode cX6_fateOf 1 = .ok (.getfield 21, 3) := by decide +kernel
theorem dX6_fateOf_4 : decode cX6_fateOf 4 = .ok (.iload_n 1, 1) := by decide +kernel
theorem dX6_fateOf_5 : decode cX6_fateOf 5 = .ok (.invokestatic 43, 3) := by decide +kernel
theorem dX6_fateOf_8 : decode cX6_fateOf 8 = .ok (.invokestatic 78, 3) := by decide +kernel
theorem dX6_fateOf_11 : decode cX6_fateOf 11 = .ok (.ireturn, 1) := by decide +kernel
theorem dX6_holderOf_0 : decode cX6_holderOf 0 = .ok (.aload_n 0, 1) := by decide +kernel
theorem dX6_holderOf_1 : decode cX6_holderOf 1 = .ok (.getfield 24, 3) := by decide +kernel
theorem dX6_holderOf_4 : decode cX6_holderOf 4 = .ok (.iload_n 1, 1) := by decide +kernel
theorem dX6_holderOf_5 : decode cX6_holderOf 5 = .ok (.invokestatic 43, 3) := by decide +kernel
theorem dX6_holderOf_8 : decode cX6_holderOf 8 = .ok (.invokestatic 78, 3) := by decide +kernel
theorem dX6_holderOf_11 : decode cX6_holderOf 11 = .ok (.ireturn, 1) := by decide +kernel
theorem dX6_notedOf_0 : decode cX6_notedOf 0 = .ok (.aload_n 0, 1) := by decide +kernel
theorem dX6_notedOf_1 : decode cX6_notedOf 1 = .ok (.getfield 27, 3) := by decide +kernel
theorem dX6_notedOf_4 : decode cX6_notedOf 4 = .ok (.iload_n 1, 1) := by decide +kernel
theorem dX6_notedOf_5 : decode cX6_notedOf 5 = .ok (.invokestatic 43, 3) := by decide +kernel
theorem dX6_notedOf_8 : decode cX6_notedOf 8 = .ok (.invokestatic 78, 3) := by decide +kernel
theorem dX6_notedOf_11 : decode cX6_notedOf 11 = .ok (.ireturn, 1) := by decide +kernel
theorem dX6_originOf_0 : decode cX6_originOf 0 = .ok (.aload_n 0, 1) := by decide +kernel
theorem dX6_originOf_1 : decode cX6_originOf 1 = .ok (.getfield 30, 3) := by decide +kernel
theorem dX6_originOf_4 : decode cX6_originOf 4 = .ok (.iload_n 1, 1) := by decide +kernel
theorem dX6_originOf_5 : decode cX6_originOf 5 = .ok (.invokestatic 43, 3) := by decide +kernel
theorem dX6_originOf_8 : decode cX6_originOf 8 = .ok (.invokestatic 78, 3) := by decide +kernel
theorem dX6_originOf_11 : decode cX6_originOf 11 = .ok (.ireturn, 1) := by decide +kernel
theorem dX6_changeFate_0 : decode cX6_changeFate 0 = .ok (.aload_n 0, 1) := by decide +kernel
theorem dX6_changeFate_1 : decode cX6_changeFate 1 = .ok (.iload_n 1, 1) := by decide +kernel
theorem dX6_changeFate_2 : decode cX6_changeFate 2 = .ok (.invokevirtual 82, 3) := by decide +kernel
theorem dX6_changeFate_5 : decode cX6_changeFate 5 = .ok (.ifCond .eq 15, 3) := by decide +kernel
theorem dX6_changeFate_8 : decode cX6_changeFate 8 = .ok (.aload_n 0, 1) := by decide +kernel
theorem dX6_changeFate_9 : decode cX6_changeFate 9 = .ok (.getfield 21, 3) := by decide +kernel
theorem dX6_changeFate_12 : decode cX6_changeFate 12 = .ok (.iload_n 1, 1) := by decide +kernel
theorem dX6_changeFate_13 : decode cX6_changeFate 13 = .ok (.invokestatic 43, 3) := by decide +kernel
theorem dX6_changeFate_16 : decode cX6_changeFate 16 = .ok (.iload_n 2, 1) := by decide +kernel
theorem dX6_changeFate_17 : decode cX6_changeFate 17 = .ok (.invokestatic 47, 3) := by decide +kernel
theorem dX6_changeFate_20 : decode cX6_changeFate 20 = .ok (.return_, 1) := by decide +kernel
theorem dX7_init_0 : decode cX7_init 0 = .ok (.aload_n 0, 1) := by decide +kernel
theorem dX7_init_1 : decode cX7_init 1 = .ok (.invokespecial 3, 3) := by decide +kernel
theorem dX7_init_4 : decode cX7_init 4 = .ok (.aload_n 0, 1) := by decide +kernel
theorem dX7_init_5 : decode cX7_init 5 = .ok (.iconst (-1), 1) := by decide +kernel
theorem dX7_init_6 : decode cX7_init 6 = .ok (.putfield 9, 3) := by decide +kernel
theorem dX7_init_9 : decode cX7_init 9 = .ok (.aload_n 0, 1) := by decide +kernel
theorem dX7_init_10 : decode cX7_init 10 = .ok (.bipush 24, 2) := by decide +kernel
theorem dX7_init_12 : decode cX7_init 12 = .ok (.newarray .int, 2) := by decide +kernel
theorem dX7_init_14 : decode cX7_init 14 = .ok (.putfield 15, 3) := by decide +kernel
theorem dX7_init_17 : decode cX7_init 17 = .ok (.aload_n 0, 1) := by decide +kernel
theorem dX7_init_18 : decode cX7_init 18 = .ok (.fload_n 1, 1) := by decide +kernel
theorem dX7_init_19 : decode cX7_init 19 = .ok (.putfield 19, 3) := by decide +kernel
theorem dX7_init_22 : decode cX7_init 22 = .ok (.aload_n 0, 1) := by decide +kernel
theorem dX7_init_23 : decode cX7_init 23 = .ok (.fload_n 2, 1) := by decide +kernel
theorem dX7_init_24 : decode cX7_init 24 = .ok (.putfield 23, 3) := by decide +kernel
theorem dX7_init_27 : decode cX7_init 27 = .ok (.return_, 1) := by decide +kernel
theorem dX7_copyFrom_0 : decode cX7_copyFrom 0 = .ok (.aload_n 0, 1) := by decide +kernel
theorem dX7_copyFrom_1 : decode cX7_copyFrom 1 = .ok (.aload_n 1, 1) := by decide +kernel
theorem dX7_copyFrom_2 : decode cX7_copyFrom 2 = .ok (.getfield 19, 3) := by decide +kernel
theorem dX7_copyFrom_5 : decode cX7_copyFrom 5 = .ok (.putfield 19, 3) := by decide +kernel
theorem dX7_copyFrom_8 : decode cX7_copyFrom 8 = .ok (.aload_n 0, 1) := by decide +kernel
theorem dX7_copyFrom_9 : decode cX7_copyFrom 9 = .ok (.aload_n 1, 1) := by decide +kernel
theorem dX7_copyFrom_10 : decode cX7_copyFrom 10 = .ok (.getfield 23, 3) := by decide +kernel
theorem dX7_copyFrom_13 : decode cX7_copyFrom 13 = .ok (.putfield 23, 3) := by decide +kernel
theorem dX7_copyFrom_16 : decode cX7_copyFrom 16 = .ok (.aload_n 0, 1) := by decide +kernel
theorem dX7_copyFrom_17 : decode cX7_copyFrom 17 = .ok (.aload_n 1, 1) := by decide +kernel
theorem dX7_copyFrom_18 : decode cX7_copyFrom 18 = .ok (.getfield 9, 3) := by decide +kernel
theorem dX7_copyFrom_21 : decode cX7_copyFrom 21 = .ok (.putfield 9, 3) := by decide +kernel
theorem dX7_copyFrom_24 : decode cX7_copyFrom 24 = .ok (.aload_n 0, 1) := by decide +kernel
theorem dX7_copyFrom_25 : decode cX7_copyFrom 25 = .ok (.aload_n 1, 1) := by decide +kernel
theorem dX7_copyFrom_26 : decode cX7_copyFrom 26 = .ok (.getfield 26, 3) := by decide +kernel
theorem dX7_copyFrom_29 : decode cX7_copyFrom 29 = .ok (.putfield 26, 3) := by decide +kernel
theorem dX7_copyFrom_32 : decode cX7_copyFrom 32 = .ok (.aload_n 0, 1) := by decide +kernel
theorem dX7_copyFrom_33 : decode cX7_copyFrom 33 = .ok (.aload_n 1, 1) := by decide +kernel
theorem dX7_copyFrom_34 : decode cX7_copyFrom 34 = .ok (.getfield 30, 3) := by decide +kernel
theorem dX7_copyFrom_37 : decode cX7_copyFrom 37 = .ok (.putfield 30, 3) := by decide +kernel
theorem dX7_copyFrom_40 : decode cX7_copyFrom 40 = .ok (.aload_n 0, 1) := by decide +kernel
theorem dX7_copyFrom_41 : decode cX7_copyFrom 41 = .ok (.aload_n 1, 1) := by decide +kernel
theorem dX7_copyFrom_42 : decode cX7_copyFrom 42 = .ok (.getfield 33, 3) := by decide +kernel
theorem dX7_copyFrom_45 : decode cX7_copyFrom 45 = .ok (.putfield 33, 3) := by decide +kernel
theorem dX7_copyFrom_48 : decode cX7_copyFrom 48 = .ok (.aload_n 0, 1) := by decide +kernel
theorem dX7_copyFrom_49 : decode cX7_copyFrom 49 = .ok (.aload_n 1, 1) := by decide +kernel
theorem dX7_copyFrom_50 : decode cX7_copyFrom 50 = .ok (.getfield 36, 3) := by decide +kernel
theorem dX7_copyFrom_53 : decode cX7_copyFrom 53 = .ok (.putfield 36, 3) := by decide +kernel
theorem dX7_copyFrom_56 : decode cX7_copyFrom 56 = .ok (.aload_n 1, 1) := by decide +kernel
theorem dX7_copyFrom_57 : decode cX7_copyFrom 57 = .ok (.getfield 15, 3) := by decide +kernel
theorem dX7_copyFrom_60 : decode cX7_copyFrom 60 = .ok (.aload_n 0, 1) := by decide +kernel
theorem dX7_copyFrom_61 : decode cX7_copyFrom 61 = .ok (.getfield 15, 3) := by decide +kernel
theorem dX7_copyFrom_64 : decode cX7_copyFrom 64 = .ok (.invokestatic 39, 3) := by decide +kernel
theorem dX7_copyFrom_67 : decode cX7_copyFrom 67 = .ok (.return_, 1) := by decide +kernel
theorem dX7_distanceOf_0 : decode cX7_distanceOf 0 = .ok (.iload_n 2, 1) := by decide +kernel
theorem dX7_distanceOf_1 : decode cX7_distanceOf 1 = .ok (.i2f, 1) := by decide +kernel
theorem dX7_distanceOf_2 : decode cX7_distanceOf 2 = .ok (.aload_n 0, 1) := by decide +kernel
theorem dX7_distanceOf_3 : decode cX7_distanceOf 3 = .ok (.getfield 19, 3) := by decide +kernel
theorem dX7_distanceOf_6 : decode cX7_distanceOf 6 = .ok (.fsub, 1) := by decide +kernel
theorem dX7_distanceOf_7 : decode cX7_distanceOf 7 = .ok (.invokestatic 45, 3) := by decide +kernel
theorem dX7_distanceOf_10 : decode cX7_distanceOf 10 = .ok (.aload_n 0, 1) := by decide +kernel
theorem dX7_distanceOf_11 : decode cX7_distanceOf 11 = .ok (.getfield 19, 3) := by decide +kernel
theorem dX7_distanceOf_14 : decode cX7_distanceOf 14 = .ok (.fdiv, 1) := by decide +kernel
theorem dX7_distanceOf_15 : decode cX7_distanceOf 15 = .ok (.fstore_n 3, 1) := by decide +kernel
theorem dX7_distanceOf_16 : decode cX7_distanceOf 16 = .ok (.aload_n 0, 1) := by decide +kernel
theorem dX7_distanceOf_17 : decode cX7_distanceOf 17 = .ok (.getfield 9, 3) := by decide +kernel
theorem dX7_distanceOf_20 : decode cX7_distanceOf 20 = .ok (.iconst (-1), 1) := by decide +kernel
theorem dX7_distanceOf_21 : decode cX7_distanceOf 21 = .ok (.if_icmp .ne 5, 3) := by decide +kernel
theorem dX7_distanceOf_24 : decode cX7_distanceOf 24 = .ok (.fload_n 3, 1) := by decide +kernel
theorem dX7_distanceOf_25 : decode cX7_distanceOf 25 = .ok (.freturn, 1) := by decide +kernel
theorem dX7_distanceOf_26 : decode cX7_distanceOf 26 = .ok (.fload_n 3, 1) := by decide +kernel
theorem dX7_distanceOf_27 : decode cX7_distanceOf 27 = .ok (.iload_n 1, 1) := by decide +kernel
theorem dX7_distanceOf_28 : decode cX7_distanceOf 28 = .ok (.aload_n 0, 1) := by decide +kernel
theorem dX7_distanceOf_29 : decode cX7_distanceOf 29 = .ok (.getfield 9, 3) := by decide +kernel
theorem dX7_distanceOf_32 : decode cX7_distanceOf 32 = .ok (.isub, 1) := by decide +kernel
theorem dX7_distanceOf_33 : decode cX7_distanceOf 33 = .ok (.invokestatic 49, 3) := by decide +kernel
theorem dX7_distanceOf_36 : decode cX7_distanceOf 36 = .ok (.i2f, 1) := by decide +kernel
theorem dX7_distanceOf_37 : decode cX7_distanceOf 37 = .ok (.aload_n 0, 1) := by decide +kernel
theorem dX7_distanceOf_38 : decode cX7_distanceOf 38 = .ok (.getfield 23, 3) := by decide +kernel
theorem dX7_distanceOf_41 : decode cX7_distanceOf 41 = .ok (.fsub, 1) := by decide +kernel
theorem dX7_distanceOf_42 : decode cX7_distanceOf 42 = .ok (.invokestatic 45, 3) := by decide +kernel
theorem dX7_distanceOf_45 : decode cX7_distanceOf 45 = .ok (.aload_n 0, 1) := by decide +kernel
theorem dX7_distanceOf_46 : decode cX7_distanceOf 46 = .ok (.getfield 23, 3) := by decide +kernel
theorem dX7_distanceOf_49 : decode cX7_distanceOf 49 = .ok (.fdiv, 1) := by decide +kernel
theorem dX7_distanceOf_50 : decode cX7_distanceOf 50 = .ok (.ldc 55, 2) := by decide +kernel
theorem dX7_distanceOf_52 : decode cX7_distanceOf 52 = .ok (.fmul, 1) := by decide +kernel
theorem dX7_distanceOf_53 : decode cX7_distanceOf 53 = .ok (.fadd, 1) := by decide +kernel
theorem dX7_distanceOf_54 : decode cX7_distanceOf 54 = .ok (.freturn, 1) := by decide +kernel
theorem dX7_learn_0 : decode cX7_learn 0 = .ok (.aload_n 0, 1) := by decide +kernel
theorem dX7_learn_1 : decode cX7_learn 1 = .ok (.aload_n 0, 1) := by decide +kernel
theorem dX7_learn_2 : decode cX7_learn 2 = .ok (.getfield 19, 3) := by decide +kernel
theorem dX7_learn_5 : decode cX7_learn 5 = .ok (.iload_n 2, 1) := by decide +kernel
theorem dX7_learn_6 : decode cX7_learn 6 = .ok (.i2f, 1) := by decide +kernel
theorem dX7_learn_7 : decode cX7_learn 7 = .ok (.aload_n 0, 1) := by decide +kernel
theorem dX7_learn_8 : decode cX7_learn 8 = .ok (.getfield 19, 3) := by decide +kernel
theorem dX7_learn_11 : decode cX7_learn 11 = .ok (.fsub, 1) := by decide +kernel
theorem dX7_learn_12 : decode cX7_learn 12 = .ok (.fload_n 3, 1) := by decide +kernel
theorem dX7_learn_13 : decode cX7_learn 13 = .ok (.fmul, 1) := by decide +kernel
theorem dX7_learn_14 : decode cX7_learn 14 = .ok (.fadd, 1) := by decide +kernel
theorem dX7_learn_15 : decode cX7_learn 15 = .ok (.invokestatic 56, 3) := by decide +kernel
theorem dX7_learn_18 : decode cX7_learn 18 = .ok (.putfield 19, 3) := by decide +kernel
theorem dX7_learn_21 : decode cX7_learn 21 = .ok (.aload_n 0, 1) := by decide +kernel
theorem dX7_learn_22 : decode cX7_learn 22 = .ok (.getfield 9, 3) := by decide +kernel
theorem dX7_learn_25 : decode cX7_learn 25 = .ok (.iconst (-1), 1) := by decide +kernel
theorem dX7_learn_26 : decode cX7_learn 26 = .ok (.if_icmp .eq 32, 3) := by decide +kernel
theorem dX7_learn_29 : decode cX7_learn 29 = .ok (.aload_n 0, 1) := by decide +kernel
theorem dX7_learn_30 : decode cX7_learn 30 = .ok (.aload_n 0, 1) := by decide +kernel
theorem dX7_learn_31 : decode cX7_learn 31 = .ok (.getfield 23, 3) := by decide +kernel
theorem dX7_learn_34 : decode cX7_learn 34 = .ok (.iload_n 1, 1) := by decide +kernel
theorem dX7_learn_35 : decode cX7_learn 35 = .ok (.aload_n 0, 1) := by decide +kernel
theorem dX7_learn_36 : decode cX7_learn 36 = .ok (.getfield 9, 3) := by decide +kernel
theorem dX7_learn_39 : decode cX7_learn 39 = .ok (.isub, 1) := by decide +kernel
theorem dX7_learn_40 : decode cX7_learn 40 = .ok (.invokestatic 49, 3) := by decide +kernel
theorem dX7_learn_43 : decode cX7_learn 43 = .ok (.i2f, 1) := by decide +kernel
theorem dX7_learn_44 : decode cX7_learn 44 = .ok (.aload_n 0, 1) := by decide +kernel
theorem dX7_learn_45 : decode cX7_learn 45 = .ok (.getfield 23, 3) := by decide +kernel
theorem dX7_learn_48 : decode cX7_learn 48 = .ok (.fsub, 1) := by decide +kernel
theorem dX7_learn_49 : decode cX7_learn 49 = .ok (.fload_n 3, 1) := by decide +kernel
theorem dX7_learn_50 : decode cX7_learn 50 = .ok (.fmul, 1) := by decide +kernel
theorem dX7_learn_51 : decode cX7_learn 51 = .ok (.fadd, 1) := by decide +kernel
theorem dX7_learn_52 : decode cX7_learn 52 = .ok (.invokestatic 56, 3) := by decide +kernel
theorem dX7_learn_55 : decode cX7_learn 55 = .ok (.putfield 23, 3) := by decide +kernel
theorem dX7_learn_58 : decode cX7_learn 58 = .ok (.aload_n 0, 1) := by decide +kernel
theorem dX7_learn_59 : decode cX7_learn 59 = .ok (.iload_n 1, 1) := by decide +kernel
theorem dX7_learn_60 : decode cX7_learn 60 = .ok (.putfield 9, 3) := by decide +kernel
theorem dX7_learn_63 : decode cX7_learn 63 = .ok (.return_, 1) := by decide +kernel
theorem dX7_unsigned_0 : decode cX7_unsigned 0 = .ok (.fload_n 0, 1) := by decide +kernel
theorem dX7_unsigned_1 : decode cX7_unsigned 1 = .ok (.fconst 0, 1) := by decide +kernel
theorem dX7_unsigned_2 : decode cX7_unsigned 2 = .ok (.fcmp .g, 1) := by decide +kernel
theorem dX7_unsigned_3 : decode cX7_unsigned 3 = .ok (.ifCond .ge 8, 3) := by decide +kernel
theorem dX7_unsigned_6 : decode cX7_unsigned 6 = .ok (.fload_n 0, 1) := by decide +kernel
theorem dX7_unsigned_7 : decode cX7_unsigned 7 = .ok (.fneg, 1) := by decide +kernel
theorem dX7_unsigned_8 : decode cX7_unsigned 8 = .ok (.goto 4, 3) := by decide +kernel
theorem dX7_unsigned_11 : decode cX7_unsigned 11 = .ok (.fload_n 0, 1) := by decide +kernel
theorem dX7_unsigned_12 : decode cX7_unsigned 12 = .ok (.freturn, 1) := by decide +kernel
theorem dX7_atLeastHalf_0 : decode cX7_atLeastHalf 0 = .ok (.fload_n 0, 1) := by decide +kernel
theorem dX7_atLeastHalf_1 : decode cX7_atLeastHalf 1 = .ok (.ldc 55, 2) := by decide +kernel
theorem dX7_atLeastHalf_3 : decode cX7_atLeastHalf 3 = .ok (.fcmp .g, 1) := by decide +kernel
theorem dX7_atLeastHalf_4 : decode cX7_atLeastHalf 4 = .ok (.ifCond .ge 8, 3) := by decide +kernel
theorem dX7_atLeastHalf_7 : decode cX7_atLeastHalf 7 = .ok (.ldc 55, 2) := by decide +kernel
theorem dX7_atLeastHalf_9 : decode cX7_atLeastHalf 9 = .ok (.goto 4, 3) := by decide +kernel
theorem dX7_atLeastHalf_12 : decode cX7_atLeastHalf 12 = .ok (.fload_n 0, 1) := by decide +kernel
theorem dX7_atLeastHalf_13 : decode cX7_atLeastHalf 13 = .ok (.freturn, 1) := by decide +kernel
theorem dX7_addSign_0 : decode cX7_addSign 0 = .ok (.aload_n 0, 1) := by decide +kernel
theorem dX7_addSign_1 : decode cX7_addSign 1 = .ok (.getfield 15, 3) := by decide +kernel
theorem dX7_addSign_4 : decode cX7_addSign 4 = .ok (.aload_n 0, 1) := by decide +kernel
theorem dX7_addSign_5 : decode cX7_addSign 5 = .ok (.getfield 36, 3) := by decide +kernel
theorem dX7_addSign_8 : decode cX7_addSign 8 = .ok (.bipush 24, 2) := by decide +kernel
theorem dX7_addSign_10 : decode cX7_addSign 10 = .ok (.invokestatic 59, 3) := by decide +kernel
theorem dX7_addSign_13 : decode cX7_addSign 13 = .ok (.iload_n 1, 1) := by decide +kernel
theorem dX7_addSign_14 : decode cX7_addSign 14 = .ok (.invokestatic 63, 3) := by decide +kernel
theorem dX7_addSign_17 : decode cX7_addSign 17 = .ok (.aload_n 0, 1) := by decide +kernel
theorem dX7_addSign_18 : decode cX7_addSign 18 = .ok (.dup, 1) := by decide +kernel
theorem dX7_addSign_19 : decode cX7_addSign 19 = .ok (.getfield 36, 3) := by decide +kernel
theorem dX7_addSign_22 : decode cX7_addSign 22 = .ok (.iconst 1, 1) := by decide +kernel
theorem dX7_addSign_23 : decode cX7_addSign 23 = .ok (.iadd, 1) := by decide +kernel
theorem dX7_addSign_24 : decode cX7_addSign 24 = .ok (.putfield 36, 3) := by decide +kernel
theorem dX7_addSign_27 : decode cX7_addSign 27 = .ok (.return_, 1) := by decide +kernel
theorem dX7_signBack_0 : decode cX7_signBack 0 = .ok (.aload_n 0, 1) := by decide +kernel
theorem dX7_signBack_1 : decode cX7_signBack 1 = .ok (.getfield 15, 3) := by decide +kernel
theorem dX7_signBack_4 : decode cX7_signBack 4 = .ok (.aload_n 0, 1) := by decide +kernel
theorem dX7_signBack_5 : decode cX7_signBack 5 = .ok (.getfield 36, 3) := by decide +kernel
theorem dX7_signBack_8 : decode cX7_signBack 8 = .ok (.iconst 1, 1) := by decide +kernel
theorem dX7_signBack_9 : decode cX7_signBack 9 = .ok (.isub, 1) := by decide +kernel
theorem dX7_signBack_10 : decode cX7_signBack 10 = .ok (.iload_n 1, 1) := by decide +kernel
theorem dX7_signBack_11 : decode cX7_signBack 11 = .ok (.isub, 1) := by decide +kernel
theorem dX7_signBack_12 : decode cX7_signBack 12 = .ok (.bipush 24, 2) := by decide +kernel
theorem dX7_signBack_14 : decode cX7_signBack 14 = .ok (.invokestatic 59, 3) := by decide +kernel
theorem dX7_signBack_17 : decode cX7_signBack 17 = .ok (.invokestatic 67, 3) := by decide +kernel
theorem dX7_signBack_20 : decode cX7_signBack 20 = .ok (.ireturn, 1) := by decide +kernel

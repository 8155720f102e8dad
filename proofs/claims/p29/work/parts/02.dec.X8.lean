theorem dX8_init_0 : decode cX8_init 0 = .ok (.aload_n 0, 1) := by decide +kernel
theorem dX8_init_1 : decode cX8_init 1 = .ok (.invokespecial 3, 3) := by decide +kernel
theorem dX8_init_4 : decode cX8_init 4 = .ok (.aload_n 0, 1) := by decide +kernel
theorem dX8_init_5 : decode cX8_init 5 = .ok (.new 9, 3) := by decide +kernel
theorem dX8_init_8 : decode cX8_init 8 = .ok (.dup, 1) := by decide +kernel
theorem dX8_init_9 : decode cX8_init 9 = .ok (.invokespecial 11, 3) := by decide +kernel
theorem dX8_init_12 : decode cX8_init 12 = .ok (.putfield 12, 3) := by decide +kernel
theorem dX8_init_15 : decode cX8_init 15 = .ok (.aload_n 0, 1) := by decide +kernel
theorem dX8_init_16 : decode cX8_init 16 = .ok (.new 9, 3) := by decide +kernel
theorem dX8_init_19 : decode cX8_init 19 = .ok (.dup, 1) := by decide +kernel
theorem dX8_init_20 : decode cX8_init 20 = .ok (.invokespecial 11, 3) := by decide +kernel
theorem dX8_init_23 : decode cX8_init 23 = .ok (.putfield 16, 3) := by decide +kernel
theorem dX8_init_26 : decode cX8_init 26 = .ok (.aload_n 0, 1) := by decide +kernel
theorem dX8_init_27 : decode cX8_init 27 = .ok (.new 9, 3) := by decide +kernel
theorem dX8_init_30 : decode cX8_init 30 = .ok (.dup, 1) := by decide +kernel
theorem dX8_init_31 : decode cX8_init 31 = .ok (.invokespecial 11, 3) := by decide +kernel
theorem dX8_init_34 : decode cX8_init 34 = .ok (.putfield 19, 3) := by decide +kernel
theorem dX8_init_37 : decode cX8_init 37 = .ok (.aload_n 0, 1) := by decide +kernel
theorem dX8_init_38 : decode cX8_init 38 = .ok (.new 22, 3) := by decide +kernel
theorem dX8_init_41 : decode cX8_init 41 = .ok (.dup, 1) := by decide +kernel
theorem dX8_init_42 : decode cX8_init 42 = .ok (.invokespecial 24, 3) := by decide +kernel
theorem dX8_init_45 : decode cX8_init 45 = .ok (.putfield 25, 3) := by decide +kernel
theorem dX8_init_48 : decode cX8_init 48 = .ok (.aload_n 0, 1) := by decide +kernel
theorem dX8_init_49 : decode cX8_init 49 = .ok (.new 29, 3) := by decide +kernel
theorem dX8_init_52 : decode cX8_init 52 = .ok (.dup, 1) := by decide +kernel
theorem dX8_init_53 : decode cX8_init 53 = .ok (.invokespecial 31, 3) := by decide +kernel
theorem dX8_init_56 : decode cX8_init 56 = .ok (.putfield 32, 3) := by decide +kernel
theorem dX8_init_59 : decode cX8_init 59 = .ok (.aload_n 0, 1) := by decide +kernel
theorem dX8_init_60 : decode cX8_init 60 = .ok (.iconst 0, 1) := by decide +kernel
theorem dX8_init_61 : decode cX8_init 61 = .ok (.putfield 36, 3) := by decide +kernel
theorem dX8_init_64 : decode cX8_init 64 = .ok (.return_, 1) := by decide +kernel
theorem dX8_build_0 : decode cX8_build 0 = .ok (.iload_n 1, 1) := by decide +kernel
theorem dX8_build_1 : decode cX8_build 1 = .ok (.iconst 2, 1) := by decide +kernel
theorem dX8_build_2 : decode cX8_build 2 = .ok (.if_icmp .lt 20, 3) := by decide +kernel
theorem dX8_build_5 : decode cX8_build 5 = .ok (.iload_n 1, 1) := by decide +kernel
theorem dX8_build_6 : decode cX8_build 6 = .ok (.bipush 6, 2) := by decide +kernel
theorem dX8_build_8 : decode cX8_build 8 = .ok (.if_icmp .gt 14, 3) := by decide +kernel
theorem dX8_build_11 : decode cX8_build 11 = .ok (.iload_n 2, 1) := by decide +kernel
theorem dX8_build_12 : decode cX8_build 12 = .ok (.iconst 2, 1) := by decide +kernel
theorem dX8_build_13 : decode cX8_build 13 = .ok (.if_icmp .lt 9, 3) := by decide +kernel
theorem dX8_build_16 : decode cX8_build 16 = .ok (.iload_n 2, 1) := by decide +kernel
theorem dX8_build_17 : decode cX8_build 17 = .ok (.bipush 8, 2) := by decide +kernel
theorem dX8_build_19 : decode cX8_build 19 = .ok (.if_icmp .le 6, 3) := by decide +kernel
theorem dX8_build_22 : decode cX8_build 22 = .ok (.bipush (-2), 2) := by decide +kernel
theorem dX8_build_24 : decode cX8_build 24 = .ok (.ireturn, 1) := by decide +kernel
theorem dX8_build_25 : decode cX8_build 25 = .ok (.aload_n 0, 1) := by decide +kernel
theorem dX8_build_26 : decode cX8_build 26 = .ok (.getfield 12, 3) := by decide +kernel
theorem dX8_build_29 : decode cX8_build 29 = .ok (.getfield 40, 3) := by decide +kernel
theorem dX8_build_32 : decode cX8_build 32 = .ok (.astore_n 3, 1) := by decide +kernel
theorem dX8_build_33 : decode cX8_build 33 = .ok (.aload_n 3, 1) := by decide +kernel
theorem dX8_build_34 : decode cX8_build 34 = .ok (.invokevirtual 44, 3) := by decide +kernel
theorem dX8_build_37 : decode cX8_build 37 = .ok (.ifCond .gt 10, 3) := by decide +kernel
theorem dX8_build_40 : decode cX8_build 40 = .ok (.aload_n 3, 1) := by decide +kernel
theorem dX8_build_41 : decode cX8_build 41 = .ok (.invokevirtual 50, 3) := by decide +kernel
theorem dX8_build_44 : decode cX8_build 44 = .ok (.ifCond .le 6, 3) := by decide +kernel
theorem dX8_build_47 : decode cX8_build 47 = .ok (.bipush (-4), 2) := by decide +kernel
theorem dX8_build_49 : decode cX8_build 49 = .ok (.ireturn, 1) := by decide +kernel
theorem dX8_build_50 : decode cX8_build 50 = .ok (.aload_n 3, 1) := by decide +kernel
theorem dX8_build_51 : decode cX8_build 51 = .ok (.getfield 53, 3) := by decide +kernel
theorem dX8_build_54 : decode cX8_build 54 = .ok (.iload_n 1, 1) := by decide +kernel
theorem dX8_build_55 : decode cX8_build 55 = .ok (.if_icmp .ne 14, 3) := by decide +kernel
theorem dX8_build_58 : decode cX8_build 58 = .ok (.aload_n 3, 1) := by decide +kernel
theorem dX8_build_59 : decode cX8_build 59 = .ok (.getfield 57, 3) := by decide +kernel
theorem dX8_build_62 : decode cX8_build 62 = .ok (.iload_n 2, 1) := by decide +kernel
theorem dX8_build_63 : decode cX8_build 63 = .ok (.if_icmp .ne 6, 3) := by decide +kernel
theorem dX8_build_66 : decode cX8_build 66 = .ok (.bipush (-5), 2) := by decide +kernel
theorem dX8_build_68 : decode cX8_build 68 = .ok (.ireturn, 1) := by decide +kernel
theorem dX8_build_69 : decode cX8_build 69 = .ok (.aload_n 0, 1) := by decide +kernel
theorem dX8_build_70 : decode cX8_build 70 = .ok (.getfield 25, 3) := by decide +kernel
theorem dX8_build_73 : decode cX8_build 73 = .ok (.aload_n 0, 1) := by decide +kernel
theorem dX8_build_74 : decode cX8_build 74 = .ok (.getfield 12, 3) := by decide +kernel
theorem dX8_build_77 : decode cX8_build 77 = .ok (.invokevirtual 60, 3) := by decide +kernel
theorem dX8_build_80 : decode cX8_build 80 = .ok (.aload_n 3, 1) := by decide +kernel
theorem dX8_build_81 : decode cX8_build 81 = .ok (.iload_n 1, 1) := by decide +kernel
theorem dX8_build_82 : decode cX8_build 82 = .ok (.iload_n 2, 1) := by decide +kernel
theorem dX8_build_83 : decode cX8_build 83 = .ok (.invokevirtual 64, 3) := by decide +kernel
theorem dX8_build_86 : decode cX8_build 86 = .ok (.aload_n 3, 1) := by decide +kernel
theorem dX8_build_87 : decode cX8_build 87 = .ok (.invokevirtual 68, 3) := by decide +kernel
theorem dX8_build_90 : decode cX8_build 90 = .ok (.ireturn, 1) := by decide +kernel
theorem dX8_setSign_0 : decode cX8_setSign 0 = .ok (.aload_n 0, 1) := by decide +kernel
theorem dX8_setSign_1 : decode cX8_setSign 1 = .ok (.getfield 12, 3) := by decide +kernel
theorem dX8_setSign_4 : decode cX8_setSign 4 = .ok (.getfield 40, 3) := by decide +kernel
theorem dX8_setSign_7 : decode cX8_setSign 7 = .ok (.astore_n 3, 1) := by decide +kernel
theorem dX8_setSign_8 : decode cX8_setSign 8 = .ok (.aload_n 3, 1) := by decide +kernel
theorem dX8_setSign_9 : decode cX8_setSign 9 = .ok (.iload_n 1, 1) := by decide +kernel
theorem dX8_setSign_10 : decode cX8_setSign 10 = .ok (.invokevirtual 71, 3) := by decide +kernel
theorem dX8_setSign_13 : decode cX8_setSign 13 = .ok (.ifCond .ne 5, 3) := by decide +kernel
theorem dX8_setSign_16 : decode cX8_setSign 16 = .ok (.iconst (-1), 1) := by decide +kernel
theorem dX8_setSign_17 : decode cX8_setSign 17 = .ok (.ireturn, 1) := by decide +kernel
theorem dX8_setSign_18 : decode cX8_setSign 18 = .ok (.iload_n 2, 1) := by decide +kernel
theorem dX8_setSign_19 : decode cX8_setSign 19 = .ok (.bipush 46, 2) := by decide +kernel
theorem dX8_setSign_21 : decode cX8_setSign 21 = .ok (.if_icmp .eq 18, 3) := by decide +kernel
theorem dX8_setSign_24 : decode cX8_setSign 24 = .ok (.iload_n 2, 1) := by decide +kernel
theorem dX8_setSign_25 : decode cX8_setSign 25 = .ok (.bipush 97, 2) := by decide +kernel
theorem dX8_setSign_27 : decode cX8_setSign 27 = .ok (.if_icmp .lt 9, 3) := by decide +kernel
theorem dX8_setSign_30 : decode cX8_setSign 30 = .ok (.iload_n 2, 1) := by decide +kernel
theorem dX8_setSign_31 : decode cX8_setSign 31 = .ok (.bipush 122, 2) := by decide +kernel
theorem dX8_setSign_33 : decode cX8_setSign 33 = .ok (.if_icmp .le 6, 3) := by decide +kernel
theorem dX8_setSign_36 : decode cX8_setSign 36 = .ok (.bipush (-2), 2) := by decide +kernel
theorem dX8_setSign_38 : decode cX8_setSign 38 = .ok (.ireturn, 1) := by decide +kernel
theorem dX8_setSign_39 : decode cX8_setSign 39 = .ok (.aload_n 3, 1) := by decide +kernel
theorem dX8_setSign_40 : decode cX8_setSign 40 = .ok (.iload_n 1, 1) := by decide +kernel
theorem dX8_setSign_41 : decode cX8_setSign 41 = .ok (.invokevirtual 75, 3) := by decide +kernel
theorem dX8_setSign_44 : decode cX8_setSign 44 = .ok (.istore 4, 2) := by decide +kernel
theorem dX8_setSign_46 : decode cX8_setSign 46 = .ok (.iload 4, 2) := by decide +kernel
theorem dX8_setSign_48 : decode cX8_setSign 48 = .ok (.iload_n 2, 1) := by decide +kernel
theorem dX8_setSign_49 : decode cX8_setSign 49 = .ok (.if_icmp .ne 15, 3) := by decide +kernel
theorem dX8_setSign_52 : decode cX8_setSign 52 = .ok (.aload_n 3, 1) := by decide +kernel
theorem dX8_setSign_53 : decode cX8_setSign 53 = .ok (.iload_n 1, 1) := by decide +kernel
theorem dX8_setSign_54 : decode cX8_setSign 54 = .ok (.invokevirtual 79, 3) := by decide +kernel
theorem dX8_setSign_57 : decode cX8_setSign 57 = .ok (.iconst (-1), 1) := by decide +kernel
theorem dX8_setSign_58 : decode cX8_setSign 58 = .ok (.if_icmp .ne 6, 3) := by decide +kernel
theorem dX8_setSign_61 : decode cX8_setSign 61 = .ok (.bipush (-5), 2) := by decide +kernel
theorem dX8_setSign_63 : decode cX8_setSign 63 = .ok (.ireturn, 1) := by decide +kernel
theorem dX8_setSign_64 : decode cX8_setSign 64 = .ok (.aload_n 0, 1) := by decide +kernel
theorem dX8_setSign_65 : decode cX8_setSign 65 = .ok (.getfield 25, 3) := by decide +kernel
theorem dX8_setSign_68 : decode cX8_setSign 68 = .ok (.aload_n 0, 1) := by decide +kernel
theorem dX8_setSign_69 : decode cX8_setSign 69 = .ok (.getfield 12, 3) := by decide +kernel
theorem dX8_setSign_72 : decode cX8_setSign 72 = .ok (.invokevirtual 60, 3) := by decide +kernel
theorem dX8_setSign_75 : decode cX8_setSign 75 = .ok (.aload_n 3, 1) := by decide +kernel
theorem dX8_setSign_76 : decode cX8_setSign 76 = .ok (.iload_n 1, 1) := by decide +kernel
theorem dX8_setSign_77 : decode cX8_setSign 77 = .ok (.iload_n 2, 1) := by decide +kernel
theorem dX8_setSign_78 : decode cX8_setSign 78 = .ok (.invokevirtual 82, 3) := by decide +kernel
theorem dX8_setSign_81 : decode cX8_setSign 81 = .ok (.iload 4, 2) := by decide +kernel
theorem dX8_setSign_83 : decode cX8_setSign 83 = .ok (.ireturn, 1) := by decide +kernel
theorem dX8_setShift_0 : decode cX8_setShift 0 = .ok (.aload_n 0, 1) := by decide +kernel
theorem dX8_setShift_1 : decode cX8_setShift 1 = .ok (.getfield 12, 3) := by decide +kernel
theorem dX8_setShift_4 : decode cX8_setShift 4 = .ok (.getfield 40, 3) := by decide +kernel
theorem dX8_setShift_7 : decode cX8_setShift 7 = .ok (.astore_n 3, 1) := by decide +kernel
theorem dX8_setShift_8 : decode cX8_setShift 8 = .ok (.iload_n 1, 1) := by decide +kernel
theorem dX8_setShift_9 : decode cX8_setShift 9 = .ok (.invokestatic 86, 3) := by decide +kernel
theorem dX8_setShift_12 : decode cX8_setShift 12 = .ok (.ifCond .eq 11, 3) := by decide +kernel
theorem dX8_setShift_15 : decode cX8_setShift 15 = .ok (.aload_n 3, 1) := by decide +kernel
theorem dX8_setShift_16 : decode cX8_setShift 16 = .ok (.iload_n 2, 1) := by decide +kernel
theorem dX8_setShift_17 : decode cX8_setShift 17 = .ok (.invokevirtual 71, 3) := by decide +kernel
theorem dX8_setShift_20 : decode cX8_setShift 20 = .ok (.ifCond .ne 5, 3) := by decide +kernel
theorem dX8_setShift_23 : decode cX8_setShift 23 = .ok (.iconst (-1), 1) := by decide +kernel
theorem dX8_setShift_24 : decode cX8_setShift 24 = .ok (.ireturn, 1) := by decide +kernel
theorem dX8_setShift_25 : decode cX8_setShift 25 = .ok (.aload_n 3, 1) := by decide +kernel
theorem dX8_setShift_26 : decode cX8_setShift 26 = .ok (.iload_n 2, 1) := by decide +kernel
theorem dX8_setShift_27 : decode cX8_setShift 27 = .ok (.invokevirtual 79, 3) := by decide +kernel
theorem dX8_setShift_30 : decode cX8_setShift 30 = .ok (.istore 4, 2) := by decide +kernel
theorem dX8_setShift_32 : decode cX8_setShift 32 = .ok (.iload 4, 2) := by decide +kernel
theorem dX8_setShift_34 : decode cX8_setShift 34 = .ok (.iload_n 1, 1) := by decide +kernel
theorem dX8_setShift_35 : decode cX8_setShift 35 = .ok (.if_icmp .ne 6, 3) := by decide +kernel
theorem dX8_setShift_38 : decode cX8_setShift 38 = .ok (.bipush (-5), 2) := by decide +kernel
theorem dX8_setShift_40 : decode cX8_setShift 40 = .ok (.ireturn, 1) := by decide +kernel
theorem dX8_setShift_41 : decode cX8_setShift 41 = .ok (.iload 4, 2) := by decide +kernel
theorem dX8_setShift_43 : decode cX8_setShift 43 = .ok (.iconst (-1), 1) := by decide +kernel
theorem dX8_setShift_44 : decode cX8_setShift 44 = .ok (.if_icmp .eq 6, 3) := by decide +kernel
theorem dX8_setShift_47 : decode cX8_setShift 47 = .ok (.bipush (-4), 2) := by decide +kernel
theorem dX8_setShift_49 : decode cX8_setShift 49 = .ok (.ireturn, 1) := by decide +kernel
theorem dX8_setShift_50 : decode cX8_setShift 50 = .ok (.aload_n 0, 1) := by decide +kernel
theorem dX8_setShift_51 : decode cX8_setShift 51 = .ok (.getfield 25, 3) := by decide +kernel
theorem dX8_setShift_54 : decode cX8_setShift 54 = .ok (.aload_n 0, 1) := by decide +kernel
theorem dX8_setShift_55 : decode cX8_setShift 55 = .ok (.getfield 12, 3) := by decide +kernel
theorem dX8_setShift_58 : decode cX8_setShift 58 = .ok (.invokevirtual 60, 3) := by decide +kernel
theorem dX8_setShift_61 : decode cX8_setShift 61 = .ok (.aload_n 3, 1) := by decide +kernel
theorem dX8_setShift_62 : decode cX8_setShift 62 = .ok (.iload_n 1, 1) := by decide +kernel
theorem dX8_setShift_63 : decode cX8_setShift 63 = .ok (.invokevirtual 89, 3) := by decide +kernel
theorem dX8_setShift_66 : decode cX8_setShift 66 = .ok (.istore 5, 2) := by decide +kernel
theorem dX8_setShift_68 : decode cX8_setShift 68 = .ok (.aload_n 3, 1) := by decide +kernel
theorem dX8_setShift_69 : decode cX8_setShift 69 = .ok (.iload_n 1, 1) := by decide +kernel
theorem dX8_setShift_70 : decode cX8_setShift 70 = .ok (.iload_n 2, 1) := by decide +kernel
theorem dX8_setShift_71 : decode cX8_setShift 71 = .ok (.invokevirtual 92, 3) := by decide +kernel
theorem dX8_setShift_74 : decode cX8_setShift 74 = .ok (.iload 5, 2) := by decide +kernel
theorem dX8_setShift_76 : decode cX8_setShift 76 = .ok (.iconst (-1), 1) := by decide +kernel
theorem dX8_setShift_77 : decode cX8_setShift 77 = .ok (.if_icmp .ne 7, 3) := by decide +kernel
theorem dX8_setShift_80 : decode cX8_setShift 80 = .ok (.iload_n 2, 1) := by decide +kernel
theorem dX8_setShift_81 : decode cX8_setShift 81 = .ok (.goto 5, 3) := by decide +kernel
theorem dX8_setShift_84 : decode cX8_setShift 84 = .ok (.iload 5, 2) := by decide +kernel
theorem dX8_setShift_86 : decode cX8_setShift 86 = .ok (.ireturn, 1) := by decide +kernel
theorem dX8_set_0 : decode cX8_set 0 = .ok (.iload_n 1, 1) := by decide +kernel
theorem dX8_set_1 : decode cX8_set 1 = .ok (.iload_n 2, 1) := by decide +kernel
theorem dX8_set_2 : decode cX8_set 2 = .ok (.invokestatic 111, 3) := by decide +kernel
theorem dX8_set_5 : decode cX8_set 5 = .ok (.ifCond .ne 6, 3) := by decide +kernel
theorem dX8_set_8 : decode cX8_set 8 = .ok (.bipush (-2), 2) := by decide +kernel
theorem dX8_set_10 : decode cX8_set 10 = .ok (.ireturn, 1) := by decide +kernel
theorem dX8_set_11 : decode cX8_set 11 = .ok (.aload_n 0, 1) := by decide +kernel
theorem dX8_set_12 : decode cX8_set 12 = .ok (.getfield 12, 3) := by decide +kernel
theorem dX8_set_15 : decode cX8_set 15 = .ok (.getfield 117, 3) := by decide +kernel
theorem dX8_set_18 : decode cX8_set 18 = .ok (.iload_n 1, 1) := by decide +kernel
theorem dX8_set_19 : decode cX8_set 19 = .ok (.invokevirtual 121, 3) := by decide +kernel
theorem dX8_set_22 : decode cX8_set 22 = .ok (.istore_n 3, 1) := by decide +kernel
theorem dX8_set_23 : decode cX8_set 23 = .ok (.iload_n 3, 1) := by decide +kernel
theorem dX8_set_24 : decode cX8_set 24 = .ok (.iload_n 2, 1) := by decide +kernel
theorem dX8_set_25 : decode cX8_set 25 = .ok (.if_icmp .ne 6, 3) := by decide +kernel
theorem dX8_set_28 : decode cX8_set 28 = .ok (.bipush (-5), 2) := by decide +kernel
theorem dX8_set_30 : decode cX8_set 30 = .ok (.ireturn, 1) := by decide +kernel
theorem dX8_set_31 : decode cX8_set 31 = .ok (.aload_n 0, 1) := by decide +kernel
theorem dX8_set_32 : decode cX8_set 32 = .ok (.getfield 25, 3) := by decide +kernel
theorem dX8_set_35 : decode cX8_set 35 = .ok (.aload_n 0, 1) := by decide +kernel
theorem dX8_set_36 : decode cX8_set 36 = .ok (.getfield 12, 3) := by decide +kernel
theorem dX8_set_39 : decode cX8_set 39 = .ok (.invokevirtual 60, 3) := by decide +kernel
theorem dX8_set_42 : decode cX8_set 42 = .ok (.aload_n 0, 1) := by decide +kernel
theorem dX8_set_43 : decode cX8_set 43 = .ok (.getfield 12, 3) := by decide +kernel
theorem dX8_set_46 : decode cX8_set 46 = .ok (.getfield 117, 3) := by decide +kernel
theorem dX8_set_49 : decode cX8_set 49 = .ok (.iload_n 1, 1) := by decide +kernel
theorem dX8_set_50 : decode cX8_set 50 = .ok (.iload_n 2, 1) := by decide +kernel
theorem dX8_set_51 : decode cX8_set 51 = .ok (.invokevirtual 124, 3) := by decide +kernel
theorem dX8_set_54 : decode cX8_set 54 = .ok (.iload_n 3, 1) := by decide +kernel
theorem dX8_set_55 : decode cX8_set 55 = .ok (.ireturn, 1) := by decide +kernel
theorem dX8_press_0 : decode cX8_press 0 = .ok (.aload_n 0, 1) := by decide +kernel
theorem dX8_press_1 : decode cX8_press 1 = .ok (.getfield 12, 3) := by decide +kernel
theorem dX8_press_4 : decode cX8_press 4 = .ok (.iload_n 1, 1) := by decide +kernel
theorem dX8_press_5 : decode cX8_press 5 = .ok (.iload_n 2, 1) := by decide +kernel
theorem dX8_press_6 : decode cX8_press 6 = .ok (.invokevirtual 127, 3) := by decide +kernel
theorem dX8_press_9 : decode cX8_press 9 = .ok (.istore_n 3, 1) := by decide +kernel
theorem dX8_press_10 : decode cX8_press 10 = .ok (.iload_n 3, 1) := by decide +kernel
theorem dX8_press_11 : decode cX8_press 11 = .ok (.ifCond .eq 5, 3) := by decide +kernel
theorem dX8_press_14 : decode cX8_press 14 = .ok (.iload_n 3, 1) := by decide +kernel
theorem dX8_press_15 : decode cX8_press 15 = .ok (.ireturn, 1) := by decide +kernel
theorem dX8_press_16 : decode cX8_press 16 = .ok (.aload_n 0, 1) := by decide +kernel
theorem dX8_press_17 : decode cX8_press 17 = .ok (.getfield 25, 3) := by decide +kernel
theorem dX8_press_20 : decode cX8_press 20 = .ok (.aload_n 0, 1) := by decide +kernel
theorem dX8_press_21 : decode cX8_press 21 = .ok (.getfield 12, 3) := by decide +kernel
theorem dX8_press_24 : decode cX8_press 24 = .ok (.invokevirtual 60, 3) := by decide +kernel
theorem dX8_press_27 : decode cX8_press 27 = .ok (.aload_n 0, 1) := by decide +kernel
theorem dX8_press_28 : decode cX8_press 28 = .ok (.getfield 12, 3) := by decide +kernel
theorem dX8_press_31 : decode cX8_press 31 = .ok (.getfield 40, 3) := by decide +kernel
theorem dX8_press_34 : decode cX8_press 34 = .ok (.iload_n 1, 1) := by decide +kernel
theorem dX8_press_35 : decode cX8_press 35 = .ok (.iload_n 2, 1) := by decide +kernel
theorem dX8_press_36 : decode cX8_press 36 = .ok (.invokevirtual 131, 3) := by decide +kernel
theorem dX8_press_39 : decode cX8_press 39 = .ok (.aload_n 0, 1) := by decide +kernel
theorem dX8_press_40 : decode cX8_press 40 = .ok (.getfield 12, 3) := by decide +kernel
theorem dX8_press_43 : decode cX8_press 43 = .ok (.getfield 40, 3) := by decide +kernel
theorem dX8_press_46 : decode cX8_press 46 = .ok (.iload_n 1, 1) := by decide +kernel
theorem dX8_press_47 : decode cX8_press 47 = .ok (.invokevirtual 134, 3) := by decide +kernel
theorem dX8_press_50 : decode cX8_press 50 = .ok (.ireturn, 1) := by decide +kernel
theorem dX8_release_0 : decode cX8_release 0 = .ok (.aload_n 0, 1) := by decide +kernel
theorem dX8_release_1 : decode cX8_release 1 = .ok (.getfield 12, 3) := by decide +kernel
theorem dX8_release_4 : decode cX8_release 4 = .ok (.iload_n 1, 1) := by decide +kernel
theorem dX8_release_5 : decode cX8_release 5 = .ok (.iload_n 2, 1) := by decide +kernel
theorem dX8_release_6 : decode cX8_release 6 = .ok (.invokevirtual 137, 3) := by decide +kernel
theorem dX8_release_9 : decode cX8_release 9 = .ok (.istore_n 3, 1) := by decide +kernel
theorem dX8_release_10 : decode cX8_release 10 = .ok (.iload_n 3, 1) := by decide +kernel
theorem dX8_release_11 : decode cX8_release 11 = .ok (.ifCond .eq 5, 3) := by decide +kernel
theorem dX8_release_14 : decode cX8_release 14 = .ok (.iload_n 3, 1) := by decide +kernel
theorem dX8_release_15 : decode cX8_release 15 = .ok (.ireturn, 1) := by decide +kernel
theorem dX8_release_16 : decode cX8_release 16 = .ok (.aload_n 0, 1) := by decide +kernel
theorem dX8_release_17 : decode cX8_release 17 = .ok (.getfield 25, 3) := by decide +kernel
theorem dX8_release_20 : decode cX8_release 20 = .ok (.aload_n 0, 1) := by decide +kernel
theorem dX8_release_21 : decode cX8_release 21 = .ok (.getfield 12, 3) := by decide +kernel
theorem dX8_release_24 : decode cX8_release 24 = .ok (.invokevirtual 60, 3) := by decide +kernel
theorem dX8_release_27 : decode cX8_release 27 = .ok (.aload_n 0, 1) := by decide +kernel
theorem dX8_release_28 : decode cX8_release 28 = .ok (.getfield 12, 3) := by decide +kernel
theorem dX8_release_31 : decode cX8_release 31 = .ok (.getfield 40, 3) := by decide +kernel
theorem dX8_release_34 : decode cX8_release 34 = .ok (.iload_n 2, 1) := by decide +kernel
theorem dX8_release_35 : decode cX8_release 35 = .ok (.invokevirtual 140, 3) := by decide +kernel
theorem dX8_release_38 : decode cX8_release 38 = .ok (.aload_n 0, 1) := by decide +kernel
theorem dX8_release_39 : decode cX8_release 39 = .ok (.getfield 12, 3) := by decide +kernel
theorem dX8_release_42 : decode cX8_release 42 = .ok (.getfield 40, 3) := by decide +kernel
theorem dX8_release_45 : decode cX8_release 45 = .ok (.iload_n 1, 1) := by decide +kernel
theorem dX8_release_46 : decode cX8_release 46 = .ok (.invokevirtual 134, 3) := by decide +kernel
theorem dX8_release_49 : decode cX8_release 49 = .ok (.ireturn, 1) := by decide +kernel
theorem dX8_tick_0 : decode cX8_tick 0 = .ok (.iload_n 1, 1) := by decide +kernel
theorem dX8_tick_1 : decode cX8_tick 1 = .ok (.iconst 1, 1) := by decide +kernel
theorem dX8_tick_2 : decode cX8_tick 2 = .ok (.if_icmp .lt 9, 3) := by decide +kernel
theorem dX8_tick_5 : decode cX8_tick 5 = .ok (.iload_n 1, 1) := by decide +kernel
theorem dX8_tick_6 : decode cX8_tick 6 = .ok (.bipush 99, 2) := by decide +kernel
theorem dX8_tick_8 : decode cX8_tick 8 = .ok (.if_icmp .le 6, 3) := by decide +kernel
theorem dX8_tick_11 : decode cX8_tick 11 = .ok (.bipush (-2), 2) := by decide +kernel
theorem dX8_tick_13 : decode cX8_tick 13 = .ok (.ireturn, 1) := by decide +kernel
theorem dX8_tick_14 : decode cX8_tick 14 = .ok (.aload_n 0, 1) := by decide +kernel
theorem dX8_tick_15 : decode cX8_tick 15 = .ok (.getfield 25, 3) := by decide +kernel
theorem dX8_tick_18 : decode cX8_tick 18 = .ok (.aload_n 0, 1) := by decide +kernel
theorem dX8_tick_19 : decode cX8_tick 19 = .ok (.getfield 12, 3) := by decide +kernel
theorem dX8_tick_22 : decode cX8_tick 22 = .ok (.invokevirtual 60, 3) := by decide +kernel
theorem dX8_tick_25 : decode cX8_tick 25 = .ok (.aload_n 0, 1) := by decide +kernel
theorem dX8_tick_26 : decode cX8_tick 26 = .ok (.getfield 12, 3) := by decide +kernel
theorem dX8_tick_29 : decode cX8_tick 29 = .ok (.iload_n 1, 1) := by decide +kernel
theorem dX8_tick_30 : decode cX8_tick 30 = .ok (.invokevirtual 144, 3) := by decide +kernel
theorem dX8_tick_33 : decode cX8_tick 33 = .ok (.ireturn, 1) := by decide +kernel
theorem dX8_settle_0 : decode cX8_settle 0 = .ok (.aload_n 0, 1) := by decide +kernel
theorem dX8_settle_1 : decode cX8_settle 1 = .ok (.getfield 12, 3) := by decide +kernel
theorem dX8_settle_4 : decode cX8_settle 4 = .ok (.iload_n 1, 1) := by decide +kernel
theorem dX8_settle_5 : decode cX8_settle 5 = .ok (.invokevirtual 147, 3) := by decide +kernel
theorem dX8_settle_8 : decode cX8_settle 8 = .ok (.ifCond .ne 5, 3) := by decide +kernel
theorem dX8_settle_11 : decode cX8_settle 11 = .ok (.iconst (-1), 1) := by decide +kernel
theorem dX8_settle_12 : decode cX8_settle 12 = .ok (.ireturn, 1) := by decide +kernel
theorem dX8_settle_13 : decode cX8_settle 13 = .ok (.iload_n 2, 1) := by decide +kernel
theorem dX8_settle_14 : decode cX8_settle 14 = .ok (.ifCond .lt 8, 3) := by decide +kernel
theorem dX8_settle_17 : decode cX8_settle 17 = .ok (.iload_n 2, 1) := by decide +kernel
theorem dX8_settle_18 : decode cX8_settle 18 = .ok (.iconst 2, 1) := by decide +kernel
theorem dX8_settle_19 : decode cX8_settle 19 = .ok (.if_icmp .le 6, 3) := by decide +kernel
theorem dX8_settle_22 : decode cX8_settle 22 = .ok (.bipush (-2), 2) := by decide +kernel
theorem dX8_settle_24 : decode cX8_settle 24 = .ok (.ireturn, 1) := by decide +kernel
theorem dX8_settle_25 : decode cX8_settle 25 = .ok (.aload_n 0, 1) := by decide +kernel
theorem dX8_settle_26 : decode cX8_settle 26 = .ok (.getfield 12, 3) := by decide +kernel
theorem dX8_settle_29 : decode cX8_settle 29 = .ok (.getfield 150, 3) := by decide +kernel
theorem dX8_settle_32 : decode cX8_settle 32 = .ok (.iload_n 1, 1) := by decide +kernel
theorem dX8_settle_33 : decode cX8_settle 33 = .ok (.invokevirtual 154, 3) := by decide +kernel
theorem dX8_settle_36 : decode cX8_settle 36 = .ok (.iconst 3, 1) := by decide +kernel
theorem dX8_settle_37 : decode cX8_settle 37 = .ok (.if_icmp .eq 6, 3) := by decide +kernel
theorem dX8_settle_40 : decode cX8_settle 40 = .ok (.bipush (-4), 2) := by decide +kernel
theorem dX8_settle_42 : decode cX8_settle 42 = .ok (.ireturn, 1) := by decide +kernel
theorem dX8_settle_43 : decode cX8_settle 43 = .ok (.aload_n 0, 1) := by decide +kernel
theorem dX8_settle_44 : decode cX8_settle 44 = .ok (.getfield 25, 3) := by decide +kernel
theorem dX8_settle_47 : decode cX8_settle 47 = .ok (.aload_n 0, 1) := by decide +kernel
theorem dX8_settle_48 : decode cX8_settle 48 = .ok (.getfield 12, 3) := by decide +kernel
theorem dX8_settle_51 : decode cX8_settle 51 = .ok (.invokevirtual 60, 3) := by decide +kernel
theorem dX8_settle_54 : decode cX8_settle 54 = .ok (.aload_n 0, 1) := by decide +kernel
theorem dX8_settle_55 : decode cX8_settle 55 = .ok (.getfield 12, 3) := by decide +kernel
theorem dX8_settle_58 : decode cX8_settle 58 = .ok (.iload_n 1, 1) := by decide +kernel
theorem dX8_settle_59 : decode cX8_settle 59 = .ok (.iload_n 2, 1) := by decide +kernel
theorem dX8_settle_60 : decode cX8_settle 60 = .ok (.invokevirtual 159, 3) := by decide +kernel
theorem dX8_settle_63 : decode cX8_settle 63 = .ok (.aload_n 0, 1) := by decide +kernel
theorem dX8_settle_64 : decode cX8_settle 64 = .ok (.getfield 12, 3) := by decide +kernel
theorem dX8_settle_67 : decode cX8_settle 67 = .ok (.getfield 150, 3) := by decide +kernel
theorem dX8_settle_70 : decode cX8_settle 70 = .ok (.iload_n 1, 1) := by decide +kernel
theorem dX8_settle_71 : decode cX8_settle 71 = .ok (.invokevirtual 162, 3) := by decide +kernel
theorem dX8_settle_74 : decode cX8_settle 74 = .ok (.ireturn, 1) := by decide +kernel
theorem dX8_type_0 : decode cX8_type 0 = .ok (.aload_n 0, 1) := by decide +kernel
theorem dX8_type_1 : decode cX8_type 1 = .ok (.getfield 32, 3) := by decide +kernel
theorem dX8_type_4 : decode cX8_type 4 = .ok (.iload_n 1, 1) := by decide +kernel
theorem dX8_type_5 : decode cX8_type 5 = .ok (.invokevirtual 165, 3) := by decide +kernel
theorem dX8_type_8 : decode cX8_type 8 = .ok (.ifCond .eq 13, 3) := by decide +kernel
theorem dX8_type_11 : decode cX8_type 11 = .ok (.aload_n 0, 1) := by decide +kernel
theorem dX8_type_12 : decode cX8_type 12 = .ok (.getfield 32, 3) := by decide +kernel
theorem dX8_type_15 : decode cX8_type 15 = .ok (.getfield 169, 3) := by decide +kernel
theorem dX8_type_18 : decode cX8_type 18 = .ok (.goto 5, 3) := by decide +kernel
theorem dX8_type_21 : decode cX8_type 21 = .ok (.bipush (-3), 2) := by decide +kernel
theorem dX8_type_23 : decode cX8_type 23 = .ok (.ireturn, 1) := by decide +kernel
theorem dX8_clearText_0 : decode cX8_clearText 0 = .ok (.aload_n 0, 1) := by decide +kernel
theorem dX8_clearText_1 : decode cX8_clearText 1 = .ok (.getfield 32, 3) := by decide +kernel
theorem dX8_clearText_4 : decode cX8_clearText 4 = .ok (.getfield 169, 3) := by decide +kernel
theorem dX8_clearText_7 : decode cX8_clearText 7 = .ok (.istore_n 1, 1) := by decide +kernel
theorem dX8_clearText_8 : decode cX8_clearText 8 = .ok (.aload_n 0, 1) := by decide +kernel
theorem dX8_clearText_9 : decode cX8_clearText 9 = .ok (.getfield 32, 3) := by decide +kernel
theorem dX8_clearText_12 : decode cX8_clearText 12 = .ok (.iconst 0, 1) := by decide +kernel
theorem dX8_clearText_13 : decode cX8_clearText 13 = .ok (.putfield 169, 3) := by decide +kernel
theorem dX8_clearText_16 : decode cX8_clearText 16 = .ok (.iload_n 1, 1) := by decide +kernel
theorem dX8_clearText_17 : decode cX8_clearText 17 = .ok (.ireturn, 1) := by decide +kernel
theorem dX8_perform_0 : decode cX8_perform 0 = .ok (.aload_n 0, 1) := by decide +kernel
theorem dX8_perform_1 : decode cX8_perform 1 = .ok (.getfield 32, 3) := by decide +kernel
theorem dX8_perform_4 : decode cX8_perform 4 = .ok (.invokevirtual 172, 3) := by decide +kernel
theorem dX8_perform_7 : decode cX8_perform 7 = .ok (.istore_n 1, 1) := by decide +kernel
theorem dX8_perform_8 : decode cX8_perform 8 = .ok (.iload_n 1, 1) := by decide +kernel
theorem dX8_perform_9 : decode cX8_perform 9 = .ok (.iconst (-1), 1) := by decide +kernel
theorem dX8_perform_10 : decode cX8_perform 10 = .ok (.if_icmp .eq 8, 3) := by decide +kernel
theorem dX8_perform_13 : decode cX8_perform 13 = .ok (.bipush (-100), 2) := by decide +kernel
theorem dX8_perform_15 : decode cX8_perform 15 = .ok (.iload_n 1, 1) := by decide +kernel
theorem dX8_perform_16 : decode cX8_perform 16 = .ok (.isub, 1) := by decide +kernel
theorem dX8_perform_17 : decode cX8_perform 17 = .ok (.ireturn, 1) := by decide +kernel
theorem dX8_perform_18 : decode cX8_perform 18 = .ok (.aload_n 0, 1) := by decide +kernel
theorem dX8_perform_19 : decode cX8_perform 19 = .ok (.getfield 16, 3) := by decide +kernel
theorem dX8_perform_22 : decode cX8_perform 22 = .ok (.aload_n 0, 1) := by decide +kernel
theorem dX8_perform_23 : decode cX8_perform 23 = .ok (.getfield 12, 3) := by decide +kernel
theorem dX8_perform_26 : decode cX8_perform 26 = .ok (.invokevirtual 175, 3) := by decide +kernel
theorem dX8_perform_29 : decode cX8_perform 29 = .ok (.iconst 0, 1) := by decide +kernel
theorem dX8_perform_30 : decode cX8_perform 30 = .ok (.istore_n 2, 1) := by decide +kernel
theorem dX8_perform_31 : decode cX8_perform 31 = .ok (.iconst 0, 1) := by decide +kernel
theorem dX8_perform_32 : decode cX8_perform 32 = .ok (.istore_n 3, 1) := by decide +kernel
theorem dX8_perform_33 : decode cX8_perform 33 = .ok (.iconst 0, 1) := by decide +kernel
theorem dX8_perform_34 : decode cX8_perform 34 = .ok (.istore 4, 2) := by decide +kernel
theorem dX8_perform_36 : decode cX8_perform 36 = .ok (.iload 4, 2) := by decide +kernel
theorem dX8_perform_38 : decode cX8_perform 38 = .ok (.aload_n 0, 1) := by decide +kernel
theorem dX8_perform_39 : decode cX8_perform 39 = .ok (.getfield 32, 3) := by decide +kernel
theorem dX8_perform_42 : decode cX8_perform 42 = .ok (.getfield 169, 3) := by decide +kernel
theorem dX8_perform_45 : decode cX8_perform 45 = .ok (.if_icmp .gt 59, 3) := by decide +kernel
theorem dX8_perform_48 : decode cX8_perform 48 = .ok (.aload_n 0, 1) := by decide +kernel
theorem dX8_perform_49 : decode cX8_perform 49 = .ok (.getfield 32, 3) := by decide +kernel
theorem dX8_perform_52 : decode cX8_perform 52 = .ok (.iload 4, 2) := by decide +kernel
theorem dX8_perform_54 : decode cX8_perform 54 = .ok (.invokevirtual 178, 3) := by decide +kernel
theorem dX8_perform_57 : decode cX8_perform 57 = .ok (.ifCond .eq 41, 3) := by decide +kernel
theorem dX8_perform_60 : decode cX8_perform 60 = .ok (.aload_n 0, 1) := by decide +kernel
theorem dX8_perform_61 : decode cX8_perform 61 = .ok (.iload_n 3, 1) := by decide +kernel
theorem dX8_perform_62 : decode cX8_perform 62 = .ok (.iload 4, 2) := by decide +kernel
theorem dX8_perform_64 : decode cX8_perform 64 = .ok (.invokevirtual 181, 3) := by decide +kernel
theorem dX8_perform_67 : decode cX8_perform 67 = .ok (.istore 5, 2) := by decide +kernel
theorem dX8_perform_69 : decode cX8_perform 69 = .ok (.iload 5, 2) := by decide +kernel
theorem dX8_perform_71 : decode cX8_perform 71 = .ok (.ifCond .ge 17, 3) := by decide +kernel
theorem dX8_perform_74 : decode cX8_perform 74 = .ok (.aload_n 0, 1) := by decide +kernel
theorem dX8_perform_75 : decode cX8_perform 75 = .ok (.getfield 12, 3) := by decide +kernel
theorem dX8_perform_78 : decode cX8_perform 78 = .ok (.aload_n 0, 1) := by decide +kernel
theorem dX8_perform_79 : decode cX8_perform 79 = .ok (.getfield 16, 3) := by decide +kernel
theorem dX8_perform_82 : decode cX8_perform 82 = .ok (.invokevirtual 175, 3) := by decide +kernel
theorem dX8_perform_85 : decode cX8_perform 85 = .ok (.iload 5, 2) := by decide +kernel
theorem dX8_perform_87 : decode cX8_perform 87 = .ok (.ireturn, 1) := by decide +kernel
theorem dX8_perform_88 : decode cX8_perform 88 = .ok (.iload_n 2, 1) := by decide +kernel
theorem dX8_perform_89 : decode cX8_perform 89 = .ok (.iload 5, 2) := by decide +kernel
theorem dX8_perform_91 : decode cX8_perform 91 = .ok (.iadd, 1) := by decide +kernel
theorem dX8_perform_92 : decode cX8_perform 92 = .ok (.istore_n 2, 1) := by decide +kernel
theorem dX8_perform_93 : decode cX8_perform 93 = .ok (.iload 4, 2) := by decide +kernel
theorem dX8_perform_95 : decode cX8_perform 95 = .ok (.iconst 1, 1) := by decide +kernel
theorem dX8_perform_96 : decode cX8_perform 96 = .ok (.iadd, 1) := by decide +kernel
theorem dX8_perform_97 : decode cX8_perform 97 = .ok (.istore_n 3, 1) := by decide +kernel
theorem dX8_perform_98 : decode cX8_perform 98 = .ok (.iinc 4 1, 3) := by decide +kernel
theorem dX8_perform_101 : decode cX8_perform 101 = .ok (.goto (-65), 3) := by decide +kernel
theorem dX8_perform_104 : decode cX8_perform 104 = .ok (.aload_n 0, 1) := by decide +kernel
theorem dX8_perform_105 : decode cX8_perform 105 = .ok (.getfield 25, 3) := by decide +kernel
theorem dX8_perform_108 : decode cX8_perform 108 = .ok (.aload_n 0, 1) := by decide +kernel
theorem dX8_perform_109 : decode cX8_perform 109 = .ok (.getfield 16, 3) := by decide +kernel
theorem dX8_perform_112 : decode cX8_perform 112 = .ok (.invokevirtual 60, 3) := by decide +kernel
theorem dX8_perform_115 : decode cX8_perform 115 = .ok (.iload_n 2, 1) := by decide +kernel
theorem dX8_perform_116 : decode cX8_perform 116 = .ok (.ireturn, 1) := by decide +kernel
theorem dX8_move_0 : decode cX8_move 0 = .ok (.aload_n 0, 1) := by decide +kernel
theorem dX8_move_1 : decode cX8_move 1 = .ok (.getfield 32, 3) := by decide +kernel
theorem dX8_move_4 : decode cX8_move 4 = .ok (.iload_n 1, 1) := by decide +kernel
theorem dX8_move_5 : decode cX8_move 5 = .ok (.invokevirtual 184, 3) := by decide +kernel
theorem dX8_move_8 : decode cX8_move 8 = .ok (.istore_n 3, 1) := by decide +kernel
theorem dX8_move_9 : decode cX8_move 9 = .ok (.iload_n 3, 1) := by decide +kernel
theorem dX8_move_10 : decode cX8_move 10 = .ok (.bipush 116, 2) := by decide +kernel
theorem dX8_move_12 : decode cX8_move 12 = .ok (.if_icmp .ne 22, 3) := by decide +kernel
theorem dX8_move_15 : decode cX8_move 15 = .ok (.aload_n 0, 1) := by decide +kernel
theorem dX8_move_16 : decode cX8_move 16 = .ok (.getfield 12, 3) := by decide +kernel
theorem dX8_move_19 : decode cX8_move 19 = .ok (.aload_n 0, 1) := by decide +kernel
theorem dX8_move_20 : decode cX8_move 20 = .ok (.getfield 32, 3) := by decide +kernel
theorem dX8_move_23 : decode cX8_move 23 = .ok (.iload_n 1, 1) := by decide +kernel
theorem dX8_move_24 : decode cX8_move 24 = .ok (.iconst 1, 1) := by decide +kernel
theorem dX8_move_25 : decode cX8_move 25 = .ok (.iadd, 1) := by decide +kernel
theorem dX8_move_26 : decode cX8_move 26 = .ok (.iload_n 2, 1) := by decide +kernel
theorem dX8_move_27 : decode cX8_move 27 = .ok (.invokevirtual 188, 3) := by decide +kernel
theorem dX8_move_30 : decode cX8_move 30 = .ok (.invokevirtual 144, 3) := by decide +kernel
theorem dX8_move_33 : decode cX8_move 33 = .ok (.ireturn, 1) := by decide +kernel
theorem dX8_move_34 : decode cX8_move 34 = .ok (.iload_n 3, 1) := by decide +kernel
theorem dX8_move_35 : decode cX8_move 35 = .ok (.bipush 48, 2) := by decide +kernel
theorem dX8_move_37 : decode cX8_move 37 = .ok (.isub, 1) := by decide +kernel
theorem dX8_move_38 : decode cX8_move 38 = .ok (.istore 4, 2) := by decide +kernel
theorem dX8_move_40 : decode cX8_move 40 = .ok (.aload_n 0, 1) := by decide +kernel
theorem dX8_move_41 : decode cX8_move 41 = .ok (.getfield 32, 3) := by decide +kernel
theorem dX8_move_44 : decode cX8_move 44 = .ok (.iload_n 1, 1) := by decide +kernel
theorem dX8_move_45 : decode cX8_move 45 = .ok (.iconst 2, 1) := by decide +kernel
theorem dX8_move_46 : decode cX8_move 46 = .ok (.iadd, 1) := by decide +kernel
theorem dX8_move_47 : decode cX8_move 47 = .ok (.iload_n 2, 1) := by decide +kernel
theorem dX8_move_48 : decode cX8_move 48 = .ok (.invokevirtual 188, 3) := by decide +kernel
theorem dX8_move_51 : decode cX8_move 51 = .ok (.istore 5, 2) := by decide +kernel
theorem dX8_move_53 : decode cX8_move 53 = .ok (.aload_n 0, 1) := by decide +kernel
theorem dX8_move_54 : decode cX8_move 54 = .ok (.getfield 32, 3) := by decide +kernel
theorem dX8_move_57 : decode cX8_move 57 = .ok (.iload_n 1, 1) := by decide +kernel
theorem dX8_move_58 : decode cX8_move 58 = .ok (.iconst 1, 1) := by decide +kernel
theorem dX8_move_59 : decode cX8_move 59 = .ok (.iadd, 1) := by decide +kernel
theorem dX8_move_60 : decode cX8_move 60 = .ok (.invokevirtual 184, 3) := by decide +kernel
theorem dX8_move_63 : decode cX8_move 63 = .ok (.bipush 100, 2) := by decide +kernel
theorem dX8_move_65 : decode cX8_move 65 = .ok (.if_icmp .ne 7, 3) := by decide +kernel
theorem dX8_move_68 : decode cX8_move 68 = .ok (.iconst 1, 1) := by decide +kernel
theorem dX8_move_69 : decode cX8_move 69 = .ok (.goto 4, 3) := by decide +kernel
theorem dX8_move_72 : decode cX8_move 72 = .ok (.iconst 0, 1) := by decide +kernel
theorem dX8_move_73 : decode cX8_move 73 = .ok (.istore 6, 2) := by decide +kernel
theorem dX8_move_75 : decode cX8_move 75 = .ok (.iload 6, 2) := by decide +kernel
theorem dX8_move_77 : decode cX8_move 77 = .ok (.ifCond .eq 17, 3) := by decide +kernel
theorem dX8_move_80 : decode cX8_move 80 = .ok (.aload_n 0, 1) := by decide +kernel
theorem dX8_move_81 : decode cX8_move 81 = .ok (.getfield 12, 3) := by decide +kernel
theorem dX8_move_84 : decode cX8_move 84 = .ok (.iload 4, 2) := by decide +kernel
theorem dX8_move_86 : decode cX8_move 86 = .ok (.iload 5, 2) := by decide +kernel
theorem dX8_move_88 : decode cX8_move 88 = .ok (.invokevirtual 127, 3) := by decide +kernel
theorem dX8_move_91 : decode cX8_move 91 = .ok (.goto 14, 3) := by decide +kernel
theorem dX8_move_94 : decode cX8_move 94 = .ok (.aload_n 0, 1) := by decide +kernel
theorem dX8_move_95 : decode cX8_move 95 = .ok (.getfield 12, 3) := by decide +kernel
theorem dX8_move_98 : decode cX8_move 98 = .ok (.iload 4, 2) := by decide +kernel
theorem dX8_move_100 : decode cX8_move 100 = .ok (.iload 5, 2) := by decide +kernel
theorem dX8_move_102 : decode cX8_move 102 = .ok (.invokevirtual 137, 3) := by decide +kernel
theorem dX8_move_105 : decode cX8_move 105 = .ok (.istore 7, 2) := by decide +kernel
theorem dX8_move_107 : decode cX8_move 107 = .ok (.iload 7, 2) := by decide +kernel
theorem dX8_move_109 : decode cX8_move 109 = .ok (.ifCond .eq 6, 3) := by decide +kernel
theorem dX8_move_112 : decode cX8_move 112 = .ok (.iload 7, 2) := by decide +kernel
theorem dX8_move_114 : decode cX8_move 114 = .ok (.ireturn, 1) := by decide +kernel
theorem dX8_move_115 : decode cX8_move 115 = .ok (.iload 6, 2) := by decide +kernel
theorem dX8_move_117 : decode cX8_move 117 = .ok (.ifCond .eq 20, 3) := by decide +kernel
theorem dX8_move_120 : decode cX8_move 120 = .ok (.aload_n 0, 1) := by decide +kernel
theorem dX8_move_121 : decode cX8_move 121 = .ok (.getfield 12, 3) := by decide +kernel
theorem dX8_move_124 : decode cX8_move 124 = .ok (.getfield 40, 3) := by decide +kernel
theorem dX8_move_127 : decode cX8_move 127 = .ok (.iload 4, 2) := by decide +kernel
theorem dX8_move_129 : decode cX8_move 129 = .ok (.iload 5, 2) := by decide +kernel
theorem dX8_move_131 : decode cX8_move 131 = .ok (.invokevirtual 131, 3) := by decide +kernel
theorem dX8_move_134 : decode cX8_move 134 = .ok (.goto 15, 3) := by decide +kernel
theorem dX8_move_137 : decode cX8_move 137 = .ok (.aload_n 0, 1) := by decide +kernel
theorem dX8_move_138 : decode cX8_move 138 = .ok (.getfield 12, 3) := by decide +kernel
theorem dX8_move_141 : decode cX8_move 141 = .ok (.getfield 40, 3) := by decide +kernel
theorem dX8_move_144 : decode cX8_move 144 = .ok (.iload 5, 2) := by decide +kernel
theorem dX8_move_146 : decode cX8_move 146 = .ok (.invokevirtual 140, 3) := by decide +kernel
theorem dX8_move_149 : decode cX8_move 149 = .ok (.iconst 0, 1) := by decide +kernel
theorem dX8_move_150 : decode cX8_move 150 = .ok (.ireturn, 1) := by decide +kernel
theorem dX8_undo_0 : decode cX8_undo 0 = .ok (.aload_n 0, 1) := by decide +kernel
theorem dX8_undo_1 : decode cX8_undo 1 = .ok (.getfield 25, 3) := by decide +kernel
theorem dX8_undo_4 : decode cX8_undo 4 = .ok (.getfield 191, 3) := by decide +kernel
theorem dX8_undo_7 : decode cX8_undo 7 = .ok (.ifCond .ne 6, 3) := by decide +kernel
theorem dX8_undo_10 : decode cX8_undo 10 = .ok (.bipush (-5), 2) := by decide +kernel
theorem dX8_undo_12 : decode cX8_undo 12 = .ok (.ireturn, 1) := by decide +kernel
theorem dX8_undo_13 : decode cX8_undo 13 = .ok (.aload_n 0, 1) := by decide +kernel
theorem dX8_undo_14 : decode cX8_undo 14 = .ok (.getfield 25, 3) := by decide +kernel
theorem dX8_undo_17 : decode cX8_undo 17 = .ok (.aload_n 0, 1) := by decide +kernel
theorem dX8_undo_18 : decode cX8_undo 18 = .ok (.getfield 12, 3) := by decide +kernel
theorem dX8_undo_21 : decode cX8_undo 21 = .ok (.invokevirtual 194, 3) := by decide +kernel
theorem dX8_undo_24 : decode cX8_undo 24 = .ok (.aload_n 0, 1) := by decide +kernel
theorem dX8_undo_25 : decode cX8_undo 25 = .ok (.getfield 25, 3) := by decide +kernel
theorem dX8_undo_28 : decode cX8_undo 28 = .ok (.getfield 191, 3) := by decide +kernel
theorem dX8_undo_31 : decode cX8_undo 31 = .ok (.ireturn, 1) := by decide +kernel
theorem dX8_restore_0 : decode cX8_restore 0 = .ok (.aload_n 0, 1) := by decide +kernel
theorem dX8_restore_1 : decode cX8_restore 1 = .ok (.getfield 36, 3) := by decide +kernel
theorem dX8_restore_4 : decode cX8_restore 4 = .ok (.ifCond .ne 6, 3) := by decide +kernel
theorem dX8_restore_7 : decode cX8_restore 7 = .ok (.bipush (-5), 2) := by decide +kernel
theorem dX8_restore_9 : decode cX8_restore 9 = .ok (.ireturn, 1) := by decide +kernel
theorem dX8_restore_10 : decode cX8_restore 10 = .ok (.aload_n 0, 1) := by decide +kernel
theorem dX8_restore_11 : decode cX8_restore 11 = .ok (.getfield 25, 3) := by decide +kernel
theorem dX8_restore_14 : decode cX8_restore 14 = .ok (.aload_n 0, 1) := by decide +kernel
theorem dX8_restore_15 : decode cX8_restore 15 = .ok (.getfield 12, 3) := by decide +kernel
theorem dX8_restore_18 : decode cX8_restore 18 = .ok (.invokevirtual 60, 3) := by decide +kernel
theorem dX8_restore_21 : decode cX8_restore 21 = .ok (.aload_n 0, 1) := by decide +kernel
theorem dX8_restore_22 : decode cX8_restore 22 = .ok (.getfield 12, 3) := by decide +kernel
theorem dX8_restore_25 : decode cX8_restore 25 = .ok (.aload_n 0, 1) := by decide +kernel
theorem dX8_restore_26 : decode cX8_restore 26 = .ok (.getfield 19, 3) := by decide +kernel
theorem dX8_restore_29 : decode cX8_restore 29 = .ok (.invokevirtual 175, 3) := by decide +kernel
theorem dX8_restore_32 : decode cX8_restore 32 = .ok (.aload_n 0, 1) := by decide +kernel
theorem dX8_restore_33 : decode cX8_restore 33 = .ok (.getfield 12, 3) := by decide +kernel
theorem dX8_restore_36 : decode cX8_restore 36 = .ok (.getfield 197, 3) := by decide +kernel
theorem dX8_restore_39 : decode cX8_restore 39 = .ok (.ireturn, 1) := by decide +kernel
theorem dX8_key_0 : decode cX8_key 0 = .ok (.aload_n 0, 1) := by decide +kernel
theorem dX8_key_1 : decode cX8_key 1 = .ok (.getfield 12, 3) := by decide +kernel
theorem dX8_key_4 : decode cX8_key 4 = .ok (.getfield 40, 3) := by decide +kernel
theorem dX8_key_7 : decode cX8_key 7 = .ok (.astore_n 3, 1) := by decide +kernel
theorem dX8_key_8 : decode cX8_key 8 = .ok (.aload_n 3, 1) := by decide +kernel
theorem dX8_key_9 : decode cX8_key 9 = .ok (.iload_n 1, 1) := by decide +kernel
theorem dX8_key_10 : decode cX8_key 10 = .ok (.invokevirtual 71, 3) := by decide +kernel
theorem dX8_key_13 : decode cX8_key 13 = .ok (.ifCond .ne 5, 3) := by decide +kernel
theorem dX8_key_16 : decode cX8_key 16 = .ok (.iconst (-1), 1) := by decide +kernel
theorem dX8_key_17 : decode cX8_key 17 = .ok (.ireturn, 1) := by decide +kernel
theorem dX8_key_18 : decode cX8_key 18 = .ok (.iload_n 2, 1) := by decide +kernel
theorem dX8_key_19 : decode cX8_key 19 = .ok (.tableswitch 137 0 6 #[41, 50, 64, 83, 97, 103, 112], 41) := by decide +kernel
theorem dX8_key_60 : decode cX8_key 60 = .ok (.aload_n 3, 1) := by decide +kernel
theorem dX8_key_61 : decode cX8_key 61 = .ok (.iload_n 1, 1) := by decide +kernel
theorem dX8_key_62 : decode cX8_key 62 = .ok (.invokevirtual 200, 3) := by decide +kernel
theorem dX8_key_65 : decode cX8_key 65 = .ok (.invokestatic 203, 3) := by decide +kernel
theorem dX8_key_68 : decode cX8_key 68 = .ok (.ireturn, 1) := by decide +kernel
theorem dX8_key_69 : decode cX8_key 69 = .ok (.aload_n 3, 1) := by decide +kernel
theorem dX8_key_70 : decode cX8_key 70 = .ok (.iload_n 1, 1) := by decide +kernel
theorem dX8_key_71 : decode cX8_key 71 = .ok (.invokevirtual 206, 3) := by decide +kernel
theorem dX8_key_74 : decode cX8_key 74 = .ok (.ifCond .eq 7, 3) := by decide +kernel
theorem dX8_key_77 : decode cX8_key 77 = .ok (.iconst 1, 1) := by decide +kernel
theorem dX8_key_78 : decode cX8_key 78 = .ok (.goto 4, 3) := by decide +kernel
theorem dX8_key_81 : decode cX8_key 81 = .ok (.iconst 0, 1) := by decide +kernel
theorem dX8_key_82 : decode cX8_key 82 = .ok (.ireturn, 1) := by decide +kernel
theorem dX8_key_83 : decode cX8_key 83 = .ok (.aload_n 3, 1) := by decide +kernel
theorem dX8_key_84 : decode cX8_key 84 = .ok (.iload_n 1, 1) := by decide +kernel
theorem dX8_key_85 : decode cX8_key 85 = .ok (.invokevirtual 206, 3) := by decide +kernel
theorem dX8_key_88 : decode cX8_key 88 = .ok (.ifCond .eq 11, 3) := by decide +kernel
theorem dX8_key_91 : decode cX8_key 91 = .ok (.aload_n 3, 1) := by decide +kernel
theorem dX8_key_92 : decode cX8_key 92 = .ok (.iload_n 1, 1) := by decide +kernel
theorem dX8_key_93 : decode cX8_key 93 = .ok (.invokevirtual 209, 3) := by decide +kernel
theorem dX8_key_96 : decode cX8_key 96 = .ok (.goto 5, 3) := by decide +kernel
theorem dX8_key_99 : decode cX8_key 99 = .ok (.bipush (-5), 2) := by decide +kernel
theorem dX8_key_101 : decode cX8_key 101 = .ok (.ireturn, 1) := by decide +kernel
theorem dX8_key_102 : decode cX8_key 102 = .ok (.aload_n 3, 1) := by decide +kernel
theorem dX8_key_103 : decode cX8_key 103 = .ok (.iload_n 1, 1) := by decide +kernel
theorem dX8_key_104 : decode cX8_key 104 = .ok (.invokevirtual 212, 3) := by decide +kernel
theorem dX8_key_107 : decode cX8_key 107 = .ok (.ifCond .eq 7, 3) := by decide +kernel
theorem dX8_key_110 : decode cX8_key 110 = .ok (.iconst 1, 1) := by decide +kernel
theorem dX8_key_111 : decode cX8_key 111 = .ok (.goto 4, 3) := by decide +kernel
theorem dX8_key_114 : decode cX8_key 114 = .ok (.iconst 0, 1) := by decide +kernel
theorem dX8_key_115 : decode cX8_key 115 = .ok (.ireturn, 1) := by decide +kernel
theorem dX8_key_116 : decode cX8_key 116 = .ok (.aload_n 3, 1) := by decide +kernel
theorem dX8_key_117 : decode cX8_key 117 = .ok (.iload_n 1, 1) := by decide +kernel
theorem dX8_key_118 : decode cX8_key 118 = .ok (.invokevirtual 75, 3) := by decide +kernel
theorem dX8_key_121 : decode cX8_key 121 = .ok (.ireturn, 1) := by decide +kernel
theorem dX8_key_122 : decode cX8_key 122 = .ok (.aload_n 3, 1) := by decide +kernel
theorem dX8_key_123 : decode cX8_key 123 = .ok (.iload_n 1, 1) := by decide +kernel
theorem dX8_key_124 : decode cX8_key 124 = .ok (.invokevirtual 79, 3) := by decide +kernel
theorem dX8_key_127 : decode cX8_key 127 = .ok (.invokestatic 203, 3) := by decide +kernel
theorem dX8_key_130 : decode cX8_key 130 = .ok (.ireturn, 1) := by decide +kernel
theorem dX8_key_131 : decode cX8_key 131 = .ok (.aload_n 3, 1) := by decide +kernel
theorem dX8_key_132 : decode cX8_key 132 = .ok (.aload_n 3, 1) := by decide +kernel
theorem dX8_key_133 : decode cX8_key 133 = .ok (.iload_n 1, 1) := by decide +kernel
theorem dX8_key_134 : decode cX8_key 134 = .ok (.invokevirtual 215, 3) := by decide +kernel
theorem dX8_key_137 : decode cX8_key 137 = .ok (.iconst (-1), 1) := by decide +kernel
theorem dX8_key_138 : decode cX8_key 138 = .ok (.invokevirtual 218, 3) := by decide +kernel
theorem dX8_key_141 : decode cX8_key 141 = .ok (.aload_n 3, 1) := by decide +kernel
theorem dX8_key_142 : decode cX8_key 142 = .ok (.iload_n 1, 1) := by decide +kernel
theorem dX8_key_143 : decode cX8_key 143 = .ok (.invokevirtual 221, 3) := by decide +kernel
theorem dX8_key_146 : decode cX8_key 146 = .ok (.iand, 1) := by decide +kernel
theorem dX8_key_147 : decode cX8_key 147 = .ok (.ifCond .eq 7, 3) := by decide +kernel
theorem dX8_key_150 : decode cX8_key 150 = .ok (.iconst 1, 1) := by decide +kernel
theorem dX8_key_151 : decode cX8_key 151 = .ok (.goto 4, 3) := by decide +kernel
theorem dX8_key_154 : decode cX8_key 154 = .ok (.iconst 0, 1) := by decide +kernel
theorem dX8_key_155 : decode cX8_key 155 = .ok (.ireturn, 1) := by decide +kernel
theorem dX8_key_156 : decode cX8_key 156 = .ok (.bipush (-2), 2) := by decide +kernel
theorem dX8_key_158 : decode cX8_key 158 = .ok (.ireturn, 1) := by decide +kernel
theorem dX8_typist_0 : decode cX8_typist 0 = .ok (.iload_n 1, 1) := by decide +kernel
theorem dX8_typist_1 : decode cX8_typist 1 = .ok (.invokestatic 86, 3) := by decide +kernel
theorem dX8_typist_4 : decode cX8_typist 4 = .ok (.ifCond .ne 5, 3) := by decide +kernel
theorem dX8_typist_7 : decode cX8_typist 7 = .ok (.iconst (-1), 1) := by decide +kernel
theorem dX8_typist_8 : decode cX8_typist 8 = .ok (.ireturn, 1) := by decide +kernel
theorem dX8_typist_9 : decode cX8_typist 9 = .ok (.aload_n 0, 1) := by decide +kernel
theorem dX8_typist_10 : decode cX8_typist 10 = .ok (.getfield 12, 3) := by decide +kernel
theorem dX8_typist_13 : decode cX8_typist 13 = .ok (.iload_n 1, 1) := by decide +kernel
theorem dX8_typist_14 : decode cX8_typist 14 = .ok (.invokevirtual 95, 3) := by decide +kernel
theorem dX8_typist_17 : decode cX8_typist 17 = .ok (.astore_n 3, 1) := by decide +kernel
theorem dX8_typist_18 : decode cX8_typist 18 = .ok (.iload_n 2, 1) := by decide +kernel
theorem dX8_typist_19 : decode cX8_typist 19 = .ok (.tableswitch 128 0 7 #[45, 57, 72, 92, 105, 110, 115, 120], 45) := by decide +kernel
theorem dX8_typist_64 : decode cX8_typist 64 = .ok (.aload_n 0, 1) := by decide +kernel
theorem dX8_typist_65 : decode cX8_typist 65 = .ok (.getfield 12, 3) := by decide +kernel
theorem dX8_typist_68 : decode cX8_typist 68 = .ok (.getfield 40, 3) := by decide +kernel
theorem dX8_typist_71 : decode cX8_typist 71 = .ok (.iload_n 1, 1) := by decide +kernel
theorem dX8_typist_72 : decode cX8_typist 72 = .ok (.invokevirtual 134, 3) := by decide +kernel
theorem dX8_typist_75 : decode cX8_typist 75 = .ok (.ireturn, 1) := by decide +kernel
theorem dX8_typist_76 : decode cX8_typist 76 = .ok (.aload_n 0, 1) := by decide +kernel
theorem dX8_typist_77 : decode cX8_typist 77 = .ok (.getfield 12, 3) := by decide +kernel
theorem dX8_typist_80 : decode cX8_typist 80 = .ok (.getfield 40, 3) := by decide +kernel
theorem dX8_typist_83 : decode cX8_typist 83 = .ok (.iload_n 1, 1) := by decide +kernel
theorem dX8_typist_84 : decode cX8_typist 84 = .ok (.invokevirtual 89, 3) := by decide +kernel
theorem dX8_typist_87 : decode cX8_typist 87 = .ok (.invokestatic 203, 3) := by decide +kernel
theorem dX8_typist_90 : decode cX8_typist 90 = .ok (.ireturn, 1) := by decide +kernel
theorem dX8_typist_91 : decode cX8_typist 91 = .ok (.aload_n 0, 1) := by decide +kernel
theorem dX8_typist_92 : decode cX8_typist 92 = .ok (.getfield 12, 3) := by decide +kernel
theorem dX8_typist_95 : decode cX8_typist 95 = .ok (.getfield 40, 3) := by decide +kernel
theorem dX8_typist_98 : decode cX8_typist 98 = .ok (.iload_n 1, 1) := by decide +kernel
theorem dX8_typist_99 : decode cX8_typist 99 = .ok (.invokevirtual 224, 3) := by decide +kernel
theorem dX8_typist_102 : decode cX8_typist 102 = .ok (.ifCond .eq 7, 3) := by decide +kernel
theorem dX8_typist_105 : decode cX8_typist 105 = .ok (.iconst 1, 1) := by decide +kernel
theorem dX8_typist_106 : decode cX8_typist 106 = .ok (.goto 4, 3) := by decide +kernel
theorem dX8_typist_109 : decode cX8_typist 109 = .ok (.iconst 0, 1) := by decide +kernel
theorem dX8_typist_110 : decode cX8_typist 110 = .ok (.ireturn, 1) := by decide +kernel
theorem dX8_typist_111 : decode cX8_typist 111 = .ok (.aload_n 3, 1) := by decide +kernel
theorem dX8_typist_112 : decode cX8_typist 112 = .ok (.getfield 99, 3) := by decide +kernel
theorem dX8_typist_115 : decode cX8_typist 115 = .ok (.ifCond .eq 7, 3) := by decide +kernel
theorem dX8_typist_118 : decode cX8_typist 118 = .ok (.iconst 1, 1) := by decide +kernel
theorem dX8_typist_119 : decode cX8_typist 119 = .ok (.goto 4, 3) := by decide +kernel
theorem dX8_typist_122 : decode cX8_typist 122 = .ok (.iconst 0, 1) := by decide +kernel
theorem dX8_typist_123 : decode cX8_typist 123 = .ok (.ireturn, 1) := by decide +kernel
theorem dX8_typist_124 : decode cX8_typist 124 = .ok (.aload_n 3, 1) := by decide +kernel
theorem dX8_typist_125 : decode cX8_typist 125 = .ok (.getfield 227, 3) := by decide +kernel
theorem dX8_typist_128 : decode cX8_typist 128 = .ok (.ireturn, 1) := by decide +kernel
theorem dX8_typist_129 : decode cX8_typist 129 = .ok (.aload_n 3, 1) := by decide +kernel
theorem dX8_typist_130 : decode cX8_typist 130 = .ok (.getfield 230, 3) := by decide +kernel
theorem dX8_typist_133 : decode cX8_typist 133 = .ok (.ireturn, 1) := by decide +kernel
theorem dX8_typist_134 : decode cX8_typist 134 = .ok (.aload_n 3, 1) := by decide +kernel
theorem dX8_typist_135 : decode cX8_typist 135 = .ok (.getfield 233, 3) := by decide +kernel
theorem dX8_typist_138 : decode cX8_typist 138 = .ok (.ireturn, 1) := by decide +kernel
theorem dX8_typist_139 : decode cX8_typist 139 = .ok (.aload_n 3, 1) := by decide +kernel
theorem dX8_typist_140 : decode cX8_typist 140 = .ok (.getfield 236, 3) := by decide +kernel
theorem dX8_typist_143 : decode cX8_typist 143 = .ok (.invokestatic 203, 3) := by decide +kernel
theorem dX8_typist_146 : decode cX8_typist 146 = .ok (.ireturn, 1) := by decide +kernel
theorem dX8_typist_147 : decode cX8_typist 147 = .ok (.bipush (-2), 2) := by decide +kernel
theorem dX8_typist_149 : decode cX8_typist 149 = .ok (.ireturn, 1) := by decide +kernel
theorem dX8_style_0 : decode cX8_style 0 = .ok (.iload_n 1, 1) := by decide +kernel
theorem dX8_style_1 : decode cX8_style 1 = .ok (.invokestatic 86, 3) := by decide +kernel
theorem dX8_style_4 : decode cX8_style 4 = .ok (.ifCond .eq 10, 3) := by decide +kernel
theorem dX8_style_7 : decode cX8_style 7 = .ok (.iload_n 2, 1) := by decide +kernel
theorem dX8_style_8 : decode cX8_style 8 = .ok (.invokestatic 239, 3) := by decide +kernel
theorem dX8_style_11 : decode cX8_style 11 = .ok (.ifCond .ne 6, 3) := by decide +kernel
theorem dX8_style_14 : decode cX8_style 14 = .ok (.ldc 242, 2) := by decide +kernel
theorem dX8_style_16 : decode cX8_style 16 = .ok (.freturn, 1) := by decide +kernel
theorem dX8_style_17 : decode cX8_style 17 = .ok (.aload_n 0, 1) := by decide +kernel
theorem dX8_style_18 : decode cX8_style 18 = .ok (.iload_n 1, 1) := by decide +kernel
theorem dX8_style_19 : decode cX8_style 19 = .ok (.iload_n 2, 1) := by decide +kernel
theorem dX8_style_20 : decode cX8_style 20 = .ok (.invokevirtual 243, 3) := by decide +kernel
theorem dX8_style_23 : decode cX8_style 23 = .ok (.freturn, 1) := by decide +kernel
theorem dX8_hundredths_0 : decode cX8_hundredths 0 = .ok (.iload_n 1, 1) := by decide +kernel
theorem dX8_hundredths_1 : decode cX8_hundredths 1 = .ok (.invokestatic 86, 3) := by decide +kernel
theorem dX8_hundredths_4 : decode cX8_hundredths 4 = .ok (.ifCond .ne 5, 3) := by decide +kernel
theorem dX8_hundredths_7 : decode cX8_hundredths 7 = .ok (.iconst (-1), 1) := by decide +kernel
theorem dX8_hundredths_8 : decode cX8_hundredths 8 = .ok (.ireturn, 1) := by decide +kernel
theorem dX8_hundredths_9 : decode cX8_hundredths 9 = .ok (.iload_n 2, 1) := by decide +kernel
theorem dX8_hundredths_10 : decode cX8_hundredths 10 = .ok (.invokestatic 239, 3) := by decide +kernel
theorem dX8_hundredths_13 : decode cX8_hundredths 13 = .ok (.ifCond .ne 6, 3) := by decide +kernel
theorem dX8_hundredths_16 : decode cX8_hundredths 16 = .ok (.bipush (-2), 2) := by decide +kernel
theorem dX8_hundredths_18 : decode cX8_hundredths 18 = .ok (.ireturn, 1) := by decide +kernel
theorem dX8_hundredths_19 : decode cX8_hundredths 19 = .ok (.aload_n 0, 1) := by decide +kernel
theorem dX8_hundredths_20 : decode cX8_hundredths 20 = .ok (.iload_n 1, 1) := by decide +kernel
theorem dX8_hundredths_21 : decode cX8_hundredths 21 = .ok (.iload_n 2, 1) := by decide +kernel
theorem dX8_hundredths_22 : decode cX8_hundredths 22 = .ok (.invokevirtual 243, 3) := by decide +kernel
theorem dX8_hundredths_25 : decode cX8_hundredths 25 = .ok (.ldc 247, 2) := by decide +kernel
theorem dX8_hundredths_27 : decode cX8_hundredths 27 = .ok (.fmul, 1) := by decide +kernel
theorem dX8_hundredths_28 : decode cX8_hundredths 28 = .ok (.f2i, 1) := by decide +kernel
theorem dX8_hundredths_29 : decode cX8_hundredths 29 = .ok (.ireturn, 1) := by decide +kernel
theorem dX8_typed_0 : decode cX8_typed 0 = .ok (.iload_n 1, 1) := by decide +kernel
theorem dX8_typed_1 : decode cX8_typed 1 = .ok (.invokestatic 86, 3) := by decide +kernel
theorem dX8_typed_4 : decode cX8_typed 4 = .ok (.ifCond .ne 5, 3) := by decide +kernel
theorem dX8_typed_7 : decode cX8_typed 7 = .ok (.iconst (-1), 1) := by decide +kernel
theorem dX8_typed_8 : decode cX8_typed 8 = .ok (.ireturn, 1) := by decide +kernel
theorem dX8_typed_9 : decode cX8_typed 9 = .ok (.iload_n 2, 1) := by decide +kernel
theorem dX8_typed_10 : decode cX8_typed 10 = .ok (.ifCond .ge 6, 3) := by decide +kernel
theorem dX8_typed_13 : decode cX8_typed 13 = .ok (.bipush (-2), 2) := by decide +kernel
theorem dX8_typed_15 : decode cX8_typed 15 = .ok (.ireturn, 1) := by decide +kernel
theorem dX8_typed_16 : decode cX8_typed 16 = .ok (.aload_n 0, 1) := by decide +kernel
theorem dX8_typed_17 : decode cX8_typed 17 = .ok (.getfield 12, 3) := by decide +kernel
theorem dX8_typed_20 : decode cX8_typed 20 = .ok (.iload_n 1, 1) := by decide +kernel
theorem dX8_typed_21 : decode cX8_typed 21 = .ok (.invokevirtual 95, 3) := by decide +kernel
theorem dX8_typed_24 : decode cX8_typed 24 = .ok (.astore_n 3, 1) := by decide +kernel
theorem dX8_typed_25 : decode cX8_typed 25 = .ok (.iload_n 2, 1) := by decide +kernel
theorem dX8_typed_26 : decode cX8_typed 26 = .ok (.aload_n 3, 1) := by decide +kernel
theorem dX8_typed_27 : decode cX8_typed 27 = .ok (.getfield 233, 3) := by decide +kernel
theorem dX8_typed_30 : decode cX8_typed 30 = .ok (.if_icmp .ge 9, 3) := by decide +kernel
theorem dX8_typed_33 : decode cX8_typed 33 = .ok (.iload_n 2, 1) := by decide +kernel
theorem dX8_typed_34 : decode cX8_typed 34 = .ok (.bipush 24, 2) := by decide +kernel
theorem dX8_typed_36 : decode cX8_typed 36 = .ok (.if_icmp .lt 6, 3) := by decide +kernel
theorem dX8_typed_39 : decode cX8_typed 39 = .ok (.bipush (-5), 2) := by decide +kernel
theorem dX8_typed_41 : decode cX8_typed 41 = .ok (.ireturn, 1) := by decide +kernel
theorem dX8_typed_42 : decode cX8_typed 42 = .ok (.aload_n 3, 1) := by decide +kernel
theorem dX8_typed_43 : decode cX8_typed 43 = .ok (.iload_n 2, 1) := by decide +kernel
theorem dX8_typed_44 : decode cX8_typed 44 = .ok (.invokevirtual 248, 3) := by decide +kernel
theorem dX8_typed_47 : decode cX8_typed 47 = .ok (.ireturn, 1) := by decide +kernel
theorem dX8_stroke_0 : decode cX8_stroke 0 = .ok (.iload_n 1, 1) := by decide +kernel
theorem dX8_stroke_1 : decode cX8_stroke 1 = .ok (.ifCond .lt 12, 3) := by decide +kernel
theorem dX8_stroke_4 : decode cX8_stroke 4 = .ok (.iload_n 2, 1) := by decide +kernel
theorem dX8_stroke_5 : decode cX8_stroke 5 = .ok (.ifCond .lt 8, 3) := by decide +kernel
theorem dX8_stroke_8 : decode cX8_stroke 8 = .ok (.iload_n 2, 1) := by decide +kernel
theorem dX8_stroke_9 : decode cX8_stroke 9 = .ok (.iconst 5, 1) := by decide +kernel
theorem dX8_stroke_10 : decode cX8_stroke 10 = .ok (.if_icmp .le 6, 3) := by decide +kernel
theorem dX8_stroke_13 : decode cX8_stroke 13 = .ok (.bipush (-2), 2) := by decide +kernel
theorem dX8_stroke_15 : decode cX8_stroke 15 = .ok (.ireturn, 1) := by decide +kernel
theorem dX8_stroke_16 : decode cX8_stroke 16 = .ok (.aload_n 0, 1) := by decide +kernel
theorem dX8_stroke_17 : decode cX8_stroke 17 = .ok (.getfield 12, 3) := by decide +kernel
theorem dX8_stroke_20 : decode cX8_stroke 20 = .ok (.getfield 251, 3) := by decide +kernel
theorem dX8_stroke_23 : decode cX8_stroke 23 = .ok (.astore_n 3, 1) := by decide +kernel
theorem dX8_stroke_24 : decode cX8_stroke 24 = .ok (.iload_n 1, 1) := by decide +kernel
theorem dX8_stroke_25 : decode cX8_stroke 25 = .ok (.aload_n 3, 1) := by decide +kernel
theorem dX8_stroke_26 : decode cX8_stroke 26 = .ok (.getfield 254, 3) := by decide +kernel
theorem dX8_stroke_29 : decode cX8_stroke 29 = .ok (.if_icmp .ge 9, 3) := by decide +kernel
theorem dX8_stroke_32 : decode cX8_stroke 32 = .ok (.iload_n 1, 1) := by decide +kernel
theorem dX8_stroke_33 : decode cX8_stroke 33 = .ok (.bipush 16, 2) := by decide +kernel
theorem dX8_stroke_35 : decode cX8_stroke 35 = .ok (.if_icmp .lt 6, 3) := by decide +kernel
theorem dX8_stroke_38 : decode cX8_stroke 38 = .ok (.bipush (-5), 2) := by decide +kernel
theorem dX8_stroke_40 : decode cX8_stroke 40 = .ok (.ireturn, 1) := by decide +kernel
theorem dX8_stroke_41 : decode cX8_stroke 41 = .ok (.aload_n 3, 1) := by decide +kernel
theorem dX8_stroke_42 : decode cX8_stroke 42 = .ok (.getfield 254, 3) := by decide +kernel
theorem dX8_stroke_45 : decode cX8_stroke 45 = .ok (.iconst 1, 1) := by decide +kernel
theorem dX8_stroke_46 : decode cX8_stroke 46 = .ok (.isub, 1) := by decide +kernel
theorem dX8_stroke_47 : decode cX8_stroke 47 = .ok (.iload_n 1, 1) := by decide +kernel
theorem dX8_stroke_48 : decode cX8_stroke 48 = .ok (.isub, 1) := by decide +kernel
theorem dX8_stroke_49 : decode cX8_stroke 49 = .ok (.istore 4, 2) := by decide +kernel
theorem dX8_stroke_51 : decode cX8_stroke 51 = .ok (.iload_n 2, 1) := by decide +kernel
theorem dX8_stroke_52 : decode cX8_stroke 52 = .ok (.tableswitch 74 0 4 #[36, 43, 50, 57, 64], 36) := by decide +kernel
theorem dX8_stroke_88 : decode cX8_stroke 88 = .ok (.aload_n 3, 1) := by decide +kernel
theorem dX8_stroke_89 : decode cX8_stroke 89 = .ok (.iload 4, 2) := by decide +kernel
theorem dX8_stroke_91 : decode cX8_stroke 91 = .ok (.invokevirtual 162, 3) := by decide +kernel
theorem dX8_stroke_94 : decode cX8_stroke 94 = .ok (.ireturn, 1) := by decide +kernel
theorem dX8_stroke_95 : decode cX8_stroke 95 = .ok (.aload_n 3, 1) := by decide +kernel
theorem dX8_stroke_96 : decode cX8_stroke 96 = .ok (.iload 4, 2) := by decide +kernel
theorem dX8_stroke_98 : decode cX8_stroke 98 = .ok (.invokevirtual 257, 3) := by decide +kernel
theorem dX8_stroke_101 : decode cX8_stroke 101 = .ok (.ireturn, 1) := by decide +kernel
theorem dX8_stroke_102 : decode cX8_stroke 102 = .ok (.aload_n 3, 1) := by decide +kernel
theorem dX8_stroke_103 : decode cX8_stroke 103 = .ok (.iload 4, 2) := by decide +kernel
theorem dX8_stroke_105 : decode cX8_stroke 105 = .ok (.invokevirtual 258, 3) := by decide +kernel
theorem dX8_stroke_108 : decode cX8_stroke 108 = .ok (.ireturn, 1) := by decide +kernel
theorem dX8_stroke_109 : decode cX8_stroke 109 = .ok (.aload_n 3, 1) := by decide +kernel
theorem dX8_stroke_110 : decode cX8_stroke 110 = .ok (.iload 4, 2) := by decide +kernel
theorem dX8_stroke_112 : decode cX8_stroke 112 = .ok (.invokevirtual 154, 3) := by decide +kernel
theorem dX8_stroke_115 : decode cX8_stroke 115 = .ok (.ireturn, 1) := by decide +kernel
theorem dX8_stroke_116 : decode cX8_stroke 116 = .ok (.aload_n 3, 1) := by decide +kernel
theorem dX8_stroke_117 : decode cX8_stroke 117 = .ok (.iload 4, 2) := by decide +kernel
theorem dX8_stroke_119 : decode cX8_stroke 119 = .ok (.invokevirtual 261, 3) := by decide +kernel
theorem dX8_stroke_122 : decode cX8_stroke 122 = .ok (.invokestatic 203, 3) := by decide +kernel
theorem dX8_stroke_125 : decode cX8_stroke 125 = .ok (.ireturn, 1) := by decide +kernel
theorem dX8_stroke_126 : decode cX8_stroke 126 = .ok (.aload_n 3, 1) := by decide +kernel
theorem dX8_stroke_127 : decode cX8_stroke 127 = .ok (.iload 4, 2) := by decide +kernel
theorem dX8_stroke_129 : decode cX8_stroke 129 = .ok (.invokevirtual 262, 3) := by decide +kernel
theorem dX8_stroke_132 : decode cX8_stroke 132 = .ok (.ireturn, 1) := by decide +kernel
theorem dX8_dispute_0 : decode cX8_dispute 0 = .ok (.aload_n 0, 1) := by decide +kernel
theorem dX8_dispute_1 : decode cX8_dispute 1 = .ok (.getfield 12, 3) := by decide +kernel
theorem dX8_dispute_4 : decode cX8_dispute 4 = .ok (.iload_n 1, 1) := by decide +kernel
theorem dX8_dispute_5 : decode cX8_dispute 5 = .ok (.invokevirtual 147, 3) := by decide +kernel
theorem dX8_dispute_8 : decode cX8_dispute 8 = .ok (.ifCond .ne 5, 3) := by decide +kernel
theorem dX8_dispute_11 : decode cX8_dispute 11 = .ok (.iconst (-1), 1) := by decide +kernel
theorem dX8_dispute_12 : decode cX8_dispute 12 = .ok (.ireturn, 1) := by decide +kernel
theorem dX8_dispute_13 : decode cX8_dispute 13 = .ok (.aload_n 0, 1) := by decide +kernel
theorem dX8_dispute_14 : decode cX8_dispute 14 = .ok (.getfield 12, 3) := by decide +kernel
theorem dX8_dispute_17 : decode cX8_dispute 17 = .ok (.getfield 150, 3) := by decide +kernel
theorem dX8_dispute_20 : decode cX8_dispute 20 = .ok (.astore_n 3, 1) := by decide +kernel
theorem dX8_dispute_21 : decode cX8_dispute 21 = .ok (.iload_n 2, 1) := by decide +kernel
theorem dX8_dispute_22 : decode cX8_dispute 22 = .ok (.tableswitch 81 0 4 #[34, 40, 46, 52, 72], 34) := by decide +kernel
theorem dX8_dispute_56 : decode cX8_dispute 56 = .ok (.aload_n 3, 1) := by decide +kernel
theorem dX8_dispute_57 : decode cX8_dispute 57 = .ok (.iload_n 1, 1) := by decide +kernel
theorem dX8_dispute_58 : decode cX8_dispute 58 = .ok (.invokevirtual 162, 3) := by decide +kernel
theorem dX8_dispute_61 : decode cX8_dispute 61 = .ok (.ireturn, 1) := by decide +kernel
theorem dX8_dispute_62 : decode cX8_dispute 62 = .ok (.aload_n 3, 1) := by decide +kernel
theorem dX8_dispute_63 : decode cX8_dispute 63 = .ok (.iload_n 1, 1) := by decide +kernel
theorem dX8_dispute_64 : decode cX8_dispute 64 = .ok (.invokevirtual 257, 3) := by decide +kernel
theorem dX8_dispute_67 : decode cX8_dispute 67 = .ok (.ireturn, 1) := by decide +kernel
theorem dX8_dispute_68 : decode cX8_dispute 68 = .ok (.aload_n 3, 1) := by decide +kernel
theorem dX8_dispute_69 : decode cX8_dispute 69 = .ok (.iload_n 1, 1) := by decide +kernel
theorem dX8_dispute_70 : decode cX8_dispute 70 = .ok (.invokevirtual 258, 3) := by decide +kernel
theorem dX8_dispute_73 : decode cX8_dispute 73 = .ok (.ireturn, 1) := by decide +kernel
theorem dX8_dispute_74 : decode cX8_dispute 74 = .ok (.aload_n 3, 1) := by decide +kernel
theorem dX8_dispute_75 : decode cX8_dispute 75 = .ok (.iload_n 1, 1) := by decide +kernel
theorem dX8_dispute_76 : decode cX8_dispute 76 = .ok (.invokevirtual 154, 3) := by decide +kernel
theorem dX8_dispute_79 : decode cX8_dispute 79 = .ok (.iconst 3, 1) := by decide +kernel
theorem dX8_dispute_80 : decode cX8_dispute 80 = .ok (.if_icmp .ne 8, 3) := by decide +kernel
theorem dX8_dispute_83 : decode cX8_dispute 83 = .ok (.bipush (-5), 2) := by decide +kernel
theorem dX8_dispute_85 : decode cX8_dispute 85 = .ok (.goto 8, 3) := by decide +kernel
theorem dX8_dispute_88 : decode cX8_dispute 88 = .ok (.aload_n 3, 1) := by decide +kernel
theorem dX8_dispute_89 : decode cX8_dispute 89 = .ok (.iload_n 1, 1) := by decide +kernel
theorem dX8_dispute_90 : decode cX8_dispute 90 = .ok (.invokevirtual 154, 3) := by decide +kernel
theorem dX8_dispute_93 : decode cX8_dispute 93 = .ok (.ireturn, 1) := by decide +kernel
theorem dX8_dispute_94 : decode cX8_dispute 94 = .ok (.aload_n 3, 1) := by decide +kernel
theorem dX8_dispute_95 : decode cX8_dispute 95 = .ok (.iload_n 1, 1) := by decide +kernel
theorem dX8_dispute_96 : decode cX8_dispute 96 = .ok (.invokevirtual 261, 3) := by decide +kernel
theorem dX8_dispute_99 : decode cX8_dispute 99 = .ok (.invokestatic 203, 3) := by decide +kernel
theorem dX8_dispute_102 : decode cX8_dispute 102 = .ok (.ireturn, 1) := by decide +kernel
theorem dX8_dispute_103 : decode cX8_dispute 103 = .ok (.bipush (-2), 2) := by decide +kernel
theorem dX8_dispute_105 : decode cX8_dispute 105 = .ok (.ireturn, 1) := by decide +kernel
theorem dX8_distance_0 : decode cX8_distance 0 = .ok (.iload_n 1, 1) := by decide +kernel
theorem dX8_distance_1 : decode cX8_distance 1 = .ok (.invokestatic 86, 3) := by decide +kernel
theorem dX8_distance_4 : decode cX8_distance 4 = .ok (.ifCond .eq 18, 3) := by decide +kernel
theorem dX8_distance_7 : decode cX8_distance 7 = .ok (.iload_n 2, 1) := by decide +kernel
theorem dX8_distance_8 : decode cX8_distance 8 = .ok (.ifCond .lt 14, 3) := by decide +kernel
theorem dX8_distance_11 : decode cX8_distance 11 = .ok (.iload_n 3, 1) := by decide +kernel
theorem dX8_distance_12 : decode cX8_distance 12 = .ok (.ifCond .lt 10, 3) := by decide +kernel
theorem dX8_distance_15 : decode cX8_distance 15 = .ok (.iload_n 3, 1) := by decide +kernel
theorem dX8_distance_16 : decode cX8_distance 16 = .ok (.sipush 9999, 3) := by decide +kernel
theorem dX8_distance_19 : decode cX8_distance 19 = .ok (.if_icmp .le 6, 3) := by decide +kernel
theorem dX8_distance_22 : decode cX8_distance 22 = .ok (.ldc 242, 2) := by decide +kernel
theorem dX8_distance_24 : decode cX8_distance 24 = .ok (.freturn, 1) := by decide +kernel
theorem dX8_distance_25 : decode cX8_distance 25 = .ok (.aload_n 0, 1) := by decide +kernel
theorem dX8_distance_26 : decode cX8_distance 26 = .ok (.getfield 12, 3) := by decide +kernel
theorem dX8_distance_29 : decode cX8_distance 29 = .ok (.iload_n 1, 1) := by decide +kernel
theorem dX8_distance_30 : decode cX8_distance 30 = .ok (.invokevirtual 95, 3) := by decide +kernel
theorem dX8_distance_33 : decode cX8_distance 33 = .ok (.iload_n 2, 1) := by decide +kernel
theorem dX8_distance_34 : decode cX8_distance 34 = .ok (.iload_n 3, 1) := by decide +kernel
theorem dX8_distance_35 : decode cX8_distance 35 = .ok (.invokevirtual 265, 3) := by decide +kernel
theorem dX8_distance_38 : decode cX8_distance 38 = .ok (.freturn, 1) := by decide +kernel
theorem dX8_verdict_0 : decode cX8_verdict 0 = .ok (.aload_n 0, 1) := by decide +kernel
theorem dX8_verdict_1 : decode cX8_verdict 1 = .ok (.getfield 12, 3) := by decide +kernel
theorem dX8_verdict_4 : decode cX8_verdict 4 = .ok (.getfield 40, 3) := by decide +kernel
theorem dX8_verdict_7 : decode cX8_verdict 7 = .ok (.iload_n 1, 1) := by decide +kernel
theorem dX8_verdict_8 : decode cX8_verdict 8 = .ok (.invokevirtual 71, 3) := by decide +kernel
theorem dX8_verdict_11 : decode cX8_verdict 11 = .ok (.ifCond .ne 5, 3) := by decide +kernel
theorem dX8_verdict_14 : decode cX8_verdict 14 = .ok (.iconst (-1), 1) := by decide +kernel
theorem dX8_verdict_15 : decode cX8_verdict 15 = .ok (.ireturn, 1) := by decide +kernel
theorem dX8_verdict_16 : decode cX8_verdict 16 = .ok (.aload_n 0, 1) := by decide +kernel
theorem dX8_verdict_17 : decode cX8_verdict 17 = .ok (.getfield 12, 3) := by decide +kernel
theorem dX8_verdict_20 : decode cX8_verdict 20 = .ok (.getfield 40, 3) := by decide +kernel
theorem dX8_verdict_23 : decode cX8_verdict 23 = .ok (.iload_n 1, 1) := by decide +kernel
theorem dX8_verdict_24 : decode cX8_verdict 24 = .ok (.invokevirtual 206, 3) := by decide +kernel
theorem dX8_verdict_27 : decode cX8_verdict 27 = .ok (.ifCond .eq 14, 3) := by decide +kernel
theorem dX8_verdict_30 : decode cX8_verdict 30 = .ok (.aload_n 0, 1) := by decide +kernel
theorem dX8_verdict_31 : decode cX8_verdict 31 = .ok (.getfield 12, 3) := by decide +kernel
theorem dX8_verdict_34 : decode cX8_verdict 34 = .ok (.iload_n 1, 1) := by decide +kernel
theorem dX8_verdict_35 : decode cX8_verdict 35 = .ok (.invokevirtual 268, 3) := by decide +kernel
theorem dX8_verdict_38 : decode cX8_verdict 38 = .ok (.goto 5, 3) := by decide +kernel
theorem dX8_verdict_41 : decode cX8_verdict 41 = .ok (.bipush (-5), 2) := by decide +kernel
theorem dX8_verdict_43 : decode cX8_verdict 43 = .ok (.ireturn, 1) := by decide +kernel
theorem dX8_ghostsBy_0 : decode cX8_ghostsBy 0 = .ok (.aload_n 0, 1) := by decide +kernel
theorem dX8_ghostsBy_1 : decode cX8_ghostsBy 1 = .ok (.getfield 12, 3) := by decide +kernel
theorem dX8_ghostsBy_4 : decode cX8_ghostsBy 4 = .ok (.getfield 40, 3) := by decide +kernel
theorem dX8_ghostsBy_7 : decode cX8_ghostsBy 7 = .ok (.astore_n 2, 1) := by decide +kernel
theorem dX8_ghostsBy_8 : decode cX8_ghostsBy 8 = .ok (.aload_n 2, 1) := by decide +kernel
theorem dX8_ghostsBy_9 : decode cX8_ghostsBy 9 = .ok (.iload_n 1, 1) := by decide +kernel
theorem dX8_ghostsBy_10 : decode cX8_ghostsBy 10 = .ok (.invokevirtual 71, 3) := by decide +kernel
theorem dX8_ghostsBy_13 : decode cX8_ghostsBy 13 = .ok (.ifCond .ne 5, 3) := by decide +kernel
theorem dX8_ghostsBy_16 : decode cX8_ghostsBy 16 = .ok (.iconst (-1), 1) := by decide +kernel
theorem dX8_ghostsBy_17 : decode cX8_ghostsBy 17 = .ok (.ireturn, 1) := by decide +kernel
theorem dX8_ghostsBy_18 : decode cX8_ghostsBy 18 = .ok (.bipush 100, 2) := by decide +kernel
theorem dX8_ghostsBy_20 : decode cX8_ghostsBy 20 = .ok (.aload_n 2, 1) := by decide +kernel
theorem dX8_ghostsBy_21 : decode cX8_ghostsBy 21 = .ok (.iload_n 1, 1) := by decide +kernel
theorem dX8_ghostsBy_22 : decode cX8_ghostsBy 22 = .ok (.iconst (-1), 1) := by decide +kernel
theorem dX8_ghostsBy_23 : decode cX8_ghostsBy 23 = .ok (.invokevirtual 271, 3) := by decide +kernel
theorem dX8_ghostsBy_26 : decode cX8_ghostsBy 26 = .ok (.iadd, 1) := by decide +kernel
theorem dX8_ghostsBy_27 : decode cX8_ghostsBy 27 = .ok (.aload_n 2, 1) := by decide +kernel
theorem dX8_ghostsBy_28 : decode cX8_ghostsBy 28 = .ok (.iload_n 1, 1) := by decide +kernel
theorem dX8_ghostsBy_29 : decode cX8_ghostsBy 29 = .ok (.iload_n 1, 1) := by decide +kernel
theorem dX8_ghostsBy_30 : decode cX8_ghostsBy 30 = .ok (.invokevirtual 271, 3) := by decide +kernel
theorem dX8_ghostsBy_33 : decode cX8_ghostsBy 33 = .ok (.isub, 1) := by decide +kernel
theorem dX8_ghostsBy_34 : decode cX8_ghostsBy 34 = .ok (.ireturn, 1) := by decide +kernel
theorem dX8_count_0 : decode cX8_count 0 = .ok (.aload_n 0, 1) := by decide +kernel
theorem dX8_count_1 : decode cX8_count 1 = .ok (.getfield 12, 3) := by decide +kernel
theorem dX8_count_4 : decode cX8_count 4 = .ok (.getfield 40, 3) := by decide +kernel
theorem dX8_count_7 : decode cX8_count 7 = .ok (.astore_n 2, 1) := by decide +kernel
theorem dX8_count_8 : decode cX8_count 8 = .ok (.iload_n 1, 1) := by decide +kernel
theorem dX8_count_9 : decode cX8_count 9 = .ok (.tableswitch 226 0 15 #[79, 87, 92, 97, 102, 107, 112, 123, 145, 153, 161, 172, 194, 202, 210, 218], 79) := by decide +kernel
theorem dX8_count_88 : decode cX8_count 88 = .ok (.aload_n 0, 1) := by decide +kernel
theorem dX8_count_89 : decode cX8_count 89 = .ok (.getfield 12, 3) := by decide +kernel
theorem dX8_count_92 : decode cX8_count 92 = .ok (.getfield 197, 3) := by decide +kernel
theorem dX8_count_95 : decode cX8_count 95 = .ok (.ireturn, 1) := by decide +kernel
theorem dX8_count_96 : decode cX8_count 96 = .ok (.aload_n 2, 1) := by decide +kernel
theorem dX8_count_97 : decode cX8_count 97 = .ok (.getfield 53, 3) := by decide +kernel
theorem dX8_count_100 : decode cX8_count 100 = .ok (.ireturn, 1) := by decide +kernel
theorem dX8_count_101 : decode cX8_count 101 = .ok (.aload_n 2, 1) := by decide +kernel
theorem dX8_count_102 : decode cX8_count 102 = .ok (.getfield 57, 3) := by decide +kernel
theorem dX8_count_105 : decode cX8_count 105 = .ok (.ireturn, 1) := by decide +kernel
theorem dX8_count_106 : decode cX8_count 106 = .ok (.aload_n 2, 1) := by decide +kernel
theorem dX8_count_107 : decode cX8_count 107 = .ok (.invokevirtual 44, 3) := by decide +kernel
theorem dX8_count_110 : decode cX8_count 110 = .ok (.ireturn, 1) := by decide +kernel
theorem dX8_count_111 : decode cX8_count 111 = .ok (.aload_n 2, 1) := by decide +kernel
theorem dX8_count_112 : decode cX8_count 112 = .ok (.invokevirtual 50, 3) := by decide +kernel
theorem dX8_count_115 : decode cX8_count 115 = .ok (.ireturn, 1) := by decide +kernel
theorem dX8_count_116 : decode cX8_count 116 = .ok (.aload_n 2, 1) := by decide +kernel
theorem dX8_count_117 : decode cX8_count 117 = .ok (.invokevirtual 274, 3) := by decide +kernel
theorem dX8_count_120 : decode cX8_count 120 = .ok (.ireturn, 1) := by decide +kernel
theorem dX8_count_121 : decode cX8_count 121 = .ok (.aload_n 0, 1) := by decide +kernel
theorem dX8_count_122 : decode cX8_count 122 = .ok (.getfield 12, 3) := by decide +kernel
theorem dX8_count_125 : decode cX8_count 125 = .ok (.getfield 251, 3) := by decide +kernel
theorem dX8_count_128 : decode cX8_count 128 = .ok (.getfield 254, 3) := by decide +kernel
theorem dX8_count_131 : decode cX8_count 131 = .ok (.ireturn, 1) := by decide +kernel
theorem dX8_count_132 : decode cX8_count 132 = .ok (.aload_n 0, 1) := by decide +kernel
theorem dX8_count_133 : decode cX8_count 133 = .ok (.getfield 12, 3) := by decide +kernel
theorem dX8_count_136 : decode cX8_count 136 = .ok (.getfield 104, 3) := by decide +kernel
theorem dX8_count_139 : decode cX8_count 139 = .ok (.getfield 227, 3) := by decide +kernel
theorem dX8_count_142 : decode cX8_count 142 = .ok (.aload_n 0, 1) := by decide +kernel
theorem dX8_count_143 : decode cX8_count 143 = .ok (.getfield 12, 3) := by decide +kernel
theorem dX8_count_146 : decode cX8_count 146 = .ok (.getfield 108, 3) := by decide +kernel
theorem dX8_count_149 : decode cX8_count 149 = .ok (.getfield 227, 3) := by decide +kernel
theorem dX8_count_152 : decode cX8_count 152 = .ok (.iadd, 1) := by decide +kernel
theorem dX8_count_153 : decode cX8_count 153 = .ok (.ireturn, 1) := by decide +kernel
theorem dX8_count_154 : decode cX8_count 154 = .ok (.aload_n 0, 1) := by decide +kernel
theorem dX8_count_155 : decode cX8_count 155 = .ok (.getfield 12, 3) := by decide +kernel
theorem dX8_count_158 : decode cX8_count 158 = .ok (.getfield 277, 3) := by decide +kernel
theorem dX8_count_161 : decode cX8_count 161 = .ok (.ireturn, 1) := by decide +kernel
theorem dX8_count_162 : decode cX8_count 162 = .ok (.aload_n 0, 1) := by decide +kernel
theorem dX8_count_163 : decode cX8_count 163 = .ok (.getfield 12, 3) := by decide +kernel
theorem dX8_count_166 : decode cX8_count 166 = .ok (.getfield 280, 3) := by decide +kernel
theorem dX8_count_169 : decode cX8_count 169 = .ok (.ireturn, 1) := by decide +kernel
theorem dX8_count_170 : decode cX8_count 170 = .ok (.aload_n 0, 1) := by decide +kernel
theorem dX8_count_171 : decode cX8_count 171 = .ok (.getfield 12, 3) := by decide +kernel
theorem dX8_count_174 : decode cX8_count 174 = .ok (.getfield 150, 3) := by decide +kernel
theorem dX8_count_177 : decode cX8_count 177 = .ok (.getfield 254, 3) := by decide +kernel
theorem dX8_count_180 : decode cX8_count 180 = .ok (.ireturn, 1) := by decide +kernel
theorem dX8_count_181 : decode cX8_count 181 = .ok (.aload_n 0, 1) := by decide +kernel
theorem dX8_count_182 : decode cX8_count 182 = .ok (.getfield 12, 3) := by decide +kernel
theorem dX8_count_185 : decode cX8_count 185 = .ok (.getfield 104, 3) := by decide +kernel
theorem dX8_count_188 : decode cX8_count 188 = .ok (.getfield 230, 3) := by decide +kernel
theorem dX8_count_191 : decode cX8_count 191 = .ok (.aload_n 0, 1) := by decide +kernel
theorem dX8_count_192 : decode cX8_count 192 = .ok (.getfield 12, 3) := by decide +kernel
theorem dX8_count_195 : decode cX8_count 195 = .ok (.getfield 108, 3) := by decide +kernel
theorem dX8_count_198 : decode cX8_count 198 = .ok (.getfield 230, 3) := by decide +kernel
theorem dX8_count_201 : decode cX8_count 201 = .ok (.iadd, 1) := by decide +kernel
theorem dX8_count_202 : decode cX8_count 202 = .ok (.ireturn, 1) := by decide +kernel
theorem dX8_count_203 : decode cX8_count 203 = .ok (.aload_n 0, 1) := by decide +kernel
theorem dX8_count_204 : decode cX8_count 204 = .ok (.getfield 12, 3) := by decide +kernel
theorem dX8_count_207 : decode cX8_count 207 = .ok (.getfield 283, 3) := by decide +kernel
theorem dX8_count_210 : decode cX8_count 210 = .ok (.ireturn, 1) := by decide +kernel
theorem dX8_count_211 : decode cX8_count 211 = .ok (.aload_n 0, 1) := by decide +kernel
theorem dX8_count_212 : decode cX8_count 212 = .ok (.getfield 12, 3) := by decide +kernel
theorem dX8_count_215 : decode cX8_count 215 = .ok (.invokevirtual 286, 3) := by decide +kernel
theorem dX8_count_218 : decode cX8_count 218 = .ok (.ireturn, 1) := by decide +kernel
theorem dX8_count_219 : decode cX8_count 219 = .ok (.aload_n 0, 1) := by decide +kernel
theorem dX8_count_220 : decode cX8_count 220 = .ok (.getfield 25, 3) := by decide +kernel
theorem dX8_count_223 : decode cX8_count 223 = .ok (.getfield 191, 3) := by decide +kernel
theorem dX8_count_226 : decode cX8_count 226 = .ok (.ireturn, 1) := by decide +kernel
theorem dX8_count_227 : decode cX8_count 227 = .ok (.aload_n 0, 1) := by decide +kernel
theorem dX8_count_228 : decode cX8_count 228 = .ok (.getfield 32, 3) := by decide +kernel
theorem dX8_count_231 : decode cX8_count 231 = .ok (.getfield 169, 3) := by decide +kernel
theorem dX8_count_234 : decode cX8_count 234 = .ok (.ireturn, 1) := by decide +kernel
theorem dX8_count_235 : decode cX8_count 235 = .ok (.bipush (-2), 2) := by decide +kernel
theorem dX8_count_237 : decode cX8_count 237 = .ok (.ireturn, 1) := by decide +kernel
theorem dX8_isMean_0 : decode cX8_isMean 0 = .ok (.iload_n 0, 1) := by decide +kernel
theorem dX8_isMean_1 : decode cX8_isMean 1 = .ok (.ifCond .eq 8, 3) := by decide +kernel
theorem dX8_isMean_4 : decode cX8_isMean 4 = .ok (.iload_n 0, 1) := by decide +kernel
theorem dX8_isMean_5 : decode cX8_isMean 5 = .ok (.iconst 1, 1) := by decide +kernel
theorem dX8_isMean_6 : decode cX8_isMean 6 = .ok (.if_icmp .ne 7, 3) := by decide +kernel
theorem dX8_isMean_9 : decode cX8_isMean 9 = .ok (.iconst 1, 1) := by decide +kernel
theorem dX8_isMean_10 : decode cX8_isMean 10 = .ok (.goto 4, 3) := by decide +kernel
theorem dX8_isMean_13 : decode cX8_isMean 13 = .ok (.iconst 0, 1) := by decide +kernel
theorem dX8_isMean_14 : decode cX8_isMean 14 = .ok (.ireturn, 1) := by decide +kernel
theorem dX8_meanOf_0 : decode cX8_meanOf 0 = .ok (.aload_n 0, 1) := by decide +kernel
theorem dX8_meanOf_1 : decode cX8_meanOf 1 = .ok (.getfield 12, 3) := by decide +kernel
theorem dX8_meanOf_4 : decode cX8_meanOf 4 = .ok (.iload_n 1, 1) := by decide +kernel
theorem dX8_meanOf_5 : decode cX8_meanOf 5 = .ok (.invokevirtual 95, 3) := by decide +kernel
theorem dX8_meanOf_8 : decode cX8_meanOf 8 = .ok (.astore_n 3, 1) := by decide +kernel
theorem dX8_meanOf_9 : decode cX8_meanOf 9 = .ok (.iload_n 2, 1) := by decide +kernel
theorem dX8_meanOf_10 : decode cX8_meanOf 10 = .ok (.ifCond .ne 10, 3) := by decide +kernel
theorem dX8_meanOf_13 : decode cX8_meanOf 13 = .ok (.aload_n 3, 1) := by decide +kernel
theorem dX8_meanOf_14 : decode cX8_meanOf 14 = .ok (.getfield 289, 3) := by decide +kernel
theorem dX8_meanOf_17 : decode cX8_meanOf 17 = .ok (.goto 7, 3) := by decide +kernel
theorem dX8_meanOf_20 : decode cX8_meanOf 20 = .ok (.aload_n 3, 1) := by decide +kernel
theorem dX8_meanOf_21 : decode cX8_meanOf 21 = .ok (.getfield 293, 3) := by decide +kernel
theorem dX8_meanOf_24 : decode cX8_meanOf 24 = .ok (.freturn, 1) := by decide +kernel
theorem dX8_orNone_0 : decode cX8_orNone 0 = .ok (.iload_n 0, 1) := by decide +kernel
theorem dX8_orNone_1 : decode cX8_orNone 1 = .ok (.iconst (-1), 1) := by decide +kernel
theorem dX8_orNone_2 : decode cX8_orNone 2 = .ok (.if_icmp .ne 8, 3) := by decide +kernel
theorem dX8_orNone_5 : decode cX8_orNone 5 = .ok (.bipush (-5), 2) := by decide +kernel
theorem dX8_orNone_7 : decode cX8_orNone 7 = .ok (.goto 4, 3) := by decide +kernel
theorem dX8_orNone_10 : decode cX8_orNone 10 = .ok (.iload_n 0, 1) := by decide +kernel
theorem dX8_orNone_11 : decode cX8_orNone 11 = .ok (.ireturn, 1) := by decide +kernel

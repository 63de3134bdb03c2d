theorem dX0_init_0 : decode cX0_init 0 = .ok (.aload_n 0, 1) := by decide +kernel
theorem dX0_init_1 : decode cX0_init 1 = .ok (.invokespecial 3, 3) := by decide +kernel
theorem dX0_init_4 : decode cX0_init 4 = .ok (.aload_n 0, 1) := by decide +kernel
theorem dX0_init_5 : decode cX0_init 5 = .ok (.bipush 10, 2) := by decide +kernel
theorem dX0_init_7 : decode cX0_init 7 = .ok (.bipush 10, 2) := by decide +kernel
theorem dX0_init_9 : decode cX0_init 9 = .ok (.multianewarray 9 2, 4) := by decide +kernel
theorem dX0_init_13 : decode cX0_init 13 = .ok (.putfield 11, 3) := by decide +kernel
theorem dX0_init_16 : decode cX0_init 16 = .ok (.aload_n 0, 1) := by decide +kernel
theorem dX0_init_17 : decode cX0_init 17 = .ok (.aload_n 1, 1) := by decide +kernel
theorem dX0_init_18 : decode cX0_init 18 = .ok (.putfield 16, 3) := by decide +kernel
theorem dX0_init_21 : decode cX0_init 21 = .ok (.aload_n 0, 1) := by decide +kernel
theorem dX0_init_22 : decode cX0_init 22 = .ok (.aload_n 2, 1) := by decide +kernel
theorem dX0_init_23 : decode cX0_init 23 = .ok (.putfield 20, 3) := by decide +kernel
theorem dX0_init_26 : decode cX0_init 26 = .ok (.return_, 1) := by decide +kernel
theorem dX0_startAdvised_0 : decode cX0_startAdvised 0 = .ok (.iconst 0, 1) := by decide +kernel
theorem dX0_startAdvised_1 : decode cX0_startAdvised 1 = .ok (.istore_n 3, 1) := by decide +kernel
theorem dX0_startAdvised_2 : decode cX0_startAdvised 2 = .ok (.aload_n 0, 1) := by decide +kernel
theorem dX0_startAdvised_3 : decode cX0_startAdvised 3 = .ok (.getfield 16, 3) := by decide +kernel
theorem dX0_startAdvised_6 : decode cX0_startAdvised 6 = .ok (.aload_n 1, 1) := by decide +kernel
theorem dX0_startAdvised_7 : decode cX0_startAdvised 7 = .ok (.aload_n 2, 1) := by decide +kernel
theorem dX0_startAdvised_8 : decode cX0_startAdvised 8 = .ok (.aload_n 2, 1) := by decide +kernel
theorem dX0_startAdvised_9 : decode cX0_startAdvised 9 = .ok (.getfield 24, 3) := by decide +kernel
theorem dX0_startAdvised_12 : decode cX0_startAdvised 12 = .ok (.iconst 0, 1) := by decide +kernel
theorem dX0_startAdvised_13 : decode cX0_startAdvised 13 = .ok (.invokevirtual 30, 3) := by decide +kernel
theorem dX0_startAdvised_16 : decode cX0_startAdvised 16 = .ok (.istore 4, 2) := by decide +kernel
theorem dX0_startAdvised_18 : decode cX0_startAdvised 18 = .ok (.iconst 1, 1) := by decide +kernel
theorem dX0_startAdvised_19 : decode cX0_startAdvised 19 = .ok (.istore 5, 2) := by decide +kernel
theorem dX0_startAdvised_21 : decode cX0_startAdvised 21 = .ok (.iload 5, 2) := by decide +kernel
theorem dX0_startAdvised_23 : decode cX0_startAdvised 23 = .ok (.aload_n 1, 1) := by decide +kernel
theorem dX0_startAdvised_24 : decode cX0_startAdvised 24 = .ok (.getfield 36, 3) := by decide +kernel
theorem dX0_startAdvised_27 : decode cX0_startAdvised 27 = .ok (.invokevirtual 42, 3) := by decide +kernel
theorem dX0_startAdvised_30 : decode cX0_startAdvised 30 = .ok (.if_icmp .ge 40, 3) := by decide +kernel
theorem dX0_startAdvised_33 : decode cX0_startAdvised 33 = .ok (.aload_n 0, 1) := by decide +kernel
theorem dX0_startAdvised_34 : decode cX0_startAdvised 34 = .ok (.getfield 16, 3) := by decide +kernel
theorem dX0_startAdvised_37 : decode cX0_startAdvised 37 = .ok (.aload_n 1, 1) := by decide +kernel
theorem dX0_startAdvised_38 : decode cX0_startAdvised 38 = .ok (.aload_n 2, 1) := by decide +kernel
theorem dX0_startAdvised_39 : decode cX0_startAdvised 39 = .ok (.aload_n 2, 1) := by decide +kernel
theorem dX0_startAdvised_40 : decode cX0_startAdvised 40 = .ok (.getfield 24, 3) := by decide +kernel
theorem dX0_startAdvised_43 : decode cX0_startAdvised 43 = .ok (.iload 5, 2) := by decide +kernel
theorem dX0_startAdvised_45 : decode cX0_startAdvised 45 = .ok (.invokevirtual 30, 3) := by decide +kernel
theorem dX0_startAdvised_48 : decode cX0_startAdvised 48 = .ok (.istore 6, 2) := by decide +kernel
theorem dX0_startAdvised_50 : decode cX0_startAdvised 50 = .ok (.iload 6, 2) := by decide +kernel
theorem dX0_startAdvised_52 : decode cX0_startAdvised 52 = .ok (.iload 4, 2) := by decide +kernel
theorem dX0_startAdvised_54 : decode cX0_startAdvised 54 = .ok (.if_icmp .le 10, 3) := by decide +kernel
theorem dX0_startAdvised_57 : decode cX0_startAdvised 57 = .ok (.iload 6, 2) := by decide +kernel
theorem dX0_startAdvised_59 : decode cX0_startAdvised 59 = .ok (.istore 4, 2) := by decide +kernel
theorem dX0_startAdvised_61 : decode cX0_startAdvised 61 = .ok (.iload 5, 2) := by decide +kernel
theorem dX0_startAdvised_63 : decode cX0_startAdvised 63 = .ok (.istore_n 3, 1) := by decide +kernel
theorem dX0_startAdvised_64 : decode cX0_startAdvised 64 = .ok (.iinc 5 1, 3) := by decide +kernel
theorem dX0_startAdvised_67 : decode cX0_startAdvised 67 = .ok (.goto (-46), 3) := by decide +kernel
theorem dX0_startAdvised_70 : decode cX0_startAdvised 70 = .ok (.iload_n 3, 1) := by decide +kernel
theorem dX0_startAdvised_71 : decode cX0_startAdvised 71 = .ok (.ireturn, 1) := by decide +kernel
theorem dX0_swapAdvised_0 : decode cX0_swapAdvised 0 = .ok (.aload_n 1, 1) := by decide +kernel
theorem dX0_swapAdvised_1 : decode cX0_swapAdvised 1 = .ok (.getfield 36, 3) := by decide +kernel
theorem dX0_swapAdvised_4 : decode cX0_swapAdvised 4 = .ok (.invokevirtual 42, 3) := by decide +kernel
theorem dX0_swapAdvised_7 : decode cX0_swapAdvised 7 = .ok (.istore 4, 2) := by decide +kernel
theorem dX0_swapAdvised_9 : decode cX0_swapAdvised 9 = .ok (.iconst (-1), 1) := by decide +kernel
theorem dX0_swapAdvised_10 : decode cX0_swapAdvised 10 = .ok (.istore 5, 2) := by decide +kernel
theorem dX0_swapAdvised_12 : decode cX0_swapAdvised 12 = .ok (.aload_n 0, 1) := by decide +kernel
theorem dX0_swapAdvised_13 : decode cX0_swapAdvised 13 = .ok (.getfield 16, 3) := by decide +kernel
theorem dX0_swapAdvised_16 : decode cX0_swapAdvised 16 = .ok (.aload_n 1, 1) := by decide +kernel
theorem dX0_swapAdvised_17 : decode cX0_swapAdvised 17 = .ok (.aload_n 2, 1) := by decide +kernel
theorem dX0_swapAdvised_18 : decode cX0_swapAdvised 18 = .ok (.aload_n 2, 1) := by decide +kernel
theorem dX0_swapAdvised_19 : decode cX0_swapAdvised 19 = .ok (.getfield 24, 3) := by decide +kernel
theorem dX0_swapAdvised_22 : decode cX0_swapAdvised 22 = .ok (.iload_n 3, 1) := by decide +kernel
theorem dX0_swapAdvised_23 : decode cX0_swapAdvised 23 = .ok (.invokevirtual 30, 3) := by decide +kernel
theorem dX0_swapAdvised_26 : decode cX0_swapAdvised 26 = .ok (.istore 6, 2) := by decide +kernel
theorem dX0_swapAdvised_28 : decode cX0_swapAdvised 28 = .ok (.aload_n 0, 1) := by decide +kernel
theorem dX0_swapAdvised_29 : decode cX0_swapAdvised 29 = .ok (.getfield 20, 3) := by decide +kernel
theorem dX0_swapAdvised_32 : decode cX0_swapAdvised 32 = .ok (.aload_n 1, 1) := by decide +kernel
theorem dX0_swapAdvised_33 : decode cX0_swapAdvised 33 = .ok (.iload 4, 2) := by decide +kernel
theorem dX0_swapAdvised_35 : decode cX0_swapAdvised 35 = .ok (.invokevirtual 48, 3) := by decide +kernel
theorem dX0_swapAdvised_38 : decode cX0_swapAdvised 38 = .ok (.iconst 0, 1) := by decide +kernel
theorem dX0_swapAdvised_39 : decode cX0_swapAdvised 39 = .ok (.istore 7, 2) := by decide +kernel
theorem dX0_swapAdvised_41 : decode cX0_swapAdvised 41 = .ok (.iload 7, 2) := by decide +kernel
theorem dX0_swapAdvised_43 : decode cX0_swapAdvised 43 = .ok (.iload 4, 2) := by decide +kernel
theorem dX0_swapAdvised_45 : decode cX0_swapAdvised 45 = .ok (.if_icmp .ge 90, 3) := by decide +kernel
theorem dX0_swapAdvised_48 : decode cX0_swapAdvised 48 = .ok (.iload 7, 2) := by decide +kernel
theorem dX0_swapAdvised_50 : decode cX0_swapAdvised 50 = .ok (.iconst 1, 1) := by decide +kernel
theorem dX0_swapAdvised_51 : decode cX0_swapAdvised 51 = .ok (.iadd, 1) := by decide +kernel
theorem dX0_swapAdvised_52 : decode cX0_swapAdvised 52 = .ok (.istore 8, 2) := by decide +kernel
theorem dX0_swapAdvised_54 : decode cX0_swapAdvised 54 = .ok (.iload 8, 2) := by decide +kernel
theorem dX0_swapAdvised_56 : decode cX0_swapAdvised 56 = .ok (.iload 4, 2) := by decide +kernel
theorem dX0_swapAdvised_58 : decode cX0_swapAdvised 58 = .ok (.if_icmp .ge 71, 3) := by decide +kernel
theorem dX0_swapAdvised_61 : decode cX0_swapAdvised 61 = .ok (.aload_n 0, 1) := by decide +kernel
theorem dX0_swapAdvised_62 : decode cX0_swapAdvised 62 = .ok (.getfield 20, 3) := by decide +kernel
theorem dX0_swapAdvised_65 : decode cX0_swapAdvised 65 = .ok (.iload 7, 2) := by decide +kernel
theorem dX0_swapAdvised_67 : decode cX0_swapAdvised 67 = .ok (.iload 8, 2) := by decide +kernel
theorem dX0_swapAdvised_69 : decode cX0_swapAdvised 69 = .ok (.invokevirtual 52, 3) := by decide +kernel
theorem dX0_swapAdvised_72 : decode cX0_swapAdvised 72 = .ok (.aload_n 0, 1) := by decide +kernel
theorem dX0_swapAdvised_73 : decode cX0_swapAdvised 73 = .ok (.getfield 16, 3) := by decide +kernel
theorem dX0_swapAdvised_76 : decode cX0_swapAdvised 76 = .ok (.aload_n 0, 1) := by decide +kernel
theorem dX0_swapAdvised_77 : decode cX0_swapAdvised 77 = .ok (.getfield 20, 3) := by decide +kernel
theorem dX0_swapAdvised_80 : decode cX0_swapAdvised 80 = .ok (.aload_n 2, 1) := by decide +kernel
theorem dX0_swapAdvised_81 : decode cX0_swapAdvised 81 = .ok (.aload_n 2, 1) := by decide +kernel
theorem dX0_swapAdvised_82 : decode cX0_swapAdvised 82 = .ok (.getfield 24, 3) := by decide +kernel
theorem dX0_swapAdvised_85 : decode cX0_swapAdvised 85 = .ok (.iload_n 3, 1) := by decide +kernel
theorem dX0_swapAdvised_86 : decode cX0_swapAdvised 86 = .ok (.invokevirtual 30, 3) := by decide +kernel
theorem dX0_swapAdvised_89 : decode cX0_swapAdvised 89 = .ok (.istore 9, 2) := by decide +kernel
theorem dX0_swapAdvised_91 : decode cX0_swapAdvised 91 = .ok (.aload_n 0, 1) := by decide +kernel
theorem dX0_swapAdvised_92 : decode cX0_swapAdvised 92 = .ok (.getfield 20, 3) := by decide +kernel
theorem dX0_swapAdvised_95 : decode cX0_swapAdvised 95 = .ok (.iload 7, 2) := by decide +kernel
theorem dX0_swapAdvised_97 : decode cX0_swapAdvised 97 = .ok (.iload 8, 2) := by decide +kernel
theorem dX0_swapAdvised_99 : decode cX0_swapAdvised 99 = .ok (.invokevirtual 52, 3) := by decide +kernel
theorem dX0_swapAdvised_102 : decode cX0_swapAdvised 102 = .ok (.iload 9, 2) := by decide +kernel
theorem dX0_swapAdvised_104 : decode cX0_swapAdvised 104 = .ok (.iload 6, 2) := by decide +kernel
theorem dX0_swapAdvised_106 : decode cX0_swapAdvised 106 = .ok (.if_icmp .le 17, 3) := by decide +kernel
theorem dX0_swapAdvised_109 : decode cX0_swapAdvised 109 = .ok (.iload 9, 2) := by decide +kernel
theorem dX0_swapAdvised_111 : decode cX0_swapAdvised 111 = .ok (.istore 6, 2) := by decide +kernel
theorem dX0_swapAdvised_113 : decode cX0_swapAdvised 113 = .ok (.bipush 16, 2) := by decide +kernel
theorem dX0_swapAdvised_115 : decode cX0_swapAdvised 115 = .ok (.iload 7, 2) := by decide +kernel
theorem dX0_swapAdvised_117 : decode cX0_swapAdvised 117 = .ok (.imul, 1) := by decide +kernel
theorem dX0_swapAdvised_118 : decode cX0_swapAdvised 118 = .ok (.iload 8, 2) := by decide +kernel
theorem dX0_swapAdvised_120 : decode cX0_swapAdvised 120 = .ok (.iadd, 1) := by decide +kernel
theorem dX0_swapAdvised_121 : decode cX0_swapAdvised 121 = .ok (.istore 5, 2) := by decide +kernel
theorem dX0_swapAdvised_123 : decode cX0_swapAdvised 123 = .ok (.iinc 8 1, 3) := by decide +kernel
theorem dX0_swapAdvised_126 : decode cX0_swapAdvised 126 = .ok (.goto (-72), 3) := by decide +kernel
theorem dX0_swapAdvised_129 : decode cX0_swapAdvised 129 = .ok (.iinc 7 1, 3) := by decide +kernel
theorem dX0_swapAdvised_132 : decode cX0_swapAdvised 132 = .ok (.goto (-91), 3) := by decide +kernel
theorem dX0_swapAdvised_135 : decode cX0_swapAdvised 135 = .ok (.iload 5, 2) := by decide +kernel
theorem dX0_swapAdvised_137 : decode cX0_swapAdvised 137 = .ok (.ireturn, 1) := by decide +kernel
theorem dX0_stirAdvised_0 : decode cX0_stirAdvised 0 = .ok (.iconst 0, 1) := by decide +kernel
theorem dX0_stirAdvised_1 : decode cX0_stirAdvised 1 = .ok (.istore 4, 2) := by decide +kernel
theorem dX0_stirAdvised_3 : decode cX0_stirAdvised 3 = .ok (.aload_n 0, 1) := by decide +kernel
theorem dX0_stirAdvised_4 : decode cX0_stirAdvised 4 = .ok (.getfield 16, 3) := by decide +kernel
theorem dX0_stirAdvised_7 : decode cX0_stirAdvised 7 = .ok (.aload_n 1, 1) := by decide +kernel
theorem dX0_stirAdvised_8 : decode cX0_stirAdvised 8 = .ok (.aload_n 2, 1) := by decide +kernel
theorem dX0_stirAdvised_9 : decode cX0_stirAdvised 9 = .ok (.iconst 0, 1) := by decide +kernel
theorem dX0_stirAdvised_10 : decode cX0_stirAdvised 10 = .ok (.iload_n 3, 1) := by decide +kernel
theorem dX0_stirAdvised_11 : decode cX0_stirAdvised 11 = .ok (.invokevirtual 30, 3) := by decide +kernel
theorem dX0_stirAdvised_14 : decode cX0_stirAdvised 14 = .ok (.istore 5, 2) := by decide +kernel
theorem dX0_stirAdvised_16 : decode cX0_stirAdvised 16 = .ok (.iconst 1, 1) := by decide +kernel
theorem dX0_stirAdvised_17 : decode cX0_stirAdvised 17 = .ok (.istore 6, 2) := by decide +kernel
theorem dX0_stirAdvised_19 : decode cX0_stirAdvised 19 = .ok (.iload 6, 2) := by decide +kernel
theorem dX0_stirAdvised_21 : decode cX0_stirAdvised 21 = .ok (.bipush 9, 2) := by decide +kernel
theorem dX0_stirAdvised_23 : decode cX0_stirAdvised 23 = .ok (.if_icmp .gt 38, 3) := by decide +kernel
theorem dX0_stirAdvised_26 : decode cX0_stirAdvised 26 = .ok (.aload_n 0, 1) := by decide +kernel
theorem dX0_stirAdvised_27 : decode cX0_stirAdvised 27 = .ok (.getfield 16, 3) := by decide +kernel
theorem dX0_stirAdvised_30 : decode cX0_stirAdvised 30 = .ok (.aload_n 1, 1) := by decide +kernel
theorem dX0_stirAdvised_31 : decode cX0_stirAdvised 31 = .ok (.aload_n 2, 1) := by decide +kernel
theorem dX0_stirAdvised_32 : decode cX0_stirAdvised 32 = .ok (.iload 6, 2) := by decide +kernel
theorem dX0_stirAdvised_34 : decode cX0_stirAdvised 34 = .ok (.iload_n 3, 1) := by decide +kernel
theorem dX0_stirAdvised_35 : decode cX0_stirAdvised 35 = .ok (.invokevirtual 30, 3) := by decide +kernel
theorem dX0_stirAdvised_38 : decode cX0_stirAdvised 38 = .ok (.istore 7, 2) := by decide +kernel
theorem dX0_stirAdvised_40 : decode cX0_stirAdvised 40 = .ok (.iload 7, 2) := by decide +kernel
theorem dX0_stirAdvised_42 : decode cX0_stirAdvised 42 = .ok (.iload 5, 2) := by decide +kernel
theorem dX0_stirAdvised_44 : decode cX0_stirAdvised 44 = .ok (.if_icmp .le 11, 3) := by decide +kernel
theorem dX0_stirAdvised_47 : decode cX0_stirAdvised 47 = .ok (.iload 7, 2) := by decide +kernel
theorem dX0_stirAdvised_49 : decode cX0_stirAdvised 49 = .ok (.istore 5, 2) := by decide +kernel
theorem dX0_stirAdvised_51 : decode cX0_stirAdvised 51 = .ok (.iload 6, 2) := by decide +kernel
theorem dX0_stirAdvised_53 : decode cX0_stirAdvised 53 = .ok (.istore 4, 2) := by decide +kernel
theorem dX0_stirAdvised_55 : decode cX0_stirAdvised 55 = .ok (.iinc 6 1, 3) := by decide +kernel
theorem dX0_stirAdvised_58 : decode cX0_stirAdvised 58 = .ok (.goto (-39), 3) := by decide +kernel
theorem dX0_stirAdvised_61 : decode cX0_stirAdvised 61 = .ok (.iload 4, 2) := by decide +kernel
theorem dX0_stirAdvised_63 : decode cX0_stirAdvised 63 = .ok (.ireturn, 1) := by decide +kernel
theorem dX0_dayOfLoss_0 : decode cX0_dayOfLoss 0 = .ok (.aload_n 1, 1) := by decide +kernel
theorem dX0_dayOfLoss_1 : decode cX0_dayOfLoss 1 = .ok (.getfield 36, 3) := by decide +kernel
theorem dX0_dayOfLoss_4 : decode cX0_dayOfLoss 4 = .ok (.invokevirtual 42, 3) := by decide +kernel
theorem dX0_dayOfLoss_7 : decode cX0_dayOfLoss 7 = .ok (.istore 7, 2) := by decide +kernel
theorem dX0_dayOfLoss_9 : decode cX0_dayOfLoss 9 = .ok (.aload_n 0, 1) := by decide +kernel
theorem dX0_dayOfLoss_10 : decode cX0_dayOfLoss 10 = .ok (.getfield 20, 3) := by decide +kernel
theorem dX0_dayOfLoss_13 : decode cX0_dayOfLoss 13 = .ok (.aload_n 1, 1) := by decide +kernel
theorem dX0_dayOfLoss_14 : decode cX0_dayOfLoss 14 = .ok (.iload 7, 2) := by decide +kernel
theorem dX0_dayOfLoss_16 : decode cX0_dayOfLoss 16 = .ok (.invokevirtual 48, 3) := by decide +kernel
theorem dX0_dayOfLoss_19 : decode cX0_dayOfLoss 19 = .ok (.iload_n 3, 1) := by decide +kernel
theorem dX0_dayOfLoss_20 : decode cX0_dayOfLoss 20 = .ok (.istore 8, 2) := by decide +kernel
theorem dX0_dayOfLoss_22 : decode cX0_dayOfLoss 22 = .ok (.iconst 0, 1) := by decide +kernel
theorem dX0_dayOfLoss_23 : decode cX0_dayOfLoss 23 = .ok (.istore 9, 2) := by decide +kernel
theorem dX0_dayOfLoss_25 : decode cX0_dayOfLoss 25 = .ok (.iconst 0, 1) := by decide +kernel
theorem dX0_dayOfLoss_26 : decode cX0_dayOfLoss 26 = .ok (.istore 10, 2) := by decide +kernel
theorem dX0_dayOfLoss_28 : decode cX0_dayOfLoss 28 = .ok (.iload 10, 2) := by decide +kernel
theorem dX0_dayOfLoss_30 : decode cX0_dayOfLoss 30 = .ok (.iload 5, 2) := by decide +kernel
theorem dX0_dayOfLoss_32 : decode cX0_dayOfLoss 32 = .ok (.if_icmp .ge 129, 3) := by decide +kernel
theorem dX0_dayOfLoss_35 : decode cX0_dayOfLoss 35 = .ok (.iload 7, 2) := by decide +kernel
theorem dX0_dayOfLoss_37 : decode cX0_dayOfLoss 37 = .ok (.ifCond .le 124, 3) := by decide +kernel
theorem dX0_dayOfLoss_40 : decode cX0_dayOfLoss 40 = .ok (.aload_n 0, 1) := by decide +kernel
theorem dX0_dayOfLoss_41 : decode cX0_dayOfLoss 41 = .ok (.getfield 11, 3) := by decide +kernel
theorem dX0_dayOfLoss_44 : decode cX0_dayOfLoss 44 = .ok (.iload 10, 2) := by decide +kernel
theorem dX0_dayOfLoss_46 : decode cX0_dayOfLoss 46 = .ok (.iload 7, 2) := by decide +kernel
theorem dX0_dayOfLoss_48 : decode cX0_dayOfLoss 48 = .ok (.irem, 1) := by decide +kernel
theorem dX0_dayOfLoss_49 : decode cX0_dayOfLoss 49 = .ok (.aaload, 1) := by decide +kernel
theorem dX0_dayOfLoss_50 : decode cX0_dayOfLoss 50 = .ok (.astore 11, 2) := by decide +kernel
theorem dX0_dayOfLoss_52 : decode cX0_dayOfLoss 52 = .ok (.iload 10, 2) := by decide +kernel
theorem dX0_dayOfLoss_54 : decode cX0_dayOfLoss 54 = .ok (.iload 9, 2) := by decide +kernel
theorem dX0_dayOfLoss_56 : decode cX0_dayOfLoss 56 = .ok (.isub, 1) := by decide +kernel
theorem dX0_dayOfLoss_57 : decode cX0_dayOfLoss 57 = .ok (.iload 7, 2) := by decide +kernel
theorem dX0_dayOfLoss_59 : decode cX0_dayOfLoss 59 = .ok (.if_icmp .ge 41, 3) := by decide +kernel
theorem dX0_dayOfLoss_62 : decode cX0_dayOfLoss 62 = .ok (.aload_n 0, 1) := by decide +kernel
theorem dX0_dayOfLoss_63 : decode cX0_dayOfLoss 63 = .ok (.getfield 16, 3) := by decide +kernel
theorem dX0_dayOfLoss_66 : decode cX0_dayOfLoss 66 = .ok (.aload_n 0, 1) := by decide +kernel
theorem dX0_dayOfLoss_67 : decode cX0_dayOfLoss 67 = .ok (.getfield 20, 3) := by decide +kernel
theorem dX0_dayOfLoss_70 : decode cX0_dayOfLoss 70 = .ok (.aload_n 2, 1) := by decide +kernel
theorem dX0_dayOfLoss_71 : decode cX0_dayOfLoss 71 = .ok (.iload 8, 2) := by decide +kernel
theorem dX0_dayOfLoss_73 : decode cX0_dayOfLoss 73 = .ok (.aload_n 0, 1) := by decide +kernel
theorem dX0_dayOfLoss_74 : decode cX0_dayOfLoss 74 = .ok (.iload 10, 2) := by decide +kernel
theorem dX0_dayOfLoss_76 : decode cX0_dayOfLoss 76 = .ok (.iload 4, 2) := by decide +kernel
theorem dX0_dayOfLoss_78 : decode cX0_dayOfLoss 78 = .ok (.invokevirtual 56, 3) := by decide +kernel
theorem dX0_dayOfLoss_81 : decode cX0_dayOfLoss 81 = .ok (.invokevirtual 60, 3) := by decide +kernel
theorem dX0_dayOfLoss_84 : decode cX0_dayOfLoss 84 = .ok (.aload_n 0, 1) := by decide +kernel
theorem dX0_dayOfLoss_85 : decode cX0_dayOfLoss 85 = .ok (.getfield 16, 3) := by decide +kernel
theorem dX0_dayOfLoss_88 : decode cX0_dayOfLoss 88 = .ok (.getfield 64, 3) := by decide +kernel
theorem dX0_dayOfLoss_91 : decode cX0_dayOfLoss 91 = .ok (.iconst 0, 1) := by decide +kernel
theorem dX0_dayOfLoss_92 : decode cX0_dayOfLoss 92 = .ok (.aload 11, 2) := by decide +kernel
theorem dX0_dayOfLoss_94 : decode cX0_dayOfLoss 94 = .ok (.iconst 0, 1) := by decide +kernel
theorem dX0_dayOfLoss_95 : decode cX0_dayOfLoss 95 = .ok (.bipush 10, 2) := by decide +kernel
theorem dX0_dayOfLoss_97 : decode cX0_dayOfLoss 97 = .ok (.invokestatic 68, 3) := by decide +kernel
theorem dX0_dayOfLoss_100 : decode cX0_dayOfLoss 100 = .ok (.aload_n 0, 1) := by decide +kernel
theorem dX0_dayOfLoss_101 : decode cX0_dayOfLoss 101 = .ok (.getfield 20, 3) := by decide +kernel
theorem dX0_dayOfLoss_104 : decode cX0_dayOfLoss 104 = .ok (.aload 11, 2) := by decide +kernel
theorem dX0_dayOfLoss_106 : decode cX0_dayOfLoss 106 = .ok (.invokevirtual 74, 3) := by decide +kernel
theorem dX0_dayOfLoss_109 : decode cX0_dayOfLoss 109 = .ok (.istore 12, 2) := by decide +kernel
theorem dX0_dayOfLoss_111 : decode cX0_dayOfLoss 111 = .ok (.iload 12, 2) := by decide +kernel
theorem dX0_dayOfLoss_113 : decode cX0_dayOfLoss 113 = .ok (.iload 6, 2) := by decide +kernel
theorem dX0_dayOfLoss_115 : decode cX0_dayOfLoss 115 = .ok (.iand, 1) := by decide +kernel
theorem dX0_dayOfLoss_116 : decode cX0_dayOfLoss 116 = .ok (.ifCond .eq 8, 3) := by decide +kernel
theorem dX0_dayOfLoss_119 : decode cX0_dayOfLoss 119 = .ok (.iload 10, 2) := by decide +kernel
theorem dX0_dayOfLoss_121 : decode cX0_dayOfLoss 121 = .ok (.iconst 1, 1) := by decide +kernel
theorem dX0_dayOfLoss_122 : decode cX0_dayOfLoss 122 = .ok (.iadd, 1) := by decide +kernel
theorem dX0_dayOfLoss_123 : decode cX0_dayOfLoss 123 = .ok (.ireturn, 1) := by decide +kernel
theorem dX0_dayOfLoss_124 : decode cX0_dayOfLoss 124 = .ok (.iload 12, 2) := by decide +kernel
theorem dX0_dayOfLoss_126 : decode cX0_dayOfLoss 126 = .ok (.ifCond .eq 10, 3) := by decide +kernel
theorem dX0_dayOfLoss_129 : decode cX0_dayOfLoss 129 = .ok (.iload 10, 2) := by decide +kernel
theorem dX0_dayOfLoss_131 : decode cX0_dayOfLoss 131 = .ok (.iconst 1, 1) := by decide +kernel
theorem dX0_dayOfLoss_132 : decode cX0_dayOfLoss 132 = .ok (.iadd, 1) := by decide +kernel
theorem dX0_dayOfLoss_133 : decode cX0_dayOfLoss 133 = .ok (.goto 5, 3) := by decide +kernel
theorem dX0_dayOfLoss_136 : decode cX0_dayOfLoss 136 = .ok (.iload 9, 2) := by decide +kernel
theorem dX0_dayOfLoss_138 : decode cX0_dayOfLoss 138 = .ok (.istore 9, 2) := by decide +kernel
theorem dX0_dayOfLoss_140 : decode cX0_dayOfLoss 140 = .ok (.aload_n 0, 1) := by decide +kernel
theorem dX0_dayOfLoss_141 : decode cX0_dayOfLoss 141 = .ok (.getfield 20, 3) := by decide +kernel
theorem dX0_dayOfLoss_144 : decode cX0_dayOfLoss 144 = .ok (.iload 8, 2) := by decide +kernel
theorem dX0_dayOfLoss_146 : decode cX0_dayOfLoss 146 = .ok (.aload_n 2, 1) := by decide +kernel
theorem dX0_dayOfLoss_147 : decode cX0_dayOfLoss 147 = .ok (.getfield 78, 3) := by decide +kernel
theorem dX0_dayOfLoss_150 : decode cX0_dayOfLoss 150 = .ok (.invokevirtual 82, 3) := by decide +kernel
theorem dX0_dayOfLoss_153 : decode cX0_dayOfLoss 153 = .ok (.istore 8, 2) := by decide +kernel
theorem dX0_dayOfLoss_155 : decode cX0_dayOfLoss 155 = .ok (.iinc 10 1, 3) := by decide +kernel
theorem dX0_dayOfLoss_158 : decode cX0_dayOfLoss 158 = .ok (.goto (-130), 3) := by decide +kernel
theorem dX0_dayOfLoss_161 : decode cX0_dayOfLoss 161 = .ok (.iconst (-1), 1) := by decide +kernel
theorem dX0_dayOfLoss_162 : decode cX0_dayOfLoss 162 = .ok (.ireturn, 1) := by decide +kernel
theorem dX0_fastersOf_0 : decode cX0_fastersOf 0 = .ok (.aload_n 0, 1) := by decide +kernel
theorem dX0_fastersOf_1 : decode cX0_fastersOf 1 = .ok (.getfield 20, 3) := by decide +kernel
theorem dX0_fastersOf_4 : decode cX0_fastersOf 4 = .ok (.getfield 36, 3) := by decide +kernel
theorem dX0_fastersOf_7 : decode cX0_fastersOf 7 = .ok (.invokevirtual 42, 3) := by decide +kernel
theorem dX0_fastersOf_10 : decode cX0_fastersOf 10 = .ok (.istore_n 3, 1) := by decide +kernel
theorem dX0_fastersOf_11 : decode cX0_fastersOf 11 = .ok (.iconst 0, 1) := by decide +kernel
theorem dX0_fastersOf_12 : decode cX0_fastersOf 12 = .ok (.istore 4, 2) := by decide +kernel
theorem dX0_fastersOf_14 : decode cX0_fastersOf 14 = .ok (.iconst 0, 1) := by decide +kernel
theorem dX0_fastersOf_15 : decode cX0_fastersOf 15 = .ok (.istore 5, 2) := by decide +kernel
theorem dX0_fastersOf_17 : decode cX0_fastersOf 17 = .ok (.iload 5, 2) := by decide +kernel
theorem dX0_fastersOf_19 : decode cX0_fastersOf 19 = .ok (.iload_n 2, 1) := by decide +kernel
theorem dX0_fastersOf_20 : decode cX0_fastersOf 20 = .ok (.if_icmp .ge 36, 3) := by decide +kernel
theorem dX0_fastersOf_23 : decode cX0_fastersOf 23 = .ok (.iload_n 3, 1) := by decide +kernel
theorem dX0_fastersOf_24 : decode cX0_fastersOf 24 = .ok (.ifCond .le 32, 3) := by decide +kernel
theorem dX0_fastersOf_27 : decode cX0_fastersOf 27 = .ok (.iload 4, 2) := by decide +kernel
theorem dX0_fastersOf_29 : decode cX0_fastersOf 29 = .ok (.iconst 1, 1) := by decide +kernel
theorem dX0_fastersOf_30 : decode cX0_fastersOf 30 = .ok (.aload_n 0, 1) := by decide +kernel
theorem dX0_fastersOf_31 : decode cX0_fastersOf 31 = .ok (.getfield 20, 3) := by decide +kernel
theorem dX0_fastersOf_34 : decode cX0_fastersOf 34 = .ok (.getfield 86, 3) := by decide +kernel
theorem dX0_fastersOf_37 : decode cX0_fastersOf 37 = .ok (.iload_n 1, 1) := by decide +kernel
theorem dX0_fastersOf_38 : decode cX0_fastersOf 38 = .ok (.iload_n 2, 1) := by decide +kernel
theorem dX0_fastersOf_39 : decode cX0_fastersOf 39 = .ok (.imul, 1) := by decide +kernel
theorem dX0_fastersOf_40 : decode cX0_fastersOf 40 = .ok (.iload 5, 2) := by decide +kernel
theorem dX0_fastersOf_42 : decode cX0_fastersOf 42 = .ok (.iadd, 1) := by decide +kernel
theorem dX0_fastersOf_43 : decode cX0_fastersOf 43 = .ok (.iload_n 3, 1) := by decide +kernel
theorem dX0_fastersOf_44 : decode cX0_fastersOf 44 = .ok (.irem, 1) := by decide +kernel
theorem dX0_fastersOf_45 : decode cX0_fastersOf 45 = .ok (.iaload, 1) := by decide +kernel
theorem dX0_fastersOf_46 : decode cX0_fastersOf 46 = .ok (.ishl, 1) := by decide +kernel
theorem dX0_fastersOf_47 : decode cX0_fastersOf 47 = .ok (.ior, 1) := by decide +kernel
theorem dX0_fastersOf_48 : decode cX0_fastersOf 48 = .ok (.istore 4, 2) := by decide +kernel
theorem dX0_fastersOf_50 : decode cX0_fastersOf 50 = .ok (.iinc 5 1, 3) := by decide +kernel
theorem dX0_fastersOf_53 : decode cX0_fastersOf 53 = .ok (.goto (-36), 3) := by decide +kernel
theorem dX0_fastersOf_56 : decode cX0_fastersOf 56 = .ok (.iload 4, 2) := by decide +kernel
theorem dX0_fastersOf_58 : decode cX0_fastersOf 58 = .ok (.ireturn, 1) := by decide +kernel
theorem dX1_init_0 : decode cX1_init 0 = .ok (.aload_n 0, 1) := by decide +kernel
theorem dX1_init_1 : decode cX1_init 1 = .ok (.iconst 0, 1) := by decide +kernel
theorem dX1_init_2 : decode cX1_init 2 = .ok (.iload_n 1, 1) := by decide +kernel
theorem dX1_init_3 : decode cX1_init 3 = .ok (.iload_n 2, 1) := by decide +kernel
theorem dX1_init_4 : decode cX1_init 4 = .ok (.iload_n 3, 1) := by decide +kernel
theorem dX1_init_5 : decode cX1_init 5 = .ok (.invokespecial 3, 3) := by decide +kernel
theorem dX1_init_8 : decode cX1_init 8 = .ok (.return_, 1) := by decide +kernel
theorem dX1_kindNumber_0 : decode cX1_kindNumber 0 = .ok (.iconst 2, 1) := by decide +kernel
theorem dX1_kindNumber_1 : decode cX1_kindNumber 1 = .ok (.ireturn, 1) := by decide +kernel
theorem dX2_init_0 : decode cX2_init 0 = .ok (.aload_n 0, 1) := by decide +kernel
theorem dX2_init_1 : decode cX2_init 1 = .ok (.iload_n 1, 1) := by decide +kernel
theorem dX2_init_2 : decode cX2_init 2 = .ok (.iload_n 2, 1) := by decide +kernel
theorem dX2_init_3 : decode cX2_init 3 = .ok (.iload_n 3, 1) := by decide +kernel
theorem dX2_init_4 : decode cX2_init 4 = .ok (.iload 4, 2) := by decide +kernel
theorem dX2_init_6 : decode cX2_init 6 = .ok (.invokespecial 3, 3) := by decide +kernel
theorem dX2_init_9 : decode cX2_init 9 = .ok (.return_, 1) := by decide +kernel
theorem dX2_kindNumber_0 : decode cX2_kindNumber 0 = .ok (.iconst 4, 1) := by decide +kernel
theorem dX2_kindNumber_1 : decode cX2_kindNumber 1 = .ok (.ireturn, 1) := by decide +kernel
theorem dX2_givesAway_0 : decode cX2_givesAway 0 = .ok (.aload_n 0, 1) := by decide +kernel
theorem dX2_givesAway_1 : decode cX2_givesAway 1 = .ok (.iload_n 1, 1) := by decide +kernel
theorem dX2_givesAway_2 : decode cX2_givesAway 2 = .ok (.invokevirtual 9, 3) := by decide +kernel
theorem dX2_givesAway_5 : decode cX2_givesAway 5 = .ok (.ireturn, 1) := by decide +kernel
theorem dX3_init_0 : decode cX3_init 0 = .ok (.aload_n 0, 1) := by decide +kernel
theorem dX3_init_1 : decode cX3_init 1 = .ok (.iload_n 1, 1) := by decide +kernel
theorem dX3_init_2 : decode cX3_init 2 = .ok (.iload_n 2, 1) := by decide +kernel
theorem dX3_init_3 : decode cX3_init 3 = .ok (.iload_n 3, 1) := by decide +kernel
theorem dX3_init_4 : decode cX3_init 4 = .ok (.iload 4, 2) := by decide +kernel
theorem dX3_init_6 : decode cX3_init 6 = .ok (.invokespecial 3, 3) := by decide +kernel
theorem dX3_init_9 : decode cX3_init 9 = .ok (.return_, 1) := by decide +kernel
theorem dX3_kindNumber_0 : decode cX3_kindNumber 0 = .ok (.iconst 3, 1) := by decide +kernel
theorem dX3_kindNumber_1 : decode cX3_kindNumber 1 = .ok (.ireturn, 1) := by decide +kernel
theorem dX3_bitesInTurn_0 : decode cX3_bitesInTurn 0 = .ok (.aload_n 0, 1) := by decide +kernel
theorem dX3_bitesInTurn_1 : decode cX3_bitesInTurn 1 = .ok (.iload_n 1, 1) := by decide +kernel
theorem dX3_bitesInTurn_2 : decode cX3_bitesInTurn 2 = .ok (.invokevirtual 9, 3) := by decide +kernel
theorem dX3_bitesInTurn_5 : decode cX3_bitesInTurn 5 = .ok (.ifCond .eq 7, 3) := by decide +kernel
theorem dX3_bitesInTurn_8 : decode cX3_bitesInTurn 8 = .ok (.iconst 2, 1) := by decide +kernel
theorem dX3_bitesInTurn_9 : decode cX3_bitesInTurn 9 = .ok (.goto 4, 3) := by decide +kernel
theorem dX3_bitesInTurn_12 : decode cX3_bitesInTurn 12 = .ok (.iconst 1, 1) := by decide +kernel
theorem dX3_bitesInTurn_13 : decode cX3_bitesInTurn 13 = .ok (.ireturn, 1) := by decide +kernel
theorem dX4_init_0 : decode cX4_init 0 = .ok (.aload_n 0, 1) := by decide +kernel
theorem dX4_init_1 : decode cX4_init 1 = .ok (.invokespecial 3, 3) := by decide +kernel
theorem dX4_init_4 : decode cX4_init 4 = .ok (.aload_n 0, 1) := by decide +kernel
theorem dX4_init_5 : decode cX4_init 5 = .ok (.iload_n 1, 1) := by decide +kernel
theorem dX4_init_6 : decode cX4_init 6 = .ok (.putfield 9, 3) := by decide +kernel
theorem dX4_init_9 : decode cX4_init 9 = .ok (.aload_n 0, 1) := by decide +kernel
theorem dX4_init_10 : decode cX4_init 10 = .ok (.iload_n 2, 1) := by decide +kernel
theorem dX4_init_11 : decode cX4_init 11 = .ok (.putfield 15, 3) := by decide +kernel
theorem dX4_init_14 : decode cX4_init 14 = .ok (.aload_n 0, 1) := by decide +kernel
theorem dX4_init_15 : decode cX4_init 15 = .ok (.iload_n 3, 1) := by decide +kernel
theorem dX4_init_16 : decode cX4_init 16 = .ok (.putfield 18, 3) := by decide +kernel
theorem dX4_init_19 : decode cX4_init 19 = .ok (.aload_n 0, 1) := by decide +kernel
theorem dX4_init_20 : decode cX4_init 20 = .ok (.iload 4, 2) := by decide +kernel
theorem dX4_init_22 : decode cX4_init 22 = .ok (.putfield 21, 3) := by decide +kernel
theorem dX4_init_25 : decode cX4_init 25 = .ok (.return_, 1) := by decide +kernel
theorem dX4_kindNumber_0 : decode cX4_kindNumber 0 = .ok (.iconst 0, 1) := by decide +kernel
theorem dX4_kindNumber_1 : decode cX4_kindNumber 1 = .ok (.ireturn, 1) := by decide +kernel
theorem dX4_isOfKind_0 : decode cX4_isOfKind 0 = .ok (.iload_n 1, 1) := by decide +kernel
theorem dX4_isOfKind_1 : decode cX4_isOfKind 1 = .ok (.tableswitch 67 0 4 #[35, 39, 46, 53, 60], 35) := by decide +kernel
theorem dX4_isOfKind_36 : decode cX4_isOfKind 36 = .ok (.iconst 1, 1) := by decide +kernel
theorem dX4_isOfKind_37 : decode cX4_isOfKind 37 = .ok (.goto 32, 3) := by decide +kernel
theorem dX4_isOfKind_40 : decode cX4_isOfKind 40 = .ok (.aload_n 0, 1) := by decide +kernel
theorem dX4_isOfKind_41 : decode cX4_isOfKind 41 = .ok (.instanceof 24, 3) := by decide +kernel
theorem dX4_isOfKind_44 : decode cX4_isOfKind 44 = .ok (.goto 25, 3) := by decide +kernel
theorem dX4_isOfKind_47 : decode cX4_isOfKind 47 = .ok (.aload_n 0, 1) := by decide +kernel
theorem dX4_isOfKind_48 : decode cX4_isOfKind 48 = .ok (.instanceof 26, 3) := by decide +kernel
theorem dX4_isOfKind_51 : decode cX4_isOfKind 51 = .ok (.goto 18, 3) := by decide +kernel
theorem dX4_isOfKind_54 : decode cX4_isOfKind 54 = .ok (.aload_n 0, 1) := by decide +kernel
theorem dX4_isOfKind_55 : decode cX4_isOfKind 55 = .ok (.instanceof 28, 3) := by decide +kernel
theorem dX4_isOfKind_58 : decode cX4_isOfKind 58 = .ok (.goto 11, 3) := by decide +kernel
theorem dX4_isOfKind_61 : decode cX4_isOfKind 61 = .ok (.aload_n 0, 1) := by decide +kernel
theorem dX4_isOfKind_62 : decode cX4_isOfKind 62 = .ok (.instanceof 30, 3) := by decide +kernel
theorem dX4_isOfKind_65 : decode cX4_isOfKind 65 = .ok (.goto 4, 3) := by decide +kernel
theorem dX4_isOfKind_68 : decode cX4_isOfKind 68 = .ok (.iconst 0, 1) := by decide +kernel
theorem dX4_isOfKind_69 : decode cX4_isOfKind 69 = .ok (.ireturn, 1) := by decide +kernel
theorem dX4_beatsOfTurn_0 : decode cX4_beatsOfTurn 0 = .ok (.iconst 1, 1) := by decide +kernel
theorem dX4_beatsOfTurn_1 : decode cX4_beatsOfTurn 1 = .ok (.ireturn, 1) := by decide +kernel
theorem dX4_bitesInTurn_0 : decode cX4_bitesInTurn 0 = .ok (.iconst 1, 1) := by decide +kernel
theorem dX4_bitesInTurn_1 : decode cX4_bitesInTurn 1 = .ok (.ireturn, 1) := by decide +kernel
theorem dX4_givesAway_0 : decode cX4_givesAway 0 = .ok (.iconst 0, 1) := by decide +kernel
theorem dX4_givesAway_1 : decode cX4_givesAway 1 = .ok (.ireturn, 1) := by decide +kernel
theorem dX4_isNth_0 : decode cX4_isNth 0 = .ok (.aload_n 0, 1) := by decide +kernel
theorem dX4_isNth_1 : decode cX4_isNth 1 = .ok (.getfield 9, 3) := by decide +kernel
theorem dX4_isNth_4 : decode cX4_isNth 4 = .ok (.ifCond .le 16, 3) := by decide +kernel
theorem dX4_isNth_7 : decode cX4_isNth 7 = .ok (.iload_n 1, 1) := by decide +kernel
theorem dX4_isNth_8 : decode cX4_isNth 8 = .ok (.aload_n 0, 1) := by decide +kernel
theorem dX4_isNth_9 : decode cX4_isNth 9 = .ok (.getfield 9, 3) := by decide +kernel
theorem dX4_isNth_12 : decode cX4_isNth 12 = .ok (.irem, 1) := by decide +kernel
theorem dX4_isNth_13 : decode cX4_isNth 13 = .ok (.ifCond .ne 7, 3) := by decide +kernel
theorem dX4_isNth_16 : decode cX4_isNth 16 = .ok (.iconst 1, 1) := by decide +kernel
theorem dX4_isNth_17 : decode cX4_isNth 17 = .ok (.goto 4, 3) := by decide +kernel
theorem dX4_isNth_20 : decode cX4_isNth 20 = .ok (.iconst 0, 1) := by decide +kernel
theorem dX4_isNth_21 : decode cX4_isNth 21 = .ok (.ireturn, 1) := by decide +kernel
theorem dX5_init_0 : decode cX5_init 0 = .ok (.aload_n 0, 1) := by decide +kernel
theorem dX5_init_1 : decode cX5_init 1 = .ok (.invokespecial 3, 3) := by decide +kernel
theorem dX5_init_4 : decode cX5_init 4 = .ok (.aload_n 0, 1) := by decide +kernel
theorem dX5_init_5 : decode cX5_init 5 = .ok (.bipush 16, 2) := by decide +kernel
theorem dX5_init_7 : decode cX5_init 7 = .ok (.newarray .int, 2) := by decide +kernel
theorem dX5_init_9 : decode cX5_init 9 = .ok (.putfield 9, 3) := by decide +kernel
theorem dX5_init_12 : decode cX5_init 12 = .ok (.return_, 1) := by decide +kernel
theorem dX5_lettersIn_0 : decode cX5_lettersIn 0 = .ok (.iconst 0, 1) := by decide +kernel
theorem dX5_lettersIn_1 : decode cX5_lettersIn 1 = .ok (.istore_n 2, 1) := by decide +kernel
theorem dX5_lettersIn_2 : decode cX5_lettersIn 2 = .ok (.lload_n 0, 1) := by decide +kernel
theorem dX5_lettersIn_3 : decode cX5_lettersIn 3 = .ok (.lstore_n 3, 1) := by decide +kernel
theorem dX5_lettersIn_4 : decode cX5_lettersIn 4 = .ok (.iload_n 2, 1) := by decide +kernel
theorem dX5_lettersIn_5 : decode cX5_lettersIn 5 = .ok (.bipush 8, 2) := by decide +kernel
theorem dX5_lettersIn_7 : decode cX5_lettersIn 7 = .ok (.if_icmp .ge 38, 3) := by decide +kernel
theorem dX5_lettersIn_10 : decode cX5_lettersIn 10 = .ok (.lload_n 3, 1) := by decide +kernel
theorem dX5_lettersIn_11 : decode cX5_lettersIn 11 = .ok (.ldc2_w 15, 3) := by decide +kernel
theorem dX5_lettersIn_14 : decode cX5_lettersIn 14 = .ok (.land, 1) := by decide +kernel
theorem dX5_lettersIn_15 : decode cX5_lettersIn 15 = .ok (.lconst 0, 1) := by decide +kernel
theorem dX5_lettersIn_16 : decode cX5_lettersIn 16 = .ok (.lcmp, 1) := by decide +kernel
theorem dX5_lettersIn_17 : decode cX5_lettersIn 17 = .ok (.ifCond .eq 28, 3) := by decide +kernel
theorem dX5_lettersIn_20 : decode cX5_lettersIn 20 = .ok (.lload_n 3, 1) := by decide +kernel
theorem dX5_lettersIn_21 : decode cX5_lettersIn 21 = .ok (.ldc2_w 15, 3) := by decide +kernel
theorem dX5_lettersIn_24 : decode cX5_lettersIn 24 = .ok (.land, 1) := by decide +kernel
theorem dX5_lettersIn_25 : decode cX5_lettersIn 25 = .ok (.ldc2_w 17, 3) := by decide +kernel
theorem dX5_lettersIn_28 : decode cX5_lettersIn 28 = .ok (.lcmp, 1) := by decide +kernel
theorem dX5_lettersIn_29 : decode cX5_lettersIn 29 = .ok (.ifCond .le 5, 3) := by decide +kernel
theorem dX5_lettersIn_32 : decode cX5_lettersIn 32 = .ok (.iconst (-1), 1) := by decide +kernel
theorem dX5_lettersIn_33 : decode cX5_lettersIn 33 = .ok (.ireturn, 1) := by decide +kernel
theorem dX5_lettersIn_34 : decode cX5_lettersIn 34 = .ok (.lload_n 3, 1) := by decide +kernel
theorem dX5_lettersIn_35 : decode cX5_lettersIn 35 = .ok (.bipush 8, 2) := by decide +kernel
theorem dX5_lettersIn_37 : decode cX5_lettersIn 37 = .ok (.lushr, 1) := by decide +kernel
theorem dX5_lettersIn_38 : decode cX5_lettersIn 38 = .ok (.lstore_n 3, 1) := by decide +kernel
theorem dX5_lettersIn_39 : decode cX5_lettersIn 39 = .ok (.iinc 2 1, 3) := by decide +kernel
theorem dX5_lettersIn_42 : decode cX5_lettersIn 42 = .ok (.goto (-38), 3) := by decide +kernel
theorem dX5_lettersIn_45 : decode cX5_lettersIn 45 = .ok (.lload_n 3, 1) := by decide +kernel
theorem dX5_lettersIn_46 : decode cX5_lettersIn 46 = .ok (.lconst 0, 1) := by decide +kernel
theorem dX5_lettersIn_47 : decode cX5_lettersIn 47 = .ok (.lcmp, 1) := by decide +kernel
theorem dX5_lettersIn_48 : decode cX5_lettersIn 48 = .ok (.ifCond .ne 7, 3) := by decide +kernel
theorem dX5_lettersIn_51 : decode cX5_lettersIn 51 = .ok (.iload_n 2, 1) := by decide +kernel
theorem dX5_lettersIn_52 : decode cX5_lettersIn 52 = .ok (.goto 4, 3) := by decide +kernel
theorem dX5_lettersIn_55 : decode cX5_lettersIn 55 = .ok (.iconst (-1), 1) := by decide +kernel
theorem dX5_lettersIn_56 : decode cX5_lettersIn 56 = .ok (.ireturn, 1) := by decide +kernel
theorem dX5_write_0 : decode cX5_write 0 = .ok (.iconst 0, 1) := by decide +kernel
theorem dX5_write_1 : decode cX5_write 1 = .ok (.istore 4, 2) := by decide +kernel
theorem dX5_write_3 : decode cX5_write 3 = .ok (.iload 4, 2) := by decide +kernel
theorem dX5_write_5 : decode cX5_write 5 = .ok (.iload_n 3, 1) := by decide +kernel
theorem dX5_write_6 : decode cX5_write 6 = .ok (.if_icmp .ge 49, 3) := by decide +kernel
theorem dX5_write_9 : decode cX5_write 9 = .ok (.aload_n 0, 1) := by decide +kernel
theorem dX5_write_10 : decode cX5_write 10 = .ok (.getfield 19, 3) := by decide +kernel
theorem dX5_write_13 : decode cX5_write 13 = .ok (.bipush 16, 2) := by decide +kernel
theorem dX5_write_15 : decode cX5_write 15 = .ok (.if_icmp .ge 40, 3) := by decide +kernel
theorem dX5_write_18 : decode cX5_write 18 = .ok (.aload_n 0, 1) := by decide +kernel
theorem dX5_write_19 : decode cX5_write 19 = .ok (.getfield 9, 3) := by decide +kernel
theorem dX5_write_22 : decode cX5_write 22 = .ok (.aload_n 0, 1) := by decide +kernel
theorem dX5_write_23 : decode cX5_write 23 = .ok (.getfield 19, 3) := by decide +kernel
theorem dX5_write_26 : decode cX5_write 26 = .ok (.lload_n 1, 1) := by decide +kernel
theorem dX5_write_27 : decode cX5_write 27 = .ok (.bipush 8, 2) := by decide +kernel
theorem dX5_write_29 : decode cX5_write 29 = .ok (.iload 4, 2) := by decide +kernel
theorem dX5_write_31 : decode cX5_write 31 = .ok (.imul, 1) := by decide +kernel
theorem dX5_write_32 : decode cX5_write 32 = .ok (.lushr, 1) := by decide +kernel
theorem dX5_write_33 : decode cX5_write 33 = .ok (.ldc2_w 15, 3) := by decide +kernel
theorem dX5_write_36 : decode cX5_write 36 = .ok (.land, 1) := by decide +kernel
theorem dX5_write_37 : decode cX5_write 37 = .ok (.l2i, 1) := by decide +kernel
theorem dX5_write_38 : decode cX5_write 38 = .ok (.iastore, 1) := by decide +kernel
theorem dX5_write_39 : decode cX5_write 39 = .ok (.aload_n 0, 1) := by decide +kernel
theorem dX5_write_40 : decode cX5_write 40 = .ok (.dup, 1) := by decide +kernel
theorem dX5_write_41 : decode cX5_write 41 = .ok (.getfield 19, 3) := by decide +kernel
theorem dX5_write_44 : decode cX5_write 44 = .ok (.iconst 1, 1) := by decide +kernel
theorem dX5_write_45 : decode cX5_write 45 = .ok (.iadd, 1) := by decide +kernel
theorem dX5_write_46 : decode cX5_write 46 = .ok (.putfield 19, 3) := by decide +kernel
theorem dX5_write_49 : decode cX5_write 49 = .ok (.iinc 4 1, 3) := by decide +kernel
theorem dX5_write_52 : decode cX5_write 52 = .ok (.goto (-49), 3) := by decide +kernel
theorem dX5_write_55 : decode cX5_write 55 = .ok (.return_, 1) := by decide +kernel
theorem dX5_read_0 : decode cX5_read 0 = .ok (.aload_n 0, 1) := by decide +kernel
theorem dX5_read_1 : decode cX5_read 1 = .ok (.iconst 0, 1) := by decide +kernel
theorem dX5_read_2 : decode cX5_read 2 = .ok (.putfield 23, 3) := by decide +kernel
theorem dX5_read_5 : decode cX5_read 5 = .ok (.aload_n 0, 1) := by decide +kernel
theorem dX5_read_6 : decode cX5_read 6 = .ok (.iconst 0, 1) := by decide +kernel
theorem dX5_read_7 : decode cX5_read 7 = .ok (.putfield 26, 3) := by decide +kernel
theorem dX5_read_10 : decode cX5_read 10 = .ok (.aload_n 0, 1) := by decide +kernel
theorem dX5_read_11 : decode cX5_read 11 = .ok (.aload_n 0, 1) := by decide +kernel
theorem dX5_read_12 : decode cX5_read 12 = .ok (.bipush 108, 2) := by decide +kernel
theorem dX5_read_14 : decode cX5_read 14 = .ok (.invokevirtual 30, 3) := by decide +kernel
theorem dX5_read_17 : decode cX5_read 17 = .ok (.putfield 34, 3) := by decide +kernel
theorem dX5_read_20 : decode cX5_read 20 = .ok (.aload_n 0, 1) := by decide +kernel
theorem dX5_read_21 : decode cX5_read 21 = .ok (.getfield 34, 3) := by decide +kernel
theorem dX5_read_24 : decode cX5_read 24 = .ok (.ifCond .ne 13, 3) := by decide +kernel
theorem dX5_read_27 : decode cX5_read 27 = .ok (.aload_n 0, 1) := by decide +kernel
theorem dX5_read_28 : decode cX5_read 28 = .ok (.bipush 114, 2) := by decide +kernel
theorem dX5_read_30 : decode cX5_read 30 = .ok (.invokevirtual 30, 3) := by decide +kernel
theorem dX5_read_33 : decode cX5_read 33 = .ok (.ifCond .ne 4, 3) := by decide +kernel
theorem dX5_read_36 : decode cX5_read 36 = .ok (.return_, 1) := by decide +kernel
theorem dX5_read_37 : decode cX5_read 37 = .ok (.aload_n 0, 1) := by decide +kernel
theorem dX5_read_38 : decode cX5_read 38 = .ok (.bipush 116, 2) := by decide +kernel
theorem dX5_read_40 : decode cX5_read 40 = .ok (.invokevirtual 30, 3) := by decide +kernel
theorem dX5_read_43 : decode cX5_read 43 = .ok (.istore_n 1, 1) := by decide +kernel
theorem dX5_read_44 : decode cX5_read 44 = .ok (.aload_n 0, 1) := by decide +kernel
theorem dX5_read_45 : decode cX5_read 45 = .ok (.iload_n 1, 1) := by decide +kernel
theorem dX5_read_46 : decode cX5_read 46 = .ok (.ifCond .eq 10, 3) := by decide +kernel
theorem dX5_read_49 : decode cX5_read 49 = .ok (.aload_n 0, 1) := by decide +kernel
theorem dX5_read_50 : decode cX5_read 50 = .ok (.invokevirtual 37, 3) := by decide +kernel
theorem dX5_read_53 : decode cX5_read 53 = .ok (.goto 4, 3) := by decide +kernel
theorem dX5_read_56 : decode cX5_read 56 = .ok (.iconst 0, 1) := by decide +kernel
theorem dX5_read_57 : decode cX5_read 57 = .ok (.putfield 41, 3) := by decide +kernel
theorem dX5_read_60 : decode cX5_read 60 = .ok (.iload_n 1, 1) := by decide +kernel
theorem dX5_read_61 : decode cX5_read 61 = .ok (.ifCond .eq 11, 3) := by decide +kernel
theorem dX5_read_64 : decode cX5_read 64 = .ok (.aload_n 0, 1) := by decide +kernel
theorem dX5_read_65 : decode cX5_read 65 = .ok (.getfield 41, 3) := by decide +kernel
theorem dX5_read_68 : decode cX5_read 68 = .ok (.ifCond .ne 4, 3) := by decide +kernel
theorem dX5_read_71 : decode cX5_read 71 = .ok (.return_, 1) := by decide +kernel
theorem dX5_read_72 : decode cX5_read 72 = .ok (.aload_n 0, 1) := by decide +kernel
theorem dX5_read_73 : decode cX5_read 73 = .ok (.aload_n 0, 1) := by decide +kernel
theorem dX5_read_74 : decode cX5_read 74 = .ok (.bipush 100, 2) := by decide +kernel
theorem dX5_read_76 : decode cX5_read 76 = .ok (.invokevirtual 30, 3) := by decide +kernel
theorem dX5_read_79 : decode cX5_read 79 = .ok (.putfield 44, 3) := by decide +kernel
theorem dX5_read_82 : decode cX5_read 82 = .ok (.aload_n 0, 1) := by decide +kernel
theorem dX5_read_83 : decode cX5_read 83 = .ok (.bipush 120, 2) := by decide +kernel
theorem dX5_read_85 : decode cX5_read 85 = .ok (.invokevirtual 30, 3) := by decide +kernel
theorem dX5_read_88 : decode cX5_read 88 = .ok (.istore_n 2, 1) := by decide +kernel
theorem dX5_read_89 : decode cX5_read 89 = .ok (.aload_n 0, 1) := by decide +kernel
theorem dX5_read_90 : decode cX5_read 90 = .ok (.iload_n 2, 1) := by decide +kernel
theorem dX5_read_91 : decode cX5_read 91 = .ok (.ifCond .eq 10, 3) := by decide +kernel
theorem dX5_read_94 : decode cX5_read 94 = .ok (.aload_n 0, 1) := by decide +kernel
theorem dX5_read_95 : decode cX5_read 95 = .ok (.invokevirtual 37, 3) := by decide +kernel
theorem dX5_read_98 : decode cX5_read 98 = .ok (.goto 4, 3) := by decide +kernel
theorem dX5_read_101 : decode cX5_read 101 = .ok (.iconst 0, 1) := by decide +kernel
theorem dX5_read_102 : decode cX5_read 102 = .ok (.putfield 47, 3) := by decide +kernel
theorem dX5_read_105 : decode cX5_read 105 = .ok (.aload_n 0, 1) := by decide +kernel
theorem dX5_read_106 : decode cX5_read 106 = .ok (.aload_n 0, 1) := by decide +kernel
theorem dX5_read_107 : decode cX5_read 107 = .ok (.getfield 23, 3) := by decide +kernel
theorem dX5_read_110 : decode cX5_read 110 = .ok (.aload_n 0, 1) := by decide +kernel
theorem dX5_read_111 : decode cX5_read 111 = .ok (.getfield 19, 3) := by decide +kernel
theorem dX5_read_114 : decode cX5_read 114 = .ok (.if_icmp .ne 18, 3) := by decide +kernel
theorem dX5_read_117 : decode cX5_read 117 = .ok (.iload_n 2, 1) := by decide +kernel
theorem dX5_read_118 : decode cX5_read 118 = .ok (.ifCond .eq 10, 3) := by decide +kernel
theorem dX5_read_121 : decode cX5_read 121 = .ok (.aload_n 0, 1) := by decide +kernel
theorem dX5_read_122 : decode cX5_read 122 = .ok (.getfield 47, 3) := by decide +kernel
theorem dX5_read_125 : decode cX5_read 125 = .ok (.ifCond .eq 7, 3) := by decide +kernel
theorem dX5_read_128 : decode cX5_read 128 = .ok (.iconst 1, 1) := by decide +kernel
theorem dX5_read_129 : decode cX5_read 129 = .ok (.goto 4, 3) := by decide +kernel
theorem dX5_read_132 : decode cX5_read 132 = .ok (.iconst 0, 1) := by decide +kernel
theorem dX5_read_133 : decode cX5_read 133 = .ok (.putfield 26, 3) := by decide +kernel
theorem dX5_read_136 : decode cX5_read 136 = .ok (.return_, 1) := by decide +kernel
theorem dX5_comes_0 : decode cX5_comes 0 = .ok (.aload_n 0, 1) := by decide +kernel
theorem dX5_comes_1 : decode cX5_comes 1 = .ok (.getfield 23, 3) := by decide +kernel
theorem dX5_comes_4 : decode cX5_comes 4 = .ok (.aload_n 0, 1) := by decide +kernel
theorem dX5_comes_5 : decode cX5_comes 5 = .ok (.getfield 19, 3) := by decide +kernel
theorem dX5_comes_8 : decode cX5_comes 8 = .ok (.if_icmp .ge 16, 3) := by decide +kernel
theorem dX5_comes_11 : decode cX5_comes 11 = .ok (.aload_n 0, 1) := by decide +kernel
theorem dX5_comes_12 : decode cX5_comes 12 = .ok (.getfield 9, 3) := by decide +kernel
theorem dX5_comes_15 : decode cX5_comes 15 = .ok (.aload_n 0, 1) := by decide +kernel
theorem dX5_comes_16 : decode cX5_comes 16 = .ok (.getfield 23, 3) := by decide +kernel
theorem dX5_comes_19 : decode cX5_comes 19 = .ok (.iaload, 1) := by decide +kernel
theorem dX5_comes_20 : decode cX5_comes 20 = .ok (.iload_n 1, 1) := by decide +kernel
theorem dX5_comes_21 : decode cX5_comes 21 = .ok (.if_icmp .eq 5, 3) := by decide +kernel
theorem dX5_comes_24 : decode cX5_comes 24 = .ok (.iconst 0, 1) := by decide +kernel
theorem dX5_comes_25 : decode cX5_comes 25 = .ok (.ireturn, 1) := by decide +kernel
theorem dX5_comes_26 : decode cX5_comes 26 = .ok (.aload_n 0, 1) := by decide +kernel
theorem dX5_comes_27 : decode cX5_comes 27 = .ok (.dup, 1) := by decide +kernel
theorem dX5_comes_28 : decode cX5_comes 28 = .ok (.getfield 23, 3) := by decide +kernel
theorem dX5_comes_31 : decode cX5_comes 31 = .ok (.iconst 1, 1) := by decide +kernel
theorem dX5_comes_32 : decode cX5_comes 32 = .ok (.iadd, 1) := by decide +kernel
theorem dX5_comes_33 : decode cX5_comes 33 = .ok (.putfield 23, 3) := by decide +kernel
theorem dX5_comes_36 : decode cX5_comes 36 = .ok (.iconst 1, 1) := by decide +kernel
theorem dX5_comes_37 : decode cX5_comes 37 = .ok (.ireturn, 1) := by decide +kernel
theorem dX5_digit_0 : decode cX5_digit 0 = .ok (.aload_n 0, 1) := by decide +kernel
theorem dX5_digit_1 : decode cX5_digit 1 = .ok (.getfield 23, 3) := by decide +kernel
theorem dX5_digit_4 : decode cX5_digit 4 = .ok (.aload_n 0, 1) := by decide +kernel
theorem dX5_digit_5 : decode cX5_digit 5 = .ok (.getfield 19, 3) := by decide +kernel
theorem dX5_digit_8 : decode cX5_digit 8 = .ok (.if_icmp .ge 31, 3) := by decide +kernel
theorem dX5_digit_11 : decode cX5_digit 11 = .ok (.aload_n 0, 1) := by decide +kernel
theorem dX5_digit_12 : decode cX5_digit 12 = .ok (.getfield 9, 3) := by decide +kernel
theorem dX5_digit_15 : decode cX5_digit 15 = .ok (.aload_n 0, 1) := by decide +kernel
theorem dX5_digit_16 : decode cX5_digit 16 = .ok (.getfield 23, 3) := by decide +kernel
theorem dX5_digit_19 : decode cX5_digit 19 = .ok (.iaload, 1) := by decide +kernel
theorem dX5_digit_20 : decode cX5_digit 20 = .ok (.bipush 49, 2) := by decide +kernel
theorem dX5_digit_22 : decode cX5_digit 22 = .ok (.if_icmp .lt 17, 3) := by decide +kernel
theorem dX5_digit_25 : decode cX5_digit 25 = .ok (.aload_n 0, 1) := by decide +kernel
theorem dX5_digit_26 : decode cX5_digit 26 = .ok (.getfield 9, 3) := by decide +kernel
theorem dX5_digit_29 : decode cX5_digit 29 = .ok (.aload_n 0, 1) := by decide +kernel
theorem dX5_digit_30 : decode cX5_digit 30 = .ok (.getfield 23, 3) := by decide +kernel
theorem dX5_digit_33 : decode cX5_digit 33 = .ok (.iaload, 1) := by decide +kernel
theorem dX5_digit_34 : decode cX5_digit 34 = .ok (.bipush 57, 2) := by decide +kernel
theorem dX5_digit_36 : decode cX5_digit 36 = .ok (.if_icmp .le 5, 3) := by decide +kernel
theorem dX5_digit_39 : decode cX5_digit 39 = .ok (.iconst 0, 1) := by decide +kernel
theorem dX5_digit_40 : decode cX5_digit 40 = .ok (.ireturn, 1) := by decide +kernel
theorem dX5_digit_41 : decode cX5_digit 41 = .ok (.aload_n 0, 1) := by decide +kernel
theorem dX5_digit_42 : decode cX5_digit 42 = .ok (.dup, 1) := by decide +kernel
theorem dX5_digit_43 : decode cX5_digit 43 = .ok (.getfield 23, 3) := by decide +kernel
theorem dX5_digit_46 : decode cX5_digit 46 = .ok (.iconst 1, 1) := by decide +kernel
theorem dX5_digit_47 : decode cX5_digit 47 = .ok (.iadd, 1) := by decide +kernel
theorem dX5_digit_48 : decode cX5_digit 48 = .ok (.putfield 23, 3) := by decide +kernel
theorem dX5_digit_51 : decode cX5_digit 51 = .ok (.aload_n 0, 1) := by decide +kernel
theorem dX5_digit_52 : decode cX5_digit 52 = .ok (.getfield 9, 3) := by decide +kernel
theorem dX5_digit_55 : decode cX5_digit 55 = .ok (.aload_n 0, 1) := by decide +kernel
theorem dX5_digit_56 : decode cX5_digit 56 = .ok (.getfield 23, 3) := by decide +kernel
theorem dX5_digit_59 : decode cX5_digit 59 = .ok (.iconst 1, 1) := by decide +kernel
theorem dX5_digit_60 : decode cX5_digit 60 = .ok (.isub, 1) := by decide +kernel
theorem dX5_digit_61 : decode cX5_digit 61 = .ok (.iaload, 1) := by decide +kernel
theorem dX5_digit_62 : decode cX5_digit 62 = .ok (.bipush 48, 2) := by decide +kernel
theorem dX5_digit_64 : decode cX5_digit 64 = .ok (.isub, 1) := by decide +kernel
theorem dX5_digit_65 : decode cX5_digit 65 = .ok (.ireturn, 1) := by decide +kernel
theorem dX6_init_0 : decode cX6_init 0 = .ok (.aload_n 0, 1) := by decide +kernel
theorem dX6_init_1 : decode cX6_init 1 = .ok (.invokespecial 3, 3) := by decide +kernel
theorem dX6_init_4 : decode cX6_init 4 = .ok (.aload_n 0, 1) := by decide +kernel
theorem dX6_init_5 : decode cX6_init 5 = .ok (.iconst 5, 1) := by decide +kernel
theorem dX6_init_6 : decode cX6_init 6 = .ok (.newarray .int, 2) := by decide +kernel
theorem dX6_init_8 : decode cX6_init 8 = .ok (.putfield 9, 3) := by decide +kernel
theorem dX6_init_11 : decode cX6_init 11 = .ok (.aload_n 0, 1) := by decide +kernel
theorem dX6_init_12 : decode cX6_init 12 = .ok (.bipush 10, 2) := by decide +kernel
theorem dX6_init_14 : decode cX6_init 14 = .ok (.newarray .int, 2) := by decide +kernel
theorem dX6_init_16 : decode cX6_init 16 = .ok (.putfield 15, 3) := by decide +kernel
theorem dX6_init_19 : decode cX6_init 19 = .ok (.aload_n 0, 1) := by decide +kernel
theorem dX6_init_20 : decode cX6_init 20 = .ok (.bipush 10, 2) := by decide +kernel
theorem dX6_init_22 : decode cX6_init 22 = .ok (.newarray .int, 2) := by decide +kernel
theorem dX6_init_24 : decode cX6_init 24 = .ok (.putfield 18, 3) := by decide +kernel
theorem dX6_init_27 : decode cX6_init 27 = .ok (.aload_n 0, 1) := by decide +kernel
theorem dX6_init_28 : decode cX6_init 28 = .ok (.bipush 10, 2) := by decide +kernel
theorem dX6_init_30 : decode cX6_init 30 = .ok (.newarray .int, 2) := by decide +kernel
theorem dX6_init_32 : decode cX6_init 32 = .ok (.putfield 21, 3) := by decide +kernel
theorem dX6_init_35 : decode cX6_init 35 = .ok (.aload_n 0, 1) := by decide +kernel
theorem dX6_init_36 : decode cX6_init 36 = .ok (.iconst 5, 1) := by decide +kernel
theorem dX6_init_37 : decode cX6_init 37 = .ok (.newarray .int, 2) := by decide +kernel
theorem dX6_init_39 : decode cX6_init 39 = .ok (.putfield 24, 3) := by decide +kernel
theorem dX6_init_42 : decode cX6_init 42 = .ok (.aload_n 0, 1) := by decide +kernel
theorem dX6_init_43 : decode cX6_init 43 = .ok (.aload_n 1, 1) := by decide +kernel
theorem dX6_init_44 : decode cX6_init 44 = .ok (.putfield 27, 3) := by decide +kernel
theorem dX6_init_47 : decode cX6_init 47 = .ok (.return_, 1) := by decide +kernel
theorem dX6_begin_0 : decode cX6_begin 0 = .ok (.aload_n 0, 1) := by decide +kernel
theorem dX6_begin_1 : decode cX6_begin 1 = .ok (.aload_n 1, 1) := by decide +kernel
theorem dX6_begin_2 : decode cX6_begin 2 = .ok (.putfield 27, 3) := by decide +kernel
theorem dX6_begin_5 : decode cX6_begin 5 = .ok (.aload_n 1, 1) := by decide +kernel
theorem dX6_begin_6 : decode cX6_begin 6 = .ok (.getfield 31, 3) := by decide +kernel
theorem dX6_begin_9 : decode cX6_begin 9 = .ok (.iconst 0, 1) := by decide +kernel
theorem dX6_begin_10 : decode cX6_begin 10 = .ok (.aload_n 0, 1) := by decide +kernel
theorem dX6_begin_11 : decode cX6_begin 11 = .ok (.getfield 9, 3) := by decide +kernel
theorem dX6_begin_14 : decode cX6_begin 14 = .ok (.iconst 0, 1) := by decide +kernel
theorem dX6_begin_15 : decode cX6_begin 15 = .ok (.iconst 5, 1) := by decide +kernel
theorem dX6_begin_16 : decode cX6_begin 16 = .ok (.invokestatic 34, 3) := by decide +kernel
theorem dX6_begin_19 : decode cX6_begin 19 = .ok (.aload_n 0, 1) := by decide +kernel
theorem dX6_begin_20 : decode cX6_begin 20 = .ok (.aload_n 1, 1) := by decide +kernel
theorem dX6_begin_21 : decode cX6_begin 21 = .ok (.getfield 40, 3) := by decide +kernel
theorem dX6_begin_24 : decode cX6_begin 24 = .ok (.putfield 44, 3) := by decide +kernel
theorem dX6_begin_27 : decode cX6_begin 27 = .ok (.aload_n 0, 1) := by decide +kernel
theorem dX6_begin_28 : decode cX6_begin 28 = .ok (.aload_n 1, 1) := by decide +kernel
theorem dX6_begin_29 : decode cX6_begin 29 = .ok (.invokevirtual 45, 3) := by decide +kernel
theorem dX6_begin_32 : decode cX6_begin 32 = .ok (.putfield 49, 3) := by decide +kernel
theorem dX6_begin_35 : decode cX6_begin 35 = .ok (.aload_n 0, 1) := by decide +kernel
theorem dX6_begin_36 : decode cX6_begin 36 = .ok (.iconst 0, 1) := by decide +kernel
theorem dX6_begin_37 : decode cX6_begin 37 = .ok (.putfield 52, 3) := by decide +kernel
theorem dX6_begin_40 : decode cX6_begin 40 = .ok (.aload_n 0, 1) := by decide +kernel
theorem dX6_begin_41 : decode cX6_begin 41 = .ok (.iconst 0, 1) := by decide +kernel
theorem dX6_begin_42 : decode cX6_begin 42 = .ok (.putfield 55, 3) := by decide +kernel
theorem dX6_begin_45 : decode cX6_begin 45 = .ok (.aload_n 0, 1) := by decide +kernel
theorem dX6_begin_46 : decode cX6_begin 46 = .ok (.iconst 0, 1) := by decide +kernel
theorem dX6_begin_47 : decode cX6_begin 47 = .ok (.putfield 58, 3) := by decide +kernel
theorem dX6_begin_50 : decode cX6_begin 50 = .ok (.aload_n 0, 1) := by decide +kernel
theorem dX6_begin_51 : decode cX6_begin 51 = .ok (.iconst 0, 1) := by decide +kernel
theorem dX6_begin_52 : decode cX6_begin 52 = .ok (.putfield 61, 3) := by decide +kernel
theorem dX6_begin_55 : decode cX6_begin 55 = .ok (.iconst 0, 1) := by decide +kernel
theorem dX6_begin_56 : decode cX6_begin 56 = .ok (.istore_n 2, 1) := by decide +kernel
theorem dX6_begin_57 : decode cX6_begin 57 = .ok (.iload_n 2, 1) := by decide +kernel
theorem dX6_begin_58 : decode cX6_begin 58 = .ok (.bipush 10, 2) := by decide +kernel
theorem dX6_begin_60 : decode cX6_begin 60 = .ok (.if_icmp .ge 30, 3) := by decide +kernel
theorem dX6_begin_63 : decode cX6_begin 63 = .ok (.aload_n 0, 1) := by decide +kernel
theorem dX6_begin_64 : decode cX6_begin 64 = .ok (.getfield 15, 3) := by decide +kernel
theorem dX6_begin_67 : decode cX6_begin 67 = .ok (.iload_n 2, 1) := by decide +kernel
theorem dX6_begin_68 : decode cX6_begin 68 = .ok (.iconst 0, 1) := by decide +kernel
theorem dX6_begin_69 : decode cX6_begin 69 = .ok (.iastore, 1) := by decide +kernel
theorem dX6_begin_70 : decode cX6_begin 70 = .ok (.aload_n 0, 1) := by decide +kernel
theorem dX6_begin_71 : decode cX6_begin 71 = .ok (.getfield 18, 3) := by decide +kernel
theorem dX6_begin_74 : decode cX6_begin 74 = .ok (.iload_n 2, 1) := by decide +kernel
theorem dX6_begin_75 : decode cX6_begin 75 = .ok (.iconst 0, 1) := by decide +kernel
theorem dX6_begin_76 : decode cX6_begin 76 = .ok (.iastore, 1) := by decide +kernel
theorem dX6_begin_77 : decode cX6_begin 77 = .ok (.aload_n 0, 1) := by decide +kernel
theorem dX6_begin_78 : decode cX6_begin 78 = .ok (.getfield 21, 3) := by decide +kernel
theorem dX6_begin_81 : decode cX6_begin 81 = .ok (.iload_n 2, 1) := by decide +kernel
theorem dX6_begin_82 : decode cX6_begin 82 = .ok (.iconst 0, 1) := by decide +kernel
theorem dX6_begin_83 : decode cX6_begin 83 = .ok (.iastore, 1) := by decide +kernel
theorem dX6_begin_84 : decode cX6_begin 84 = .ok (.iinc 2 1, 3) := by decide +kernel
theorem dX6_begin_87 : decode cX6_begin 87 = .ok (.goto (-30), 3) := by decide +kernel
theorem dX6_begin_90 : decode cX6_begin 90 = .ok (.aload_n 0, 1) := by decide +kernel
theorem dX6_begin_91 : decode cX6_begin 91 = .ok (.iconst (-1), 1) := by decide +kernel
theorem dX6_begin_92 : decode cX6_begin 92 = .ok (.putfield 64, 3) := by decide +kernel
theorem dX6_begin_95 : decode cX6_begin 95 = .ok (.aload_n 0, 1) := by decide +kernel
theorem dX6_begin_96 : decode cX6_begin 96 = .ok (.iconst (-1), 1) := by decide +kernel
theorem dX6_begin_97 : decode cX6_begin 97 = .ok (.putfield 67, 3) := by decide +kernel
theorem dX6_begin_100 : decode cX6_begin 100 = .ok (.return_, 1) := by decide +kernel
theorem dX6_wholeDay_0 : decode cX6_wholeDay 0 = .ok (.aload_n 0, 1) := by decide +kernel
theorem dX6_wholeDay_1 : decode cX6_wholeDay 1 = .ok (.aload_n 1, 1) := by decide +kernel
theorem dX6_wholeDay_2 : decode cX6_wholeDay 2 = .ok (.invokevirtual 70, 3) := by decide +kernel
theorem dX6_wholeDay_5 : decode cX6_wholeDay 5 = .ok (.aload_n 0, 1) := by decide +kernel
theorem dX6_wholeDay_6 : decode cX6_wholeDay 6 = .ok (.aload_n 2, 1) := by decide +kernel
theorem dX6_wholeDay_7 : decode cX6_wholeDay 7 = .ok (.aload_n 2, 1) := by decide +kernel
theorem dX6_wholeDay_8 : decode cX6_wholeDay 8 = .ok (.getfield 74, 3) := by decide +kernel
theorem dX6_wholeDay_11 : decode cX6_wholeDay 11 = .ok (.iload_n 3, 1) := by decide +kernel
theorem dX6_wholeDay_12 : decode cX6_wholeDay 12 = .ok (.iload 4, 2) := by decide +kernel
theorem dX6_wholeDay_14 : decode cX6_wholeDay 14 = .ok (.sipush 300, 3) := by decide +kernel
theorem dX6_wholeDay_17 : decode cX6_wholeDay 17 = .ok (.invokevirtual 77, 3) := by decide +kernel
theorem dX6_wholeDay_20 : decode cX6_wholeDay 20 = .ok (.return_, 1) := by decide +kernel
theorem dX6_leastOf_0 : decode cX6_leastOf 0 = .ok (.aload_n 0, 1) := by decide +kernel
theorem dX6_leastOf_1 : decode cX6_leastOf 1 = .ok (.aload_n 1, 1) := by decide +kernel
theorem dX6_leastOf_2 : decode cX6_leastOf 2 = .ok (.invokevirtual 70, 3) := by decide +kernel
theorem dX6_leastOf_5 : decode cX6_leastOf 5 = .ok (.aload_n 0, 1) := by decide +kernel
theorem dX6_leastOf_6 : decode cX6_leastOf 6 = .ok (.aload_n 2, 1) := by decide +kernel
theorem dX6_leastOf_7 : decode cX6_leastOf 7 = .ok (.iload_n 3, 1) := by decide +kernel
theorem dX6_leastOf_8 : decode cX6_leastOf 8 = .ok (.iload 4, 2) := by decide +kernel
theorem dX6_leastOf_10 : decode cX6_leastOf 10 = .ok (.iconst 0, 1) := by decide +kernel
theorem dX6_leastOf_11 : decode cX6_leastOf 11 = .ok (.sipush 300, 3) := by decide +kernel
theorem dX6_leastOf_14 : decode cX6_leastOf 14 = .ok (.invokevirtual 77, 3) := by decide +kernel
theorem dX6_leastOf_17 : decode cX6_leastOf 17 = .ok (.aload_n 0, 1) := by decide +kernel
theorem dX6_leastOf_18 : decode cX6_leastOf 18 = .ok (.invokevirtual 81, 3) := by decide +kernel
theorem dX6_leastOf_21 : decode cX6_leastOf 21 = .ok (.ireturn, 1) := by decide +kernel
theorem dX6_goRound_0 : decode cX6_goRound 0 = .ok (.iload_n 3, 1) := by decide +kernel
theorem dX6_goRound_1 : decode cX6_goRound 1 = .ok (.istore 6, 2) := by decide +kernel
theorem dX6_goRound_3 : decode cX6_goRound 3 = .ok (.aload_n 0, 1) := by decide +kernel
theorem dX6_goRound_4 : decode cX6_goRound 4 = .ok (.getfield 52, 3) := by decide +kernel
theorem dX6_goRound_7 : decode cX6_goRound 7 = .ok (.iload 5, 2) := by decide +kernel
theorem dX6_goRound_9 : decode cX6_goRound 9 = .ok (.if_icmp .ge 98, 3) := by decide +kernel
theorem dX6_goRound_12 : decode cX6_goRound 12 = .ok (.aload_n 0, 1) := by decide +kernel
theorem dX6_goRound_13 : decode cX6_goRound 13 = .ok (.invokevirtual 84, 3) := by decide +kernel
theorem dX6_goRound_16 : decode cX6_goRound 16 = .ok (.ifCond .ne 91, 3) := by decide +kernel
theorem dX6_goRound_19 : decode cX6_goRound 19 = .ok (.aload_n 0, 1) := by decide +kernel
theorem dX6_goRound_20 : decode cX6_goRound 20 = .ok (.aload_n 1, 1) := by decide +kernel
theorem dX6_goRound_21 : decode cX6_goRound 21 = .ok (.iload 6, 2) := by decide +kernel
theorem dX6_goRound_23 : decode cX6_goRound 23 = .ok (.iload 4, 2) := by decide +kernel
theorem dX6_goRound_25 : decode cX6_goRound 25 = .ok (.invokevirtual 88, 3) := by decide +kernel
theorem dX6_goRound_28 : decode cX6_goRound 28 = .ok (.istore 6, 2) := by decide +kernel
theorem dX6_goRound_30 : decode cX6_goRound 30 = .ok (.iload 6, 2) := by decide +kernel
theorem dX6_goRound_32 : decode cX6_goRound 32 = .ok (.iconst (-1), 1) := by decide +kernel
theorem dX6_goRound_33 : decode cX6_goRound 33 = .ok (.if_icmp .ne 4, 3) := by decide +kernel
theorem dX6_goRound_36 : decode cX6_goRound 36 = .ok (.return_, 1) := by decide +kernel
theorem dX6_goRound_37 : decode cX6_goRound 37 = .ok (.aload_n 0, 1) := by decide +kernel
theorem dX6_goRound_38 : decode cX6_goRound 38 = .ok (.dup, 1) := by decide +kernel
theorem dX6_goRound_39 : decode cX6_goRound 39 = .ok (.getfield 52, 3) := by decide +kernel
theorem dX6_goRound_42 : decode cX6_goRound 42 = .ok (.iconst 1, 1) := by decide +kernel
theorem dX6_goRound_43 : decode cX6_goRound 43 = .ok (.iadd, 1) := by decide +kernel
theorem dX6_goRound_44 : decode cX6_goRound 44 = .ok (.putfield 52, 3) := by decide +kernel
theorem dX6_goRound_47 : decode cX6_goRound 47 = .ok (.iload_n 2, 1) := by decide +kernel
theorem dX6_goRound_48 : decode cX6_goRound 48 = .ok (.ifCond .le 19, 3) := by decide +kernel
theorem dX6_goRound_51 : decode cX6_goRound 51 = .ok (.aload_n 0, 1) := by decide +kernel
theorem dX6_goRound_52 : decode cX6_goRound 52 = .ok (.getfield 52, 3) := by decide +kernel
theorem dX6_goRound_55 : decode cX6_goRound 55 = .ok (.iload_n 2, 1) := by decide +kernel
theorem dX6_goRound_56 : decode cX6_goRound 56 = .ok (.irem, 1) := by decide +kernel
theorem dX6_goRound_57 : decode cX6_goRound 57 = .ok (.ifCond .ne 10, 3) := by decide +kernel
theorem dX6_goRound_60 : decode cX6_goRound 60 = .ok (.aload_n 0, 1) := by decide +kernel
theorem dX6_goRound_61 : decode cX6_goRound 61 = .ok (.invokevirtual 92, 3) := by decide +kernel
theorem dX6_goRound_64 : decode cX6_goRound 64 = .ok (.goto 9, 3) := by decide +kernel
theorem dX6_goRound_67 : decode cX6_goRound 67 = .ok (.aload_n 0, 1) := by decide +kernel
theorem dX6_goRound_68 : decode cX6_goRound 68 = .ok (.iload 6, 2) := by decide +kernel
theorem dX6_goRound_70 : decode cX6_goRound 70 = .ok (.invokevirtual 95, 3) := by decide +kernel
theorem dX6_goRound_73 : decode cX6_goRound 73 = .ok (.aload_n 0, 1) := by decide +kernel
theorem dX6_goRound_74 : decode cX6_goRound 74 = .ok (.aload_n 0, 1) := by decide +kernel
theorem dX6_goRound_75 : decode cX6_goRound 75 = .ok (.getfield 27, 3) := by decide +kernel
theorem dX6_goRound_78 : decode cX6_goRound 78 = .ok (.iload 6, 2) := by decide +kernel
theorem dX6_goRound_80 : decode cX6_goRound 80 = .ok (.invokevirtual 99, 3) := by decide +kernel
theorem dX6_goRound_83 : decode cX6_goRound 83 = .ok (.invokevirtual 103, 3) := by decide +kernel
theorem dX6_goRound_86 : decode cX6_goRound 86 = .ok (.invokevirtual 108, 3) := by decide +kernel
theorem dX6_goRound_89 : decode cX6_goRound 89 = .ok (.aload_n 0, 1) := by decide +kernel
theorem dX6_goRound_90 : decode cX6_goRound 90 = .ok (.getfield 27, 3) := by decide +kernel
theorem dX6_goRound_93 : decode cX6_goRound 93 = .ok (.iload 6, 2) := by decide +kernel
theorem dX6_goRound_95 : decode cX6_goRound 95 = .ok (.aload_n 1, 1) := by decide +kernel
theorem dX6_goRound_96 : decode cX6_goRound 96 = .ok (.getfield 111, 3) := by decide +kernel
theorem dX6_goRound_99 : decode cX6_goRound 99 = .ok (.invokevirtual 115, 3) := by decide +kernel
theorem dX6_goRound_102 : decode cX6_goRound 102 = .ok (.istore 6, 2) := by decide +kernel
theorem dX6_goRound_104 : decode cX6_goRound 104 = .ok (.goto (-101), 3) := by decide +kernel
theorem dX6_goRound_107 : decode cX6_goRound 107 = .ok (.return_, 1) := by decide +kernel
theorem dX6_goBothWays_0 : decode cX6_goBothWays 0 = .ok (.aload_n 0, 1) := by decide +kernel
theorem dX6_goBothWays_1 : decode cX6_goBothWays 1 = .ok (.getfield 27, 3) := by decide +kernel
theorem dX6_goBothWays_4 : decode cX6_goBothWays 4 = .ok (.getfield 119, 3) := by decide +kernel
theorem dX6_goBothWays_7 : decode cX6_goBothWays 7 = .ok (.invokevirtual 123, 3) := by decide +kernel
theorem dX6_goBothWays_10 : decode cX6_goBothWays 10 = .ok (.istore_n 2, 1) := by decide +kernel
theorem dX6_goBothWays_11 : decode cX6_goBothWays 11 = .ok (.iload_n 2, 1) := by decide +kernel
theorem dX6_goBothWays_12 : decode cX6_goBothWays 12 = .ok (.ifCond .eq 14, 3) := by decide +kernel
theorem dX6_goBothWays_15 : decode cX6_goBothWays 15 = .ok (.aload_n 0, 1) := by decide +kernel
theorem dX6_goBothWays_16 : decode cX6_goBothWays 16 = .ok (.getfield 27, 3) := by decide +kernel
theorem dX6_goBothWays_19 : decode cX6_goBothWays 19 = .ok (.invokevirtual 128, 3) := by decide +kernel
theorem dX6_goBothWays_22 : decode cX6_goBothWays 22 = .ok (.iload_n 2, 1) := by decide +kernel
theorem dX6_goBothWays_23 : decode cX6_goBothWays 23 = .ok (.if_icmp .ne 4, 3) := by decide +kernel
theorem dX6_goBothWays_26 : decode cX6_goBothWays 26 = .ok (.return_, 1) := by decide +kernel
theorem dX6_goBothWays_27 : decode cX6_goBothWays 27 = .ok (.iload_n 1, 1) := by decide +kernel
theorem dX6_goBothWays_28 : decode cX6_goBothWays 28 = .ok (.istore_n 3, 1) := by decide +kernel
theorem dX6_goBothWays_29 : decode cX6_goBothWays 29 = .ok (.iload_n 1, 1) := by decide +kernel
theorem dX6_goBothWays_30 : decode cX6_goBothWays 30 = .ok (.iload_n 2, 1) := by decide +kernel
theorem dX6_goBothWays_31 : decode cX6_goBothWays 31 = .ok (.iconst 2, 1) := by decide +kernel
theorem dX6_goBothWays_32 : decode cX6_goBothWays 32 = .ok (.idiv, 1) := by decide +kernel
theorem dX6_goBothWays_33 : decode cX6_goBothWays 33 = .ok (.iadd, 1) := by decide +kernel
theorem dX6_goBothWays_34 : decode cX6_goBothWays 34 = .ok (.iload_n 2, 1) := by decide +kernel
theorem dX6_goBothWays_35 : decode cX6_goBothWays 35 = .ok (.irem, 1) := by decide +kernel
theorem dX6_goBothWays_36 : decode cX6_goBothWays 36 = .ok (.istore 4, 2) := by decide +kernel
theorem dX6_goBothWays_38 : decode cX6_goBothWays 38 = .ok (.iconst 1, 1) := by decide +kernel
theorem dX6_goBothWays_39 : decode cX6_goBothWays 39 = .ok (.istore 5, 2) := by decide +kernel
theorem dX6_goBothWays_41 : decode cX6_goBothWays 41 = .ok (.aload_n 0, 1) := by decide +kernel
theorem dX6_goBothWays_42 : decode cX6_goBothWays 42 = .ok (.getfield 52, 3) := by decide +kernel
theorem dX6_goBothWays_45 : decode cX6_goBothWays 45 = .ok (.sipush 300, 3) := by decide +kernel
theorem dX6_goBothWays_48 : decode cX6_goBothWays 48 = .ok (.if_icmp .ge 96, 3) := by decide +kernel
theorem dX6_goBothWays_51 : decode cX6_goBothWays 51 = .ok (.aload_n 0, 1) := by decide +kernel
theorem dX6_goBothWays_52 : decode cX6_goBothWays 52 = .ok (.invokevirtual 84, 3) := by decide +kernel
theorem dX6_goBothWays_55 : decode cX6_goBothWays 55 = .ok (.ifCond .ne 89, 3) := by decide +kernel
theorem dX6_goBothWays_58 : decode cX6_goBothWays 58 = .ok (.aload_n 0, 1) := by decide +kernel
theorem dX6_goBothWays_59 : decode cX6_goBothWays 59 = .ok (.iload_n 3, 1) := by decide +kernel
theorem dX6_goBothWays_60 : decode cX6_goBothWays 60 = .ok (.iload 5, 2) := by decide +kernel
theorem dX6_goBothWays_62 : decode cX6_goBothWays 62 = .ok (.invokevirtual 131, 3) := by decide +kernel
theorem dX6_goBothWays_65 : decode cX6_goBothWays 65 = .ok (.istore_n 3, 1) := by decide +kernel
theorem dX6_goBothWays_66 : decode cX6_goBothWays 66 = .ok (.aload_n 0, 1) := by decide +kernel
theorem dX6_goBothWays_67 : decode cX6_goBothWays 67 = .ok (.dup, 1) := by decide +kernel
theorem dX6_goBothWays_68 : decode cX6_goBothWays 68 = .ok (.getfield 52, 3) := by decide +kernel
theorem dX6_goBothWays_71 : decode cX6_goBothWays 71 = .ok (.iconst 1, 1) := by decide +kernel
theorem dX6_goBothWays_72 : decode cX6_goBothWays 72 = .ok (.iadd, 1) := by decide +kernel
theorem dX6_goBothWays_73 : decode cX6_goBothWays 73 = .ok (.putfield 52, 3) := by decide +kernel
theorem dX6_goBothWays_76 : decode cX6_goBothWays 76 = .ok (.iload_n 3, 1) := by decide +kernel
theorem dX6_goBothWays_77 : decode cX6_goBothWays 77 = .ok (.iload 4, 2) := by decide +kernel
theorem dX6_goBothWays_79 : decode cX6_goBothWays 79 = .ok (.if_icmp .ne 11, 3) := by decide +kernel
theorem dX6_goBothWays_82 : decode cX6_goBothWays 82 = .ok (.aload_n 0, 1) := by decide +kernel
theorem dX6_goBothWays_83 : decode cX6_goBothWays 83 = .ok (.iconst 1, 1) := by decide +kernel
theorem dX6_goBothWays_84 : decode cX6_goBothWays 84 = .ok (.invokevirtual 108, 3) := by decide +kernel
theorem dX6_goBothWays_87 : decode cX6_goBothWays 87 = .ok (.goto 23, 3) := by decide +kernel
theorem dX6_goBothWays_90 : decode cX6_goBothWays 90 = .ok (.aload_n 0, 1) := by decide +kernel
theorem dX6_goBothWays_91 : decode cX6_goBothWays 91 = .ok (.iload_n 3, 1) := by decide +kernel
theorem dX6_goBothWays_92 : decode cX6_goBothWays 92 = .ok (.invokevirtual 95, 3) := by decide +kernel
theorem dX6_goBothWays_95 : decode cX6_goBothWays 95 = .ok (.aload_n 0, 1) := by decide +kernel
theorem dX6_goBothWays_96 : decode cX6_goBothWays 96 = .ok (.aload_n 0, 1) := by decide +kernel
theorem dX6_goBothWays_97 : decode cX6_goBothWays 97 = .ok (.getfield 27, 3) := by decide +kernel
theorem dX6_goBothWays_100 : decode cX6_goBothWays 100 = .ok (.iload_n 3, 1) := by decide +kernel
theorem dX6_goBothWays_101 : decode cX6_goBothWays 101 = .ok (.invokevirtual 99, 3) := by decide +kernel
theorem dX6_goBothWays_104 : decode cX6_goBothWays 104 = .ok (.invokevirtual 103, 3) := by decide +kernel
theorem dX6_goBothWays_107 : decode cX6_goBothWays 107 = .ok (.invokevirtual 108, 3) := by decide +kernel
theorem dX6_goBothWays_110 : decode cX6_goBothWays 110 = .ok (.aload_n 0, 1) := by decide +kernel
theorem dX6_goBothWays_111 : decode cX6_goBothWays 111 = .ok (.getfield 27, 3) := by decide +kernel
theorem dX6_goBothWays_114 : decode cX6_goBothWays 114 = .ok (.iload_n 3, 1) := by decide +kernel
theorem dX6_goBothWays_115 : decode cX6_goBothWays 115 = .ok (.iload 5, 2) := by decide +kernel
theorem dX6_goBothWays_117 : decode cX6_goBothWays 117 = .ok (.invokevirtual 115, 3) := by decide +kernel
theorem dX6_goBothWays_120 : decode cX6_goBothWays 120 = .ok (.istore 6, 2) := by decide +kernel
theorem dX6_goBothWays_122 : decode cX6_goBothWays 122 = .ok (.iload 4, 2) := by decide +kernel
theorem dX6_goBothWays_124 : decode cX6_goBothWays 124 = .ok (.istore_n 3, 1) := by decide +kernel
theorem dX6_goBothWays_125 : decode cX6_goBothWays 125 = .ok (.iload 6, 2) := by decide +kernel
theorem dX6_goBothWays_127 : decode cX6_goBothWays 127 = .ok (.istore 4, 2) := by decide +kernel
theorem dX6_goBothWays_129 : decode cX6_goBothWays 129 = .ok (.iload 5, 2) := by decide +kernel
theorem dX6_goBothWays_131 : decode cX6_goBothWays 131 = .ok (.ifCond .ne 7, 3) := by decide +kernel
theorem dX6_goBothWays_134 : decode cX6_goBothWays 134 = .ok (.iconst 1, 1) := by decide +kernel
theorem dX6_goBothWays_135 : decode cX6_goBothWays 135 = .ok (.goto 4, 3) := by decide +kernel
theorem dX6_goBothWays_138 : decode cX6_goBothWays 138 = .ok (.iconst 0, 1) := by decide +kernel
theorem dX6_goBothWays_139 : decode cX6_goBothWays 139 = .ok (.istore 5, 2) := by decide +kernel
theorem dX6_goBothWays_141 : decode cX6_goBothWays 141 = .ok (.goto (-100), 3) := by decide +kernel
theorem dX6_goBothWays_144 : decode cX6_goBothWays 144 = .ok (.return_, 1) := by decide +kernel
theorem dX6_told_0 : decode cX6_told 0 = .ok (.iload_n 1, 1) := by decide +kernel
theorem dX6_told_1 : decode cX6_told 1 = .ok (.tableswitch 70 0 4 #[35, 42, 49, 56, 63], 35) := by decide +kernel
theorem dX6_told_36 : decode cX6_told 36 = .ok (.aload_n 0, 1) := by decide +kernel
theorem dX6_told_37 : decode cX6_told 37 = .ok (.getfield 52, 3) := by decide +kernel
theorem dX6_told_40 : decode cX6_told 40 = .ok (.goto 35, 3) := by decide +kernel
theorem dX6_told_43 : decode cX6_told 43 = .ok (.aload_n 0, 1) := by decide +kernel
theorem dX6_told_44 : decode cX6_told 44 = .ok (.getfield 55, 3) := by decide +kernel
theorem dX6_told_47 : decode cX6_told 47 = .ok (.goto 28, 3) := by decide +kernel
theorem dX6_told_50 : decode cX6_told 50 = .ok (.aload_n 0, 1) := by decide +kernel
theorem dX6_told_51 : decode cX6_told 51 = .ok (.getfield 49, 3) := by decide +kernel
theorem dX6_told_54 : decode cX6_told 54 = .ok (.goto 21, 3) := by decide +kernel
theorem dX6_told_57 : decode cX6_told 57 = .ok (.aload_n 0, 1) := by decide +kernel
theorem dX6_told_58 : decode cX6_told 58 = .ok (.getfield 58, 3) := by decide +kernel
theorem dX6_told_61 : decode cX6_told 61 = .ok (.goto 14, 3) := by decide +kernel
theorem dX6_told_64 : decode cX6_told 64 = .ok (.aload_n 0, 1) := by decide +kernel
theorem dX6_told_65 : decode cX6_told 65 = .ok (.getfield 61, 3) := by decide +kernel
theorem dX6_told_68 : decode cX6_told 68 = .ok (.goto 7, 3) := by decide +kernel
theorem dX6_told_71 : decode cX6_told 71 = .ok (.aload_n 0, 1) := by decide +kernel
theorem dX6_told_72 : decode cX6_told 72 = .ok (.getfield 44, 3) := by decide +kernel
theorem dX6_told_75 : decode cX6_told 75 = .ok (.ireturn, 1) := by decide +kernel
theorem dX6_leastSurplus_0 : decode cX6_leastSurplus 0 = .ok (.iconst 0, 1) := by decide +kernel
theorem dX6_leastSurplus_1 : decode cX6_leastSurplus 1 = .ok (.istore_n 1, 1) := by decide +kernel
theorem dX6_leastSurplus_2 : decode cX6_leastSurplus 2 = .ok (.iconst 0, 1) := by decide +kernel
theorem dX6_leastSurplus_3 : decode cX6_leastSurplus 3 = .ok (.istore_n 2, 1) := by decide +kernel
theorem dX6_leastSurplus_4 : decode cX6_leastSurplus 4 = .ok (.iconst 0, 1) := by decide +kernel
theorem dX6_leastSurplus_5 : decode cX6_leastSurplus 5 = .ok (.istore_n 3, 1) := by decide +kernel
theorem dX6_leastSurplus_6 : decode cX6_leastSurplus 6 = .ok (.iload_n 3, 1) := by decide +kernel
theorem dX6_leastSurplus_7 : decode cX6_leastSurplus 7 = .ok (.aload_n 0, 1) := by decide +kernel
theorem dX6_leastSurplus_8 : decode cX6_leastSurplus 8 = .ok (.getfield 27, 3) := by decide +kernel
theorem dX6_leastSurplus_11 : decode cX6_leastSurplus 11 = .ok (.getfield 119, 3) := by decide +kernel
theorem dX6_leastSurplus_14 : decode cX6_leastSurplus 14 = .ok (.invokevirtual 123, 3) := by decide +kernel
theorem dX6_leastSurplus_17 : decode cX6_leastSurplus 17 = .ok (.if_icmp .ge 61, 3) := by decide +kernel
theorem dX6_leastSurplus_20 : decode cX6_leastSurplus 20 = .ok (.aload_n 0, 1) := by decide +kernel
theorem dX6_leastSurplus_21 : decode cX6_leastSurplus 21 = .ok (.getfield 15, 3) := by decide +kernel
theorem dX6_leastSurplus_24 : decode cX6_leastSurplus 24 = .ok (.iload_n 3, 1) := by decide +kernel
theorem dX6_leastSurplus_25 : decode cX6_leastSurplus 25 = .ok (.iaload, 1) := by decide +kernel
theorem dX6_leastSurplus_26 : decode cX6_leastSurplus 26 = .ok (.aload_n 0, 1) := by decide +kernel
theorem dX6_leastSurplus_27 : decode cX6_leastSurplus 27 = .ok (.getfield 27, 3) := by decide +kernel
theorem dX6_leastSurplus_30 : decode cX6_leastSurplus 30 = .ok (.getfield 119, 3) := by decide +kernel
theorem dX6_leastSurplus_33 : decode cX6_leastSurplus 33 = .ok (.iload_n 3, 1) := by decide +kernel
theorem dX6_leastSurplus_34 : decode cX6_leastSurplus 34 = .ok (.invokevirtual 134, 3) := by decide +kernel
theorem dX6_leastSurplus_37 : decode cX6_leastSurplus 37 = .ok (.checkcast 104, 3) := by decide +kernel
theorem dX6_leastSurplus_40 : decode cX6_leastSurplus 40 = .ok (.getfield 138, 3) := by decide +kernel
theorem dX6_leastSurplus_43 : decode cX6_leastSurplus 43 = .ok (.isub, 1) := by decide +kernel
theorem dX6_leastSurplus_44 : decode cX6_leastSurplus 44 = .ok (.istore 4, 2) := by decide +kernel
theorem dX6_leastSurplus_46 : decode cX6_leastSurplus 46 = .ok (.aload_n 0, 1) := by decide +kernel
theorem dX6_leastSurplus_47 : decode cX6_leastSurplus 47 = .ok (.getfield 27, 3) := by decide +kernel
theorem dX6_leastSurplus_50 : decode cX6_leastSurplus 50 = .ok (.iload_n 3, 1) := by decide +kernel
theorem dX6_leastSurplus_51 : decode cX6_leastSurplus 51 = .ok (.invokevirtual 141, 3) := by decide +kernel
theorem dX6_leastSurplus_54 : decode cX6_leastSurplus 54 = .ok (.ifCond .ne 18, 3) := by decide +kernel
theorem dX6_leastSurplus_57 : decode cX6_leastSurplus 57 = .ok (.iload_n 1, 1) := by decide +kernel
theorem dX6_leastSurplus_58 : decode cX6_leastSurplus 58 = .ok (.ifCond .eq 9, 3) := by decide +kernel
theorem dX6_leastSurplus_61 : decode cX6_leastSurplus 61 = .ok (.iload 4, 2) := by decide +kernel
theorem dX6_leastSurplus_63 : decode cX6_leastSurplus 63 = .ok (.iload_n 2, 1) := by decide +kernel
theorem dX6_leastSurplus_64 : decode cX6_leastSurplus 64 = .ok (.if_icmp .ge 8, 3) := by decide +kernel
theorem dX6_leastSurplus_67 : decode cX6_leastSurplus 67 = .ok (.iconst 1, 1) := by decide +kernel
theorem dX6_leastSurplus_68 : decode cX6_leastSurplus 68 = .ok (.istore_n 1, 1) := by decide +kernel
theorem dX6_leastSurplus_69 : decode cX6_leastSurplus 69 = .ok (.iload 4, 2) := by decide +kernel
theorem dX6_leastSurplus_71 : decode cX6_leastSurplus 71 = .ok (.istore_n 2, 1) := by decide +kernel
theorem dX6_leastSurplus_72 : decode cX6_leastSurplus 72 = .ok (.iinc 3 1, 3) := by decide +kernel
theorem dX6_leastSurplus_75 : decode cX6_leastSurplus 75 = .ok (.goto (-69), 3) := by decide +kernel
theorem dX6_leastSurplus_78 : decode cX6_leastSurplus 78 = .ok (.iload_n 2, 1) := by decide +kernel
theorem dX6_leastSurplus_79 : decode cX6_leastSurplus 79 = .ok (.ireturn, 1) := by decide +kernel
theorem dX6_isOver_0 : decode cX6_isOver 0 = .ok (.aload_n 0, 1) := by decide +kernel
theorem dX6_isOver_1 : decode cX6_isOver 1 = .ok (.getfield 49, 3) := by decide +kernel
theorem dX6_isOver_4 : decode cX6_isOver 4 = .ok (.ifCond .eq 13, 3) := by decide +kernel
theorem dX6_isOver_7 : decode cX6_isOver 7 = .ok (.aload_n 0, 1) := by decide +kernel
theorem dX6_isOver_8 : decode cX6_isOver 8 = .ok (.getfield 55, 3) := by decide +kernel
theorem dX6_isOver_11 : decode cX6_isOver 11 = .ok (.sipush 300, 3) := by decide +kernel
theorem dX6_isOver_14 : decode cX6_isOver 14 = .ok (.if_icmp .lt 7, 3) := by decide +kernel
theorem dX6_isOver_17 : decode cX6_isOver 17 = .ok (.iconst 1, 1) := by decide +kernel
theorem dX6_isOver_18 : decode cX6_isOver 18 = .ok (.goto 4, 3) := by decide +kernel
theorem dX6_isOver_21 : decode cX6_isOver 21 = .ok (.iconst 0, 1) := by decide +kernel
theorem dX6_isOver_22 : decode cX6_isOver 22 = .ok (.ireturn, 1) := by decide +kernel
theorem dX6_seatServed_0 : decode cX6_seatServed 0 = .ok (.iload_n 2, 1) := by decide +kernel
theorem dX6_seatServed_1 : decode cX6_seatServed 1 = .ok (.istore 4, 2) := by decide +kernel
theorem dX6_seatServed_3 : decode cX6_seatServed 3 = .ok (.iconst 0, 1) := by decide +kernel
theorem dX6_seatServed_4 : decode cX6_seatServed 4 = .ok (.istore 5, 2) := by decide +kernel
theorem dX6_seatServed_6 : decode cX6_seatServed 6 = .ok (.iload 5, 2) := by decide +kernel
theorem dX6_seatServed_8 : decode cX6_seatServed 8 = .ok (.aload_n 0, 1) := by decide +kernel
theorem dX6_seatServed_9 : decode cX6_seatServed 9 = .ok (.getfield 27, 3) := by decide +kernel
theorem dX6_seatServed_12 : decode cX6_seatServed 12 = .ok (.getfield 119, 3) := by decide +kernel
theorem dX6_seatServed_15 : decode cX6_seatServed 15 = .ok (.invokevirtual 123, 3) := by decide +kernel
theorem dX6_seatServed_18 : decode cX6_seatServed 18 = .ok (.if_icmp .ge 46, 3) := by decide +kernel
theorem dX6_seatServed_21 : decode cX6_seatServed 21 = .ok (.aload_n 0, 1) := by decide +kernel
theorem dX6_seatServed_22 : decode cX6_seatServed 22 = .ok (.aload_n 1, 1) := by decide +kernel
theorem dX6_seatServed_23 : decode cX6_seatServed 23 = .ok (.aload_n 0, 1) := by decide +kernel
theorem dX6_seatServed_24 : decode cX6_seatServed 24 = .ok (.getfield 27, 3) := by decide +kernel
theorem dX6_seatServed_27 : decode cX6_seatServed 27 = .ok (.getfield 145, 3) := by decide +kernel
theorem dX6_seatServed_30 : decode cX6_seatServed 30 = .ok (.iload 4, 2) := by decide +kernel
theorem dX6_seatServed_32 : decode cX6_seatServed 32 = .ok (.iaload, 1) := by decide +kernel
theorem dX6_seatServed_33 : decode cX6_seatServed 33 = .ok (.iload_n 3, 1) := by decide +kernel
theorem dX6_seatServed_34 : decode cX6_seatServed 34 = .ok (.invokevirtual 148, 3) := by decide +kernel
theorem dX6_seatServed_37 : decode cX6_seatServed 37 = .ok (.ifCond .ne 6, 3) := by decide +kernel
theorem dX6_seatServed_40 : decode cX6_seatServed 40 = .ok (.iload 4, 2) := by decide +kernel
theorem dX6_seatServed_42 : decode cX6_seatServed 42 = .ok (.ireturn, 1) := by decide +kernel
theorem dX6_seatServed_43 : decode cX6_seatServed 43 = .ok (.aload_n 0, 1) := by decide +kernel
theorem dX6_seatServed_44 : decode cX6_seatServed 44 = .ok (.getfield 27, 3) := by decide +kernel
theorem dX6_seatServed_47 : decode cX6_seatServed 47 = .ok (.iload 4, 2) := by decide +kernel
theorem dX6_seatServed_49 : decode cX6_seatServed 49 = .ok (.aload_n 1, 1) := by decide +kernel
theorem dX6_seatServed_50 : decode cX6_seatServed 50 = .ok (.getfield 111, 3) := by decide +kernel
theorem dX6_seatServed_53 : decode cX6_seatServed 53 = .ok (.invokevirtual 115, 3) := by decide +kernel
theorem dX6_seatServed_56 : decode cX6_seatServed 56 = .ok (.istore 4, 2) := by decide +kernel
theorem dX6_seatServed_58 : decode cX6_seatServed 58 = .ok (.iinc 5 1, 3) := by decide +kernel
theorem dX6_seatServed_61 : decode cX6_seatServed 61 = .ok (.goto (-55), 3) := by decide +kernel
theorem dX6_seatServed_64 : decode cX6_seatServed 64 = .ok (.iconst (-1), 1) := by decide +kernel
theorem dX6_seatServed_65 : decode cX6_seatServed 65 = .ok (.ireturn, 1) := by decide +kernel
theorem dX6_isSkipped_0 : decode cX6_isSkipped 0 = .ok (.aload_n 0, 1) := by decide +kernel
theorem dX6_isSkipped_1 : decode cX6_isSkipped 1 = .ok (.getfield 27, 3) := by decide +kernel
theorem dX6_isSkipped_4 : decode cX6_isSkipped 4 = .ok (.iload_n 2, 1) := by decide +kernel
theorem dX6_isSkipped_5 : decode cX6_isSkipped 5 = .ok (.invokevirtual 141, 3) := by decide +kernel
theorem dX6_isSkipped_8 : decode cX6_isSkipped 8 = .ok (.ifCond .ne 59, 3) := by decide +kernel
theorem dX6_isSkipped_11 : decode cX6_isSkipped 11 = .ok (.iload_n 3, 1) := by decide +kernel
theorem dX6_isSkipped_12 : decode cX6_isSkipped 12 = .ok (.iload_n 2, 1) := by decide +kernel
theorem dX6_isSkipped_13 : decode cX6_isSkipped 13 = .ok (.ishr, 1) := by decide +kernel
theorem dX6_isSkipped_14 : decode cX6_isSkipped 14 = .ok (.iconst 1, 1) := by decide +kernel
theorem dX6_isSkipped_15 : decode cX6_isSkipped 15 = .ok (.iand, 1) := by decide +kernel
theorem dX6_isSkipped_16 : decode cX6_isSkipped 16 = .ok (.ifCond .ne 51, 3) := by decide +kernel
theorem dX6_isSkipped_19 : decode cX6_isSkipped 19 = .ok (.aload_n 1, 1) := by decide +kernel
theorem dX6_isSkipped_20 : decode cX6_isSkipped 20 = .ok (.getfield 152, 3) := by decide +kernel
theorem dX6_isSkipped_23 : decode cX6_isSkipped 23 = .ok (.ifCond .le 16, 3) := by decide +kernel
theorem dX6_isSkipped_26 : decode cX6_isSkipped 26 = .ok (.aload_n 0, 1) := by decide +kernel
theorem dX6_isSkipped_27 : decode cX6_isSkipped 27 = .ok (.getfield 18, 3) := by decide +kernel
theorem dX6_isSkipped_30 : decode cX6_isSkipped 30 = .ok (.iload_n 2, 1) := by decide +kernel
theorem dX6_isSkipped_31 : decode cX6_isSkipped 31 = .ok (.iaload, 1) := by decide +kernel
theorem dX6_isSkipped_32 : decode cX6_isSkipped 32 = .ok (.aload_n 1, 1) := by decide +kernel
theorem dX6_isSkipped_33 : decode cX6_isSkipped 33 = .ok (.getfield 152, 3) := by decide +kernel
theorem dX6_isSkipped_36 : decode cX6_isSkipped 36 = .ok (.if_icmp .ge 31, 3) := by decide +kernel
theorem dX6_isSkipped_39 : decode cX6_isSkipped 39 = .ok (.aload_n 1, 1) := by decide +kernel
theorem dX6_isSkipped_40 : decode cX6_isSkipped 40 = .ok (.getfield 155, 3) := by decide +kernel
theorem dX6_isSkipped_43 : decode cX6_isSkipped 43 = .ok (.ifCond .eq 28, 3) := by decide +kernel
theorem dX6_isSkipped_46 : decode cX6_isSkipped 46 = .ok (.aload_n 0, 1) := by decide +kernel
theorem dX6_isSkipped_47 : decode cX6_isSkipped 47 = .ok (.getfield 27, 3) := by decide +kernel
theorem dX6_isSkipped_50 : decode cX6_isSkipped 50 = .ok (.getfield 119, 3) := by decide +kernel
theorem dX6_isSkipped_53 : decode cX6_isSkipped 53 = .ok (.iload_n 2, 1) := by decide +kernel
theorem dX6_isSkipped_54 : decode cX6_isSkipped 54 = .ok (.invokevirtual 134, 3) := by decide +kernel
theorem dX6_isSkipped_57 : decode cX6_isSkipped 57 = .ok (.checkcast 104, 3) := by decide +kernel
theorem dX6_isSkipped_60 : decode cX6_isSkipped 60 = .ok (.iconst 2, 1) := by decide +kernel
theorem dX6_isSkipped_61 : decode cX6_isSkipped 61 = .ok (.invokevirtual 158, 3) := by decide +kernel
theorem dX6_isSkipped_64 : decode cX6_isSkipped 64 = .ok (.ifCond .eq 7, 3) := by decide +kernel
theorem dX6_isSkipped_67 : decode cX6_isSkipped 67 = .ok (.iconst 1, 1) := by decide +kernel
theorem dX6_isSkipped_68 : decode cX6_isSkipped 68 = .ok (.goto 4, 3) := by decide +kernel
theorem dX6_isSkipped_71 : decode cX6_isSkipped 71 = .ok (.iconst 0, 1) := by decide +kernel
theorem dX6_isSkipped_72 : decode cX6_isSkipped 72 = .ok (.ireturn, 1) := by decide +kernel
theorem dX6_seatAlive_0 : decode cX6_seatAlive 0 = .ok (.iload_n 1, 1) := by decide +kernel
theorem dX6_seatAlive_1 : decode cX6_seatAlive 1 = .ok (.istore_n 3, 1) := by decide +kernel
theorem dX6_seatAlive_2 : decode cX6_seatAlive 2 = .ok (.iconst 0, 1) := by decide +kernel
theorem dX6_seatAlive_3 : decode cX6_seatAlive 3 = .ok (.istore 4, 2) := by decide +kernel
theorem dX6_seatAlive_5 : decode cX6_seatAlive 5 = .ok (.iload 4, 2) := by decide +kernel
theorem dX6_seatAlive_7 : decode cX6_seatAlive 7 = .ok (.aload_n 0, 1) := by decide +kernel
theorem dX6_seatAlive_8 : decode cX6_seatAlive 8 = .ok (.getfield 27, 3) := by decide +kernel
theorem dX6_seatAlive_11 : decode cX6_seatAlive 11 = .ok (.getfield 119, 3) := by decide +kernel
theorem dX6_seatAlive_14 : decode cX6_seatAlive 14 = .ok (.invokevirtual 123, 3) := by decide +kernel
theorem dX6_seatAlive_17 : decode cX6_seatAlive 17 = .ok (.if_icmp .ge 38, 3) := by decide +kernel
theorem dX6_seatAlive_20 : decode cX6_seatAlive 20 = .ok (.aload_n 0, 1) := by decide +kernel
theorem dX6_seatAlive_21 : decode cX6_seatAlive 21 = .ok (.getfield 27, 3) := by decide +kernel
theorem dX6_seatAlive_24 : decode cX6_seatAlive 24 = .ok (.aload_n 0, 1) := by decide +kernel
theorem dX6_seatAlive_25 : decode cX6_seatAlive 25 = .ok (.getfield 27, 3) := by decide +kernel
theorem dX6_seatAlive_28 : decode cX6_seatAlive 28 = .ok (.getfield 145, 3) := by decide +kernel
theorem dX6_seatAlive_31 : decode cX6_seatAlive 31 = .ok (.iload_n 3, 1) := by decide +kernel
theorem dX6_seatAlive_32 : decode cX6_seatAlive 32 = .ok (.iaload, 1) := by decide +kernel
theorem dX6_seatAlive_33 : decode cX6_seatAlive 33 = .ok (.invokevirtual 141, 3) := by decide +kernel
theorem dX6_seatAlive_36 : decode cX6_seatAlive 36 = .ok (.ifCond .eq 19, 3) := by decide +kernel
theorem dX6_seatAlive_39 : decode cX6_seatAlive 39 = .ok (.aload_n 0, 1) := by decide +kernel
theorem dX6_seatAlive_40 : decode cX6_seatAlive 40 = .ok (.getfield 27, 3) := by decide +kernel
theorem dX6_seatAlive_43 : decode cX6_seatAlive 43 = .ok (.iload_n 3, 1) := by decide +kernel
theorem dX6_seatAlive_44 : decode cX6_seatAlive 44 = .ok (.iload_n 2, 1) := by decide +kernel
theorem dX6_seatAlive_45 : decode cX6_seatAlive 45 = .ok (.invokevirtual 115, 3) := by decide +kernel
theorem dX6_seatAlive_48 : decode cX6_seatAlive 48 = .ok (.istore_n 3, 1) := by decide +kernel
theorem dX6_seatAlive_49 : decode cX6_seatAlive 49 = .ok (.iinc 4 1, 3) := by decide +kernel
theorem dX6_seatAlive_52 : decode cX6_seatAlive 52 = .ok (.goto (-47), 3) := by decide +kernel
theorem dX6_seatAlive_55 : decode cX6_seatAlive 55 = .ok (.iload_n 3, 1) := by decide +kernel
theorem dX6_seatAlive_56 : decode cX6_seatAlive 56 = .ok (.ireturn, 1) := by decide +kernel
theorem dX6_stir_0 : decode cX6_stir 0 = .ok (.aload_n 0, 1) := by decide +kernel
theorem dX6_stir_1 : decode cX6_stir 1 = .ok (.getfield 49, 3) := by decide +kernel
theorem dX6_stir_4 : decode cX6_stir 4 = .ok (.iconst 5, 1) := by decide +kernel
theorem dX6_stir_5 : decode cX6_stir 5 = .ok (.idiv, 1) := by decide +kernel
theorem dX6_stir_6 : decode cX6_stir 6 = .ok (.istore_n 1, 1) := by decide +kernel
theorem dX6_stir_7 : decode cX6_stir 7 = .ok (.aload_n 0, 1) := by decide +kernel
theorem dX6_stir_8 : decode cX6_stir 8 = .ok (.getfield 49, 3) := by decide +kernel
theorem dX6_stir_11 : decode cX6_stir 11 = .ok (.iconst 5, 1) := by decide +kernel
theorem dX6_stir_12 : decode cX6_stir 12 = .ok (.irem, 1) := by decide +kernel
theorem dX6_stir_13 : decode cX6_stir 13 = .ok (.istore_n 2, 1) := by decide +kernel
theorem dX6_stir_14 : decode cX6_stir 14 = .ok (.iconst 0, 1) := by decide +kernel
theorem dX6_stir_15 : decode cX6_stir 15 = .ok (.istore_n 3, 1) := by decide +kernel
theorem dX6_stir_16 : decode cX6_stir 16 = .ok (.iload_n 3, 1) := by decide +kernel
theorem dX6_stir_17 : decode cX6_stir 17 = .ok (.iconst 5, 1) := by decide +kernel
theorem dX6_stir_18 : decode cX6_stir 18 = .ok (.if_icmp .ge 32, 3) := by decide +kernel
theorem dX6_stir_21 : decode cX6_stir 21 = .ok (.aload_n 0, 1) := by decide +kernel
theorem dX6_stir_22 : decode cX6_stir 22 = .ok (.getfield 9, 3) := by decide +kernel
theorem dX6_stir_25 : decode cX6_stir 25 = .ok (.iload_n 3, 1) := by decide +kernel
theorem dX6_stir_26 : decode cX6_stir 26 = .ok (.iload_n 1, 1) := by decide +kernel
theorem dX6_stir_27 : decode cX6_stir 27 = .ok (.iload_n 3, 1) := by decide +kernel
theorem dX6_stir_28 : decode cX6_stir 28 = .ok (.iconst 5, 1) := by decide +kernel
theorem dX6_stir_29 : decode cX6_stir 29 = .ok (.iload_n 2, 1) := by decide +kernel
theorem dX6_stir_30 : decode cX6_stir 30 = .ok (.isub, 1) := by decide +kernel
theorem dX6_stir_31 : decode cX6_stir 31 = .ok (.if_icmp .lt 7, 3) := by decide +kernel
theorem dX6_stir_34 : decode cX6_stir 34 = .ok (.iconst 1, 1) := by decide +kernel
theorem dX6_stir_35 : decode cX6_stir 35 = .ok (.goto 4, 3) := by decide +kernel
theorem dX6_stir_38 : decode cX6_stir 38 = .ok (.iconst 0, 1) := by decide +kernel
theorem dX6_stir_39 : decode cX6_stir 39 = .ok (.invokestatic 161, 3) := by decide +kernel
theorem dX6_stir_42 : decode cX6_stir 42 = .ok (.iadd, 1) := by decide +kernel
theorem dX6_stir_43 : decode cX6_stir 43 = .ok (.iastore, 1) := by decide +kernel
theorem dX6_stir_44 : decode cX6_stir 44 = .ok (.iinc 3 1, 3) := by decide +kernel
theorem dX6_stir_47 : decode cX6_stir 47 = .ok (.goto (-31), 3) := by decide +kernel
theorem dX6_stir_50 : decode cX6_stir 50 = .ok (.return_, 1) := by decide +kernel
theorem dX6_passTime_0 : decode cX6_passTime 0 = .ok (.aload_n 0, 1) := by decide +kernel
theorem dX6_passTime_1 : decode cX6_passTime 1 = .ok (.dup, 1) := by decide +kernel
theorem dX6_passTime_2 : decode cX6_passTime 2 = .ok (.getfield 55, 3) := by decide +kernel
theorem dX6_passTime_5 : decode cX6_passTime 5 = .ok (.iload_n 1, 1) := by decide +kernel
theorem dX6_passTime_6 : decode cX6_passTime 6 = .ok (.iadd, 1) := by decide +kernel
theorem dX6_passTime_7 : decode cX6_passTime 7 = .ok (.putfield 55, 3) := by decide +kernel
theorem dX6_passTime_10 : decode cX6_passTime 10 = .ok (.aload_n 0, 1) := by decide +kernel
theorem dX6_passTime_11 : decode cX6_passTime 11 = .ok (.aload_n 0, 1) := by decide +kernel
theorem dX6_passTime_12 : decode cX6_passTime 12 = .ok (.getfield 44, 3) := by decide +kernel
theorem dX6_passTime_15 : decode cX6_passTime 15 = .ok (.iload_n 1, 1) := by decide +kernel
theorem dX6_passTime_16 : decode cX6_passTime 16 = .ok (.isub, 1) := by decide +kernel
theorem dX6_passTime_17 : decode cX6_passTime 17 = .ok (.iconst 0, 1) := by decide +kernel
theorem dX6_passTime_18 : decode cX6_passTime 18 = .ok (.invokestatic 165, 3) := by decide +kernel
theorem dX6_passTime_21 : decode cX6_passTime 21 = .ok (.putfield 44, 3) := by decide +kernel
theorem dX6_passTime_24 : decode cX6_passTime 24 = .ok (.return_, 1) := by decide +kernel
theorem dX6_eat_0 : decode cX6_eat 0 = .ok (.aload_n 0, 1) := by decide +kernel
theorem dX6_eat_1 : decode cX6_eat 1 = .ok (.getfield 27, 3) := by decide +kernel
theorem dX6_eat_4 : decode cX6_eat 4 = .ok (.getfield 145, 3) := by decide +kernel
theorem dX6_eat_7 : decode cX6_eat 7 = .ok (.iload_n 1, 1) := by decide +kernel
theorem dX6_eat_8 : decode cX6_eat 8 = .ok (.iaload, 1) := by decide +kernel
theorem dX6_eat_9 : decode cX6_eat 9 = .ok (.istore_n 2, 1) := by decide +kernel
theorem dX6_eat_10 : decode cX6_eat 10 = .ok (.aload_n 0, 1) := by decide +kernel
theorem dX6_eat_11 : decode cX6_eat 11 = .ok (.getfield 21, 3) := by decide +kernel
theorem dX6_eat_14 : decode cX6_eat 14 = .ok (.iload_n 2, 1) := by decide +kernel
theorem dX6_eat_15 : decode cX6_eat 15 = .ok (.dup2, 1) := by decide +kernel
theorem dX6_eat_16 : decode cX6_eat 16 = .ok (.iaload, 1) := by decide +kernel
theorem dX6_eat_17 : decode cX6_eat 17 = .ok (.iconst 1, 1) := by decide +kernel
theorem dX6_eat_18 : decode cX6_eat 18 = .ok (.iadd, 1) := by decide +kernel
theorem dX6_eat_19 : decode cX6_eat 19 = .ok (.iastore, 1) := by decide +kernel
theorem dX6_eat_20 : decode cX6_eat 20 = .ok (.aload_n 0, 1) := by decide +kernel
theorem dX6_eat_21 : decode cX6_eat 21 = .ok (.getfield 27, 3) := by decide +kernel
theorem dX6_eat_24 : decode cX6_eat 24 = .ok (.iload_n 1, 1) := by decide +kernel
theorem dX6_eat_25 : decode cX6_eat 25 = .ok (.invokevirtual 99, 3) := by decide +kernel
theorem dX6_eat_28 : decode cX6_eat 28 = .ok (.aload_n 0, 1) := by decide +kernel
theorem dX6_eat_29 : decode cX6_eat 29 = .ok (.getfield 21, 3) := by decide +kernel
theorem dX6_eat_32 : decode cX6_eat 32 = .ok (.iload_n 2, 1) := by decide +kernel
theorem dX6_eat_33 : decode cX6_eat 33 = .ok (.iaload, 1) := by decide +kernel
theorem dX6_eat_34 : decode cX6_eat 34 = .ok (.invokevirtual 171, 3) := by decide +kernel
theorem dX6_eat_37 : decode cX6_eat 37 = .ok (.iload_n 2, 1) := by decide +kernel
theorem dX6_eat_38 : decode cX6_eat 38 = .ok (.aload_n 0, 1) := by decide +kernel
theorem dX6_eat_39 : decode cX6_eat 39 = .ok (.getfield 64, 3) := by decide +kernel
theorem dX6_eat_42 : decode cX6_eat 42 = .ok (.if_icmp .ne 7, 3) := by decide +kernel
theorem dX6_eat_45 : decode cX6_eat 45 = .ok (.iconst 1, 1) := by decide +kernel
theorem dX6_eat_46 : decode cX6_eat 46 = .ok (.goto 4, 3) := by decide +kernel
theorem dX6_eat_49 : decode cX6_eat 49 = .ok (.iconst 0, 1) := by decide +kernel
theorem dX6_eat_50 : decode cX6_eat 50 = .ok (.invokestatic 161, 3) := by decide +kernel
theorem dX6_eat_53 : decode cX6_eat 53 = .ok (.iadd, 1) := by decide +kernel
theorem dX6_eat_54 : decode cX6_eat 54 = .ok (.istore_n 3, 1) := by decide +kernel
theorem dX6_eat_55 : decode cX6_eat 55 = .ok (.iconst 0, 1) := by decide +kernel
theorem dX6_eat_56 : decode cX6_eat 56 = .ok (.istore 4, 2) := by decide +kernel
theorem dX6_eat_58 : decode cX6_eat 58 = .ok (.iload 4, 2) := by decide +kernel
theorem dX6_eat_60 : decode cX6_eat 60 = .ok (.iload_n 3, 1) := by decide +kernel
theorem dX6_eat_61 : decode cX6_eat 61 = .ok (.if_icmp .ge 22, 3) := by decide +kernel
theorem dX6_eat_64 : decode cX6_eat 64 = .ok (.aload_n 0, 1) := by decide +kernel
theorem dX6_eat_65 : decode cX6_eat 65 = .ok (.getfield 49, 3) := by decide +kernel
theorem dX6_eat_68 : decode cX6_eat 68 = .ok (.ifCond .le 15, 3) := by decide +kernel
theorem dX6_eat_71 : decode cX6_eat 71 = .ok (.aload_n 0, 1) := by decide +kernel
theorem dX6_eat_72 : decode cX6_eat 72 = .ok (.iload_n 2, 1) := by decide +kernel
theorem dX6_eat_73 : decode cX6_eat 73 = .ok (.iload_n 1, 1) := by decide +kernel
theorem dX6_eat_74 : decode cX6_eat 74 = .ok (.invokevirtual 175, 3) := by decide +kernel
theorem dX6_eat_77 : decode cX6_eat 77 = .ok (.iinc 4 1, 3) := by decide +kernel
theorem dX6_eat_80 : decode cX6_eat 80 = .ok (.goto (-22), 3) := by decide +kernel
theorem dX6_eat_83 : decode cX6_eat 83 = .ok (.return_, 1) := by decide +kernel
theorem dX6_takeBite_0 : decode cX6_takeBite 0 = .ok (.aload_n 0, 1) := by decide +kernel
theorem dX6_takeBite_1 : decode cX6_takeBite 1 = .ok (.getfield 27, 3) := by decide +kernel
theorem dX6_takeBite_4 : decode cX6_takeBite 4 = .ok (.iload_n 2, 1) := by decide +kernel
theorem dX6_takeBite_5 : decode cX6_takeBite 5 = .ok (.invokevirtual 99, 3) := by decide +kernel
theorem dX6_takeBite_8 : decode cX6_takeBite 8 = .ok (.astore_n 3, 1) := by decide +kernel
theorem dX6_takeBite_9 : decode cX6_takeBite 9 = .ok (.aload_n 0, 1) := by decide +kernel
theorem dX6_takeBite_10 : decode cX6_takeBite 10 = .ok (.getfield 18, 3) := by decide +kernel
theorem dX6_takeBite_13 : decode cX6_takeBite 13 = .ok (.iload_n 1, 1) := by decide +kernel
theorem dX6_takeBite_14 : decode cX6_takeBite 14 = .ok (.dup2, 1) := by decide +kernel
theorem dX6_takeBite_15 : decode cX6_takeBite 15 = .ok (.iaload, 1) := by decide +kernel
theorem dX6_takeBite_16 : decode cX6_takeBite 16 = .ok (.iconst 1, 1) := by decide +kernel
theorem dX6_takeBite_17 : decode cX6_takeBite 17 = .ok (.iadd, 1) := by decide +kernel
theorem dX6_takeBite_18 : decode cX6_takeBite 18 = .ok (.iastore, 1) := by decide +kernel
theorem dX6_takeBite_19 : decode cX6_takeBite 19 = .ok (.aload_n 3, 1) := by decide +kernel
theorem dX6_takeBite_20 : decode cX6_takeBite 20 = .ok (.aload_n 0, 1) := by decide +kernel
theorem dX6_takeBite_21 : decode cX6_takeBite 21 = .ok (.getfield 18, 3) := by decide +kernel
theorem dX6_takeBite_24 : decode cX6_takeBite 24 = .ok (.iload_n 1, 1) := by decide +kernel
theorem dX6_takeBite_25 : decode cX6_takeBite 25 = .ok (.iaload, 1) := by decide +kernel
theorem dX6_takeBite_26 : decode cX6_takeBite 26 = .ok (.invokevirtual 179, 3) := by decide +kernel
theorem dX6_takeBite_29 : decode cX6_takeBite 29 = .ok (.ifCond .eq 22, 3) := by decide +kernel
theorem dX6_takeBite_32 : decode cX6_takeBite 32 = .ok (.aload_n 0, 1) := by decide +kernel
theorem dX6_takeBite_33 : decode cX6_takeBite 33 = .ok (.getfield 27, 3) := by decide +kernel
theorem dX6_takeBite_36 : decode cX6_takeBite 36 = .ok (.getfield 145, 3) := by decide +kernel
theorem dX6_takeBite_39 : decode cX6_takeBite 39 = .ok (.aload_n 0, 1) := by decide +kernel
theorem dX6_takeBite_40 : decode cX6_takeBite 40 = .ok (.getfield 27, 3) := by decide +kernel
theorem dX6_takeBite_43 : decode cX6_takeBite 43 = .ok (.iload_n 2, 1) := by decide +kernel
theorem dX6_takeBite_44 : decode cX6_takeBite 44 = .ok (.invokevirtual 182, 3) := by decide +kernel
theorem dX6_takeBite_47 : decode cX6_takeBite 47 = .ok (.iaload, 1) := by decide +kernel
theorem dX6_takeBite_48 : decode cX6_takeBite 48 = .ok (.goto 4, 3) := by decide +kernel
theorem dX6_takeBite_51 : decode cX6_takeBite 51 = .ok (.iload_n 1, 1) := by decide +kernel
theorem dX6_takeBite_52 : decode cX6_takeBite 52 = .ok (.istore 4, 2) := by decide +kernel
theorem dX6_takeBite_54 : decode cX6_takeBite 54 = .ok (.aload_n 0, 1) := by decide +kernel
theorem dX6_takeBite_55 : decode cX6_takeBite 55 = .ok (.invokevirtual 185, 3) := by decide +kernel
theorem dX6_takeBite_58 : decode cX6_takeBite 58 = .ok (.istore 5, 2) := by decide +kernel
theorem dX6_takeBite_60 : decode cX6_takeBite 60 = .ok (.aload_n 3, 1) := by decide +kernel
theorem dX6_takeBite_61 : decode cX6_takeBite 61 = .ok (.getfield 188, 3) := by decide +kernel
theorem dX6_takeBite_64 : decode cX6_takeBite 64 = .ok (.aload_n 0, 1) := by decide +kernel
theorem dX6_takeBite_65 : decode cX6_takeBite 65 = .ok (.getfield 9, 3) := by decide +kernel
theorem dX6_takeBite_68 : decode cX6_takeBite 68 = .ok (.iload 5, 2) := by decide +kernel
theorem dX6_takeBite_70 : decode cX6_takeBite 70 = .ok (.iaload, 1) := by decide +kernel
theorem dX6_takeBite_71 : decode cX6_takeBite 71 = .ok (.invokestatic 191, 3) := by decide +kernel
theorem dX6_takeBite_74 : decode cX6_takeBite 74 = .ok (.istore 6, 2) := by decide +kernel
theorem dX6_takeBite_76 : decode cX6_takeBite 76 = .ok (.aload_n 0, 1) := by decide +kernel
theorem dX6_takeBite_77 : decode cX6_takeBite 77 = .ok (.iload 6, 2) := by decide +kernel
theorem dX6_takeBite_79 : decode cX6_takeBite 79 = .ok (.iload 5, 2) := by decide +kernel
theorem dX6_takeBite_81 : decode cX6_takeBite 81 = .ok (.iload 4, 2) := by decide +kernel
theorem dX6_takeBite_83 : decode cX6_takeBite 83 = .ok (.invokevirtual 194, 3) := by decide +kernel
theorem dX6_takeBite_86 : decode cX6_takeBite 86 = .ok (.istore 7, 2) := by decide +kernel
theorem dX6_takeBite_88 : decode cX6_takeBite 88 = .ok (.aload_n 0, 1) := by decide +kernel
theorem dX6_takeBite_89 : decode cX6_takeBite 89 = .ok (.getfield 9, 3) := by decide +kernel
theorem dX6_takeBite_92 : decode cX6_takeBite 92 = .ok (.iload 5, 2) := by decide +kernel
theorem dX6_takeBite_94 : decode cX6_takeBite 94 = .ok (.dup2, 1) := by decide +kernel
theorem dX6_takeBite_95 : decode cX6_takeBite 95 = .ok (.iaload, 1) := by decide +kernel
theorem dX6_takeBite_96 : decode cX6_takeBite 96 = .ok (.iload 6, 2) := by decide +kernel
theorem dX6_takeBite_98 : decode cX6_takeBite 98 = .ok (.isub, 1) := by decide +kernel
theorem dX6_takeBite_99 : decode cX6_takeBite 99 = .ok (.iastore, 1) := by decide +kernel
theorem dX6_takeBite_100 : decode cX6_takeBite 100 = .ok (.aload_n 0, 1) := by decide +kernel
theorem dX6_takeBite_101 : decode cX6_takeBite 101 = .ok (.dup, 1) := by decide +kernel
theorem dX6_takeBite_102 : decode cX6_takeBite 102 = .ok (.getfield 49, 3) := by decide +kernel
theorem dX6_takeBite_105 : decode cX6_takeBite 105 = .ok (.iload 6, 2) := by decide +kernel
theorem dX6_takeBite_107 : decode cX6_takeBite 107 = .ok (.isub, 1) := by decide +kernel
theorem dX6_takeBite_108 : decode cX6_takeBite 108 = .ok (.putfield 49, 3) := by decide +kernel
theorem dX6_takeBite_111 : decode cX6_takeBite 111 = .ok (.aload_n 0, 1) := by decide +kernel
theorem dX6_takeBite_112 : decode cX6_takeBite 112 = .ok (.getfield 15, 3) := by decide +kernel
theorem dX6_takeBite_115 : decode cX6_takeBite 115 = .ok (.iload 4, 2) := by decide +kernel
theorem dX6_takeBite_117 : decode cX6_takeBite 117 = .ok (.dup2, 1) := by decide +kernel
theorem dX6_takeBite_118 : decode cX6_takeBite 118 = .ok (.iaload, 1) := by decide +kernel
theorem dX6_takeBite_119 : decode cX6_takeBite 119 = .ok (.iload 7, 2) := by decide +kernel
theorem dX6_takeBite_121 : decode cX6_takeBite 121 = .ok (.iadd, 1) := by decide +kernel
theorem dX6_takeBite_122 : decode cX6_takeBite 122 = .ok (.iastore, 1) := by decide +kernel
theorem dX6_takeBite_123 : decode cX6_takeBite 123 = .ok (.aload_n 0, 1) := by decide +kernel
theorem dX6_takeBite_124 : decode cX6_takeBite 124 = .ok (.dup, 1) := by decide +kernel
theorem dX6_takeBite_125 : decode cX6_takeBite 125 = .ok (.getfield 61, 3) := by decide +kernel
theorem dX6_takeBite_128 : decode cX6_takeBite 128 = .ok (.iload 7, 2) := by decide +kernel
theorem dX6_takeBite_130 : decode cX6_takeBite 130 = .ok (.iadd, 1) := by decide +kernel
theorem dX6_takeBite_131 : decode cX6_takeBite 131 = .ok (.putfield 61, 3) := by decide +kernel
theorem dX6_takeBite_134 : decode cX6_takeBite 134 = .ok (.aload_n 0, 1) := by decide +kernel
theorem dX6_takeBite_135 : decode cX6_takeBite 135 = .ok (.getfield 58, 3) := by decide +kernel
theorem dX6_takeBite_138 : decode cX6_takeBite 138 = .ok (.aload_n 0, 1) := by decide +kernel
theorem dX6_takeBite_139 : decode cX6_takeBite 139 = .ok (.getfield 67, 3) := by decide +kernel
theorem dX6_takeBite_142 : decode cX6_takeBite 142 = .ok (.if_icmp .ne 16, 3) := by decide +kernel
theorem dX6_takeBite_145 : decode cX6_takeBite 145 = .ok (.aload_n 0, 1) := by decide +kernel
theorem dX6_takeBite_146 : decode cX6_takeBite 146 = .ok (.iload_n 1, 1) := by decide +kernel
theorem dX6_takeBite_147 : decode cX6_takeBite 147 = .ok (.iload 4, 2) := by decide +kernel
theorem dX6_takeBite_149 : decode cX6_takeBite 149 = .ok (.iload 5, 2) := by decide +kernel
theorem dX6_takeBite_151 : decode cX6_takeBite 151 = .ok (.iload 6, 2) := by decide +kernel
theorem dX6_takeBite_153 : decode cX6_takeBite 153 = .ok (.iload 7, 2) := by decide +kernel
theorem dX6_takeBite_155 : decode cX6_takeBite 155 = .ok (.invokevirtual 198, 3) := by decide +kernel
theorem dX6_takeBite_158 : decode cX6_takeBite 158 = .ok (.aload_n 0, 1) := by decide +kernel
theorem dX6_takeBite_159 : decode cX6_takeBite 159 = .ok (.dup, 1) := by decide +kernel
theorem dX6_takeBite_160 : decode cX6_takeBite 160 = .ok (.getfield 58, 3) := by decide +kernel
theorem dX6_takeBite_163 : decode cX6_takeBite 163 = .ok (.iconst 1, 1) := by decide +kernel
theorem dX6_takeBite_164 : decode cX6_takeBite 164 = .ok (.iadd, 1) := by decide +kernel
theorem dX6_takeBite_165 : decode cX6_takeBite 165 = .ok (.putfield 58, 3) := by decide +kernel
theorem dX6_takeBite_168 : decode cX6_takeBite 168 = .ok (.return_, 1) := by decide +kernel
theorem dX6_firstLayer_0 : decode cX6_firstLayer 0 = .ok (.iconst 0, 1) := by decide +kernel
theorem dX6_firstLayer_1 : decode cX6_firstLayer 1 = .ok (.istore_n 1, 1) := by decide +kernel
theorem dX6_firstLayer_2 : decode cX6_firstLayer 2 = .ok (.iload_n 1, 1) := by decide +kernel
theorem dX6_firstLayer_3 : decode cX6_firstLayer 3 = .ok (.iconst 4, 1) := by decide +kernel
theorem dX6_firstLayer_4 : decode cX6_firstLayer 4 = .ok (.if_icmp .ge 18, 3) := by decide +kernel
theorem dX6_firstLayer_7 : decode cX6_firstLayer 7 = .ok (.aload_n 0, 1) := by decide +kernel
theorem dX6_firstLayer_8 : decode cX6_firstLayer 8 = .ok (.getfield 9, 3) := by decide +kernel
theorem dX6_firstLayer_11 : decode cX6_firstLayer 11 = .ok (.iload_n 1, 1) := by decide +kernel
theorem dX6_firstLayer_12 : decode cX6_firstLayer 12 = .ok (.iaload, 1) := by decide +kernel
theorem dX6_firstLayer_13 : decode cX6_firstLayer 13 = .ok (.ifCond .ne 9, 3) := by decide +kernel
theorem dX6_firstLayer_16 : decode cX6_firstLayer 16 = .ok (.iinc 1 1, 3) := by decide +kernel
theorem dX6_firstLayer_19 : decode cX6_firstLayer 19 = .ok (.goto (-17), 3) := by decide +kernel
theorem dX6_firstLayer_22 : decode cX6_firstLayer 22 = .ok (.iload_n 1, 1) := by decide +kernel
theorem dX6_firstLayer_23 : decode cX6_firstLayer 23 = .ok (.ireturn, 1) := by decide +kernel
theorem dX6_worthOf_0 : decode cX6_worthOf 0 = .ok (.aload_n 0, 1) := by decide +kernel
theorem dX6_worthOf_1 : decode cX6_worthOf 1 = .ok (.getfield 27, 3) := by decide +kernel
theorem dX6_worthOf_4 : decode cX6_worthOf 4 = .ok (.getfield 202, 3) := by decide +kernel
theorem dX6_worthOf_7 : decode cX6_worthOf 7 = .ok (.ifCond .eq 30, 3) := by decide +kernel
theorem dX6_worthOf_10 : decode cX6_worthOf 10 = .ok (.iload_n 2, 1) := by decide +kernel
theorem dX6_worthOf_11 : decode cX6_worthOf 11 = .ok (.iconst 4, 1) := by decide +kernel
theorem dX6_worthOf_12 : decode cX6_worthOf 12 = .ok (.if_icmp .ne 25, 3) := by decide +kernel
theorem dX6_worthOf_15 : decode cX6_worthOf 15 = .ok (.aload_n 0, 1) := by decide +kernel
theorem dX6_worthOf_16 : decode cX6_worthOf 16 = .ok (.getfield 27, 3) := by decide +kernel
theorem dX6_worthOf_19 : decode cX6_worthOf 19 = .ok (.getfield 119, 3) := by decide +kernel
theorem dX6_worthOf_22 : decode cX6_worthOf 22 = .ok (.iload_n 3, 1) := by decide +kernel
theorem dX6_worthOf_23 : decode cX6_worthOf 23 = .ok (.invokevirtual 134, 3) := by decide +kernel
theorem dX6_worthOf_26 : decode cX6_worthOf 26 = .ok (.checkcast 104, 3) := by decide +kernel
theorem dX6_worthOf_29 : decode cX6_worthOf 29 = .ok (.getfield 205, 3) := by decide +kernel
theorem dX6_worthOf_32 : decode cX6_worthOf 32 = .ok (.ifCond .ne 5, 3) := by decide +kernel
theorem dX6_worthOf_35 : decode cX6_worthOf 35 = .ok (.iconst 0, 1) := by decide +kernel
theorem dX6_worthOf_36 : decode cX6_worthOf 36 = .ok (.ireturn, 1) := by decide +kernel
theorem dX6_worthOf_37 : decode cX6_worthOf 37 = .ok (.iload_n 1, 1) := by decide +kernel
theorem dX6_worthOf_38 : decode cX6_worthOf 38 = .ok (.iconst 1, 1) := by decide +kernel
theorem dX6_worthOf_39 : decode cX6_worthOf 39 = .ok (.iload_n 2, 1) := by decide +kernel
theorem dX6_worthOf_40 : decode cX6_worthOf 40 = .ok (.iadd, 1) := by decide +kernel
theorem dX6_worthOf_41 : decode cX6_worthOf 41 = .ok (.imul, 1) := by decide +kernel
theorem dX6_worthOf_42 : decode cX6_worthOf 42 = .ok (.istore 4, 2) := by decide +kernel
theorem dX6_worthOf_44 : decode cX6_worthOf 44 = .ok (.aload_n 0, 1) := by decide +kernel
theorem dX6_worthOf_45 : decode cX6_worthOf 45 = .ok (.getfield 44, 3) := by decide +kernel
theorem dX6_worthOf_48 : decode cX6_worthOf 48 = .ok (.bipush 20, 2) := by decide +kernel
theorem dX6_worthOf_50 : decode cX6_worthOf 50 = .ok (.if_icmp .ge 10, 3) := by decide +kernel
theorem dX6_worthOf_53 : decode cX6_worthOf 53 = .ok (.iload 4, 2) := by decide +kernel
theorem dX6_worthOf_55 : decode cX6_worthOf 55 = .ok (.iconst 2, 1) := by decide +kernel
theorem dX6_worthOf_56 : decode cX6_worthOf 56 = .ok (.idiv, 1) := by decide +kernel
theorem dX6_worthOf_57 : decode cX6_worthOf 57 = .ok (.goto 5, 3) := by decide +kernel
theorem dX6_worthOf_60 : decode cX6_worthOf 60 = .ok (.iload 4, 2) := by decide +kernel
theorem dX6_worthOf_62 : decode cX6_worthOf 62 = .ok (.ireturn, 1) := by decide +kernel
theorem dX6_look_0 : decode cX6_look 0 = .ok (.aload_n 0, 1) := by decide +kernel
theorem dX6_look_1 : decode cX6_look 1 = .ok (.getfield 24, 3) := by decide +kernel
theorem dX6_look_4 : decode cX6_look 4 = .ok (.iconst 0, 1) := by decide +kernel
theorem dX6_look_5 : decode cX6_look 5 = .ok (.iload_n 1, 1) := by decide +kernel
theorem dX6_look_6 : decode cX6_look 6 = .ok (.iastore, 1) := by decide +kernel
theorem dX6_look_7 : decode cX6_look 7 = .ok (.aload_n 0, 1) := by decide +kernel
theorem dX6_look_8 : decode cX6_look 8 = .ok (.getfield 24, 3) := by decide +kernel
theorem dX6_look_11 : decode cX6_look 11 = .ok (.iconst 1, 1) := by decide +kernel
theorem dX6_look_12 : decode cX6_look 12 = .ok (.iload_n 2, 1) := by decide +kernel
theorem dX6_look_13 : decode cX6_look 13 = .ok (.iastore, 1) := by decide +kernel
theorem dX6_look_14 : decode cX6_look 14 = .ok (.aload_n 0, 1) := by decide +kernel
theorem dX6_look_15 : decode cX6_look 15 = .ok (.getfield 24, 3) := by decide +kernel
theorem dX6_look_18 : decode cX6_look 18 = .ok (.iconst 2, 1) := by decide +kernel
theorem dX6_look_19 : decode cX6_look 19 = .ok (.iload_n 3, 1) := by decide +kernel
theorem dX6_look_20 : decode cX6_look 20 = .ok (.iastore, 1) := by decide +kernel
theorem dX6_look_21 : decode cX6_look 21 = .ok (.aload_n 0, 1) := by decide +kernel
theorem dX6_look_22 : decode cX6_look 22 = .ok (.getfield 24, 3) := by decide +kernel
theorem dX6_look_25 : decode cX6_look 25 = .ok (.iconst 3, 1) := by decide +kernel
theorem dX6_look_26 : decode cX6_look 26 = .ok (.iload 4, 2) := by decide +kernel
theorem dX6_look_28 : decode cX6_look 28 = .ok (.iastore, 1) := by decide +kernel
theorem dX6_look_29 : decode cX6_look 29 = .ok (.aload_n 0, 1) := by decide +kernel
theorem dX6_look_30 : decode cX6_look 30 = .ok (.getfield 24, 3) := by decide +kernel
theorem dX6_look_33 : decode cX6_look 33 = .ok (.iconst 4, 1) := by decide +kernel
theorem dX6_look_34 : decode cX6_look 34 = .ok (.iload 5, 2) := by decide +kernel
theorem dX6_look_36 : decode cX6_look 36 = .ok (.iastore, 1) := by decide +kernel
theorem dX6_look_37 : decode cX6_look 37 = .ok (.return_, 1) := by decide +kernel
theorem dX7_init_0 : decode cX7_init 0 = .ok (.aload_n 0, 1) := by decide +kernel
theorem dX7_init_1 : decode cX7_init 1 = .ok (.iload_n 1, 1) := by decide +kernel
theorem dX7_init_2 : decode cX7_init 2 = .ok (.iload_n 2, 1) := by decide +kernel
theorem dX7_init_3 : decode cX7_init 3 = .ok (.iload_n 3, 1) := by decide +kernel
theorem dX7_init_4 : decode cX7_init 4 = .ok (.iload 4, 2) := by decide +kernel
theorem dX7_init_6 : decode cX7_init 6 = .ok (.invokespecial 3, 3) := by decide +kernel
theorem dX7_init_9 : decode cX7_init 9 = .ok (.return_, 1) := by decide +kernel
theorem dX7_kindNumber_0 : decode cX7_kindNumber 0 = .ok (.iconst 1, 1) := by decide +kernel
theorem dX7_kindNumber_1 : decode cX7_kindNumber 1 = .ok (.ireturn, 1) := by decide +kernel
theorem dX7_beatsOfTurn_0 : decode cX7_beatsOfTurn 0 = .ok (.aload_n 0, 1) := by decide +kernel
theorem dX7_beatsOfTurn_1 : decode cX7_beatsOfTurn 1 = .ok (.getfield 9, 3) := by decide +kernel
theorem dX7_beatsOfTurn_4 : decode cX7_beatsOfTurn 4 = .ok (.ireturn, 1) := by decide +kernel
theorem dX8_init_0 : decode cX8_init 0 = .ok (.aload_n 0, 1) := by decide +kernel
theorem dX8_init_1 : decode cX8_init 1 = .ok (.invokespecial 3, 3) := by decide +kernel
theorem dX8_init_4 : decode cX8_init 4 = .ok (.aload_n 0, 1) := by decide +kernel
theorem dX8_init_5 : decode cX8_init 5 = .ok (.bipush 10, 2) := by decide +kernel
theorem dX8_init_7 : decode cX8_init 7 = .ok (.newarray .int, 2) := by decide +kernel
theorem dX8_init_9 : decode cX8_init 9 = .ok (.putfield 9, 3) := by decide +kernel
theorem dX8_init_12 : decode cX8_init 12 = .ok (.aload_n 0, 1) := by decide +kernel
theorem dX8_init_13 : decode cX8_init 13 = .ok (.bipush 10, 2) := by decide +kernel
theorem dX8_init_15 : decode cX8_init 15 = .ok (.newarray .int, 2) := by decide +kernel
theorem dX8_init_17 : decode cX8_init 17 = .ok (.putfield 15, 3) := by decide +kernel
theorem dX8_init_20 : decode cX8_init 20 = .ok (.aload_n 0, 1) := by decide +kernel
theorem dX8_init_21 : decode cX8_init 21 = .ok (.iconst 5, 1) := by decide +kernel
theorem dX8_init_22 : decode cX8_init 22 = .ok (.newarray .int, 2) := by decide +kernel
theorem dX8_init_24 : decode cX8_init 24 = .ok (.putfield 18, 3) := by decide +kernel
theorem dX8_init_27 : decode cX8_init 27 = .ok (.aload_n 0, 1) := by decide +kernel
theorem dX8_init_28 : decode cX8_init 28 = .ok (.bipush 100, 2) := by decide +kernel
theorem dX8_init_30 : decode cX8_init 30 = .ok (.putfield 21, 3) := by decide +kernel
theorem dX8_init_33 : decode cX8_init 33 = .ok (.aload_n 0, 1) := by decide +kernel
theorem dX8_init_34 : decode cX8_init 34 = .ok (.aload_n 1, 1) := by decide +kernel
theorem dX8_init_35 : decode cX8_init 35 = .ok (.putfield 25, 3) := by decide +kernel
theorem dX8_init_38 : decode cX8_init 38 = .ok (.iconst 0, 1) := by decide +kernel
theorem dX8_init_39 : decode cX8_init 39 = .ok (.istore_n 2, 1) := by decide +kernel
theorem dX8_init_40 : decode cX8_init 40 = .ok (.iload_n 2, 1) := by decide +kernel
theorem dX8_init_41 : decode cX8_init 41 = .ok (.bipush 10, 2) := by decide +kernel
theorem dX8_init_43 : decode cX8_init 43 = .ok (.if_icmp .ge 16, 3) := by decide +kernel
theorem dX8_init_46 : decode cX8_init 46 = .ok (.aload_n 0, 1) := by decide +kernel
theorem dX8_init_47 : decode cX8_init 47 = .ok (.getfield 15, 3) := by decide +kernel
theorem dX8_init_50 : decode cX8_init 50 = .ok (.iload_n 2, 1) := by decide +kernel
theorem dX8_init_51 : decode cX8_init 51 = .ok (.iload_n 2, 1) := by decide +kernel
theorem dX8_init_52 : decode cX8_init 52 = .ok (.iastore, 1) := by decide +kernel
theorem dX8_init_53 : decode cX8_init 53 = .ok (.iinc 2 1, 3) := by decide +kernel
theorem dX8_init_56 : decode cX8_init 56 = .ok (.goto (-16), 3) := by decide +kernel
theorem dX8_init_59 : decode cX8_init 59 = .ok (.return_, 1) := by decide +kernel
theorem dX8_becomeLike_0 : decode cX8_becomeLike 0 = .ok (.iconst 0, 1) := by decide +kernel
theorem dX8_becomeLike_1 : decode cX8_becomeLike 1 = .ok (.istore_n 3, 1) := by decide +kernel
theorem dX8_becomeLike_2 : decode cX8_becomeLike 2 = .ok (.iload_n 3, 1) := by decide +kernel
theorem dX8_becomeLike_3 : decode cX8_becomeLike 3 = .ok (.bipush 10, 2) := by decide +kernel
theorem dX8_becomeLike_5 : decode cX8_becomeLike 5 = .ok (.if_icmp .ge 56, 3) := by decide +kernel
theorem dX8_becomeLike_8 : decode cX8_becomeLike 8 = .ok (.aload_n 0, 1) := by decide +kernel
theorem dX8_becomeLike_9 : decode cX8_becomeLike 9 = .ok (.getfield 9, 3) := by decide +kernel
theorem dX8_becomeLike_12 : decode cX8_becomeLike 12 = .ok (.iload_n 3, 1) := by decide +kernel
theorem dX8_becomeLike_13 : decode cX8_becomeLike 13 = .ok (.iload_n 3, 1) := by decide +kernel
theorem dX8_becomeLike_14 : decode cX8_becomeLike 14 = .ok (.iload_n 2, 1) := by decide +kernel
theorem dX8_becomeLike_15 : decode cX8_becomeLike 15 = .ok (.if_icmp .ge 12, 3) := by decide +kernel
theorem dX8_becomeLike_18 : decode cX8_becomeLike 18 = .ok (.aload_n 1, 1) := by decide +kernel
theorem dX8_becomeLike_19 : decode cX8_becomeLike 19 = .ok (.getfield 9, 3) := by decide +kernel
theorem dX8_becomeLike_22 : decode cX8_becomeLike 22 = .ok (.iload_n 3, 1) := by decide +kernel
theorem dX8_becomeLike_23 : decode cX8_becomeLike 23 = .ok (.iaload, 1) := by decide +kernel
theorem dX8_becomeLike_24 : decode cX8_becomeLike 24 = .ok (.goto 9, 3) := by decide +kernel
theorem dX8_becomeLike_27 : decode cX8_becomeLike 27 = .ok (.aload_n 0, 1) := by decide +kernel
theorem dX8_becomeLike_28 : decode cX8_becomeLike 28 = .ok (.getfield 9, 3) := by decide +kernel
theorem dX8_becomeLike_31 : decode cX8_becomeLike 31 = .ok (.iload_n 3, 1) := by decide +kernel
theorem dX8_becomeLike_32 : decode cX8_becomeLike 32 = .ok (.iaload, 1) := by decide +kernel
theorem dX8_becomeLike_33 : decode cX8_becomeLike 33 = .ok (.iastore, 1) := by decide +kernel
theorem dX8_becomeLike_34 : decode cX8_becomeLike 34 = .ok (.aload_n 0, 1) := by decide +kernel
theorem dX8_becomeLike_35 : decode cX8_becomeLike 35 = .ok (.getfield 15, 3) := by decide +kernel
theorem dX8_becomeLike_38 : decode cX8_becomeLike 38 = .ok (.iload_n 3, 1) := by decide +kernel
theorem dX8_becomeLike_39 : decode cX8_becomeLike 39 = .ok (.iload_n 3, 1) := by decide +kernel
theorem dX8_becomeLike_40 : decode cX8_becomeLike 40 = .ok (.iload_n 2, 1) := by decide +kernel
theorem dX8_becomeLike_41 : decode cX8_becomeLike 41 = .ok (.if_icmp .ge 12, 3) := by decide +kernel
theorem dX8_becomeLike_44 : decode cX8_becomeLike 44 = .ok (.aload_n 1, 1) := by decide +kernel
theorem dX8_becomeLike_45 : decode cX8_becomeLike 45 = .ok (.getfield 15, 3) := by decide +kernel
theorem dX8_becomeLike_48 : decode cX8_becomeLike 48 = .ok (.iload_n 3, 1) := by decide +kernel
theorem dX8_becomeLike_49 : decode cX8_becomeLike 49 = .ok (.iaload, 1) := by decide +kernel
theorem dX8_becomeLike_50 : decode cX8_becomeLike 50 = .ok (.goto 4, 3) := by decide +kernel
theorem dX8_becomeLike_53 : decode cX8_becomeLike 53 = .ok (.iload_n 3, 1) := by decide +kernel
theorem dX8_becomeLike_54 : decode cX8_becomeLike 54 = .ok (.iastore, 1) := by decide +kernel
theorem dX8_becomeLike_55 : decode cX8_becomeLike 55 = .ok (.iinc 3 1, 3) := by decide +kernel
theorem dX8_becomeLike_58 : decode cX8_becomeLike 58 = .ok (.goto (-56), 3) := by decide +kernel
theorem dX8_becomeLike_61 : decode cX8_becomeLike 61 = .ok (.aload_n 1, 1) := by decide +kernel
theorem dX8_becomeLike_62 : decode cX8_becomeLike 62 = .ok (.getfield 18, 3) := by decide +kernel
theorem dX8_becomeLike_65 : decode cX8_becomeLike 65 = .ok (.iconst 0, 1) := by decide +kernel
theorem dX8_becomeLike_66 : decode cX8_becomeLike 66 = .ok (.aload_n 0, 1) := by decide +kernel
theorem dX8_becomeLike_67 : decode cX8_becomeLike 67 = .ok (.getfield 18, 3) := by decide +kernel
theorem dX8_becomeLike_70 : decode cX8_becomeLike 70 = .ok (.iconst 0, 1) := by decide +kernel
theorem dX8_becomeLike_71 : decode cX8_becomeLike 71 = .ok (.iconst 5, 1) := by decide +kernel
theorem dX8_becomeLike_72 : decode cX8_becomeLike 72 = .ok (.invokestatic 29, 3) := by decide +kernel
theorem dX8_becomeLike_75 : decode cX8_becomeLike 75 = .ok (.aload_n 0, 1) := by decide +kernel
theorem dX8_becomeLike_76 : decode cX8_becomeLike 76 = .ok (.aload_n 1, 1) := by decide +kernel
theorem dX8_becomeLike_77 : decode cX8_becomeLike 77 = .ok (.getfield 21, 3) := by decide +kernel
theorem dX8_becomeLike_80 : decode cX8_becomeLike 80 = .ok (.putfield 21, 3) := by decide +kernel
theorem dX8_becomeLike_83 : decode cX8_becomeLike 83 = .ok (.aload_n 0, 1) := by decide +kernel
theorem dX8_becomeLike_84 : decode cX8_becomeLike 84 = .ok (.aload_n 1, 1) := by decide +kernel
theorem dX8_becomeLike_85 : decode cX8_becomeLike 85 = .ok (.getfield 35, 3) := by decide +kernel
theorem dX8_becomeLike_88 : decode cX8_becomeLike 88 = .ok (.putfield 35, 3) := by decide +kernel
theorem dX8_becomeLike_91 : decode cX8_becomeLike 91 = .ok (.return_, 1) := by decide +kernel
theorem dX8_exchange_0 : decode cX8_exchange 0 = .ok (.aload_n 0, 1) := by decide +kernel
theorem dX8_exchange_1 : decode cX8_exchange 1 = .ok (.getfield 15, 3) := by decide +kernel
theorem dX8_exchange_4 : decode cX8_exchange 4 = .ok (.iload_n 1, 1) := by decide +kernel
theorem dX8_exchange_5 : decode cX8_exchange 5 = .ok (.iaload, 1) := by decide +kernel
theorem dX8_exchange_6 : decode cX8_exchange 6 = .ok (.istore_n 3, 1) := by decide +kernel
theorem dX8_exchange_7 : decode cX8_exchange 7 = .ok (.aload_n 0, 1) := by decide +kernel
theorem dX8_exchange_8 : decode cX8_exchange 8 = .ok (.getfield 15, 3) := by decide +kernel
theorem dX8_exchange_11 : decode cX8_exchange 11 = .ok (.iload_n 1, 1) := by decide +kernel
theorem dX8_exchange_12 : decode cX8_exchange 12 = .ok (.aload_n 0, 1) := by decide +kernel
theorem dX8_exchange_13 : decode cX8_exchange 13 = .ok (.getfield 15, 3) := by decide +kernel
theorem dX8_exchange_16 : decode cX8_exchange 16 = .ok (.iload_n 2, 1) := by decide +kernel
theorem dX8_exchange_17 : decode cX8_exchange 17 = .ok (.iaload, 1) := by decide +kernel
theorem dX8_exchange_18 : decode cX8_exchange 18 = .ok (.iastore, 1) := by decide +kernel
theorem dX8_exchange_19 : decode cX8_exchange 19 = .ok (.aload_n 0, 1) := by decide +kernel
theorem dX8_exchange_20 : decode cX8_exchange 20 = .ok (.getfield 15, 3) := by decide +kernel
theorem dX8_exchange_23 : decode cX8_exchange 23 = .ok (.iload_n 2, 1) := by decide +kernel
theorem dX8_exchange_24 : decode cX8_exchange 24 = .ok (.iload_n 3, 1) := by decide +kernel
theorem dX8_exchange_25 : decode cX8_exchange 25 = .ok (.iastore, 1) := by decide +kernel
theorem dX8_exchange_26 : decode cX8_exchange 26 = .ok (.return_, 1) := by decide +kernel
theorem dX8_seatOf_0 : decode cX8_seatOf 0 = .ok (.iconst 0, 1) := by decide +kernel
theorem dX8_seatOf_1 : decode cX8_seatOf 1 = .ok (.istore_n 2, 1) := by decide +kernel
theorem dX8_seatOf_2 : decode cX8_seatOf 2 = .ok (.iload_n 2, 1) := by decide +kernel
theorem dX8_seatOf_3 : decode cX8_seatOf 3 = .ok (.bipush 10, 2) := by decide +kernel
theorem dX8_seatOf_5 : decode cX8_seatOf 5 = .ok (.if_icmp .ge 21, 3) := by decide +kernel
theorem dX8_seatOf_8 : decode cX8_seatOf 8 = .ok (.aload_n 0, 1) := by decide +kernel
theorem dX8_seatOf_9 : decode cX8_seatOf 9 = .ok (.getfield 15, 3) := by decide +kernel
theorem dX8_seatOf_12 : decode cX8_seatOf 12 = .ok (.iload_n 2, 1) := by decide +kernel
theorem dX8_seatOf_13 : decode cX8_seatOf 13 = .ok (.iaload, 1) := by decide +kernel
theorem dX8_seatOf_14 : decode cX8_seatOf 14 = .ok (.iload_n 1, 1) := by decide +kernel
theorem dX8_seatOf_15 : decode cX8_seatOf 15 = .ok (.if_icmp .ne 5, 3) := by decide +kernel
theorem dX8_seatOf_18 : decode cX8_seatOf 18 = .ok (.iload_n 2, 1) := by decide +kernel
theorem dX8_seatOf_19 : decode cX8_seatOf 19 = .ok (.ireturn, 1) := by decide +kernel
theorem dX8_seatOf_20 : decode cX8_seatOf 20 = .ok (.iinc 2 1, 3) := by decide +kernel
theorem dX8_seatOf_23 : decode cX8_seatOf 23 = .ok (.goto (-21), 3) := by decide +kernel
theorem dX8_seatOf_26 : decode cX8_seatOf 26 = .ok (.iconst (-1), 1) := by decide +kernel
theorem dX8_seatOf_27 : decode cX8_seatOf 27 = .ok (.ireturn, 1) := by decide +kernel
theorem dX8_hermitIn_0 : decode cX8_hermitIn 0 = .ok (.aload_n 0, 1) := by decide +kernel
theorem dX8_hermitIn_1 : decode cX8_hermitIn 1 = .ok (.getfield 25, 3) := by decide +kernel
theorem dX8_hermitIn_4 : decode cX8_hermitIn 4 = .ok (.aload_n 0, 1) := by decide +kernel
theorem dX8_hermitIn_5 : decode cX8_hermitIn 5 = .ok (.getfield 15, 3) := by decide +kernel
theorem dX8_hermitIn_8 : decode cX8_hermitIn 8 = .ok (.iload_n 1, 1) := by decide +kernel
theorem dX8_hermitIn_9 : decode cX8_hermitIn 9 = .ok (.iaload, 1) := by decide +kernel
theorem dX8_hermitIn_10 : decode cX8_hermitIn 10 = .ok (.invokevirtual 39, 3) := by decide +kernel
theorem dX8_hermitIn_13 : decode cX8_hermitIn 13 = .ok (.checkcast 45, 3) := by decide +kernel
theorem dX8_hermitIn_16 : decode cX8_hermitIn 16 = .ok (.areturn, 1) := by decide +kernel
theorem dX8_seatNext_0 : decode cX8_seatNext 0 = .ok (.iload_n 1, 1) := by decide +kernel
theorem dX8_seatNext_1 : decode cX8_seatNext 1 = .ok (.iconst 1, 1) := by decide +kernel
theorem dX8_seatNext_2 : decode cX8_seatNext 2 = .ok (.iadd, 1) := by decide +kernel
theorem dX8_seatNext_3 : decode cX8_seatNext 3 = .ok (.aload_n 0, 1) := by decide +kernel
theorem dX8_seatNext_4 : decode cX8_seatNext 4 = .ok (.getfield 25, 3) := by decide +kernel
theorem dX8_seatNext_7 : decode cX8_seatNext 7 = .ok (.invokevirtual 47, 3) := by decide +kernel
theorem dX8_seatNext_10 : decode cX8_seatNext 10 = .ok (.if_icmp .ge 9, 3) := by decide +kernel
theorem dX8_seatNext_13 : decode cX8_seatNext 13 = .ok (.iload_n 1, 1) := by decide +kernel
theorem dX8_seatNext_14 : decode cX8_seatNext 14 = .ok (.iconst 1, 1) := by decide +kernel
theorem dX8_seatNext_15 : decode cX8_seatNext 15 = .ok (.iadd, 1) := by decide +kernel
theorem dX8_seatNext_16 : decode cX8_seatNext 16 = .ok (.goto 4, 3) := by decide +kernel
theorem dX8_seatNext_19 : decode cX8_seatNext 19 = .ok (.iconst 0, 1) := by decide +kernel
theorem dX8_seatNext_20 : decode cX8_seatNext 20 = .ok (.ireturn, 1) := by decide +kernel
theorem dX8_seatBeside_0 : decode cX8_seatBeside 0 = .ok (.iload_n 2, 1) := by decide +kernel
theorem dX8_seatBeside_1 : decode cX8_seatBeside 1 = .ok (.ifCond .eq 9, 3) := by decide +kernel
theorem dX8_seatBeside_4 : decode cX8_seatBeside 4 = .ok (.aload_n 0, 1) := by decide +kernel
theorem dX8_seatBeside_5 : decode cX8_seatBeside 5 = .ok (.iload_n 1, 1) := by decide +kernel
theorem dX8_seatBeside_6 : decode cX8_seatBeside 6 = .ok (.invokevirtual 51, 3) := by decide +kernel
theorem dX8_seatBeside_9 : decode cX8_seatBeside 9 = .ok (.ireturn, 1) := by decide +kernel
theorem dX8_seatBeside_10 : decode cX8_seatBeside 10 = .ok (.iload_n 1, 1) := by decide +kernel
theorem dX8_seatBeside_11 : decode cX8_seatBeside 11 = .ok (.ifCond .le 9, 3) := by decide +kernel
theorem dX8_seatBeside_14 : decode cX8_seatBeside 14 = .ok (.iload_n 1, 1) := by decide +kernel
theorem dX8_seatBeside_15 : decode cX8_seatBeside 15 = .ok (.iconst 1, 1) := by decide +kernel
theorem dX8_seatBeside_16 : decode cX8_seatBeside 16 = .ok (.isub, 1) := by decide +kernel
theorem dX8_seatBeside_17 : decode cX8_seatBeside 17 = .ok (.goto 12, 3) := by decide +kernel
theorem dX8_seatBeside_20 : decode cX8_seatBeside 20 = .ok (.aload_n 0, 1) := by decide +kernel
theorem dX8_seatBeside_21 : decode cX8_seatBeside 21 = .ok (.getfield 25, 3) := by decide +kernel
theorem dX8_seatBeside_24 : decode cX8_seatBeside 24 = .ok (.invokevirtual 47, 3) := by decide +kernel
theorem dX8_seatBeside_27 : decode cX8_seatBeside 27 = .ok (.iconst 1, 1) := by decide +kernel
theorem dX8_seatBeside_28 : decode cX8_seatBeside 28 = .ok (.isub, 1) := by decide +kernel
theorem dX8_seatBeside_29 : decode cX8_seatBeside 29 = .ok (.ireturn, 1) := by decide +kernel
theorem dX8_isStarved_0 : decode cX8_isStarved 0 = .ok (.aload_n 0, 1) := by decide +kernel
theorem dX8_isStarved_1 : decode cX8_isStarved 1 = .ok (.getfield 9, 3) := by decide +kernel
theorem dX8_isStarved_4 : decode cX8_isStarved 4 = .ok (.iload_n 1, 1) := by decide +kernel
theorem dX8_isStarved_5 : decode cX8_isStarved 5 = .ok (.iaload, 1) := by decide +kernel
theorem dX8_isStarved_6 : decode cX8_isStarved 6 = .ok (.iconst (-1), 1) := by decide +kernel
theorem dX8_isStarved_7 : decode cX8_isStarved 7 = .ok (.if_icmp .ne 7, 3) := by decide +kernel
theorem dX8_isStarved_10 : decode cX8_isStarved 10 = .ok (.iconst 1, 1) := by decide +kernel
theorem dX8_isStarved_11 : decode cX8_isStarved 11 = .ok (.goto 4, 3) := by decide +kernel
theorem dX8_isStarved_14 : decode cX8_isStarved 14 = .ok (.iconst 0, 1) := by decide +kernel
theorem dX8_isStarved_15 : decode cX8_isStarved 15 = .ok (.ireturn, 1) := by decide +kernel
theorem dX8_soupInAll_0 : decode cX8_soupInAll 0 = .ok (.iconst 0, 1) := by decide +kernel
theorem dX8_soupInAll_1 : decode cX8_soupInAll 1 = .ok (.istore_n 1, 1) := by decide +kernel
theorem dX8_soupInAll_2 : decode cX8_soupInAll 2 = .ok (.iconst 0, 1) := by decide +kernel
theorem dX8_soupInAll_3 : decode cX8_soupInAll 3 = .ok (.istore_n 2, 1) := by decide +kernel
theorem dX8_soupInAll_4 : decode cX8_soupInAll 4 = .ok (.iload_n 2, 1) := by decide +kernel
theorem dX8_soupInAll_5 : decode cX8_soupInAll 5 = .ok (.iconst 5, 1) := by decide +kernel
theorem dX8_soupInAll_6 : decode cX8_soupInAll 6 = .ok (.if_icmp .ge 18, 3) := by decide +kernel
theorem dX8_soupInAll_9 : decode cX8_soupInAll 9 = .ok (.iload_n 1, 1) := by decide +kernel
theorem dX8_soupInAll_10 : decode cX8_soupInAll 10 = .ok (.aload_n 0, 1) := by decide +kernel
theorem dX8_soupInAll_11 : decode cX8_soupInAll 11 = .ok (.getfield 18, 3) := by decide +kernel
theorem dX8_soupInAll_14 : decode cX8_soupInAll 14 = .ok (.iload_n 2, 1) := by decide +kernel
theorem dX8_soupInAll_15 : decode cX8_soupInAll 15 = .ok (.iaload, 1) := by decide +kernel
theorem dX8_soupInAll_16 : decode cX8_soupInAll 16 = .ok (.iadd, 1) := by decide +kernel
theorem dX8_soupInAll_17 : decode cX8_soupInAll 17 = .ok (.istore_n 1, 1) := by decide +kernel
theorem dX8_soupInAll_18 : decode cX8_soupInAll 18 = .ok (.iinc 2 1, 3) := by decide +kernel
theorem dX8_soupInAll_21 : decode cX8_soupInAll 21 = .ok (.goto (-17), 3) := by decide +kernel
theorem dX8_soupInAll_24 : decode cX8_soupInAll 24 = .ok (.iload_n 1, 1) := by decide +kernel
theorem dX8_soupInAll_25 : decode cX8_soupInAll 25 = .ok (.ireturn, 1) := by decide +kernel
theorem dX8_starvedInAll_0 : decode cX8_starvedInAll 0 = .ok (.iconst 0, 1) := by decide +kernel
theorem dX8_starvedInAll_1 : decode cX8_starvedInAll 1 = .ok (.istore_n 1, 1) := by decide +kernel
theorem dX8_starvedInAll_2 : decode cX8_starvedInAll 2 = .ok (.iconst 0, 1) := by decide +kernel
theorem dX8_starvedInAll_3 : decode cX8_starvedInAll 3 = .ok (.istore_n 2, 1) := by decide +kernel
theorem dX8_starvedInAll_4 : decode cX8_starvedInAll 4 = .ok (.iload_n 2, 1) := by decide +kernel
theorem dX8_starvedInAll_5 : decode cX8_starvedInAll 5 = .ok (.aload_n 0, 1) := by decide +kernel
theorem dX8_starvedInAll_6 : decode cX8_starvedInAll 6 = .ok (.getfield 25, 3) := by decide +kernel
theorem dX8_starvedInAll_9 : decode cX8_starvedInAll 9 = .ok (.invokevirtual 47, 3) := by decide +kernel
theorem dX8_starvedInAll_12 : decode cX8_starvedInAll 12 = .ok (.if_icmp .ge 20, 3) := by decide +kernel
theorem dX8_starvedInAll_15 : decode cX8_starvedInAll 15 = .ok (.iload_n 1, 1) := by decide +kernel
theorem dX8_starvedInAll_16 : decode cX8_starvedInAll 16 = .ok (.aload_n 0, 1) := by decide +kernel
theorem dX8_starvedInAll_17 : decode cX8_starvedInAll 17 = .ok (.iload_n 2, 1) := by decide +kernel
theorem dX8_starvedInAll_18 : decode cX8_starvedInAll 18 = .ok (.invokevirtual 55, 3) := by decide +kernel
theorem dX8_starvedInAll_21 : decode cX8_starvedInAll 21 = .ok (.invokestatic 59, 3) := by decide +kernel
theorem dX8_starvedInAll_24 : decode cX8_starvedInAll 24 = .ok (.iadd, 1) := by decide +kernel
theorem dX8_starvedInAll_25 : decode cX8_starvedInAll 25 = .ok (.istore_n 1, 1) := by decide +kernel
theorem dX8_starvedInAll_26 : decode cX8_starvedInAll 26 = .ok (.iinc 2 1, 3) := by decide +kernel
theorem dX8_starvedInAll_29 : decode cX8_starvedInAll 29 = .ok (.goto (-25), 3) := by decide +kernel
theorem dX8_starvedInAll_32 : decode cX8_starvedInAll 32 = .ok (.iload_n 1, 1) := by decide +kernel
theorem dX8_starvedInAll_33 : decode cX8_starvedInAll 33 = .ok (.ireturn, 1) := by decide +kernel
theorem dX8_endDay_0 : decode cX8_endDay 0 = .ok (.iconst 0, 1) := by decide +kernel
theorem dX8_endDay_1 : decode cX8_endDay 1 = .ok (.istore_n 2, 1) := by decide +kernel
theorem dX8_endDay_2 : decode cX8_endDay 2 = .ok (.iconst 0, 1) := by decide +kernel
theorem dX8_endDay_3 : decode cX8_endDay 3 = .ok (.istore_n 3, 1) := by decide +kernel
theorem dX8_endDay_4 : decode cX8_endDay 4 = .ok (.iload_n 3, 1) := by decide +kernel
theorem dX8_endDay_5 : decode cX8_endDay 5 = .ok (.aload_n 0, 1) := by decide +kernel
theorem dX8_endDay_6 : decode cX8_endDay 6 = .ok (.getfield 25, 3) := by decide +kernel
theorem dX8_endDay_9 : decode cX8_endDay 9 = .ok (.invokevirtual 47, 3) := by decide +kernel
theorem dX8_endDay_12 : decode cX8_endDay 12 = .ok (.if_icmp .ge 80, 3) := by decide +kernel
theorem dX8_endDay_15 : decode cX8_endDay 15 = .ok (.aload_n 0, 1) := by decide +kernel
theorem dX8_endDay_16 : decode cX8_endDay 16 = .ok (.iload_n 3, 1) := by decide +kernel
theorem dX8_endDay_17 : decode cX8_endDay 17 = .ok (.invokevirtual 55, 3) := by decide +kernel
theorem dX8_endDay_20 : decode cX8_endDay 20 = .ok (.ifCond .eq 6, 3) := by decide +kernel
theorem dX8_endDay_23 : decode cX8_endDay 23 = .ok (.goto 63, 3) := by decide +kernel
theorem dX8_endDay_26 : decode cX8_endDay 26 = .ok (.aload_n 0, 1) := by decide +kernel
theorem dX8_endDay_27 : decode cX8_endDay 27 = .ok (.getfield 9, 3) := by decide +kernel
theorem dX8_endDay_30 : decode cX8_endDay 30 = .ok (.iload_n 3, 1) := by decide +kernel
theorem dX8_endDay_31 : decode cX8_endDay 31 = .ok (.iaload, 1) := by decide +kernel
theorem dX8_endDay_32 : decode cX8_endDay 32 = .ok (.aload_n 1, 1) := by decide +kernel
theorem dX8_endDay_33 : decode cX8_endDay 33 = .ok (.iload_n 3, 1) := by decide +kernel
theorem dX8_endDay_34 : decode cX8_endDay 34 = .ok (.iaload, 1) := by decide +kernel
theorem dX8_endDay_35 : decode cX8_endDay 35 = .ok (.iadd, 1) := by decide +kernel
theorem dX8_endDay_36 : decode cX8_endDay 36 = .ok (.bipush 99, 2) := by decide +kernel
theorem dX8_endDay_38 : decode cX8_endDay 38 = .ok (.invokestatic 63, 3) := by decide +kernel
theorem dX8_endDay_41 : decode cX8_endDay 41 = .ok (.aload_n 0, 1) := by decide +kernel
theorem dX8_endDay_42 : decode cX8_endDay 42 = .ok (.getfield 25, 3) := by decide +kernel
theorem dX8_endDay_45 : decode cX8_endDay 45 = .ok (.iload_n 3, 1) := by decide +kernel
theorem dX8_endDay_46 : decode cX8_endDay 46 = .ok (.invokevirtual 39, 3) := by decide +kernel
theorem dX8_endDay_49 : decode cX8_endDay 49 = .ok (.checkcast 45, 3) := by decide +kernel
theorem dX8_endDay_52 : decode cX8_endDay 52 = .ok (.getfield 69, 3) := by decide +kernel
theorem dX8_endDay_55 : decode cX8_endDay 55 = .ok (.isub, 1) := by decide +kernel
theorem dX8_endDay_56 : decode cX8_endDay 56 = .ok (.istore 4, 2) := by decide +kernel
theorem dX8_endDay_58 : decode cX8_endDay 58 = .ok (.iload 4, 2) := by decide +kernel
theorem dX8_endDay_60 : decode cX8_endDay 60 = .ok (.ifCond .ge 9, 3) := by decide +kernel
theorem dX8_endDay_63 : decode cX8_endDay 63 = .ok (.iload_n 2, 1) := by decide +kernel
theorem dX8_endDay_64 : decode cX8_endDay 64 = .ok (.iconst 1, 1) := by decide +kernel
theorem dX8_endDay_65 : decode cX8_endDay 65 = .ok (.iload_n 3, 1) := by decide +kernel
theorem dX8_endDay_66 : decode cX8_endDay 66 = .ok (.ishl, 1) := by decide +kernel
theorem dX8_endDay_67 : decode cX8_endDay 67 = .ok (.ior, 1) := by decide +kernel
theorem dX8_endDay_68 : decode cX8_endDay 68 = .ok (.istore_n 2, 1) := by decide +kernel
theorem dX8_endDay_69 : decode cX8_endDay 69 = .ok (.aload_n 0, 1) := by decide +kernel
theorem dX8_endDay_70 : decode cX8_endDay 70 = .ok (.getfield 9, 3) := by decide +kernel
theorem dX8_endDay_73 : decode cX8_endDay 73 = .ok (.iload_n 3, 1) := by decide +kernel
theorem dX8_endDay_74 : decode cX8_endDay 74 = .ok (.iload 4, 2) := by decide +kernel
theorem dX8_endDay_76 : decode cX8_endDay 76 = .ok (.ifCond .ge 7, 3) := by decide +kernel
theorem dX8_endDay_79 : decode cX8_endDay 79 = .ok (.iconst (-1), 1) := by decide +kernel
theorem dX8_endDay_80 : decode cX8_endDay 80 = .ok (.goto 5, 3) := by decide +kernel
theorem dX8_endDay_83 : decode cX8_endDay 83 = .ok (.iload 4, 2) := by decide +kernel
theorem dX8_endDay_85 : decode cX8_endDay 85 = .ok (.iastore, 1) := by decide +kernel
theorem dX8_endDay_86 : decode cX8_endDay 86 = .ok (.iinc 3 1, 3) := by decide +kernel
theorem dX8_endDay_89 : decode cX8_endDay 89 = .ok (.goto (-85), 3) := by decide +kernel
theorem dX8_endDay_92 : decode cX8_endDay 92 = .ok (.iload_n 2, 1) := by decide +kernel
theorem dX8_endDay_93 : decode cX8_endDay 93 = .ok (.ireturn, 1) := by decide +kernel
theorem dX9_init_0 : decode cX9_init 0 = .ok (.aload_n 0, 1) := by decide +kernel
theorem dX9_init_1 : decode cX9_init 1 = .ok (.invokespecial 1, 3) := by decide +kernel
theorem dX9_init_4 : decode cX9_init 4 = .ok (.aload_n 0, 1) := by decide +kernel
theorem dX9_init_5 : decode cX9_init 5 = .ok (.aload_n 1, 1) := by decide +kernel
theorem dX9_init_6 : decode cX9_init 6 = .ok (.getfield 7, 3) := by decide +kernel
theorem dX9_init_9 : decode cX9_init 9 = .ok (.putfield 13, 3) := by decide +kernel
theorem dX9_init_12 : decode cX9_init 12 = .ok (.aload_n 0, 1) := by decide +kernel
theorem dX9_init_13 : decode cX9_init 13 = .ok (.aload_n 1, 1) := by decide +kernel
theorem dX9_init_14 : decode cX9_init 14 = .ok (.getfield 16, 3) := by decide +kernel
theorem dX9_init_17 : decode cX9_init 17 = .ok (.putfield 20, 3) := by decide +kernel
theorem dX9_init_20 : decode cX9_init 20 = .ok (.aload_n 0, 1) := by decide +kernel
theorem dX9_init_21 : decode cX9_init 21 = .ok (.aload_n 1, 1) := by decide +kernel
theorem dX9_init_22 : decode cX9_init 22 = .ok (.getfield 21, 3) := by decide +kernel
theorem dX9_init_25 : decode cX9_init 25 = .ok (.putfield 24, 3) := by decide +kernel
theorem dX9_init_28 : decode cX9_init 28 = .ok (.aload_n 0, 1) := by decide +kernel
theorem dX9_init_29 : decode cX9_init 29 = .ok (.aload_n 1, 1) := by decide +kernel
theorem dX9_init_30 : decode cX9_init 30 = .ok (.getfield 25, 3) := by decide +kernel
theorem dX9_init_33 : decode cX9_init 33 = .ok (.putfield 28, 3) := by decide +kernel
theorem dX9_init_36 : decode cX9_init 36 = .ok (.return_, 1) := by decide +kernel
theorem dX9_told_0 : decode cX9_told 0 = .ok (.iload_n 1, 1) := by decide +kernel
theorem dX9_told_1 : decode cX9_told 1 = .ok (.tableswitch 54 0 2 #[27, 37, 44], 27) := by decide +kernel
theorem dX9_told_28 : decode cX9_told 28 = .ok (.aload_n 0, 1) := by decide +kernel
theorem dX9_told_29 : decode cX9_told 29 = .ok (.getfield 13, 3) := by decide +kernel
theorem dX9_told_32 : decode cX9_told 32 = .ok (.invokestatic 29, 3) := by decide +kernel
theorem dX9_told_35 : decode cX9_told 35 = .ok (.goto 24, 3) := by decide +kernel
theorem dX9_told_38 : decode cX9_told 38 = .ok (.aload_n 0, 1) := by decide +kernel
theorem dX9_told_39 : decode cX9_told 39 = .ok (.getfield 20, 3) := by decide +kernel
theorem dX9_told_42 : decode cX9_told 42 = .ok (.goto 17, 3) := by decide +kernel
theorem dX9_told_45 : decode cX9_told 45 = .ok (.aload_n 0, 1) := by decide +kernel
theorem dX9_told_46 : decode cX9_told 46 = .ok (.getfield 24, 3) := by decide +kernel
theorem dX9_told_49 : decode cX9_told 49 = .ok (.invokestatic 29, 3) := by decide +kernel
theorem dX9_told_52 : decode cX9_told 52 = .ok (.goto 7, 3) := by decide +kernel
theorem dX9_told_55 : decode cX9_told 55 = .ok (.aload_n 0, 1) := by decide +kernel
theorem dX9_told_56 : decode cX9_told 56 = .ok (.getfield 28, 3) := by decide +kernel
theorem dX9_told_59 : decode cX9_told 59 = .ok (.ireturn, 1) := by decide +kernel
theorem dX10_init_0 : decode cX10_init 0 = .ok (.aload_n 0, 1) := by decide +kernel
theorem dX10_init_1 : decode cX10_init 1 = .ok (.invokespecial 3, 3) := by decide +kernel
theorem dX10_init_4 : decode cX10_init 4 = .ok (.aload_n 0, 1) := by decide +kernel
theorem dX10_init_5 : decode cX10_init 5 = .ok (.new 9, 3) := by decide +kernel
theorem dX10_init_8 : decode cX10_init 8 = .ok (.dup, 1) := by decide +kernel
theorem dX10_init_9 : decode cX10_init 9 = .ok (.invokespecial 11, 3) := by decide +kernel
theorem dX10_init_12 : decode cX10_init 12 = .ok (.putfield 12, 3) := by decide +kernel
theorem dX10_init_15 : decode cX10_init 15 = .ok (.aload_n 0, 1) := by decide +kernel
theorem dX10_init_16 : decode cX10_init 16 = .ok (.new 9, 3) := by decide +kernel
theorem dX10_init_19 : decode cX10_init 19 = .ok (.dup, 1) := by decide +kernel
theorem dX10_init_20 : decode cX10_init 20 = .ok (.invokespecial 11, 3) := by decide +kernel
theorem dX10_init_23 : decode cX10_init 23 = .ok (.putfield 16, 3) := by decide +kernel
theorem dX10_init_26 : decode cX10_init 26 = .ok (.aload_n 0, 1) := by decide +kernel
theorem dX10_init_27 : decode cX10_init 27 = .ok (.new 19, 3) := by decide +kernel
theorem dX10_init_30 : decode cX10_init 30 = .ok (.dup, 1) := by decide +kernel
theorem dX10_init_31 : decode cX10_init 31 = .ok (.invokespecial 21, 3) := by decide +kernel
theorem dX10_init_34 : decode cX10_init 34 = .ok (.putfield 22, 3) := by decide +kernel
theorem dX10_init_37 : decode cX10_init 37 = .ok (.aload_n 0, 1) := by decide +kernel
theorem dX10_init_38 : decode cX10_init 38 = .ok (.new 26, 3) := by decide +kernel
theorem dX10_init_41 : decode cX10_init 41 = .ok (.dup, 1) := by decide +kernel
theorem dX10_init_42 : decode cX10_init 42 = .ok (.aload_n 0, 1) := by decide +kernel
theorem dX10_init_43 : decode cX10_init 43 = .ok (.getfield 12, 3) := by decide +kernel
theorem dX10_init_46 : decode cX10_init 46 = .ok (.invokespecial 28, 3) := by decide +kernel
theorem dX10_init_49 : decode cX10_init 49 = .ok (.putfield 31, 3) := by decide +kernel
theorem dX10_init_52 : decode cX10_init 52 = .ok (.aload_n 0, 1) := by decide +kernel
theorem dX10_init_53 : decode cX10_init 53 = .ok (.new 26, 3) := by decide +kernel
theorem dX10_init_56 : decode cX10_init 56 = .ok (.dup, 1) := by decide +kernel
theorem dX10_init_57 : decode cX10_init 57 = .ok (.aload_n 0, 1) := by decide +kernel
theorem dX10_init_58 : decode cX10_init 58 = .ok (.getfield 12, 3) := by decide +kernel
theorem dX10_init_61 : decode cX10_init 61 = .ok (.invokespecial 28, 3) := by decide +kernel
theorem dX10_init_64 : decode cX10_init 64 = .ok (.putfield 35, 3) := by decide +kernel
theorem dX10_init_67 : decode cX10_init 67 = .ok (.aload_n 0, 1) := by decide +kernel
theorem dX10_init_68 : decode cX10_init 68 = .ok (.iconst (-1), 1) := by decide +kernel
theorem dX10_init_69 : decode cX10_init 69 = .ok (.putfield 38, 3) := by decide +kernel
theorem dX10_init_72 : decode cX10_init 72 = .ok (.aload_n 0, 1) := by decide +kernel
theorem dX10_init_73 : decode cX10_init 73 = .ok (.new 42, 3) := by decide +kernel
theorem dX10_init_76 : decode cX10_init 76 = .ok (.dup, 1) := by decide +kernel
theorem dX10_init_77 : decode cX10_init 77 = .ok (.aload_n 0, 1) := by decide +kernel
theorem dX10_init_78 : decode cX10_init 78 = .ok (.getfield 31, 3) := by decide +kernel
theorem dX10_init_81 : decode cX10_init 81 = .ok (.invokespecial 44, 3) := by decide +kernel
theorem dX10_init_84 : decode cX10_init 84 = .ok (.putfield 47, 3) := by decide +kernel
theorem dX10_init_87 : decode cX10_init 87 = .ok (.aload_n 0, 1) := by decide +kernel
theorem dX10_init_88 : decode cX10_init 88 = .ok (.new 51, 3) := by decide +kernel
theorem dX10_init_91 : decode cX10_init 91 = .ok (.dup, 1) := by decide +kernel
theorem dX10_init_92 : decode cX10_init 92 = .ok (.aload_n 0, 1) := by decide +kernel
theorem dX10_init_93 : decode cX10_init 93 = .ok (.getfield 47, 3) := by decide +kernel
theorem dX10_init_96 : decode cX10_init 96 = .ok (.new 26, 3) := by decide +kernel
theorem dX10_init_99 : decode cX10_init 99 = .ok (.dup, 1) := by decide +kernel
theorem dX10_init_100 : decode cX10_init 100 = .ok (.aload_n 0, 1) := by decide +kernel
theorem dX10_init_101 : decode cX10_init 101 = .ok (.getfield 12, 3) := by decide +kernel
theorem dX10_init_104 : decode cX10_init 104 = .ok (.invokespecial 28, 3) := by decide +kernel
theorem dX10_init_107 : decode cX10_init 107 = .ok (.invokespecial 53, 3) := by decide +kernel
theorem dX10_init_110 : decode cX10_init 110 = .ok (.putfield 56, 3) := by decide +kernel
theorem dX10_init_113 : decode cX10_init 113 = .ok (.return_, 1) := by decide +kernel
theorem dX10_letters_0 : decode cX10_letters 0 = .ok (.lload_n 1, 1) := by decide +kernel
theorem dX10_letters_1 : decode cX10_letters 1 = .ok (.invokestatic 60, 3) := by decide +kernel
theorem dX10_letters_4 : decode cX10_letters 4 = .ok (.istore_n 3, 1) := by decide +kernel
theorem dX10_letters_5 : decode cX10_letters 5 = .ok (.iload_n 3, 1) := by decide +kernel
theorem dX10_letters_6 : decode cX10_letters 6 = .ok (.ifCond .ge 6, 3) := by decide +kernel
theorem dX10_letters_9 : decode cX10_letters 9 = .ok (.bipush (-102), 2) := by decide +kernel
theorem dX10_letters_11 : decode cX10_letters 11 = .ok (.ireturn, 1) := by decide +kernel
theorem dX10_letters_12 : decode cX10_letters 12 = .ok (.aload_n 0, 1) := by decide +kernel
theorem dX10_letters_13 : decode cX10_letters 13 = .ok (.getfield 22, 3) := by decide +kernel
theorem dX10_letters_16 : decode cX10_letters 16 = .ok (.getfield 64, 3) := by decide +kernel
theorem dX10_letters_19 : decode cX10_letters 19 = .ok (.iload_n 3, 1) := by decide +kernel
theorem dX10_letters_20 : decode cX10_letters 20 = .ok (.iadd, 1) := by decide +kernel
theorem dX10_letters_21 : decode cX10_letters 21 = .ok (.bipush 16, 2) := by decide +kernel
theorem dX10_letters_23 : decode cX10_letters 23 = .ok (.if_icmp .le 6, 3) := by decide +kernel
theorem dX10_letters_26 : decode cX10_letters 26 = .ok (.bipush (-104), 2) := by decide +kernel
theorem dX10_letters_28 : decode cX10_letters 28 = .ok (.ireturn, 1) := by decide +kernel
theorem dX10_letters_29 : decode cX10_letters 29 = .ok (.aload_n 0, 1) := by decide +kernel
theorem dX10_letters_30 : decode cX10_letters 30 = .ok (.getfield 22, 3) := by decide +kernel
theorem dX10_letters_33 : decode cX10_letters 33 = .ok (.lload_n 1, 1) := by decide +kernel
theorem dX10_letters_34 : decode cX10_letters 34 = .ok (.iload_n 3, 1) := by decide +kernel
theorem dX10_letters_35 : decode cX10_letters 35 = .ok (.invokevirtual 67, 3) := by decide +kernel
theorem dX10_letters_38 : decode cX10_letters 38 = .ok (.aload_n 0, 1) := by decide +kernel
theorem dX10_letters_39 : decode cX10_letters 39 = .ok (.getfield 22, 3) := by decide +kernel
theorem dX10_letters_42 : decode cX10_letters 42 = .ok (.getfield 64, 3) := by decide +kernel
theorem dX10_letters_45 : decode cX10_letters 45 = .ok (.ireturn, 1) := by decide +kernel
theorem dX10_blank_0 : decode cX10_blank 0 = .ok (.aload_n 0, 1) := by decide +kernel
theorem dX10_blank_1 : decode cX10_blank 1 = .ok (.getfield 22, 3) := by decide +kernel
theorem dX10_blank_4 : decode cX10_blank 4 = .ok (.getfield 64, 3) := by decide +kernel
theorem dX10_blank_7 : decode cX10_blank 7 = .ok (.istore_n 1, 1) := by decide +kernel
theorem dX10_blank_8 : decode cX10_blank 8 = .ok (.aload_n 0, 1) := by decide +kernel
theorem dX10_blank_9 : decode cX10_blank 9 = .ok (.getfield 22, 3) := by decide +kernel
theorem dX10_blank_12 : decode cX10_blank 12 = .ok (.iconst 0, 1) := by decide +kernel
theorem dX10_blank_13 : decode cX10_blank 13 = .ok (.putfield 64, 3) := by decide +kernel
theorem dX10_blank_16 : decode cX10_blank 16 = .ok (.iload_n 1, 1) := by decide +kernel
theorem dX10_blank_17 : decode cX10_blank 17 = .ok (.ireturn, 1) := by decide +kernel
theorem dX10_fault_0 : decode cX10_fault 0 = .ok (.aload_n 0, 1) := by decide +kernel
theorem dX10_fault_1 : decode cX10_fault 1 = .ok (.getfield 22, 3) := by decide +kernel
theorem dX10_fault_4 : decode cX10_fault 4 = .ok (.invokevirtual 71, 3) := by decide +kernel
theorem dX10_fault_7 : decode cX10_fault 7 = .ok (.aload_n 0, 1) := by decide +kernel
theorem dX10_fault_8 : decode cX10_fault 8 = .ok (.getfield 22, 3) := by decide +kernel
theorem dX10_fault_11 : decode cX10_fault 11 = .ok (.getfield 74, 3) := by decide +kernel
theorem dX10_fault_14 : decode cX10_fault 14 = .ok (.ireturn, 1) := by decide +kernel
theorem dX10_vow_0 : decode cX10_vow 0 = .ok (.aload_n 0, 1) := by decide +kernel
theorem dX10_vow_1 : decode cX10_vow 1 = .ok (.getfield 22, 3) := by decide +kernel
theorem dX10_vow_4 : decode cX10_vow 4 = .ok (.invokevirtual 71, 3) := by decide +kernel
theorem dX10_vow_7 : decode cX10_vow 7 = .ok (.aload_n 0, 1) := by decide +kernel
theorem dX10_vow_8 : decode cX10_vow 8 = .ok (.getfield 22, 3) := by decide +kernel
theorem dX10_vow_11 : decode cX10_vow 11 = .ok (.getfield 77, 3) := by decide +kernel
theorem dX10_vow_14 : decode cX10_vow 14 = .ok (.ifCond .ne 6, 3) := by decide +kernel
theorem dX10_vow_17 : decode cX10_vow 17 = .ok (.bipush (-103), 2) := by decide +kernel
theorem dX10_vow_19 : decode cX10_vow 19 = .ok (.ireturn, 1) := by decide +kernel
theorem dX10_vow_20 : decode cX10_vow 20 = .ok (.aload_n 0, 1) := by decide +kernel
theorem dX10_vow_21 : decode cX10_vow 21 = .ok (.getfield 16, 3) := by decide +kernel
theorem dX10_vow_24 : decode cX10_vow 24 = .ok (.invokevirtual 81, 3) := by decide +kernel
theorem dX10_vow_27 : decode cX10_vow 27 = .ok (.bipush 6, 2) := by decide +kernel
theorem dX10_vow_29 : decode cX10_vow 29 = .ok (.if_icmp .lt 6, 3) := by decide +kernel
theorem dX10_vow_32 : decode cX10_vow 32 = .ok (.bipush (-104), 2) := by decide +kernel
theorem dX10_vow_34 : decode cX10_vow 34 = .ok (.ireturn, 1) := by decide +kernel
theorem dX10_vow_35 : decode cX10_vow 35 = .ok (.aload_n 0, 1) := by decide +kernel
theorem dX10_vow_36 : decode cX10_vow 36 = .ok (.getfield 16, 3) := by decide +kernel
theorem dX10_vow_39 : decode cX10_vow 39 = .ok (.new 85, 3) := by decide +kernel
theorem dX10_vow_42 : decode cX10_vow 42 = .ok (.dup, 1) := by decide +kernel
theorem dX10_vow_43 : decode cX10_vow 43 = .ok (.aload_n 0, 1) := by decide +kernel
theorem dX10_vow_44 : decode cX10_vow 44 = .ok (.getfield 22, 3) := by decide +kernel
theorem dX10_vow_47 : decode cX10_vow 47 = .ok (.invokespecial 87, 3) := by decide +kernel
theorem dX10_vow_50 : decode cX10_vow 50 = .ok (.invokevirtual 90, 3) := by decide +kernel
theorem dX10_vow_53 : decode cX10_vow 53 = .ok (.pop, 1) := by decide +kernel
theorem dX10_vow_54 : decode cX10_vow 54 = .ok (.aload_n 0, 1) := by decide +kernel
theorem dX10_vow_55 : decode cX10_vow 55 = .ok (.getfield 22, 3) := by decide +kernel
theorem dX10_vow_58 : decode cX10_vow 58 = .ok (.iconst 0, 1) := by decide +kernel
theorem dX10_vow_59 : decode cX10_vow 59 = .ok (.putfield 64, 3) := by decide +kernel
theorem dX10_vow_62 : decode cX10_vow 62 = .ok (.aload_n 0, 1) := by decide +kernel
theorem dX10_vow_63 : decode cX10_vow 63 = .ok (.getfield 16, 3) := by decide +kernel
theorem dX10_vow_66 : decode cX10_vow 66 = .ok (.invokevirtual 81, 3) := by decide +kernel
theorem dX10_vow_69 : decode cX10_vow 69 = .ok (.iconst 1, 1) := by decide +kernel
theorem dX10_vow_70 : decode cX10_vow 70 = .ok (.isub, 1) := by decide +kernel
theorem dX10_vow_71 : decode cX10_vow 71 = .ok (.ireturn, 1) := by decide +kernel
theorem dX10_vowTold_0 : decode cX10_vowTold 0 = .ok (.aload_n 0, 1) := by decide +kernel
theorem dX10_vowTold_1 : decode cX10_vowTold 1 = .ok (.iload_n 1, 1) := by decide +kernel
theorem dX10_vowTold_2 : decode cX10_vowTold 2 = .ok (.invokevirtual 94, 3) := by decide +kernel
theorem dX10_vowTold_5 : decode cX10_vowTold 5 = .ok (.astore_n 3, 1) := by decide +kernel
theorem dX10_vowTold_6 : decode cX10_vowTold 6 = .ok (.aload_n 3, 1) := by decide +kernel
theorem dX10_vowTold_7 : decode cX10_vowTold 7 = .ok (.ifnonnull 6, 3) := by decide +kernel
theorem dX10_vowTold_10 : decode cX10_vowTold 10 = .ok (.bipush (-101), 2) := by decide +kernel
theorem dX10_vowTold_12 : decode cX10_vowTold 12 = .ok (.ireturn, 1) := by decide +kernel
theorem dX10_vowTold_13 : decode cX10_vowTold 13 = .ok (.iload_n 2, 1) := by decide +kernel
theorem dX10_vowTold_14 : decode cX10_vowTold 14 = .ok (.ifCond .lt 8, 3) := by decide +kernel
theorem dX10_vowTold_17 : decode cX10_vowTold 17 = .ok (.iload_n 2, 1) := by decide +kernel
theorem dX10_vowTold_18 : decode cX10_vowTold 18 = .ok (.iconst 3, 1) := by decide +kernel
theorem dX10_vowTold_19 : decode cX10_vowTold 19 = .ok (.if_icmp .le 8, 3) := by decide +kernel
theorem dX10_vowTold_22 : decode cX10_vowTold 22 = .ok (.bipush (-102), 2) := by decide +kernel
theorem dX10_vowTold_24 : decode cX10_vowTold 24 = .ok (.goto 8, 3) := by decide +kernel
theorem dX10_vowTold_27 : decode cX10_vowTold 27 = .ok (.aload_n 3, 1) := by decide +kernel
theorem dX10_vowTold_28 : decode cX10_vowTold 28 = .ok (.iload_n 2, 1) := by decide +kernel
theorem dX10_vowTold_29 : decode cX10_vowTold 29 = .ok (.invokevirtual 98, 3) := by decide +kernel
theorem dX10_vowTold_32 : decode cX10_vowTold 32 = .ok (.ireturn, 1) := by decide +kernel
theorem dX10_hermit_0 : decode cX10_hermit 0 = .ok (.iload_n 1, 1) := by decide +kernel
theorem dX10_hermit_1 : decode cX10_hermit 1 = .ok (.iconst 0, 1) := by decide +kernel
theorem dX10_hermit_2 : decode cX10_hermit 2 = .ok (.iconst 4, 1) := by decide +kernel
theorem dX10_hermit_3 : decode cX10_hermit 3 = .ok (.invokestatic 102, 3) := by decide +kernel
theorem dX10_hermit_6 : decode cX10_hermit 6 = .ok (.ifCond .eq 60, 3) := by decide +kernel
theorem dX10_hermit_9 : decode cX10_hermit 9 = .ok (.iload_n 2, 1) := by decide +kernel
theorem dX10_hermit_10 : decode cX10_hermit 10 = .ok (.iload_n 1, 1) := by decide +kernel
theorem dX10_hermit_11 : decode cX10_hermit 11 = .ok (.invokestatic 106, 3) := by decide +kernel
theorem dX10_hermit_14 : decode cX10_hermit 14 = .ok (.iload_n 1, 1) := by decide +kernel
theorem dX10_hermit_15 : decode cX10_hermit 15 = .ok (.invokestatic 109, 3) := by decide +kernel
theorem dX10_hermit_18 : decode cX10_hermit 18 = .ok (.invokestatic 102, 3) := by decide +kernel
theorem dX10_hermit_21 : decode cX10_hermit 21 = .ok (.ifCond .eq 45, 3) := by decide +kernel
theorem dX10_hermit_24 : decode cX10_hermit 24 = .ok (.iload_n 3, 1) := by decide +kernel
theorem dX10_hermit_25 : decode cX10_hermit 25 = .ok (.iconst 1, 1) := by decide +kernel
theorem dX10_hermit_26 : decode cX10_hermit 26 = .ok (.bipush 99, 2) := by decide +kernel
theorem dX10_hermit_28 : decode cX10_hermit 28 = .ok (.invokestatic 102, 3) := by decide +kernel
theorem dX10_hermit_31 : decode cX10_hermit 31 = .ok (.ifCond .eq 35, 3) := by decide +kernel
theorem dX10_hermit_34 : decode cX10_hermit 34 = .ok (.iload 4, 2) := by decide +kernel
theorem dX10_hermit_36 : decode cX10_hermit 36 = .ok (.iconst 0, 1) := by decide +kernel
theorem dX10_hermit_37 : decode cX10_hermit 37 = .ok (.iconst 3, 1) := by decide +kernel
theorem dX10_hermit_38 : decode cX10_hermit 38 = .ok (.invokestatic 102, 3) := by decide +kernel
theorem dX10_hermit_41 : decode cX10_hermit 41 = .ok (.ifCond .eq 25, 3) := by decide +kernel
theorem dX10_hermit_44 : decode cX10_hermit 44 = .ok (.iload 5, 2) := by decide +kernel
theorem dX10_hermit_46 : decode cX10_hermit 46 = .ok (.iconst 1, 1) := by decide +kernel
theorem dX10_hermit_47 : decode cX10_hermit 47 = .ok (.bipush 9, 2) := by decide +kernel
theorem dX10_hermit_49 : decode cX10_hermit 49 = .ok (.invokestatic 102, 3) := by decide +kernel
theorem dX10_hermit_52 : decode cX10_hermit 52 = .ok (.ifCond .eq 14, 3) := by decide +kernel
theorem dX10_hermit_55 : decode cX10_hermit 55 = .ok (.iload 6, 2) := by decide +kernel
theorem dX10_hermit_57 : decode cX10_hermit 57 = .ok (.iconst 0, 1) := by decide +kernel
theorem dX10_hermit_58 : decode cX10_hermit 58 = .ok (.bipush 99, 2) := by decide +kernel
theorem dX10_hermit_60 : decode cX10_hermit 60 = .ok (.invokestatic 102, 3) := by decide +kernel
theorem dX10_hermit_63 : decode cX10_hermit 63 = .ok (.ifCond .ne 6, 3) := by decide +kernel
theorem dX10_hermit_66 : decode cX10_hermit 66 = .ok (.bipush (-102), 2) := by decide +kernel
theorem dX10_hermit_68 : decode cX10_hermit 68 = .ok (.ireturn, 1) := by decide +kernel
theorem dX10_hermit_69 : decode cX10_hermit 69 = .ok (.aload_n 0, 1) := by decide +kernel
theorem dX10_hermit_70 : decode cX10_hermit 70 = .ok (.getfield 12, 3) := by decide +kernel
theorem dX10_hermit_73 : decode cX10_hermit 73 = .ok (.invokevirtual 81, 3) := by decide +kernel
theorem dX10_hermit_76 : decode cX10_hermit 76 = .ok (.istore 7, 2) := by decide +kernel
theorem dX10_hermit_78 : decode cX10_hermit 78 = .ok (.iload 7, 2) := by decide +kernel
theorem dX10_hermit_80 : decode cX10_hermit 80 = .ok (.bipush 10, 2) := by decide +kernel
theorem dX10_hermit_82 : decode cX10_hermit 82 = .ok (.if_icmp .lt 6, 3) := by decide +kernel
theorem dX10_hermit_85 : decode cX10_hermit 85 = .ok (.bipush (-104), 2) := by decide +kernel
theorem dX10_hermit_87 : decode cX10_hermit 87 = .ok (.ireturn, 1) := by decide +kernel
theorem dX10_hermit_88 : decode cX10_hermit 88 = .ok (.aload_n 0, 1) := by decide +kernel
theorem dX10_hermit_89 : decode cX10_hermit 89 = .ok (.getfield 12, 3) := by decide +kernel
theorem dX10_hermit_92 : decode cX10_hermit 92 = .ok (.iload_n 1, 1) := by decide +kernel
theorem dX10_hermit_93 : decode cX10_hermit 93 = .ok (.iload_n 2, 1) := by decide +kernel
theorem dX10_hermit_94 : decode cX10_hermit 94 = .ok (.iload_n 3, 1) := by decide +kernel
theorem dX10_hermit_95 : decode cX10_hermit 95 = .ok (.iload 4, 2) := by decide +kernel
theorem dX10_hermit_97 : decode cX10_hermit 97 = .ok (.iload 5, 2) := by decide +kernel
theorem dX10_hermit_99 : decode cX10_hermit 99 = .ok (.invokestatic 112, 3) := by decide +kernel
theorem dX10_hermit_102 : decode cX10_hermit 102 = .ok (.invokevirtual 90, 3) := by decide +kernel
theorem dX10_hermit_105 : decode cX10_hermit 105 = .ok (.pop, 1) := by decide +kernel
theorem dX10_hermit_106 : decode cX10_hermit 106 = .ok (.aload_n 0, 1) := by decide +kernel
theorem dX10_hermit_107 : decode cX10_hermit 107 = .ok (.getfield 31, 3) := by decide +kernel
theorem dX10_hermit_110 : decode cX10_hermit 110 = .ok (.getfield 116, 3) := by decide +kernel
theorem dX10_hermit_113 : decode cX10_hermit 113 = .ok (.iload 7, 2) := by decide +kernel
theorem dX10_hermit_115 : decode cX10_hermit 115 = .ok (.iload 6, 2) := by decide +kernel
theorem dX10_hermit_117 : decode cX10_hermit 117 = .ok (.iastore, 1) := by decide +kernel
theorem dX10_hermit_118 : decode cX10_hermit 118 = .ok (.iload 7, 2) := by decide +kernel
theorem dX10_hermit_120 : decode cX10_hermit 120 = .ok (.ireturn, 1) := by decide +kernel
theorem dX10_as_0 : decode cX10_as 0 = .ok (.aload_n 0, 1) := by decide +kernel
theorem dX10_as_1 : decode cX10_as 1 = .ok (.iload_n 1, 1) := by decide +kernel
theorem dX10_as_2 : decode cX10_as 2 = .ok (.invokevirtual 120, 3) := by decide +kernel
theorem dX10_as_5 : decode cX10_as 5 = .ok (.ifCond .ne 6, 3) := by decide +kernel
theorem dX10_as_8 : decode cX10_as 8 = .ok (.bipush (-101), 2) := by decide +kernel
theorem dX10_as_10 : decode cX10_as 10 = .ok (.ireturn, 1) := by decide +kernel
theorem dX10_as_11 : decode cX10_as 11 = .ok (.iload_n 2, 1) := by decide +kernel
theorem dX10_as_12 : decode cX10_as 12 = .ok (.iconst 0, 1) := by decide +kernel
theorem dX10_as_13 : decode cX10_as 13 = .ok (.iconst 4, 1) := by decide +kernel
theorem dX10_as_14 : decode cX10_as 14 = .ok (.invokestatic 102, 3) := by decide +kernel
theorem dX10_as_17 : decode cX10_as 17 = .ok (.ifCond .ne 6, 3) := by decide +kernel
theorem dX10_as_20 : decode cX10_as 20 = .ok (.bipush (-102), 2) := by decide +kernel
theorem dX10_as_22 : decode cX10_as 22 = .ok (.ireturn, 1) := by decide +kernel
theorem dX10_as_23 : decode cX10_as 23 = .ok (.aload_n 0, 1) := by decide +kernel
theorem dX10_as_24 : decode cX10_as 24 = .ok (.getfield 12, 3) := by decide +kernel
theorem dX10_as_27 : decode cX10_as 27 = .ok (.iload_n 1, 1) := by decide +kernel
theorem dX10_as_28 : decode cX10_as 28 = .ok (.invokevirtual 124, 3) := by decide +kernel
theorem dX10_as_31 : decode cX10_as 31 = .ok (.checkcast 128, 3) := by decide +kernel
theorem dX10_as_34 : decode cX10_as 34 = .ok (.iload_n 2, 1) := by decide +kernel
theorem dX10_as_35 : decode cX10_as 35 = .ok (.invokevirtual 130, 3) := by decide +kernel
theorem dX10_as_38 : decode cX10_as 38 = .ok (.ifCond .eq 7, 3) := by decide +kernel
theorem dX10_as_41 : decode cX10_as 41 = .ok (.iload_n 1, 1) := by decide +kernel
theorem dX10_as_42 : decode cX10_as 42 = .ok (.goto 4, 3) := by decide +kernel
theorem dX10_as_45 : decode cX10_as 45 = .ok (.iconst (-1), 1) := by decide +kernel
theorem dX10_as_46 : decode cX10_as 46 = .ok (.ireturn, 1) := by decide +kernel
theorem dX10_about_0 : decode cX10_about 0 = .ok (.aload_n 0, 1) := by decide +kernel
theorem dX10_about_1 : decode cX10_about 1 = .ok (.iload_n 1, 1) := by decide +kernel
theorem dX10_about_2 : decode cX10_about 2 = .ok (.invokevirtual 120, 3) := by decide +kernel
theorem dX10_about_5 : decode cX10_about 5 = .ok (.ifCond .ne 7, 3) := by decide +kernel
theorem dX10_about_8 : decode cX10_about 8 = .ok (.sipush (-1001), 3) := by decide +kernel
theorem dX10_about_11 : decode cX10_about 11 = .ok (.ireturn, 1) := by decide +kernel
theorem dX10_about_12 : decode cX10_about 12 = .ok (.iload_n 2, 1) := by decide +kernel
theorem dX10_about_13 : decode cX10_about 13 = .ok (.iconst 0, 1) := by decide +kernel
theorem dX10_about_14 : decode cX10_about 14 = .ok (.bipush 6, 2) := by decide +kernel
theorem dX10_about_16 : decode cX10_about 16 = .ok (.invokestatic 102, 3) := by decide +kernel
theorem dX10_about_19 : decode cX10_about 19 = .ok (.ifCond .eq 12, 3) := by decide +kernel
theorem dX10_about_22 : decode cX10_about 22 = .ok (.aload_n 0, 1) := by decide +kernel
theorem dX10_about_23 : decode cX10_about 23 = .ok (.iload_n 1, 1) := by decide +kernel
theorem dX10_about_24 : decode cX10_about 24 = .ok (.iload_n 2, 1) := by decide +kernel
theorem dX10_about_25 : decode cX10_about 25 = .ok (.invokevirtual 133, 3) := by decide +kernel
theorem dX10_about_28 : decode cX10_about 28 = .ok (.goto 6, 3) := by decide +kernel
theorem dX10_about_31 : decode cX10_about 31 = .ok (.sipush (-1002), 3) := by decide +kernel
theorem dX10_about_34 : decode cX10_about 34 = .ok (.ireturn, 1) := by decide +kernel
theorem dX10_store_0 : decode cX10_store 0 = .ok (.aload_n 0, 1) := by decide +kernel
theorem dX10_store_1 : decode cX10_store 1 = .ok (.iload_n 1, 1) := by decide +kernel
theorem dX10_store_2 : decode cX10_store 2 = .ok (.invokevirtual 120, 3) := by decide +kernel
theorem dX10_store_5 : decode cX10_store 5 = .ok (.ifCond .ne 7, 3) := by decide +kernel
theorem dX10_store_8 : decode cX10_store 8 = .ok (.sipush (-1001), 3) := by decide +kernel
theorem dX10_store_11 : decode cX10_store 11 = .ok (.ireturn, 1) := by decide +kernel
theorem dX10_store_12 : decode cX10_store 12 = .ok (.iload_n 2, 1) := by decide +kernel
theorem dX10_store_13 : decode cX10_store 13 = .ok (.iconst 0, 1) := by decide +kernel
theorem dX10_store_14 : decode cX10_store 14 = .ok (.bipush 99, 2) := by decide +kernel
theorem dX10_store_16 : decode cX10_store 16 = .ok (.invokestatic 102, 3) := by decide +kernel
theorem dX10_store_19 : decode cX10_store 19 = .ok (.ifCond .ne 7, 3) := by decide +kernel
theorem dX10_store_22 : decode cX10_store 22 = .ok (.sipush (-1002), 3) := by decide +kernel
theorem dX10_store_25 : decode cX10_store 25 = .ok (.ireturn, 1) := by decide +kernel
theorem dX10_store_26 : decode cX10_store 26 = .ok (.aload_n 0, 1) := by decide +kernel
theorem dX10_store_27 : decode cX10_store 27 = .ok (.getfield 31, 3) := by decide +kernel
theorem dX10_store_30 : decode cX10_store 30 = .ok (.getfield 116, 3) := by decide +kernel
theorem dX10_store_33 : decode cX10_store 33 = .ok (.iload_n 1, 1) := by decide +kernel
theorem dX10_store_34 : decode cX10_store 34 = .ok (.iaload, 1) := by decide +kernel
theorem dX10_store_35 : decode cX10_store 35 = .ok (.istore_n 3, 1) := by decide +kernel
theorem dX10_store_36 : decode cX10_store 36 = .ok (.aload_n 0, 1) := by decide +kernel
theorem dX10_store_37 : decode cX10_store 37 = .ok (.getfield 31, 3) := by decide +kernel
theorem dX10_store_40 : decode cX10_store 40 = .ok (.getfield 116, 3) := by decide +kernel
theorem dX10_store_43 : decode cX10_store 43 = .ok (.iload_n 1, 1) := by decide +kernel
theorem dX10_store_44 : decode cX10_store 44 = .ok (.iload_n 2, 1) := by decide +kernel
theorem dX10_store_45 : decode cX10_store 45 = .ok (.iastore, 1) := by decide +kernel
theorem dX10_store_46 : decode cX10_store 46 = .ok (.iload_n 3, 1) := by decide +kernel
theorem dX10_store_47 : decode cX10_store 47 = .ok (.ireturn, 1) := by decide +kernel
theorem dX10_change_0 : decode cX10_change 0 = .ok (.aload_n 0, 1) := by decide +kernel
theorem dX10_change_1 : decode cX10_change 1 = .ok (.iload_n 1, 1) := by decide +kernel
theorem dX10_change_2 : decode cX10_change 2 = .ok (.invokevirtual 137, 3) := by decide +kernel
theorem dX10_change_5 : decode cX10_change 5 = .ok (.ifCond .eq 16, 3) := by decide +kernel
theorem dX10_change_8 : decode cX10_change 8 = .ok (.aload_n 0, 1) := by decide +kernel
theorem dX10_change_9 : decode cX10_change 9 = .ok (.iload_n 2, 1) := by decide +kernel
theorem dX10_change_10 : decode cX10_change 10 = .ok (.invokevirtual 137, 3) := by decide +kernel
theorem dX10_change_13 : decode cX10_change 13 = .ok (.ifCond .eq 8, 3) := by decide +kernel
theorem dX10_change_16 : decode cX10_change 16 = .ok (.iload_n 1, 1) := by decide +kernel
theorem dX10_change_17 : decode cX10_change 17 = .ok (.iload_n 2, 1) := by decide +kernel
theorem dX10_change_18 : decode cX10_change 18 = .ok (.if_icmp .ne 6, 3) := by decide +kernel
theorem dX10_change_21 : decode cX10_change 21 = .ok (.bipush (-101), 2) := by decide +kernel
theorem dX10_change_23 : decode cX10_change 23 = .ok (.ireturn, 1) := by decide +kernel
theorem dX10_change_24 : decode cX10_change 24 = .ok (.aload_n 0, 1) := by decide +kernel
theorem dX10_change_25 : decode cX10_change 25 = .ok (.getfield 31, 3) := by decide +kernel
theorem dX10_change_28 : decode cX10_change 28 = .ok (.iload_n 1, 1) := by decide +kernel
theorem dX10_change_29 : decode cX10_change 29 = .ok (.iload_n 2, 1) := by decide +kernel
theorem dX10_change_30 : decode cX10_change 30 = .ok (.invokevirtual 140, 3) := by decide +kernel
theorem dX10_change_33 : decode cX10_change 33 = .ok (.aload_n 0, 1) := by decide +kernel
theorem dX10_change_34 : decode cX10_change 34 = .ok (.getfield 31, 3) := by decide +kernel
theorem dX10_change_37 : decode cX10_change 37 = .ok (.getfield 144, 3) := by decide +kernel
theorem dX10_change_40 : decode cX10_change 40 = .ok (.iload_n 1, 1) := by decide +kernel
theorem dX10_change_41 : decode cX10_change 41 = .ok (.iaload, 1) := by decide +kernel
theorem dX10_change_42 : decode cX10_change 42 = .ok (.ireturn, 1) := by decide +kernel
theorem dX10_soup_0 : decode cX10_soup 0 = .ok (.iload_n 1, 1) := by decide +kernel
theorem dX10_soup_1 : decode cX10_soup 1 = .ok (.iconst 0, 1) := by decide +kernel
theorem dX10_soup_2 : decode cX10_soup 2 = .ok (.iconst 4, 1) := by decide +kernel
theorem dX10_soup_3 : decode cX10_soup 3 = .ok (.invokestatic 102, 3) := by decide +kernel
theorem dX10_soup_6 : decode cX10_soup 6 = .ok (.ifCond .ne 6, 3) := by decide +kernel
theorem dX10_soup_9 : decode cX10_soup 9 = .ok (.bipush (-101), 2) := by decide +kernel
theorem dX10_soup_11 : decode cX10_soup 11 = .ok (.ireturn, 1) := by decide +kernel
theorem dX10_soup_12 : decode cX10_soup 12 = .ok (.iload_n 2, 1) := by decide +kernel
theorem dX10_soup_13 : decode cX10_soup 13 = .ok (.iconst 0, 1) := by decide +kernel
theorem dX10_soup_14 : decode cX10_soup 14 = .ok (.bipush 99, 2) := by decide +kernel
theorem dX10_soup_16 : decode cX10_soup 16 = .ok (.invokestatic 102, 3) := by decide +kernel
theorem dX10_soup_19 : decode cX10_soup 19 = .ok (.ifCond .ne 6, 3) := by decide +kernel
theorem dX10_soup_22 : decode cX10_soup 22 = .ok (.bipush (-102), 2) := by decide +kernel
theorem dX10_soup_24 : decode cX10_soup 24 = .ok (.ireturn, 1) := by decide +kernel
theorem dX10_soup_25 : decode cX10_soup 25 = .ok (.aload_n 0, 1) := by decide +kernel
theorem dX10_soup_26 : decode cX10_soup 26 = .ok (.getfield 31, 3) := by decide +kernel
theorem dX10_soup_29 : decode cX10_soup 29 = .ok (.getfield 147, 3) := by decide +kernel
theorem dX10_soup_32 : decode cX10_soup 32 = .ok (.iload_n 1, 1) := by decide +kernel
theorem dX10_soup_33 : decode cX10_soup 33 = .ok (.iaload, 1) := by decide +kernel
theorem dX10_soup_34 : decode cX10_soup 34 = .ok (.istore_n 3, 1) := by decide +kernel
theorem dX10_soup_35 : decode cX10_soup 35 = .ok (.aload_n 0, 1) := by decide +kernel
theorem dX10_soup_36 : decode cX10_soup 36 = .ok (.getfield 31, 3) := by decide +kernel
theorem dX10_soup_39 : decode cX10_soup 39 = .ok (.getfield 147, 3) := by decide +kernel
theorem dX10_soup_42 : decode cX10_soup 42 = .ok (.iload_n 1, 1) := by decide +kernel
theorem dX10_soup_43 : decode cX10_soup 43 = .ok (.iload_n 2, 1) := by decide +kernel
theorem dX10_soup_44 : decode cX10_soup 44 = .ok (.iastore, 1) := by decide +kernel
theorem dX10_soup_45 : decode cX10_soup 45 = .ok (.iload_n 3, 1) := by decide +kernel
theorem dX10_soup_46 : decode cX10_soup 46 = .ok (.ireturn, 1) := by decide +kernel
theorem dX10_heat_0 : decode cX10_heat 0 = .ok (.iload_n 1, 1) := by decide +kernel
theorem dX10_heat_1 : decode cX10_heat 1 = .ok (.iconst 0, 1) := by decide +kernel
theorem dX10_heat_2 : decode cX10_heat 2 = .ok (.sipush 300, 3) := by decide +kernel
theorem dX10_heat_5 : decode cX10_heat 5 = .ok (.invokestatic 102, 3) := by decide +kernel
theorem dX10_heat_8 : decode cX10_heat 8 = .ok (.ifCond .ne 6, 3) := by decide +kernel
theorem dX10_heat_11 : decode cX10_heat 11 = .ok (.bipush (-102), 2) := by decide +kernel
theorem dX10_heat_13 : decode cX10_heat 13 = .ok (.ireturn, 1) := by decide +kernel
theorem dX10_heat_14 : decode cX10_heat 14 = .ok (.aload_n 0, 1) := by decide +kernel
theorem dX10_heat_15 : decode cX10_heat 15 = .ok (.getfield 31, 3) := by decide +kernel
theorem dX10_heat_18 : decode cX10_heat 18 = .ok (.getfield 150, 3) := by decide +kernel
theorem dX10_heat_21 : decode cX10_heat 21 = .ok (.istore_n 2, 1) := by decide +kernel
theorem dX10_heat_22 : decode cX10_heat 22 = .ok (.aload_n 0, 1) := by decide +kernel
theorem dX10_heat_23 : decode cX10_heat 23 = .ok (.getfield 31, 3) := by decide +kernel
theorem dX10_heat_26 : decode cX10_heat 26 = .ok (.iload_n 1, 1) := by decide +kernel
theorem dX10_heat_27 : decode cX10_heat 27 = .ok (.putfield 150, 3) := by decide +kernel
theorem dX10_heat_30 : decode cX10_heat 30 = .ok (.iload_n 2, 1) := by decide +kernel
theorem dX10_heat_31 : decode cX10_heat 31 = .ok (.ireturn, 1) := by decide +kernel
theorem dX10_feast_0 : decode cX10_feast 0 = .ok (.aload_n 0, 1) := by decide +kernel
theorem dX10_feast_1 : decode cX10_feast 1 = .ok (.getfield 31, 3) := by decide +kernel
theorem dX10_feast_4 : decode cX10_feast 4 = .ok (.getfield 153, 3) := by decide +kernel
theorem dX10_feast_7 : decode cX10_feast 7 = .ok (.invokestatic 156, 3) := by decide +kernel
theorem dX10_feast_10 : decode cX10_feast 10 = .ok (.istore_n 2, 1) := by decide +kernel
theorem dX10_feast_11 : decode cX10_feast 11 = .ok (.aload_n 0, 1) := by decide +kernel
theorem dX10_feast_12 : decode cX10_feast 12 = .ok (.getfield 31, 3) := by decide +kernel
theorem dX10_feast_15 : decode cX10_feast 15 = .ok (.iload_n 1, 1) := by decide +kernel
theorem dX10_feast_16 : decode cX10_feast 16 = .ok (.putfield 153, 3) := by decide +kernel
theorem dX10_feast_19 : decode cX10_feast 19 = .ok (.iload_n 2, 1) := by decide +kernel
theorem dX10_feast_20 : decode cX10_feast 20 = .ok (.ireturn, 1) := by decide +kernel
theorem dX10_day_0 : decode cX10_day 0 = .ok (.aload_n 0, 1) := by decide +kernel
theorem dX10_day_1 : decode cX10_day 1 = .ok (.iload_n 1, 1) := by decide +kernel
theorem dX10_day_2 : decode cX10_day 2 = .ok (.invokevirtual 94, 3) := by decide +kernel
theorem dX10_day_5 : decode cX10_day 5 = .ok (.astore 5, 2) := by decide +kernel
theorem dX10_day_7 : decode cX10_day 7 = .ok (.aload 5, 2) := by decide +kernel
theorem dX10_day_9 : decode cX10_day 9 = .ok (.ifnull 11, 3) := by decide +kernel
theorem dX10_day_12 : decode cX10_day 12 = .ok (.aload_n 0, 1) := by decide +kernel
theorem dX10_day_13 : decode cX10_day 13 = .ok (.iload_n 2, 1) := by decide +kernel
theorem dX10_day_14 : decode cX10_day 14 = .ok (.invokevirtual 137, 3) := by decide +kernel
theorem dX10_day_17 : decode cX10_day 17 = .ok (.ifCond .ne 6, 3) := by decide +kernel
theorem dX10_day_20 : decode cX10_day 20 = .ok (.bipush (-101), 2) := by decide +kernel
theorem dX10_day_22 : decode cX10_day 22 = .ok (.ireturn, 1) := by decide +kernel
theorem dX10_day_23 : decode cX10_day 23 = .ok (.aload_n 0, 1) := by decide +kernel
theorem dX10_day_24 : decode cX10_day 24 = .ok (.iload_n 3, 1) := by decide +kernel
theorem dX10_day_25 : decode cX10_day 25 = .ok (.invokevirtual 160, 3) := by decide +kernel
theorem dX10_day_28 : decode cX10_day 28 = .ok (.ifCond .eq 13, 3) := by decide +kernel
theorem dX10_day_31 : decode cX10_day 31 = .ok (.iload 4, 2) := by decide +kernel
theorem dX10_day_33 : decode cX10_day 33 = .ok (.iconst 0, 1) := by decide +kernel
theorem dX10_day_34 : decode cX10_day 34 = .ok (.iconst 5, 1) := by decide +kernel
theorem dX10_day_35 : decode cX10_day 35 = .ok (.invokestatic 102, 3) := by decide +kernel
theorem dX10_day_38 : decode cX10_day 38 = .ok (.ifCond .ne 6, 3) := by decide +kernel
theorem dX10_day_41 : decode cX10_day 41 = .ok (.bipush (-102), 2) := by decide +kernel
theorem dX10_day_43 : decode cX10_day 43 = .ok (.ireturn, 1) := by decide +kernel
theorem dX10_day_44 : decode cX10_day 44 = .ok (.aload_n 0, 1) := by decide +kernel
theorem dX10_day_45 : decode cX10_day 45 = .ok (.getfield 47, 3) := by decide +kernel
theorem dX10_day_48 : decode cX10_day 48 = .ok (.aload_n 0, 1) := by decide +kernel
theorem dX10_day_49 : decode cX10_day 49 = .ok (.getfield 31, 3) := by decide +kernel
theorem dX10_day_52 : decode cX10_day 52 = .ok (.aload 5, 2) := by decide +kernel
theorem dX10_day_54 : decode cX10_day 54 = .ok (.iload_n 2, 1) := by decide +kernel
theorem dX10_day_55 : decode cX10_day 55 = .ok (.iload_n 3, 1) := by decide +kernel
theorem dX10_day_56 : decode cX10_day 56 = .ok (.invokevirtual 163, 3) := by decide +kernel
theorem dX10_day_59 : decode cX10_day 59 = .ok (.aload_n 0, 1) := by decide +kernel
theorem dX10_day_60 : decode cX10_day 60 = .ok (.getfield 47, 3) := by decide +kernel
theorem dX10_day_63 : decode cX10_day 63 = .ok (.iload 4, 2) := by decide +kernel
theorem dX10_day_65 : decode cX10_day 65 = .ok (.invokevirtual 167, 3) := by decide +kernel
theorem dX10_day_68 : decode cX10_day 68 = .ok (.ireturn, 1) := by decide +kernel
theorem dX10_meal_0 : decode cX10_meal 0 = .ok (.aload_n 0, 1) := by decide +kernel
theorem dX10_meal_1 : decode cX10_meal 1 = .ok (.iload_n 1, 1) := by decide +kernel
theorem dX10_meal_2 : decode cX10_meal 2 = .ok (.invokevirtual 94, 3) := by decide +kernel
theorem dX10_meal_5 : decode cX10_meal 5 = .ok (.astore 5, 2) := by decide +kernel
theorem dX10_meal_7 : decode cX10_meal 7 = .ok (.aload 5, 2) := by decide +kernel
theorem dX10_meal_9 : decode cX10_meal 9 = .ok (.ifnull 20, 3) := by decide +kernel
theorem dX10_meal_12 : decode cX10_meal 12 = .ok (.aload_n 0, 1) := by decide +kernel
theorem dX10_meal_13 : decode cX10_meal 13 = .ok (.iload_n 2, 1) := by decide +kernel
theorem dX10_meal_14 : decode cX10_meal 14 = .ok (.invokevirtual 137, 3) := by decide +kernel
theorem dX10_meal_17 : decode cX10_meal 17 = .ok (.ifCond .eq 12, 3) := by decide +kernel
theorem dX10_meal_20 : decode cX10_meal 20 = .ok (.aload_n 0, 1) := by decide +kernel
theorem dX10_meal_21 : decode cX10_meal 21 = .ok (.iload 4, 2) := by decide +kernel
theorem dX10_meal_23 : decode cX10_meal 23 = .ok (.invokevirtual 120, 3) := by decide +kernel
theorem dX10_meal_26 : decode cX10_meal 26 = .ok (.ifCond .ne 6, 3) := by decide +kernel
theorem dX10_meal_29 : decode cX10_meal 29 = .ok (.bipush (-101), 2) := by decide +kernel
theorem dX10_meal_31 : decode cX10_meal 31 = .ok (.ireturn, 1) := by decide +kernel
theorem dX10_meal_32 : decode cX10_meal 32 = .ok (.aload_n 0, 1) := by decide +kernel
theorem dX10_meal_33 : decode cX10_meal 33 = .ok (.iload_n 3, 1) := by decide +kernel
theorem dX10_meal_34 : decode cX10_meal 34 = .ok (.invokevirtual 160, 3) := by decide +kernel
theorem dX10_meal_37 : decode cX10_meal 37 = .ok (.ifCond .ne 6, 3) := by decide +kernel
theorem dX10_meal_40 : decode cX10_meal 40 = .ok (.bipush (-102), 2) := by decide +kernel
theorem dX10_meal_42 : decode cX10_meal 42 = .ok (.ireturn, 1) := by decide +kernel
theorem dX10_meal_43 : decode cX10_meal 43 = .ok (.aload_n 0, 1) := by decide +kernel
theorem dX10_meal_44 : decode cX10_meal 44 = .ok (.getfield 47, 3) := by decide +kernel
theorem dX10_meal_47 : decode cX10_meal 47 = .ok (.aload_n 0, 1) := by decide +kernel
theorem dX10_meal_48 : decode cX10_meal 48 = .ok (.getfield 31, 3) := by decide +kernel
theorem dX10_meal_51 : decode cX10_meal 51 = .ok (.aload 5, 2) := by decide +kernel
theorem dX10_meal_53 : decode cX10_meal 53 = .ok (.iload_n 2, 1) := by decide +kernel
theorem dX10_meal_54 : decode cX10_meal 54 = .ok (.iload_n 3, 1) := by decide +kernel
theorem dX10_meal_55 : decode cX10_meal 55 = .ok (.invokevirtual 163, 3) := by decide +kernel
theorem dX10_meal_58 : decode cX10_meal 58 = .ok (.aload_n 0, 1) := by decide +kernel
theorem dX10_meal_59 : decode cX10_meal 59 = .ok (.getfield 47, 3) := by decide +kernel
theorem dX10_meal_62 : decode cX10_meal 62 = .ok (.getfield 168, 3) := by decide +kernel
theorem dX10_meal_65 : decode cX10_meal 65 = .ok (.iload 4, 2) := by decide +kernel
theorem dX10_meal_67 : decode cX10_meal 67 = .ok (.iaload, 1) := by decide +kernel
theorem dX10_meal_68 : decode cX10_meal 68 = .ok (.ireturn, 1) := by decide +kernel
theorem dX10_bite_0 : decode cX10_bite 0 = .ok (.aload_n 0, 1) := by decide +kernel
theorem dX10_bite_1 : decode cX10_bite 1 = .ok (.iload_n 1, 1) := by decide +kernel
theorem dX10_bite_2 : decode cX10_bite 2 = .ok (.invokevirtual 94, 3) := by decide +kernel
theorem dX10_bite_5 : decode cX10_bite 5 = .ok (.astore 6, 2) := by decide +kernel
theorem dX10_bite_7 : decode cX10_bite 7 = .ok (.aload 6, 2) := by decide +kernel
theorem dX10_bite_9 : decode cX10_bite 9 = .ok (.ifnull 11, 3) := by decide +kernel
theorem dX10_bite_12 : decode cX10_bite 12 = .ok (.aload_n 0, 1) := by decide +kernel
theorem dX10_bite_13 : decode cX10_bite 13 = .ok (.iload_n 2, 1) := by decide +kernel
theorem dX10_bite_14 : decode cX10_bite 14 = .ok (.invokevirtual 137, 3) := by decide +kernel
theorem dX10_bite_17 : decode cX10_bite 17 = .ok (.ifCond .ne 6, 3) := by decide +kernel
theorem dX10_bite_20 : decode cX10_bite 20 = .ok (.bipush (-101), 2) := by decide +kernel
theorem dX10_bite_22 : decode cX10_bite 22 = .ok (.ireturn, 1) := by decide +kernel
theorem dX10_bite_23 : decode cX10_bite 23 = .ok (.aload_n 0, 1) := by decide +kernel
theorem dX10_bite_24 : decode cX10_bite 24 = .ok (.iload_n 3, 1) := by decide +kernel
theorem dX10_bite_25 : decode cX10_bite 25 = .ok (.invokevirtual 160, 3) := by decide +kernel
theorem dX10_bite_28 : decode cX10_bite 28 = .ok (.ifCond .eq 25, 3) := by decide +kernel
theorem dX10_bite_31 : decode cX10_bite 31 = .ok (.iload 4, 2) := by decide +kernel
theorem dX10_bite_33 : decode cX10_bite 33 = .ok (.iconst 0, 1) := by decide +kernel
theorem dX10_bite_34 : decode cX10_bite 34 = .ok (.sipush 599, 3) := by decide +kernel
theorem dX10_bite_37 : decode cX10_bite 37 = .ok (.invokestatic 102, 3) := by decide +kernel
theorem dX10_bite_40 : decode cX10_bite 40 = .ok (.ifCond .eq 13, 3) := by decide +kernel
theorem dX10_bite_43 : decode cX10_bite 43 = .ok (.iload 5, 2) := by decide +kernel
theorem dX10_bite_45 : decode cX10_bite 45 = .ok (.iconst 0, 1) := by decide +kernel
theorem dX10_bite_46 : decode cX10_bite 46 = .ok (.iconst 4, 1) := by decide +kernel
theorem dX10_bite_47 : decode cX10_bite 47 = .ok (.invokestatic 102, 3) := by decide +kernel
theorem dX10_bite_50 : decode cX10_bite 50 = .ok (.ifCond .ne 6, 3) := by decide +kernel
theorem dX10_bite_53 : decode cX10_bite 53 = .ok (.bipush (-102), 2) := by decide +kernel
theorem dX10_bite_55 : decode cX10_bite 55 = .ok (.ireturn, 1) := by decide +kernel
theorem dX10_bite_56 : decode cX10_bite 56 = .ok (.aload_n 0, 1) := by decide +kernel
theorem dX10_bite_57 : decode cX10_bite 57 = .ok (.getfield 47, 3) := by decide +kernel
theorem dX10_bite_60 : decode cX10_bite 60 = .ok (.aload_n 0, 1) := by decide +kernel
theorem dX10_bite_61 : decode cX10_bite 61 = .ok (.getfield 31, 3) := by decide +kernel
theorem dX10_bite_64 : decode cX10_bite 64 = .ok (.invokevirtual 171, 3) := by decide +kernel
theorem dX10_bite_67 : decode cX10_bite 67 = .ok (.aload_n 0, 1) := by decide +kernel
theorem dX10_bite_68 : decode cX10_bite 68 = .ok (.getfield 47, 3) := by decide +kernel
theorem dX10_bite_71 : decode cX10_bite 71 = .ok (.iload 4, 2) := by decide +kernel
theorem dX10_bite_73 : decode cX10_bite 73 = .ok (.putfield 174, 3) := by decide +kernel
theorem dX10_bite_76 : decode cX10_bite 76 = .ok (.aload_n 0, 1) := by decide +kernel
theorem dX10_bite_77 : decode cX10_bite 77 = .ok (.getfield 47, 3) := by decide +kernel
theorem dX10_bite_80 : decode cX10_bite 80 = .ok (.aload 6, 2) := by decide +kernel
theorem dX10_bite_82 : decode cX10_bite 82 = .ok (.aload 6, 2) := by decide +kernel
theorem dX10_bite_84 : decode cX10_bite 84 = .ok (.getfield 177, 3) := by decide +kernel
theorem dX10_bite_87 : decode cX10_bite 87 = .ok (.iload_n 2, 1) := by decide +kernel
theorem dX10_bite_88 : decode cX10_bite 88 = .ok (.iload_n 3, 1) := by decide +kernel
theorem dX10_bite_89 : decode cX10_bite 89 = .ok (.sipush 300, 3) := by decide +kernel
theorem dX10_bite_92 : decode cX10_bite 92 = .ok (.invokevirtual 180, 3) := by decide +kernel
theorem dX10_bite_95 : decode cX10_bite 95 = .ok (.aload_n 0, 1) := by decide +kernel
theorem dX10_bite_96 : decode cX10_bite 96 = .ok (.getfield 47, 3) := by decide +kernel
theorem dX10_bite_99 : decode cX10_bite 99 = .ok (.getfield 184, 3) := by decide +kernel
theorem dX10_bite_102 : decode cX10_bite 102 = .ok (.iload 4, 2) := by decide +kernel
theorem dX10_bite_104 : decode cX10_bite 104 = .ok (.if_icmp .le 16, 3) := by decide +kernel
theorem dX10_bite_107 : decode cX10_bite 107 = .ok (.aload_n 0, 1) := by decide +kernel
theorem dX10_bite_108 : decode cX10_bite 108 = .ok (.getfield 47, 3) := by decide +kernel
theorem dX10_bite_111 : decode cX10_bite 111 = .ok (.getfield 187, 3) := by decide +kernel
theorem dX10_bite_114 : decode cX10_bite 114 = .ok (.iload 5, 2) := by decide +kernel
theorem dX10_bite_116 : decode cX10_bite 116 = .ok (.iaload, 1) := by decide +kernel
theorem dX10_bite_117 : decode cX10_bite 117 = .ok (.goto 4, 3) := by decide +kernel
theorem dX10_bite_120 : decode cX10_bite 120 = .ok (.iconst (-1), 1) := by decide +kernel
theorem dX10_bite_121 : decode cX10_bite 121 = .ok (.ireturn, 1) := by decide +kernel
theorem dX10_least_0 : decode cX10_least 0 = .ok (.aload_n 0, 1) := by decide +kernel
theorem dX10_least_1 : decode cX10_least 1 = .ok (.iload_n 1, 1) := by decide +kernel
theorem dX10_least_2 : decode cX10_least 2 = .ok (.invokevirtual 94, 3) := by decide +kernel
theorem dX10_least_5 : decode cX10_least 5 = .ok (.astore_n 3, 1) := by decide +kernel
theorem dX10_least_6 : decode cX10_least 6 = .ok (.aload_n 3, 1) := by decide +kernel
theorem dX10_least_7 : decode cX10_least 7 = .ok (.ifnull 11, 3) := by decide +kernel
theorem dX10_least_10 : decode cX10_least 10 = .ok (.aload_n 0, 1) := by decide +kernel
theorem dX10_least_11 : decode cX10_least 11 = .ok (.iload_n 2, 1) := by decide +kernel
theorem dX10_least_12 : decode cX10_least 12 = .ok (.invokevirtual 137, 3) := by decide +kernel
theorem dX10_least_15 : decode cX10_least 15 = .ok (.ifCond .ne 7, 3) := by decide +kernel
theorem dX10_least_18 : decode cX10_least 18 = .ok (.sipush (-1001), 3) := by decide +kernel
theorem dX10_least_21 : decode cX10_least 21 = .ok (.ireturn, 1) := by decide +kernel
theorem dX10_least_22 : decode cX10_least 22 = .ok (.aload_n 0, 1) := by decide +kernel
theorem dX10_least_23 : decode cX10_least 23 = .ok (.getfield 47, 3) := by decide +kernel
theorem dX10_least_26 : decode cX10_least 26 = .ok (.aload_n 0, 1) := by decide +kernel
theorem dX10_least_27 : decode cX10_least 27 = .ok (.getfield 31, 3) := by decide +kernel
theorem dX10_least_30 : decode cX10_least 30 = .ok (.aload_n 3, 1) := by decide +kernel
theorem dX10_least_31 : decode cX10_least 31 = .ok (.aload_n 3, 1) := by decide +kernel
theorem dX10_least_32 : decode cX10_least 32 = .ok (.getfield 177, 3) := by decide +kernel
theorem dX10_least_35 : decode cX10_least 35 = .ok (.iload_n 2, 1) := by decide +kernel
theorem dX10_least_36 : decode cX10_least 36 = .ok (.invokevirtual 190, 3) := by decide +kernel
theorem dX10_least_39 : decode cX10_least 39 = .ok (.ireturn, 1) := by decide +kernel
theorem dX10_bestStart_0 : decode cX10_bestStart 0 = .ok (.aload_n 0, 1) := by decide +kernel
theorem dX10_bestStart_1 : decode cX10_bestStart 1 = .ok (.iload_n 1, 1) := by decide +kernel
theorem dX10_bestStart_2 : decode cX10_bestStart 2 = .ok (.invokevirtual 94, 3) := by decide +kernel
theorem dX10_bestStart_5 : decode cX10_bestStart 5 = .ok (.astore_n 2, 1) := by decide +kernel
theorem dX10_bestStart_6 : decode cX10_bestStart 6 = .ok (.aload_n 2, 1) := by decide +kernel
theorem dX10_bestStart_7 : decode cX10_bestStart 7 = .ok (.ifnonnull 6, 3) := by decide +kernel
theorem dX10_bestStart_10 : decode cX10_bestStart 10 = .ok (.bipush (-101), 2) := by decide +kernel
theorem dX10_bestStart_12 : decode cX10_bestStart 12 = .ok (.ireturn, 1) := by decide +kernel
theorem dX10_bestStart_13 : decode cX10_bestStart 13 = .ok (.aload_n 0, 1) := by decide +kernel
theorem dX10_bestStart_14 : decode cX10_bestStart 14 = .ok (.getfield 12, 3) := by decide +kernel
theorem dX10_bestStart_17 : decode cX10_bestStart 17 = .ok (.invokevirtual 194, 3) := by decide +kernel
theorem dX10_bestStart_20 : decode cX10_bestStart 20 = .ok (.ifCond .eq 8, 3) := by decide +kernel
theorem dX10_bestStart_23 : decode cX10_bestStart 23 = .ok (.bipush (-103), 2) := by decide +kernel
theorem dX10_bestStart_25 : decode cX10_bestStart 25 = .ok (.goto 15, 3) := by decide +kernel
theorem dX10_bestStart_28 : decode cX10_bestStart 28 = .ok (.aload_n 0, 1) := by decide +kernel
theorem dX10_bestStart_29 : decode cX10_bestStart 29 = .ok (.getfield 56, 3) := by decide +kernel
theorem dX10_bestStart_32 : decode cX10_bestStart 32 = .ok (.aload_n 0, 1) := by decide +kernel
theorem dX10_bestStart_33 : decode cX10_bestStart 33 = .ok (.getfield 31, 3) := by decide +kernel
theorem dX10_bestStart_36 : decode cX10_bestStart 36 = .ok (.aload_n 2, 1) := by decide +kernel
theorem dX10_bestStart_37 : decode cX10_bestStart 37 = .ok (.invokevirtual 198, 3) := by decide +kernel
theorem dX10_bestStart_40 : decode cX10_bestStart 40 = .ok (.ireturn, 1) := by decide +kernel
theorem dX10_bestSwap_0 : decode cX10_bestSwap 0 = .ok (.aload_n 0, 1) := by decide +kernel
theorem dX10_bestSwap_1 : decode cX10_bestSwap 1 = .ok (.iload_n 1, 1) := by decide +kernel
theorem dX10_bestSwap_2 : decode cX10_bestSwap 2 = .ok (.invokevirtual 94, 3) := by decide +kernel
theorem dX10_bestSwap_5 : decode cX10_bestSwap 5 = .ok (.astore_n 3, 1) := by decide +kernel
theorem dX10_bestSwap_6 : decode cX10_bestSwap 6 = .ok (.aload_n 3, 1) := by decide +kernel
theorem dX10_bestSwap_7 : decode cX10_bestSwap 7 = .ok (.ifnull 11, 3) := by decide +kernel
theorem dX10_bestSwap_10 : decode cX10_bestSwap 10 = .ok (.aload_n 0, 1) := by decide +kernel
theorem dX10_bestSwap_11 : decode cX10_bestSwap 11 = .ok (.iload_n 2, 1) := by decide +kernel
theorem dX10_bestSwap_12 : decode cX10_bestSwap 12 = .ok (.invokevirtual 137, 3) := by decide +kernel
theorem dX10_bestSwap_15 : decode cX10_bestSwap 15 = .ok (.ifCond .ne 6, 3) := by decide +kernel
theorem dX10_bestSwap_18 : decode cX10_bestSwap 18 = .ok (.bipush (-101), 2) := by decide +kernel
theorem dX10_bestSwap_20 : decode cX10_bestSwap 20 = .ok (.ireturn, 1) := by decide +kernel
theorem dX10_bestSwap_21 : decode cX10_bestSwap 21 = .ok (.aload_n 0, 1) := by decide +kernel
theorem dX10_bestSwap_22 : decode cX10_bestSwap 22 = .ok (.getfield 56, 3) := by decide +kernel
theorem dX10_bestSwap_25 : decode cX10_bestSwap 25 = .ok (.aload_n 0, 1) := by decide +kernel
theorem dX10_bestSwap_26 : decode cX10_bestSwap 26 = .ok (.getfield 31, 3) := by decide +kernel
theorem dX10_bestSwap_29 : decode cX10_bestSwap 29 = .ok (.aload_n 3, 1) := by decide +kernel
theorem dX10_bestSwap_30 : decode cX10_bestSwap 30 = .ok (.iload_n 2, 1) := by decide +kernel
theorem dX10_bestSwap_31 : decode cX10_bestSwap 31 = .ok (.invokevirtual 202, 3) := by decide +kernel
theorem dX10_bestSwap_34 : decode cX10_bestSwap 34 = .ok (.ireturn, 1) := by decide +kernel
theorem dX10_bestStir_0 : decode cX10_bestStir 0 = .ok (.aload_n 0, 1) := by decide +kernel
theorem dX10_bestStir_1 : decode cX10_bestStir 1 = .ok (.iload_n 1, 1) := by decide +kernel
theorem dX10_bestStir_2 : decode cX10_bestStir 2 = .ok (.invokevirtual 94, 3) := by decide +kernel
theorem dX10_bestStir_5 : decode cX10_bestStir 5 = .ok (.astore_n 3, 1) := by decide +kernel
theorem dX10_bestStir_6 : decode cX10_bestStir 6 = .ok (.aload_n 3, 1) := by decide +kernel
theorem dX10_bestStir_7 : decode cX10_bestStir 7 = .ok (.ifnull 11, 3) := by decide +kernel
theorem dX10_bestStir_10 : decode cX10_bestStir 10 = .ok (.aload_n 0, 1) := by decide +kernel
theorem dX10_bestStir_11 : decode cX10_bestStir 11 = .ok (.iload_n 2, 1) := by decide +kernel
theorem dX10_bestStir_12 : decode cX10_bestStir 12 = .ok (.invokevirtual 137, 3) := by decide +kernel
theorem dX10_bestStir_15 : decode cX10_bestStir 15 = .ok (.ifCond .ne 6, 3) := by decide +kernel
theorem dX10_bestStir_18 : decode cX10_bestStir 18 = .ok (.bipush (-101), 2) := by decide +kernel
theorem dX10_bestStir_20 : decode cX10_bestStir 20 = .ok (.ireturn, 1) := by decide +kernel
theorem dX10_bestStir_21 : decode cX10_bestStir 21 = .ok (.aload_n 0, 1) := by decide +kernel
theorem dX10_bestStir_22 : decode cX10_bestStir 22 = .ok (.getfield 56, 3) := by decide +kernel
theorem dX10_bestStir_25 : decode cX10_bestStir 25 = .ok (.aload_n 0, 1) := by decide +kernel
theorem dX10_bestStir_26 : decode cX10_bestStir 26 = .ok (.getfield 31, 3) := by decide +kernel
theorem dX10_bestStir_29 : decode cX10_bestStir 29 = .ok (.aload_n 3, 1) := by decide +kernel
theorem dX10_bestStir_30 : decode cX10_bestStir 30 = .ok (.iload_n 2, 1) := by decide +kernel
theorem dX10_bestStir_31 : decode cX10_bestStir 31 = .ok (.invokevirtual 206, 3) := by decide +kernel
theorem dX10_bestStir_34 : decode cX10_bestStir 34 = .ok (.ireturn, 1) := by decide +kernel
theorem dX10_live_0 : decode cX10_live 0 = .ok (.aload_n 0, 1) := by decide +kernel
theorem dX10_live_1 : decode cX10_live 1 = .ok (.iload_n 1, 1) := by decide +kernel
theorem dX10_live_2 : decode cX10_live 2 = .ok (.invokevirtual 94, 3) := by decide +kernel
theorem dX10_live_5 : decode cX10_live 5 = .ok (.astore 4, 2) := by decide +kernel
theorem dX10_live_7 : decode cX10_live 7 = .ok (.aload 4, 2) := by decide +kernel
theorem dX10_live_9 : decode cX10_live 9 = .ok (.ifnull 11, 3) := by decide +kernel
theorem dX10_live_12 : decode cX10_live 12 = .ok (.aload_n 0, 1) := by decide +kernel
theorem dX10_live_13 : decode cX10_live 13 = .ok (.iload_n 2, 1) := by decide +kernel
theorem dX10_live_14 : decode cX10_live 14 = .ok (.invokevirtual 137, 3) := by decide +kernel
theorem dX10_live_17 : decode cX10_live 17 = .ok (.ifCond .ne 6, 3) := by decide +kernel
theorem dX10_live_20 : decode cX10_live 20 = .ok (.bipush (-101), 2) := by decide +kernel
theorem dX10_live_22 : decode cX10_live 22 = .ok (.ireturn, 1) := by decide +kernel
theorem dX10_live_23 : decode cX10_live 23 = .ok (.aload_n 0, 1) := by decide +kernel
theorem dX10_live_24 : decode cX10_live 24 = .ok (.iload_n 3, 1) := by decide +kernel
theorem dX10_live_25 : decode cX10_live 25 = .ok (.invokevirtual 160, 3) := by decide +kernel
theorem dX10_live_28 : decode cX10_live 28 = .ok (.ifCond .ne 6, 3) := by decide +kernel
theorem dX10_live_31 : decode cX10_live 31 = .ok (.bipush (-102), 2) := by decide +kernel
theorem dX10_live_33 : decode cX10_live 33 = .ok (.ireturn, 1) := by decide +kernel
theorem dX10_live_34 : decode cX10_live 34 = .ok (.aload_n 0, 1) := by decide +kernel
theorem dX10_live_35 : decode cX10_live 35 = .ok (.getfield 47, 3) := by decide +kernel
theorem dX10_live_38 : decode cX10_live 38 = .ok (.aload_n 0, 1) := by decide +kernel
theorem dX10_live_39 : decode cX10_live 39 = .ok (.getfield 31, 3) := by decide +kernel
theorem dX10_live_42 : decode cX10_live 42 = .ok (.aload 4, 2) := by decide +kernel
theorem dX10_live_44 : decode cX10_live 44 = .ok (.iload_n 2, 1) := by decide +kernel
theorem dX10_live_45 : decode cX10_live 45 = .ok (.iload_n 3, 1) := by decide +kernel
theorem dX10_live_46 : decode cX10_live 46 = .ok (.invokevirtual 163, 3) := by decide +kernel
theorem dX10_live_49 : decode cX10_live 49 = .ok (.aload_n 0, 1) := by decide +kernel
theorem dX10_live_50 : decode cX10_live 50 = .ok (.getfield 31, 3) := by decide +kernel
theorem dX10_live_53 : decode cX10_live 53 = .ok (.aload_n 0, 1) := by decide +kernel
theorem dX10_live_54 : decode cX10_live 54 = .ok (.getfield 47, 3) := by decide +kernel
theorem dX10_live_57 : decode cX10_live 57 = .ok (.getfield 168, 3) := by decide +kernel
theorem dX10_live_60 : decode cX10_live 60 = .ok (.invokevirtual 209, 3) := by decide +kernel
theorem dX10_live_63 : decode cX10_live 63 = .ok (.ireturn, 1) := by decide +kernel
theorem dX10_starves_0 : decode cX10_starves 0 = .ok (.aload_n 0, 1) := by decide +kernel
theorem dX10_starves_1 : decode cX10_starves 1 = .ok (.iload_n 1, 1) := by decide +kernel
theorem dX10_starves_2 : decode cX10_starves 2 = .ok (.invokevirtual 94, 3) := by decide +kernel
theorem dX10_starves_5 : decode cX10_starves 5 = .ok (.astore 4, 2) := by decide +kernel
theorem dX10_starves_7 : decode cX10_starves 7 = .ok (.aload 4, 2) := by decide +kernel
theorem dX10_starves_9 : decode cX10_starves 9 = .ok (.ifnull 19, 3) := by decide +kernel
theorem dX10_starves_12 : decode cX10_starves 12 = .ok (.aload_n 0, 1) := by decide +kernel
theorem dX10_starves_13 : decode cX10_starves 13 = .ok (.iload_n 2, 1) := by decide +kernel
theorem dX10_starves_14 : decode cX10_starves 14 = .ok (.invokevirtual 137, 3) := by decide +kernel
theorem dX10_starves_17 : decode cX10_starves 17 = .ok (.ifCond .eq 11, 3) := by decide +kernel
theorem dX10_starves_20 : decode cX10_starves 20 = .ok (.aload_n 0, 1) := by decide +kernel
theorem dX10_starves_21 : decode cX10_starves 21 = .ok (.iload_n 3, 1) := by decide +kernel
theorem dX10_starves_22 : decode cX10_starves 22 = .ok (.invokevirtual 120, 3) := by decide +kernel
theorem dX10_starves_25 : decode cX10_starves 25 = .ok (.ifCond .ne 6, 3) := by decide +kernel
theorem dX10_starves_28 : decode cX10_starves 28 = .ok (.bipush (-101), 2) := by decide +kernel
theorem dX10_starves_30 : decode cX10_starves 30 = .ok (.ireturn, 1) := by decide +kernel
theorem dX10_starves_31 : decode cX10_starves 31 = .ok (.aload_n 0, 1) := by decide +kernel
theorem dX10_starves_32 : decode cX10_starves 32 = .ok (.getfield 31, 3) := by decide +kernel
theorem dX10_starves_35 : decode cX10_starves 35 = .ok (.iload_n 3, 1) := by decide +kernel
theorem dX10_starves_36 : decode cX10_starves 36 = .ok (.invokevirtual 213, 3) := by decide +kernel
theorem dX10_starves_39 : decode cX10_starves 39 = .ok (.ifCond .eq 7, 3) := by decide +kernel
theorem dX10_starves_42 : decode cX10_starves 42 = .ok (.iconst 0, 1) := by decide +kernel
theorem dX10_starves_43 : decode cX10_starves 43 = .ok (.goto 23, 3) := by decide +kernel
theorem dX10_starves_46 : decode cX10_starves 46 = .ok (.aload_n 0, 1) := by decide +kernel
theorem dX10_starves_47 : decode cX10_starves 47 = .ok (.getfield 56, 3) := by decide +kernel
theorem dX10_starves_50 : decode cX10_starves 50 = .ok (.aload_n 0, 1) := by decide +kernel
theorem dX10_starves_51 : decode cX10_starves 51 = .ok (.getfield 31, 3) := by decide +kernel
theorem dX10_starves_54 : decode cX10_starves 54 = .ok (.aload 4, 2) := by decide +kernel
theorem dX10_starves_56 : decode cX10_starves 56 = .ok (.iload_n 2, 1) := by decide +kernel
theorem dX10_starves_57 : decode cX10_starves 57 = .ok (.iconst 0, 1) := by decide +kernel
theorem dX10_starves_58 : decode cX10_starves 58 = .ok (.bipush 60, 2) := by decide +kernel
theorem dX10_starves_60 : decode cX10_starves 60 = .ok (.iconst 1, 1) := by decide +kernel
theorem dX10_starves_61 : decode cX10_starves 61 = .ok (.iload_n 3, 1) := by decide +kernel
theorem dX10_starves_62 : decode cX10_starves 62 = .ok (.ishl, 1) := by decide +kernel
theorem dX10_starves_63 : decode cX10_starves 63 = .ok (.invokevirtual 216, 3) := by decide +kernel
theorem dX10_starves_66 : decode cX10_starves 66 = .ok (.ireturn, 1) := by decide +kernel
theorem dX10_fasting_0 : decode cX10_fasting 0 = .ok (.aload_n 0, 1) := by decide +kernel
theorem dX10_fasting_1 : decode cX10_fasting 1 = .ok (.iload_n 1, 1) := by decide +kernel
theorem dX10_fasting_2 : decode cX10_fasting 2 = .ok (.invokevirtual 94, 3) := by decide +kernel
theorem dX10_fasting_5 : decode cX10_fasting 5 = .ok (.astore 4, 2) := by decide +kernel
theorem dX10_fasting_7 : decode cX10_fasting 7 = .ok (.aload 4, 2) := by decide +kernel
theorem dX10_fasting_9 : decode cX10_fasting 9 = .ok (.ifnull 11, 3) := by decide +kernel
theorem dX10_fasting_12 : decode cX10_fasting 12 = .ok (.aload_n 0, 1) := by decide +kernel
theorem dX10_fasting_13 : decode cX10_fasting 13 = .ok (.iload_n 2, 1) := by decide +kernel
theorem dX10_fasting_14 : decode cX10_fasting 14 = .ok (.invokevirtual 137, 3) := by decide +kernel
theorem dX10_fasting_17 : decode cX10_fasting 17 = .ok (.ifCond .ne 6, 3) := by decide +kernel
theorem dX10_fasting_20 : decode cX10_fasting 20 = .ok (.bipush (-101), 2) := by decide +kernel
theorem dX10_fasting_22 : decode cX10_fasting 22 = .ok (.ireturn, 1) := by decide +kernel
theorem dX10_fasting_23 : decode cX10_fasting 23 = .ok (.iload_n 3, 1) := by decide +kernel
theorem dX10_fasting_24 : decode cX10_fasting 24 = .ok (.iconst 1, 1) := by decide +kernel
theorem dX10_fasting_25 : decode cX10_fasting 25 = .ok (.bipush 30, 2) := by decide +kernel
theorem dX10_fasting_27 : decode cX10_fasting 27 = .ok (.invokestatic 102, 3) := by decide +kernel
theorem dX10_fasting_30 : decode cX10_fasting 30 = .ok (.ifCond .ne 6, 3) := by decide +kernel
theorem dX10_fasting_33 : decode cX10_fasting 33 = .ok (.bipush (-102), 2) := by decide +kernel
theorem dX10_fasting_35 : decode cX10_fasting 35 = .ok (.ireturn, 1) := by decide +kernel
theorem dX10_fasting_36 : decode cX10_fasting 36 = .ok (.iconst 0, 1) := by decide +kernel
theorem dX10_fasting_37 : decode cX10_fasting 37 = .ok (.istore 5, 2) := by decide +kernel
theorem dX10_fasting_39 : decode cX10_fasting 39 = .ok (.iload 5, 2) := by decide +kernel
theorem dX10_fasting_41 : decode cX10_fasting 41 = .ok (.aload_n 0, 1) := by decide +kernel
theorem dX10_fasting_42 : decode cX10_fasting 42 = .ok (.getfield 12, 3) := by decide +kernel
theorem dX10_fasting_45 : decode cX10_fasting 45 = .ok (.invokevirtual 81, 3) := by decide +kernel
theorem dX10_fasting_48 : decode cX10_fasting 48 = .ok (.if_icmp .ge 36, 3) := by decide +kernel
theorem dX10_fasting_51 : decode cX10_fasting 51 = .ok (.aload_n 0, 1) := by decide +kernel
theorem dX10_fasting_52 : decode cX10_fasting 52 = .ok (.getfield 56, 3) := by decide +kernel
theorem dX10_fasting_55 : decode cX10_fasting 55 = .ok (.aload_n 0, 1) := by decide +kernel
theorem dX10_fasting_56 : decode cX10_fasting 56 = .ok (.getfield 31, 3) := by decide +kernel
theorem dX10_fasting_59 : decode cX10_fasting 59 = .ok (.aload 4, 2) := by decide +kernel
theorem dX10_fasting_61 : decode cX10_fasting 61 = .ok (.iload_n 2, 1) := by decide +kernel
theorem dX10_fasting_62 : decode cX10_fasting 62 = .ok (.iload 5, 2) := by decide +kernel
theorem dX10_fasting_64 : decode cX10_fasting 64 = .ok (.iload_n 3, 1) := by decide +kernel
theorem dX10_fasting_65 : decode cX10_fasting 65 = .ok (.sipush 1023, 3) := by decide +kernel
theorem dX10_fasting_68 : decode cX10_fasting 68 = .ok (.invokevirtual 216, 3) := by decide +kernel
theorem dX10_fasting_71 : decode cX10_fasting 71 = .ok (.iconst (-1), 1) := by decide +kernel
theorem dX10_fasting_72 : decode cX10_fasting 72 = .ok (.if_icmp .ne 6, 3) := by decide +kernel
theorem dX10_fasting_75 : decode cX10_fasting 75 = .ok (.iload 5, 2) := by decide +kernel
theorem dX10_fasting_77 : decode cX10_fasting 77 = .ok (.ireturn, 1) := by decide +kernel
theorem dX10_fasting_78 : decode cX10_fasting 78 = .ok (.iinc 5 1, 3) := by decide +kernel
theorem dX10_fasting_81 : decode cX10_fasting 81 = .ok (.goto (-42), 3) := by decide +kernel
theorem dX10_fasting_84 : decode cX10_fasting 84 = .ok (.iconst (-1), 1) := by decide +kernel
theorem dX10_fasting_85 : decode cX10_fasting 85 = .ok (.ireturn, 1) := by decide +kernel
theorem dX10_schism_0 : decode cX10_schism 0 = .ok (.aload_n 0, 1) := by decide +kernel
theorem dX10_schism_1 : decode cX10_schism 1 = .ok (.iload_n 1, 1) := by decide +kernel
theorem dX10_schism_2 : decode cX10_schism 2 = .ok (.invokevirtual 137, 3) := by decide +kernel
theorem dX10_schism_5 : decode cX10_schism 5 = .ok (.ifCond .ne 6, 3) := by decide +kernel
theorem dX10_schism_8 : decode cX10_schism 8 = .ok (.bipush (-101), 2) := by decide +kernel
theorem dX10_schism_10 : decode cX10_schism 10 = .ok (.ireturn, 1) := by decide +kernel
theorem dX10_schism_11 : decode cX10_schism 11 = .ok (.iload_n 2, 1) := by decide +kernel
theorem dX10_schism_12 : decode cX10_schism 12 = .ok (.iconst 0, 1) := by decide +kernel
theorem dX10_schism_13 : decode cX10_schism 13 = .ok (.bipush 11, 2) := by decide +kernel
theorem dX10_schism_15 : decode cX10_schism 15 = .ok (.invokestatic 102, 3) := by decide +kernel
theorem dX10_schism_18 : decode cX10_schism 18 = .ok (.ifCond .ne 6, 3) := by decide +kernel
theorem dX10_schism_21 : decode cX10_schism 21 = .ok (.bipush (-102), 2) := by decide +kernel
theorem dX10_schism_23 : decode cX10_schism 23 = .ok (.ireturn, 1) := by decide +kernel
theorem dX10_schism_24 : decode cX10_schism 24 = .ok (.iload_n 2, 1) := by decide +kernel
theorem dX10_schism_25 : decode cX10_schism 25 = .ok (.bipush 10, 2) := by decide +kernel
theorem dX10_schism_27 : decode cX10_schism 27 = .ok (.if_icmp .ge 13, 3) := by decide +kernel
theorem dX10_schism_30 : decode cX10_schism 30 = .ok (.aload_n 0, 1) := by decide +kernel
theorem dX10_schism_31 : decode cX10_schism 31 = .ok (.iload_n 2, 1) := by decide +kernel
theorem dX10_schism_32 : decode cX10_schism 32 = .ok (.invokevirtual 120, 3) := by decide +kernel
theorem dX10_schism_35 : decode cX10_schism 35 = .ok (.ifCond .ne 5, 3) := by decide +kernel
theorem dX10_schism_38 : decode cX10_schism 38 = .ok (.iconst (-1), 1) := by decide +kernel
theorem dX10_schism_39 : decode cX10_schism 39 = .ok (.ireturn, 1) := by decide +kernel
theorem dX10_schism_40 : decode cX10_schism 40 = .ok (.aload_n 0, 1) := by decide +kernel
theorem dX10_schism_41 : decode cX10_schism 41 = .ok (.getfield 47, 3) := by decide +kernel
theorem dX10_schism_44 : decode cX10_schism 44 = .ok (.aload_n 0, 1) := by decide +kernel
theorem dX10_schism_45 : decode cX10_schism 45 = .ok (.getfield 31, 3) := by decide +kernel
theorem dX10_schism_48 : decode cX10_schism 48 = .ok (.invokevirtual 171, 3) := by decide +kernel
theorem dX10_schism_51 : decode cX10_schism 51 = .ok (.aload_n 0, 1) := by decide +kernel
theorem dX10_schism_52 : decode cX10_schism 52 = .ok (.getfield 47, 3) := by decide +kernel
theorem dX10_schism_55 : decode cX10_schism 55 = .ok (.iload_n 1, 1) := by decide +kernel
theorem dX10_schism_56 : decode cX10_schism 56 = .ok (.invokevirtual 220, 3) := by decide +kernel
theorem dX10_schism_59 : decode cX10_schism 59 = .ok (.iload_n 2, 1) := by decide +kernel
theorem dX10_schism_60 : decode cX10_schism 60 = .ok (.bipush 10, 2) := by decide +kernel
theorem dX10_schism_62 : decode cX10_schism 62 = .ok (.if_icmp .ge 13, 3) := by decide +kernel
theorem dX10_schism_65 : decode cX10_schism 65 = .ok (.aload_n 0, 1) := by decide +kernel
theorem dX10_schism_66 : decode cX10_schism 66 = .ok (.getfield 47, 3) := by decide +kernel
theorem dX10_schism_69 : decode cX10_schism 69 = .ok (.getfield 168, 3) := by decide +kernel
theorem dX10_schism_72 : decode cX10_schism 72 = .ok (.iload_n 2, 1) := by decide +kernel
theorem dX10_schism_73 : decode cX10_schism 73 = .ok (.iaload, 1) := by decide +kernel
theorem dX10_schism_74 : decode cX10_schism 74 = .ok (.ireturn, 1) := by decide +kernel
theorem dX10_schism_75 : decode cX10_schism 75 = .ok (.iload_n 2, 1) := by decide +kernel
theorem dX10_schism_76 : decode cX10_schism 76 = .ok (.bipush 10, 2) := by decide +kernel
theorem dX10_schism_78 : decode cX10_schism 78 = .ok (.if_icmp .ne 13, 3) := by decide +kernel
theorem dX10_schism_81 : decode cX10_schism 81 = .ok (.aload_n 0, 1) := by decide +kernel
theorem dX10_schism_82 : decode cX10_schism 82 = .ok (.getfield 47, 3) := by decide +kernel
theorem dX10_schism_85 : decode cX10_schism 85 = .ok (.getfield 224, 3) := by decide +kernel
theorem dX10_schism_88 : decode cX10_schism 88 = .ok (.goto 10, 3) := by decide +kernel
theorem dX10_schism_91 : decode cX10_schism 91 = .ok (.aload_n 0, 1) := by decide +kernel
theorem dX10_schism_92 : decode cX10_schism 92 = .ok (.getfield 47, 3) := by decide +kernel
theorem dX10_schism_95 : decode cX10_schism 95 = .ok (.getfield 225, 3) := by decide +kernel
theorem dX10_schism_98 : decode cX10_schism 98 = .ok (.ireturn, 1) := by decide +kernel
theorem dX10_twice_0 : decode cX10_twice 0 = .ok (.aload_n 0, 1) := by decide +kernel
theorem dX10_twice_1 : decode cX10_twice 1 = .ok (.iload_n 1, 1) := by decide +kernel
theorem dX10_twice_2 : decode cX10_twice 2 = .ok (.invokevirtual 94, 3) := by decide +kernel
theorem dX10_twice_5 : decode cX10_twice 5 = .ok (.astore 5, 2) := by decide +kernel
theorem dX10_twice_7 : decode cX10_twice 7 = .ok (.aload 5, 2) := by decide +kernel
theorem dX10_twice_9 : decode cX10_twice 9 = .ok (.ifnull 11, 3) := by decide +kernel
theorem dX10_twice_12 : decode cX10_twice 12 = .ok (.aload_n 0, 1) := by decide +kernel
theorem dX10_twice_13 : decode cX10_twice 13 = .ok (.iload_n 2, 1) := by decide +kernel
theorem dX10_twice_14 : decode cX10_twice 14 = .ok (.invokevirtual 137, 3) := by decide +kernel
theorem dX10_twice_17 : decode cX10_twice 17 = .ok (.ifCond .ne 6, 3) := by decide +kernel
theorem dX10_twice_20 : decode cX10_twice 20 = .ok (.bipush (-101), 2) := by decide +kernel
theorem dX10_twice_22 : decode cX10_twice 22 = .ok (.ireturn, 1) := by decide +kernel
theorem dX10_twice_23 : decode cX10_twice 23 = .ok (.iload_n 3, 1) := by decide +kernel
theorem dX10_twice_24 : decode cX10_twice 24 = .ok (.iconst 1, 1) := by decide +kernel
theorem dX10_twice_25 : decode cX10_twice 25 = .ok (.bipush 60, 2) := by decide +kernel
theorem dX10_twice_27 : decode cX10_twice 27 = .ok (.invokestatic 102, 3) := by decide +kernel
theorem dX10_twice_30 : decode cX10_twice 30 = .ok (.ifCond .eq 15, 3) := by decide +kernel
theorem dX10_twice_33 : decode cX10_twice 33 = .ok (.iload 4, 2) := by decide +kernel
theorem dX10_twice_35 : decode cX10_twice 35 = .ok (.iconst 0, 1) := by decide +kernel
theorem dX10_twice_36 : decode cX10_twice 36 = .ok (.sipush 495, 3) := by decide +kernel
theorem dX10_twice_39 : decode cX10_twice 39 = .ok (.invokestatic 102, 3) := by decide +kernel
theorem dX10_twice_42 : decode cX10_twice 42 = .ok (.ifCond .ne 6, 3) := by decide +kernel
theorem dX10_twice_45 : decode cX10_twice 45 = .ok (.bipush (-102), 2) := by decide +kernel
theorem dX10_twice_47 : decode cX10_twice 47 = .ok (.ireturn, 1) := by decide +kernel
theorem dX10_twice_48 : decode cX10_twice 48 = .ok (.aload_n 0, 1) := by decide +kernel
theorem dX10_twice_49 : decode cX10_twice 49 = .ok (.iconst (-1), 1) := by decide +kernel
theorem dX10_twice_50 : decode cX10_twice 50 = .ok (.aload 5, 2) := by decide +kernel
theorem dX10_twice_52 : decode cX10_twice 52 = .ok (.iload_n 2, 1) := by decide +kernel
theorem dX10_twice_53 : decode cX10_twice 53 = .ok (.iload_n 3, 1) := by decide +kernel
theorem dX10_twice_54 : decode cX10_twice 54 = .ok (.invokevirtual 228, 3) := by decide +kernel
theorem dX10_twice_57 : decode cX10_twice 57 = .ok (.iload 4, 2) := by decide +kernel
theorem dX10_twice_59 : decode cX10_twice 59 = .ok (.if_icmp .ne 9, 3) := by decide +kernel
theorem dX10_twice_62 : decode cX10_twice 62 = .ok (.sipush 1024, 3) := by decide +kernel
theorem dX10_twice_65 : decode cX10_twice 65 = .ok (.goto 4, 3) := by decide +kernel
theorem dX10_twice_68 : decode cX10_twice 68 = .ok (.iconst 0, 1) := by decide +kernel
theorem dX10_twice_69 : decode cX10_twice 69 = .ok (.istore 6, 2) := by decide +kernel
theorem dX10_twice_71 : decode cX10_twice 71 = .ok (.iconst 0, 1) := by decide +kernel
theorem dX10_twice_72 : decode cX10_twice 72 = .ok (.istore 7, 2) := by decide +kernel
theorem dX10_twice_74 : decode cX10_twice 74 = .ok (.iload 7, 2) := by decide +kernel
theorem dX10_twice_76 : decode cX10_twice 76 = .ok (.aload_n 0, 1) := by decide +kernel
theorem dX10_twice_77 : decode cX10_twice 77 = .ok (.getfield 12, 3) := by decide +kernel
theorem dX10_twice_80 : decode cX10_twice 80 = .ok (.invokevirtual 81, 3) := by decide +kernel
theorem dX10_twice_83 : decode cX10_twice 83 = .ok (.if_icmp .ge 33, 3) := by decide +kernel
theorem dX10_twice_86 : decode cX10_twice 86 = .ok (.aload_n 0, 1) := by decide +kernel
theorem dX10_twice_87 : decode cX10_twice 87 = .ok (.iload 7, 2) := by decide +kernel
theorem dX10_twice_89 : decode cX10_twice 89 = .ok (.aload 5, 2) := by decide +kernel
theorem dX10_twice_91 : decode cX10_twice 91 = .ok (.iload_n 2, 1) := by decide +kernel
theorem dX10_twice_92 : decode cX10_twice 92 = .ok (.iload_n 3, 1) := by decide +kernel
theorem dX10_twice_93 : decode cX10_twice 93 = .ok (.invokevirtual 228, 3) := by decide +kernel
theorem dX10_twice_96 : decode cX10_twice 96 = .ok (.iload 4, 2) := by decide +kernel
theorem dX10_twice_98 : decode cX10_twice 98 = .ok (.if_icmp .ne 12, 3) := by decide +kernel
theorem dX10_twice_101 : decode cX10_twice 101 = .ok (.iload 6, 2) := by decide +kernel
theorem dX10_twice_103 : decode cX10_twice 103 = .ok (.iconst 1, 1) := by decide +kernel
theorem dX10_twice_104 : decode cX10_twice 104 = .ok (.iload 7, 2) := by decide +kernel
theorem dX10_twice_106 : decode cX10_twice 106 = .ok (.ishl, 1) := by decide +kernel
theorem dX10_twice_107 : decode cX10_twice 107 = .ok (.ior, 1) := by decide +kernel
theorem dX10_twice_108 : decode cX10_twice 108 = .ok (.istore 6, 2) := by decide +kernel
theorem dX10_twice_110 : decode cX10_twice 110 = .ok (.iinc 7 1, 3) := by decide +kernel
theorem dX10_twice_113 : decode cX10_twice 113 = .ok (.goto (-39), 3) := by decide +kernel
theorem dX10_twice_116 : decode cX10_twice 116 = .ok (.iload 6, 2) := by decide +kernel
theorem dX10_twice_118 : decode cX10_twice 118 = .ok (.ireturn, 1) := by decide +kernel
theorem dX10_image_0 : decode cX10_image 0 = .ok (.aload_n 0, 1) := by decide +kernel
theorem dX10_image_1 : decode cX10_image 1 = .ok (.aload_n 0, 1) := by decide +kernel
theorem dX10_image_2 : decode cX10_image 2 = .ok (.getfield 12, 3) := by decide +kernel
theorem dX10_image_5 : decode cX10_image 5 = .ok (.invokevirtual 81, 3) := by decide +kernel
theorem dX10_image_8 : decode cX10_image 8 = .ok (.putfield 38, 3) := by decide +kernel
theorem dX10_image_11 : decode cX10_image 11 = .ok (.aload_n 0, 1) := by decide +kernel
theorem dX10_image_12 : decode cX10_image 12 = .ok (.getfield 35, 3) := by decide +kernel
theorem dX10_image_15 : decode cX10_image 15 = .ok (.aload_n 0, 1) := by decide +kernel
theorem dX10_image_16 : decode cX10_image 16 = .ok (.getfield 31, 3) := by decide +kernel
theorem dX10_image_19 : decode cX10_image 19 = .ok (.aload_n 0, 1) := by decide +kernel
theorem dX10_image_20 : decode cX10_image 20 = .ok (.getfield 38, 3) := by decide +kernel
theorem dX10_image_23 : decode cX10_image 23 = .ok (.invokevirtual 232, 3) := by decide +kernel
theorem dX10_image_26 : decode cX10_image 26 = .ok (.aload_n 0, 1) := by decide +kernel
theorem dX10_image_27 : decode cX10_image 27 = .ok (.getfield 38, 3) := by decide +kernel
theorem dX10_image_30 : decode cX10_image 30 = .ok (.ireturn, 1) := by decide +kernel
theorem dX10_restore_0 : decode cX10_restore 0 = .ok (.aload_n 0, 1) := by decide +kernel
theorem dX10_restore_1 : decode cX10_restore 1 = .ok (.getfield 38, 3) := by decide +kernel
theorem dX10_restore_4 : decode cX10_restore 4 = .ok (.ifCond .ge 6, 3) := by decide +kernel
theorem dX10_restore_7 : decode cX10_restore 7 = .ok (.bipush (-103), 2) := by decide +kernel
theorem dX10_restore_9 : decode cX10_restore 9 = .ok (.ireturn, 1) := by decide +kernel
theorem dX10_restore_10 : decode cX10_restore 10 = .ok (.aload_n 0, 1) := by decide +kernel
theorem dX10_restore_11 : decode cX10_restore 11 = .ok (.getfield 31, 3) := by decide +kernel
theorem dX10_restore_14 : decode cX10_restore 14 = .ok (.aload_n 0, 1) := by decide +kernel
theorem dX10_restore_15 : decode cX10_restore 15 = .ok (.getfield 35, 3) := by decide +kernel
theorem dX10_restore_18 : decode cX10_restore 18 = .ok (.aload_n 0, 1) := by decide +kernel
theorem dX10_restore_19 : decode cX10_restore 19 = .ok (.getfield 38, 3) := by decide +kernel
theorem dX10_restore_22 : decode cX10_restore 22 = .ok (.invokevirtual 232, 3) := by decide +kernel
theorem dX10_restore_25 : decode cX10_restore 25 = .ok (.aload_n 0, 1) := by decide +kernel
theorem dX10_restore_26 : decode cX10_restore 26 = .ok (.getfield 12, 3) := by decide +kernel
theorem dX10_restore_29 : decode cX10_restore 29 = .ok (.invokevirtual 81, 3) := by decide +kernel
theorem dX10_restore_32 : decode cX10_restore 32 = .ok (.ireturn, 1) := by decide +kernel
theorem dX10_count_0 : decode cX10_count 0 = .ok (.iload_n 1, 1) := by decide +kernel
theorem dX10_count_1 : decode cX10_count 1 = .ok (.iconst 0, 1) := by decide +kernel
theorem dX10_count_2 : decode cX10_count 2 = .ok (.bipush 6, 2) := by decide +kernel
theorem dX10_count_4 : decode cX10_count 4 = .ok (.invokestatic 102, 3) := by decide +kernel
theorem dX10_count_7 : decode cX10_count 7 = .ok (.ifCond .eq 11, 3) := by decide +kernel
theorem dX10_count_10 : decode cX10_count 10 = .ok (.aload_n 0, 1) := by decide +kernel
theorem dX10_count_11 : decode cX10_count 11 = .ok (.iload_n 1, 1) := by decide +kernel
theorem dX10_count_12 : decode cX10_count 12 = .ok (.invokevirtual 236, 3) := by decide +kernel
theorem dX10_count_15 : decode cX10_count 15 = .ok (.goto 5, 3) := by decide +kernel
theorem dX10_count_18 : decode cX10_count 18 = .ok (.bipush (-102), 2) := by decide +kernel
theorem dX10_count_20 : decode cX10_count 20 = .ok (.ireturn, 1) := by decide +kernel
theorem dX10_digest_0 : decode cX10_digest 0 = .ok (.ldc2_w 239, 3) := by decide +kernel
theorem dX10_digest_3 : decode cX10_digest 3 = .ok (.lstore_n 1, 1) := by decide +kernel
theorem dX10_digest_4 : decode cX10_digest 4 = .ok (.iconst 0, 1) := by decide +kernel
theorem dX10_digest_5 : decode cX10_digest 5 = .ok (.istore_n 3, 1) := by decide +kernel
theorem dX10_digest_6 : decode cX10_digest 6 = .ok (.iload_n 3, 1) := by decide +kernel
theorem dX10_digest_7 : decode cX10_digest 7 = .ok (.aload_n 0, 1) := by decide +kernel
theorem dX10_digest_8 : decode cX10_digest 8 = .ok (.getfield 12, 3) := by decide +kernel
theorem dX10_digest_11 : decode cX10_digest 11 = .ok (.invokevirtual 81, 3) := by decide +kernel
theorem dX10_digest_14 : decode cX10_digest 14 = .ok (.if_icmp .ge 40, 3) := by decide +kernel
theorem dX10_digest_17 : decode cX10_digest 17 = .ok (.iconst 0, 1) := by decide +kernel
theorem dX10_digest_18 : decode cX10_digest 18 = .ok (.istore 4, 2) := by decide +kernel
theorem dX10_digest_20 : decode cX10_digest 20 = .ok (.iload 4, 2) := by decide +kernel
theorem dX10_digest_22 : decode cX10_digest 22 = .ok (.bipush 6, 2) := by decide +kernel
theorem dX10_digest_24 : decode cX10_digest 24 = .ok (.if_icmp .gt 24, 3) := by decide +kernel
theorem dX10_digest_27 : decode cX10_digest 27 = .ok (.ldc2_w 241, 3) := by decide +kernel
theorem dX10_digest_30 : decode cX10_digest 30 = .ok (.lload_n 1, 1) := by decide +kernel
theorem dX10_digest_31 : decode cX10_digest 31 = .ok (.lmul, 1) := by decide +kernel
theorem dX10_digest_32 : decode cX10_digest 32 = .ok (.aload_n 0, 1) := by decide +kernel
theorem dX10_digest_33 : decode cX10_digest 33 = .ok (.iload_n 3, 1) := by decide +kernel
theorem dX10_digest_34 : decode cX10_digest 34 = .ok (.iload 4, 2) := by decide +kernel
theorem dX10_digest_36 : decode cX10_digest 36 = .ok (.invokevirtual 133, 3) := by decide +kernel
theorem dX10_digest_39 : decode cX10_digest 39 = .ok (.i2l, 1) := by decide +kernel
theorem dX10_digest_40 : decode cX10_digest 40 = .ok (.ladd, 1) := by decide +kernel
theorem dX10_digest_41 : decode cX10_digest 41 = .ok (.lstore_n 1, 1) := by decide +kernel
theorem dX10_digest_42 : decode cX10_digest 42 = .ok (.iinc 4 1, 3) := by decide +kernel
theorem dX10_digest_45 : decode cX10_digest 45 = .ok (.goto (-25), 3) := by decide +kernel
theorem dX10_digest_48 : decode cX10_digest 48 = .ok (.iinc 3 1, 3) := by decide +kernel
theorem dX10_digest_51 : decode cX10_digest 51 = .ok (.goto (-45), 3) := by decide +kernel
theorem dX10_digest_54 : decode cX10_digest 54 = .ok (.iconst 0, 1) := by decide +kernel
theorem dX10_digest_55 : decode cX10_digest 55 = .ok (.istore_n 3, 1) := by decide +kernel
theorem dX10_digest_56 : decode cX10_digest 56 = .ok (.iload_n 3, 1) := by decide +kernel
theorem dX10_digest_57 : decode cX10_digest 57 = .ok (.iconst 5, 1) := by decide +kernel
theorem dX10_digest_58 : decode cX10_digest 58 = .ok (.if_icmp .ge 26, 3) := by decide +kernel
theorem dX10_digest_61 : decode cX10_digest 61 = .ok (.ldc2_w 241, 3) := by decide +kernel
theorem dX10_digest_64 : decode cX10_digest 64 = .ok (.lload_n 1, 1) := by decide +kernel
theorem dX10_digest_65 : decode cX10_digest 65 = .ok (.lmul, 1) := by decide +kernel
theorem dX10_digest_66 : decode cX10_digest 66 = .ok (.aload_n 0, 1) := by decide +kernel
theorem dX10_digest_67 : decode cX10_digest 67 = .ok (.getfield 31, 3) := by decide +kernel
theorem dX10_digest_70 : decode cX10_digest 70 = .ok (.getfield 147, 3) := by decide +kernel
theorem dX10_digest_73 : decode cX10_digest 73 = .ok (.iload_n 3, 1) := by decide +kernel
theorem dX10_digest_74 : decode cX10_digest 74 = .ok (.iaload, 1) := by decide +kernel
theorem dX10_digest_75 : decode cX10_digest 75 = .ok (.i2l, 1) := by decide +kernel
theorem dX10_digest_76 : decode cX10_digest 76 = .ok (.ladd, 1) := by decide +kernel
theorem dX10_digest_77 : decode cX10_digest 77 = .ok (.lstore_n 1, 1) := by decide +kernel
theorem dX10_digest_78 : decode cX10_digest 78 = .ok (.iinc 3 1, 3) := by decide +kernel
theorem dX10_digest_81 : decode cX10_digest 81 = .ok (.goto (-25), 3) := by decide +kernel
theorem dX10_digest_84 : decode cX10_digest 84 = .ok (.iconst 0, 1) := by decide +kernel
theorem dX10_digest_85 : decode cX10_digest 85 = .ok (.istore_n 3, 1) := by decide +kernel
theorem dX10_digest_86 : decode cX10_digest 86 = .ok (.iload_n 3, 1) := by decide +kernel
theorem dX10_digest_87 : decode cX10_digest 87 = .ok (.aload_n 0, 1) := by decide +kernel
theorem dX10_digest_88 : decode cX10_digest 88 = .ok (.getfield 16, 3) := by decide +kernel
theorem dX10_digest_91 : decode cX10_digest 91 = .ok (.invokevirtual 81, 3) := by decide +kernel
theorem dX10_digest_94 : decode cX10_digest 94 = .ok (.if_icmp .ge 26, 3) := by decide +kernel
theorem dX10_digest_97 : decode cX10_digest 97 = .ok (.aload_n 0, 1) := by decide +kernel
theorem dX10_digest_98 : decode cX10_digest 98 = .ok (.lload_n 1, 1) := by decide +kernel
theorem dX10_digest_99 : decode cX10_digest 99 = .ok (.aload_n 0, 1) := by decide +kernel
theorem dX10_digest_100 : decode cX10_digest 100 = .ok (.getfield 16, 3) := by decide +kernel
theorem dX10_digest_103 : decode cX10_digest 103 = .ok (.iload_n 3, 1) := by decide +kernel
theorem dX10_digest_104 : decode cX10_digest 104 = .ok (.invokevirtual 124, 3) := by decide +kernel
theorem dX10_digest_107 : decode cX10_digest 107 = .ok (.checkcast 85, 3) := by decide +kernel
theorem dX10_digest_110 : decode cX10_digest 110 = .ok (.invokevirtual 243, 3) := by decide +kernel
theorem dX10_digest_113 : decode cX10_digest 113 = .ok (.lstore_n 1, 1) := by decide +kernel
theorem dX10_digest_114 : decode cX10_digest 114 = .ok (.iinc 3 1, 3) := by decide +kernel
theorem dX10_digest_117 : decode cX10_digest 117 = .ok (.goto (-31), 3) := by decide +kernel
theorem dX10_digest_120 : decode cX10_digest 120 = .ok (.iconst 0, 1) := by decide +kernel
theorem dX10_digest_121 : decode cX10_digest 121 = .ok (.istore_n 3, 1) := by decide +kernel
theorem dX10_digest_122 : decode cX10_digest 122 = .ok (.iload_n 3, 1) := by decide +kernel
theorem dX10_digest_123 : decode cX10_digest 123 = .ok (.aload_n 0, 1) := by decide +kernel
theorem dX10_digest_124 : decode cX10_digest 124 = .ok (.getfield 22, 3) := by decide +kernel
theorem dX10_digest_127 : decode cX10_digest 127 = .ok (.getfield 64, 3) := by decide +kernel
theorem dX10_digest_130 : decode cX10_digest 130 = .ok (.if_icmp .ge 26, 3) := by decide +kernel
theorem dX10_digest_133 : decode cX10_digest 133 = .ok (.ldc2_w 241, 3) := by decide +kernel
theorem dX10_digest_136 : decode cX10_digest 136 = .ok (.lload_n 1, 1) := by decide +kernel
theorem dX10_digest_137 : decode cX10_digest 137 = .ok (.lmul, 1) := by decide +kernel
theorem dX10_digest_138 : decode cX10_digest 138 = .ok (.aload_n 0, 1) := by decide +kernel
theorem dX10_digest_139 : decode cX10_digest 139 = .ok (.getfield 22, 3) := by decide +kernel
theorem dX10_digest_142 : decode cX10_digest 142 = .ok (.getfield 247, 3) := by decide +kernel
theorem dX10_digest_145 : decode cX10_digest 145 = .ok (.iload_n 3, 1) := by decide +kernel
theorem dX10_digest_146 : decode cX10_digest 146 = .ok (.iaload, 1) := by decide +kernel
theorem dX10_digest_147 : decode cX10_digest 147 = .ok (.i2l, 1) := by decide +kernel
theorem dX10_digest_148 : decode cX10_digest 148 = .ok (.ladd, 1) := by decide +kernel
theorem dX10_digest_149 : decode cX10_digest 149 = .ok (.lstore_n 1, 1) := by decide +kernel
theorem dX10_digest_150 : decode cX10_digest 150 = .ok (.iinc 3 1, 3) := by decide +kernel
theorem dX10_digest_153 : decode cX10_digest 153 = .ok (.goto (-31), 3) := by decide +kernel
theorem dX10_digest_156 : decode cX10_digest 156 = .ok (.iconst 0, 1) := by decide +kernel
theorem dX10_digest_157 : decode cX10_digest 157 = .ok (.istore_n 3, 1) := by decide +kernel
theorem dX10_digest_158 : decode cX10_digest 158 = .ok (.iload_n 3, 1) := by decide +kernel
theorem dX10_digest_159 : decode cX10_digest 159 = .ok (.bipush 6, 2) := by decide +kernel
theorem dX10_digest_161 : decode cX10_digest 161 = .ok (.if_icmp .gt 22, 3) := by decide +kernel
theorem dX10_digest_164 : decode cX10_digest 164 = .ok (.ldc2_w 241, 3) := by decide +kernel
theorem dX10_digest_167 : decode cX10_digest 167 = .ok (.lload_n 1, 1) := by decide +kernel
theorem dX10_digest_168 : decode cX10_digest 168 = .ok (.lmul, 1) := by decide +kernel
theorem dX10_digest_169 : decode cX10_digest 169 = .ok (.aload_n 0, 1) := by decide +kernel
theorem dX10_digest_170 : decode cX10_digest 170 = .ok (.iload_n 3, 1) := by decide +kernel
theorem dX10_digest_171 : decode cX10_digest 171 = .ok (.invokevirtual 236, 3) := by decide +kernel
theorem dX10_digest_174 : decode cX10_digest 174 = .ok (.i2l, 1) := by decide +kernel
theorem dX10_digest_175 : decode cX10_digest 175 = .ok (.ladd, 1) := by decide +kernel
theorem dX10_digest_176 : decode cX10_digest 176 = .ok (.lstore_n 1, 1) := by decide +kernel
theorem dX10_digest_177 : decode cX10_digest 177 = .ok (.iinc 3 1, 3) := by decide +kernel
theorem dX10_digest_180 : decode cX10_digest 180 = .ok (.goto (-22), 3) := by decide +kernel
theorem dX10_digest_183 : decode cX10_digest 183 = .ok (.lload_n 1, 1) := by decide +kernel
theorem dX10_digest_184 : decode cX10_digest 184 = .ok (.lreturn, 1) := by decide +kernel
theorem dX10_isWithin_0 : decode cX10_isWithin 0 = .ok (.iload_n 0, 1) := by decide +kernel
theorem dX10_isWithin_1 : decode cX10_isWithin 1 = .ok (.iload_n 1, 1) := by decide +kernel
theorem dX10_isWithin_2 : decode cX10_isWithin 2 = .ok (.if_icmp .lt 12, 3) := by decide +kernel
theorem dX10_isWithin_5 : decode cX10_isWithin 5 = .ok (.iload_n 0, 1) := by decide +kernel
theorem dX10_isWithin_6 : decode cX10_isWithin 6 = .ok (.iload_n 2, 1) := by decide +kernel
theorem dX10_isWithin_7 : decode cX10_isWithin 7 = .ok (.if_icmp .gt 7, 3) := by decide +kernel
theorem dX10_isWithin_10 : decode cX10_isWithin 10 = .ok (.iconst 1, 1) := by decide +kernel
theorem dX10_isWithin_11 : decode cX10_isWithin 11 = .ok (.goto 4, 3) := by decide +kernel
theorem dX10_isWithin_14 : decode cX10_isWithin 14 = .ok (.iconst 0, 1) := by decide +kernel
theorem dX10_isWithin_15 : decode cX10_isWithin 15 = .ok (.ireturn, 1) := by decide +kernel
theorem dX10_asNumber_0 : decode cX10_asNumber 0 = .ok (.iload_n 0, 1) := by decide +kernel
theorem dX10_asNumber_1 : decode cX10_asNumber 1 = .ok (.ifCond .eq 7, 3) := by decide +kernel
theorem dX10_asNumber_4 : decode cX10_asNumber 4 = .ok (.iconst 1, 1) := by decide +kernel
theorem dX10_asNumber_5 : decode cX10_asNumber 5 = .ok (.goto 4, 3) := by decide +kernel
theorem dX10_asNumber_8 : decode cX10_asNumber 8 = .ok (.iconst 0, 1) := by decide +kernel
theorem dX10_asNumber_9 : decode cX10_asNumber 9 = .ok (.ireturn, 1) := by decide +kernel
theorem dX10_leastNumber_0 : decode cX10_leastNumber 0 = .ok (.iload_n 0, 1) := by decide +kernel
theorem dX10_leastNumber_1 : decode cX10_leastNumber 1 = .ok (.tableswitch 39 1 4 #[31, 39, 35, 31], 31) := by decide +kernel
theorem dX10_leastNumber_32 : decode cX10_leastNumber 32 = .ok (.iconst 2, 1) := by decide +kernel
theorem dX10_leastNumber_33 : decode cX10_leastNumber 33 = .ok (.goto 8, 3) := by decide +kernel
theorem dX10_leastNumber_36 : decode cX10_leastNumber 36 = .ok (.iconst 1, 1) := by decide +kernel
theorem dX10_leastNumber_37 : decode cX10_leastNumber 37 = .ok (.goto 4, 3) := by decide +kernel
theorem dX10_leastNumber_40 : decode cX10_leastNumber 40 = .ok (.iconst 0, 1) := by decide +kernel
theorem dX10_leastNumber_41 : decode cX10_leastNumber 41 = .ok (.ireturn, 1) := by decide +kernel
theorem dX10_mostNumber_0 : decode cX10_mostNumber 0 = .ok (.iload_n 0, 1) := by decide +kernel
theorem dX10_mostNumber_1 : decode cX10_mostNumber 1 = .ok (.ifCond .eq 8, 3) := by decide +kernel
theorem dX10_mostNumber_4 : decode cX10_mostNumber 4 = .ok (.iload_n 0, 1) := by decide +kernel
theorem dX10_mostNumber_5 : decode cX10_mostNumber 5 = .ok (.iconst 2, 1) := by decide +kernel
theorem dX10_mostNumber_6 : decode cX10_mostNumber 6 = .ok (.if_icmp .ne 7, 3) := by decide +kernel
theorem dX10_mostNumber_9 : decode cX10_mostNumber 9 = .ok (.iconst 0, 1) := by decide +kernel
theorem dX10_mostNumber_10 : decode cX10_mostNumber 10 = .ok (.goto 4, 3) := by decide +kernel
theorem dX10_mostNumber_13 : decode cX10_mostNumber 13 = .ok (.iconst 4, 1) := by decide +kernel
theorem dX10_mostNumber_14 : decode cX10_mostNumber 14 = .ok (.ireturn, 1) := by decide +kernel
theorem dX10_newcomer_0 : decode cX10_newcomer 0 = .ok (.iload_n 0, 1) := by decide +kernel
theorem dX10_newcomer_1 : decode cX10_newcomer 1 = .ok (.tableswitch 90 1 4 #[31, 46, 60, 75], 31) := by decide +kernel
theorem dX10_newcomer_32 : decode cX10_newcomer 32 = .ok (.new 250, 3) := by decide +kernel
theorem dX10_newcomer_35 : decode cX10_newcomer 35 = .ok (.dup, 1) := by decide +kernel
theorem dX10_newcomer_36 : decode cX10_newcomer 36 = .ok (.iload_n 1, 1) := by decide +kernel
theorem dX10_newcomer_37 : decode cX10_newcomer 37 = .ok (.iload_n 2, 1) := by decide +kernel
theorem dX10_newcomer_38 : decode cX10_newcomer 38 = .ok (.iload_n 3, 1) := by decide +kernel
theorem dX10_newcomer_39 : decode cX10_newcomer 39 = .ok (.iload 4, 2) := by decide +kernel
theorem dX10_newcomer_41 : decode cX10_newcomer 41 = .ok (.invokespecial 252, 3) := by decide +kernel
theorem dX10_newcomer_44 : decode cX10_newcomer 44 = .ok (.goto 59, 3) := by decide +kernel
theorem dX10_newcomer_47 : decode cX10_newcomer 47 = .ok (.new 255, 3) := by decide +kernel
theorem dX10_newcomer_50 : decode cX10_newcomer 50 = .ok (.dup, 1) := by decide +kernel
theorem dX10_newcomer_51 : decode cX10_newcomer 51 = .ok (.iload_n 2, 1) := by decide +kernel
theorem dX10_newcomer_52 : decode cX10_newcomer 52 = .ok (.iload_n 3, 1) := by decide +kernel
theorem dX10_newcomer_53 : decode cX10_newcomer 53 = .ok (.iload 4, 2) := by decide +kernel
theorem dX10_newcomer_55 : decode cX10_newcomer 55 = .ok (.invokespecial 257, 3) := by decide +kernel
theorem dX10_newcomer_58 : decode cX10_newcomer 58 = .ok (.goto 45, 3) := by decide +kernel
theorem dX10_newcomer_61 : decode cX10_newcomer 61 = .ok (.new 260, 3) := by decide +kernel
theorem dX10_newcomer_64 : decode cX10_newcomer 64 = .ok (.dup, 1) := by decide +kernel
theorem dX10_newcomer_65 : decode cX10_newcomer 65 = .ok (.iload_n 1, 1) := by decide +kernel
theorem dX10_newcomer_66 : decode cX10_newcomer 66 = .ok (.iload_n 2, 1) := by decide +kernel
theorem dX10_newcomer_67 : decode cX10_newcomer 67 = .ok (.iload_n 3, 1) := by decide +kernel
theorem dX10_newcomer_68 : decode cX10_newcomer 68 = .ok (.iload 4, 2) := by decide +kernel
theorem dX10_newcomer_70 : decode cX10_newcomer 70 = .ok (.invokespecial 262, 3) := by decide +kernel
theorem dX10_newcomer_73 : decode cX10_newcomer 73 = .ok (.goto 30, 3) := by decide +kernel
theorem dX10_newcomer_76 : decode cX10_newcomer 76 = .ok (.new 263, 3) := by decide +kernel
theorem dX10_newcomer_79 : decode cX10_newcomer 79 = .ok (.dup, 1) := by decide +kernel
theorem dX10_newcomer_80 : decode cX10_newcomer 80 = .ok (.iload_n 1, 1) := by decide +kernel
theorem dX10_newcomer_81 : decode cX10_newcomer 81 = .ok (.iload_n 2, 1) := by decide +kernel
theorem dX10_newcomer_82 : decode cX10_newcomer 82 = .ok (.iload_n 3, 1) := by decide +kernel
theorem dX10_newcomer_83 : decode cX10_newcomer 83 = .ok (.iload 4, 2) := by decide +kernel
theorem dX10_newcomer_85 : decode cX10_newcomer 85 = .ok (.invokespecial 265, 3) := by decide +kernel
theorem dX10_newcomer_88 : decode cX10_newcomer 88 = .ok (.goto 15, 3) := by decide +kernel
theorem dX10_newcomer_91 : decode cX10_newcomer 91 = .ok (.new 128, 3) := by decide +kernel
theorem dX10_newcomer_94 : decode cX10_newcomer 94 = .ok (.dup, 1) := by decide +kernel
theorem dX10_newcomer_95 : decode cX10_newcomer 95 = .ok (.iconst 0, 1) := by decide +kernel
theorem dX10_newcomer_96 : decode cX10_newcomer 96 = .ok (.iload_n 2, 1) := by decide +kernel
theorem dX10_newcomer_97 : decode cX10_newcomer 97 = .ok (.iload_n 3, 1) := by decide +kernel
theorem dX10_newcomer_98 : decode cX10_newcomer 98 = .ok (.iload 4, 2) := by decide +kernel
theorem dX10_newcomer_100 : decode cX10_newcomer 100 = .ok (.invokespecial 266, 3) := by decide +kernel
theorem dX10_newcomer_103 : decode cX10_newcomer 103 = .ok (.areturn, 1) := by decide +kernel
theorem dX10_isHermit_0 : decode cX10_isHermit 0 = .ok (.iload_n 1, 1) := by decide +kernel
theorem dX10_isHermit_1 : decode cX10_isHermit 1 = .ok (.ifCond .lt 18, 3) := by decide +kernel
theorem dX10_isHermit_4 : decode cX10_isHermit 4 = .ok (.iload_n 1, 1) := by decide +kernel
theorem dX10_isHermit_5 : decode cX10_isHermit 5 = .ok (.aload_n 0, 1) := by decide +kernel
theorem dX10_isHermit_6 : decode cX10_isHermit 6 = .ok (.getfield 12, 3) := by decide +kernel
theorem dX10_isHermit_9 : decode cX10_isHermit 9 = .ok (.invokevirtual 81, 3) := by decide +kernel
theorem dX10_isHermit_12 : decode cX10_isHermit 12 = .ok (.if_icmp .ge 7, 3) := by decide +kernel
theorem dX10_isHermit_15 : decode cX10_isHermit 15 = .ok (.iconst 1, 1) := by decide +kernel
theorem dX10_isHermit_16 : decode cX10_isHermit 16 = .ok (.goto 4, 3) := by decide +kernel
theorem dX10_isHermit_19 : decode cX10_isHermit 19 = .ok (.iconst 0, 1) := by decide +kernel
theorem dX10_isHermit_20 : decode cX10_isHermit 20 = .ok (.ireturn, 1) := by decide +kernel
theorem dX10_isSeat_0 : decode cX10_isSeat 0 = .ok (.iload_n 1, 1) := by decide +kernel
theorem dX10_isSeat_1 : decode cX10_isSeat 1 = .ok (.ifCond .lt 18, 3) := by decide +kernel
theorem dX10_isSeat_4 : decode cX10_isSeat 4 = .ok (.iload_n 1, 1) := by decide +kernel
theorem dX10_isSeat_5 : decode cX10_isSeat 5 = .ok (.aload_n 0, 1) := by decide +kernel
theorem dX10_isSeat_6 : decode cX10_isSeat 6 = .ok (.getfield 12, 3) := by decide +kernel
theorem dX10_isSeat_9 : decode cX10_isSeat 9 = .ok (.invokevirtual 81, 3) := by decide +kernel
theorem dX10_isSeat_12 : decode cX10_isSeat 12 = .ok (.if_icmp .ge 7, 3) := by decide +kernel
theorem dX10_isSeat_15 : decode cX10_isSeat 15 = .ok (.iconst 1, 1) := by decide +kernel
theorem dX10_isSeat_16 : decode cX10_isSeat 16 = .ok (.goto 4, 3) := by decide +kernel
theorem dX10_isSeat_19 : decode cX10_isSeat 19 = .ok (.iconst 0, 1) := by decide +kernel
theorem dX10_isSeat_20 : decode cX10_isSeat 20 = .ok (.ireturn, 1) := by decide +kernel
theorem dX10_areFasts_0 : decode cX10_areFasts 0 = .ok (.iload_n 1, 1) := by decide +kernel
theorem dX10_areFasts_1 : decode cX10_areFasts 1 = .ok (.ifCond .lt 20, 3) := by decide +kernel
theorem dX10_areFasts_4 : decode cX10_areFasts 4 = .ok (.iload_n 1, 1) := by decide +kernel
theorem dX10_areFasts_5 : decode cX10_areFasts 5 = .ok (.iconst 1, 1) := by decide +kernel
theorem dX10_areFasts_6 : decode cX10_areFasts 6 = .ok (.aload_n 0, 1) := by decide +kernel
theorem dX10_areFasts_7 : decode cX10_areFasts 7 = .ok (.getfield 12, 3) := by decide +kernel
theorem dX10_areFasts_10 : decode cX10_areFasts 10 = .ok (.invokevirtual 81, 3) := by decide +kernel
theorem dX10_areFasts_13 : decode cX10_areFasts 13 = .ok (.ishl, 1) := by decide +kernel
theorem dX10_areFasts_14 : decode cX10_areFasts 14 = .ok (.if_icmp .ge 7, 3) := by decide +kernel
theorem dX10_areFasts_17 : decode cX10_areFasts 17 = .ok (.iconst 1, 1) := by decide +kernel
theorem dX10_areFasts_18 : decode cX10_areFasts 18 = .ok (.goto 4, 3) := by decide +kernel
theorem dX10_areFasts_21 : decode cX10_areFasts 21 = .ok (.iconst 0, 1) := by decide +kernel
theorem dX10_areFasts_22 : decode cX10_areFasts 22 = .ok (.ireturn, 1) := by decide +kernel
theorem dX10_vowNumbered_0 : decode cX10_vowNumbered 0 = .ok (.iload_n 1, 1) := by decide +kernel
theorem dX10_vowNumbered_1 : decode cX10_vowNumbered 1 = .ok (.ifCond .lt 28, 3) := by decide +kernel
theorem dX10_vowNumbered_4 : decode cX10_vowNumbered 4 = .ok (.iload_n 1, 1) := by decide +kernel
theorem dX10_vowNumbered_5 : decode cX10_vowNumbered 5 = .ok (.aload_n 0, 1) := by decide +kernel
theorem dX10_vowNumbered_6 : decode cX10_vowNumbered 6 = .ok (.getfield 16, 3) := by decide +kernel
theorem dX10_vowNumbered_9 : decode cX10_vowNumbered 9 = .ok (.invokevirtual 81, 3) := by decide +kernel
theorem dX10_vowNumbered_12 : decode cX10_vowNumbered 12 = .ok (.if_icmp .ge 17, 3) := by decide +kernel
theorem dX10_vowNumbered_15 : decode cX10_vowNumbered 15 = .ok (.aload_n 0, 1) := by decide +kernel
theorem dX10_vowNumbered_16 : decode cX10_vowNumbered 16 = .ok (.getfield 16, 3) := by decide +kernel
theorem dX10_vowNumbered_19 : decode cX10_vowNumbered 19 = .ok (.iload_n 1, 1) := by decide +kernel
theorem dX10_vowNumbered_20 : decode cX10_vowNumbered 20 = .ok (.invokevirtual 124, 3) := by decide +kernel
theorem dX10_vowNumbered_23 : decode cX10_vowNumbered 23 = .ok (.checkcast 85, 3) := by decide +kernel
theorem dX10_vowNumbered_26 : decode cX10_vowNumbered 26 = .ok (.goto 4, 3) := by decide +kernel
theorem dX10_vowNumbered_29 : decode cX10_vowNumbered 29 = .ok (.aconst_null, 1) := by decide +kernel
theorem dX10_vowNumbered_30 : decode cX10_vowNumbered 30 = .ok (.areturn, 1) := by decide +kernel
theorem dX10_toldOf_0 : decode cX10_toldOf 0 = .ok (.aload_n 0, 1) := by decide +kernel
theorem dX10_toldOf_1 : decode cX10_toldOf 1 = .ok (.getfield 12, 3) := by decide +kernel
theorem dX10_toldOf_4 : decode cX10_toldOf 4 = .ok (.iload_n 1, 1) := by decide +kernel
theorem dX10_toldOf_5 : decode cX10_toldOf 5 = .ok (.invokevirtual 124, 3) := by decide +kernel
theorem dX10_toldOf_8 : decode cX10_toldOf 8 = .ok (.checkcast 128, 3) := by decide +kernel
theorem dX10_toldOf_11 : decode cX10_toldOf 11 = .ok (.astore_n 3, 1) := by decide +kernel
theorem dX10_toldOf_12 : decode cX10_toldOf 12 = .ok (.iload_n 2, 1) := by decide +kernel
theorem dX10_toldOf_13 : decode cX10_toldOf 13 = .ok (.tableswitch 86 0 5 #[39, 46, 53, 60, 67, 74], 39) := by decide +kernel
theorem dX10_toldOf_52 : decode cX10_toldOf 52 = .ok (.aload_n 3, 1) := by decide +kernel
theorem dX10_toldOf_53 : decode cX10_toldOf 53 = .ok (.invokevirtual 267, 3) := by decide +kernel
theorem dX10_toldOf_56 : decode cX10_toldOf 56 = .ok (.goto 51, 3) := by decide +kernel
theorem dX10_toldOf_59 : decode cX10_toldOf 59 = .ok (.aload_n 3, 1) := by decide +kernel
theorem dX10_toldOf_60 : decode cX10_toldOf 60 = .ok (.getfield 270, 3) := by decide +kernel
theorem dX10_toldOf_63 : decode cX10_toldOf 63 = .ok (.goto 44, 3) := by decide +kernel
theorem dX10_toldOf_66 : decode cX10_toldOf 66 = .ok (.aload_n 3, 1) := by decide +kernel
theorem dX10_toldOf_67 : decode cX10_toldOf 67 = .ok (.getfield 273, 3) := by decide +kernel
theorem dX10_toldOf_70 : decode cX10_toldOf 70 = .ok (.goto 37, 3) := by decide +kernel
theorem dX10_toldOf_73 : decode cX10_toldOf 73 = .ok (.aload_n 3, 1) := by decide +kernel
theorem dX10_toldOf_74 : decode cX10_toldOf 74 = .ok (.getfield 276, 3) := by decide +kernel
theorem dX10_toldOf_77 : decode cX10_toldOf 77 = .ok (.goto 30, 3) := by decide +kernel
theorem dX10_toldOf_80 : decode cX10_toldOf 80 = .ok (.aload_n 3, 1) := by decide +kernel
theorem dX10_toldOf_81 : decode cX10_toldOf 81 = .ok (.getfield 279, 3) := by decide +kernel
theorem dX10_toldOf_84 : decode cX10_toldOf 84 = .ok (.goto 23, 3) := by decide +kernel
theorem dX10_toldOf_87 : decode cX10_toldOf 87 = .ok (.aload_n 0, 1) := by decide +kernel
theorem dX10_toldOf_88 : decode cX10_toldOf 88 = .ok (.getfield 31, 3) := by decide +kernel
theorem dX10_toldOf_91 : decode cX10_toldOf 91 = .ok (.getfield 116, 3) := by decide +kernel
theorem dX10_toldOf_94 : decode cX10_toldOf 94 = .ok (.iload_n 1, 1) := by decide +kernel
theorem dX10_toldOf_95 : decode cX10_toldOf 95 = .ok (.iaload, 1) := by decide +kernel
theorem dX10_toldOf_96 : decode cX10_toldOf 96 = .ok (.goto 11, 3) := by decide +kernel
theorem dX10_toldOf_99 : decode cX10_toldOf 99 = .ok (.aload_n 0, 1) := by decide +kernel
theorem dX10_toldOf_100 : decode cX10_toldOf 100 = .ok (.getfield 31, 3) := by decide +kernel
theorem dX10_toldOf_103 : decode cX10_toldOf 103 = .ok (.iload_n 1, 1) := by decide +kernel
theorem dX10_toldOf_104 : decode cX10_toldOf 104 = .ok (.invokevirtual 282, 3) := by decide +kernel
theorem dX10_toldOf_107 : decode cX10_toldOf 107 = .ok (.ireturn, 1) := by decide +kernel
theorem dX10_counted_0 : decode cX10_counted 0 = .ok (.iload_n 1, 1) := by decide +kernel
theorem dX10_counted_1 : decode cX10_counted 1 = .ok (.tableswitch 102 0 5 #[39, 49, 59, 69, 79, 92], 39) := by decide +kernel
theorem dX10_counted_40 : decode cX10_counted 40 = .ok (.aload_n 0, 1) := by decide +kernel
theorem dX10_counted_41 : decode cX10_counted 41 = .ok (.getfield 12, 3) := by decide +kernel
theorem dX10_counted_44 : decode cX10_counted 44 = .ok (.invokevirtual 81, 3) := by decide +kernel
theorem dX10_counted_47 : decode cX10_counted 47 = .ok (.goto 63, 3) := by decide +kernel
theorem dX10_counted_50 : decode cX10_counted 50 = .ok (.aload_n 0, 1) := by decide +kernel
theorem dX10_counted_51 : decode cX10_counted 51 = .ok (.getfield 16, 3) := by decide +kernel
theorem dX10_counted_54 : decode cX10_counted 54 = .ok (.invokevirtual 81, 3) := by decide +kernel
theorem dX10_counted_57 : decode cX10_counted 57 = .ok (.goto 53, 3) := by decide +kernel
theorem dX10_counted_60 : decode cX10_counted 60 = .ok (.aload_n 0, 1) := by decide +kernel
theorem dX10_counted_61 : decode cX10_counted 61 = .ok (.getfield 31, 3) := by decide +kernel
theorem dX10_counted_64 : decode cX10_counted 64 = .ok (.invokevirtual 285, 3) := by decide +kernel
theorem dX10_counted_67 : decode cX10_counted 67 = .ok (.goto 43, 3) := by decide +kernel
theorem dX10_counted_70 : decode cX10_counted 70 = .ok (.aload_n 0, 1) := by decide +kernel
theorem dX10_counted_71 : decode cX10_counted 71 = .ok (.getfield 31, 3) := by decide +kernel
theorem dX10_counted_74 : decode cX10_counted 74 = .ok (.getfield 150, 3) := by decide +kernel
theorem dX10_counted_77 : decode cX10_counted 77 = .ok (.goto 33, 3) := by decide +kernel
theorem dX10_counted_80 : decode cX10_counted 80 = .ok (.aload_n 0, 1) := by decide +kernel
theorem dX10_counted_81 : decode cX10_counted 81 = .ok (.getfield 31, 3) := by decide +kernel
theorem dX10_counted_84 : decode cX10_counted 84 = .ok (.getfield 153, 3) := by decide +kernel
theorem dX10_counted_87 : decode cX10_counted 87 = .ok (.invokestatic 156, 3) := by decide +kernel
theorem dX10_counted_90 : decode cX10_counted 90 = .ok (.goto 20, 3) := by decide +kernel
theorem dX10_counted_93 : decode cX10_counted 93 = .ok (.aload_n 0, 1) := by decide +kernel
theorem dX10_counted_94 : decode cX10_counted 94 = .ok (.getfield 31, 3) := by decide +kernel
theorem dX10_counted_97 : decode cX10_counted 97 = .ok (.invokevirtual 288, 3) := by decide +kernel
theorem dX10_counted_100 : decode cX10_counted 100 = .ok (.goto 10, 3) := by decide +kernel
theorem dX10_counted_103 : decode cX10_counted 103 = .ok (.aload_n 0, 1) := by decide +kernel
theorem dX10_counted_104 : decode cX10_counted 104 = .ok (.getfield 22, 3) := by decide +kernel
theorem dX10_counted_107 : decode cX10_counted 107 = .ok (.getfield 64, 3) := by decide +kernel
theorem dX10_counted_110 : decode cX10_counted 110 = .ok (.ireturn, 1) := by decide +kernel
theorem dX10_leftIf_0 : decode cX10_leftIf 0 = .ok (.aload_n 0, 1) := by decide +kernel
theorem dX10_leftIf_1 : decode cX10_leftIf 1 = .ok (.getfield 47, 3) := by decide +kernel
theorem dX10_leftIf_4 : decode cX10_leftIf 4 = .ok (.aload_n 0, 1) := by decide +kernel
theorem dX10_leftIf_5 : decode cX10_leftIf 5 = .ok (.getfield 31, 3) := by decide +kernel
theorem dX10_leftIf_8 : decode cX10_leftIf 8 = .ok (.invokevirtual 171, 3) := by decide +kernel
theorem dX10_leftIf_11 : decode cX10_leftIf 11 = .ok (.aload_n 0, 1) := by decide +kernel
theorem dX10_leftIf_12 : decode cX10_leftIf 12 = .ok (.getfield 47, 3) := by decide +kernel
theorem dX10_leftIf_15 : decode cX10_leftIf 15 = .ok (.iload_n 1, 1) := by decide +kernel
theorem dX10_leftIf_16 : decode cX10_leftIf 16 = .ok (.putfield 291, 3) := by decide +kernel
theorem dX10_leftIf_19 : decode cX10_leftIf 19 = .ok (.aload_n 0, 1) := by decide +kernel
theorem dX10_leftIf_20 : decode cX10_leftIf 20 = .ok (.getfield 47, 3) := by decide +kernel
theorem dX10_leftIf_23 : decode cX10_leftIf 23 = .ok (.aload_n 2, 1) := by decide +kernel
theorem dX10_leftIf_24 : decode cX10_leftIf 24 = .ok (.aload_n 2, 1) := by decide +kernel
theorem dX10_leftIf_25 : decode cX10_leftIf 25 = .ok (.getfield 177, 3) := by decide +kernel
theorem dX10_leftIf_28 : decode cX10_leftIf 28 = .ok (.iload_n 3, 1) := by decide +kernel
theorem dX10_leftIf_29 : decode cX10_leftIf 29 = .ok (.iconst 0, 1) := by decide +kernel
theorem dX10_leftIf_30 : decode cX10_leftIf 30 = .ok (.iload 4, 2) := by decide +kernel
theorem dX10_leftIf_32 : decode cX10_leftIf 32 = .ok (.invokevirtual 180, 3) := by decide +kernel
theorem dX10_leftIf_35 : decode cX10_leftIf 35 = .ok (.aload_n 0, 1) := by decide +kernel
theorem dX10_leftIf_36 : decode cX10_leftIf 36 = .ok (.getfield 47, 3) := by decide +kernel
theorem dX10_leftIf_39 : decode cX10_leftIf 39 = .ok (.getfield 225, 3) := by decide +kernel
theorem dX10_leftIf_42 : decode cX10_leftIf 42 = .ok (.ireturn, 1) := by decide +kernel
theorem dX10_vowDigested_0 : decode cX10_vowDigested 0 = .ok (.lload_n 1, 1) := by decide +kernel
theorem dX10_vowDigested_1 : decode cX10_vowDigested 1 = .ok (.lstore 4, 2) := by decide +kernel
theorem dX10_vowDigested_3 : decode cX10_vowDigested 3 = .ok (.iconst 0, 1) := by decide +kernel
theorem dX10_vowDigested_4 : decode cX10_vowDigested 4 = .ok (.istore 6, 2) := by decide +kernel
theorem dX10_vowDigested_6 : decode cX10_vowDigested 6 = .ok (.iload 6, 2) := by decide +kernel
theorem dX10_vowDigested_8 : decode cX10_vowDigested 8 = .ok (.iconst 3, 1) := by decide +kernel
theorem dX10_vowDigested_9 : decode cX10_vowDigested 9 = .ok (.if_icmp .gt 25, 3) := by decide +kernel
theorem dX10_vowDigested_12 : decode cX10_vowDigested 12 = .ok (.ldc2_w 241, 3) := by decide +kernel
theorem dX10_vowDigested_15 : decode cX10_vowDigested 15 = .ok (.lload 4, 2) := by decide +kernel
theorem dX10_vowDigested_17 : decode cX10_vowDigested 17 = .ok (.lmul, 1) := by decide +kernel
theorem dX10_vowDigested_18 : decode cX10_vowDigested 18 = .ok (.aload_n 3, 1) := by decide +kernel
theorem dX10_vowDigested_19 : decode cX10_vowDigested 19 = .ok (.iload 6, 2) := by decide +kernel
theorem dX10_vowDigested_21 : decode cX10_vowDigested 21 = .ok (.invokevirtual 98, 3) := by decide +kernel
theorem dX10_vowDigested_24 : decode cX10_vowDigested 24 = .ok (.i2l, 1) := by decide +kernel
theorem dX10_vowDigested_25 : decode cX10_vowDigested 25 = .ok (.ladd, 1) := by decide +kernel
theorem dX10_vowDigested_26 : decode cX10_vowDigested 26 = .ok (.lstore 4, 2) := by decide +kernel
theorem dX10_vowDigested_28 : decode cX10_vowDigested 28 = .ok (.iinc 6 1, 3) := by decide +kernel
theorem dX10_vowDigested_31 : decode cX10_vowDigested 31 = .ok (.goto (-25), 3) := by decide +kernel
theorem dX10_vowDigested_34 : decode cX10_vowDigested 34 = .ok (.aload_n 0, 1) := by decide +kernel
theorem dX10_vowDigested_35 : decode cX10_vowDigested 35 = .ok (.getfield 12, 3) := by decide +kernel
theorem dX10_vowDigested_38 : decode cX10_vowDigested 38 = .ok (.invokevirtual 194, 3) := by decide +kernel
theorem dX10_vowDigested_41 : decode cX10_vowDigested 41 = .ok (.ifCond .eq 6, 3) := by decide +kernel
theorem dX10_vowDigested_44 : decode cX10_vowDigested 44 = .ok (.lload 4, 2) := by decide +kernel
theorem dX10_vowDigested_46 : decode cX10_vowDigested 46 = .ok (.lreturn, 1) := by decide +kernel
theorem dX10_vowDigested_47 : decode cX10_vowDigested 47 = .ok (.aload_n 0, 1) := by decide +kernel
theorem dX10_vowDigested_48 : decode cX10_vowDigested 48 = .ok (.getfield 47, 3) := by decide +kernel
theorem dX10_vowDigested_51 : decode cX10_vowDigested 51 = .ok (.aload_n 0, 1) := by decide +kernel
theorem dX10_vowDigested_52 : decode cX10_vowDigested 52 = .ok (.getfield 31, 3) := by decide +kernel
theorem dX10_vowDigested_55 : decode cX10_vowDigested 55 = .ok (.aload_n 3, 1) := by decide +kernel
theorem dX10_vowDigested_56 : decode cX10_vowDigested 56 = .ok (.iconst 0, 1) := by decide +kernel
theorem dX10_vowDigested_57 : decode cX10_vowDigested 57 = .ok (.iconst 0, 1) := by decide +kernel
theorem dX10_vowDigested_58 : decode cX10_vowDigested 58 = .ok (.invokevirtual 163, 3) := by decide +kernel
theorem dX10_vowDigested_61 : decode cX10_vowDigested 61 = .ok (.iconst 0, 1) := by decide +kernel
theorem dX10_vowDigested_62 : decode cX10_vowDigested 62 = .ok (.istore 6, 2) := by decide +kernel
theorem dX10_vowDigested_64 : decode cX10_vowDigested 64 = .ok (.iload 6, 2) := by decide +kernel
theorem dX10_vowDigested_66 : decode cX10_vowDigested 66 = .ok (.iconst 5, 1) := by decide +kernel
theorem dX10_vowDigested_67 : decode cX10_vowDigested 67 = .ok (.if_icmp .gt 28, 3) := by decide +kernel
theorem dX10_vowDigested_70 : decode cX10_vowDigested 70 = .ok (.ldc2_w 241, 3) := by decide +kernel
theorem dX10_vowDigested_73 : decode cX10_vowDigested 73 = .ok (.lload 4, 2) := by decide +kernel
theorem dX10_vowDigested_75 : decode cX10_vowDigested 75 = .ok (.lmul, 1) := by decide +kernel
theorem dX10_vowDigested_76 : decode cX10_vowDigested 76 = .ok (.aload_n 0, 1) := by decide +kernel
theorem dX10_vowDigested_77 : decode cX10_vowDigested 77 = .ok (.getfield 47, 3) := by decide +kernel
theorem dX10_vowDigested_80 : decode cX10_vowDigested 80 = .ok (.iload 6, 2) := by decide +kernel
theorem dX10_vowDigested_82 : decode cX10_vowDigested 82 = .ok (.invokevirtual 167, 3) := by decide +kernel
theorem dX10_vowDigested_85 : decode cX10_vowDigested 85 = .ok (.i2l, 1) := by decide +kernel
theorem dX10_vowDigested_86 : decode cX10_vowDigested 86 = .ok (.ladd, 1) := by decide +kernel
theorem dX10_vowDigested_87 : decode cX10_vowDigested 87 = .ok (.lstore 4, 2) := by decide +kernel
theorem dX10_vowDigested_89 : decode cX10_vowDigested 89 = .ok (.iinc 6 1, 3) := by decide +kernel
theorem dX10_vowDigested_92 : decode cX10_vowDigested 92 = .ok (.goto (-28), 3) := by decide +kernel
theorem dX10_vowDigested_95 : decode cX10_vowDigested 95 = .ok (.ldc2_w 241, 3) := by decide +kernel
theorem dX10_vowDigested_98 : decode cX10_vowDigested 98 = .ok (.lload 4, 2) := by decide +kernel
theorem dX10_vowDigested_100 : decode cX10_vowDigested 100 = .ok (.lmul, 1) := by decide +kernel
theorem dX10_vowDigested_101 : decode cX10_vowDigested 101 = .ok (.aload_n 0, 1) := by decide +kernel
theorem dX10_vowDigested_102 : decode cX10_vowDigested 102 = .ok (.getfield 47, 3) := by decide +kernel
theorem dX10_vowDigested_105 : decode cX10_vowDigested 105 = .ok (.invokevirtual 294, 3) := by decide +kernel
theorem dX10_vowDigested_108 : decode cX10_vowDigested 108 = .ok (.i2l, 1) := by decide +kernel
theorem dX10_vowDigested_109 : decode cX10_vowDigested 109 = .ok (.ladd, 1) := by decide +kernel
theorem dX10_vowDigested_110 : decode cX10_vowDigested 110 = .ok (.lreturn, 1) := by decide +kernel
theorem dJ9_max_7cf53_0 : decode cJ9_max_7cf53 0 = .ok (.iload_n 0, 1) := by decide +kernel
theorem dJ9_max_7cf53_1 : decode cJ9_max_7cf53 1 = .ok (.iload_n 1, 1) := by decide +kernel
theorem dJ9_max_7cf53_2 : decode cJ9_max_7cf53 2 = .ok (.if_icmp .lt 7, 3) := by decide +kernel
theorem dJ9_max_7cf53_5 : decode cJ9_max_7cf53 5 = .ok (.iload_n 0, 1) := by decide +kernel
theorem dJ9_max_7cf53_6 : decode cJ9_max_7cf53 6 = .ok (.goto 4, 3) := by decide +kernel
theorem dJ9_max_7cf53_9 : decode cJ9_max_7cf53 9 = .ok (.iload_n 1, 1) := by decide +kernel
theorem dJ9_max_7cf53_10 : decode cJ9_max_7cf53 10 = .ok (.ireturn, 1) := by decide +kernel
theorem dJ9_min_7cf53_0 : decode cJ9_min_7cf53 0 = .ok (.iload_n 0, 1) := by decide +kernel
theorem dJ9_min_7cf53_1 : decode cJ9_min_7cf53 1 = .ok (.iload_n 1, 1) := by decide +kernel
theorem dJ9_min_7cf53_2 : decode cJ9_min_7cf53 2 = .ok (.if_icmp .gt 7, 3) := by decide +kernel
theorem dJ9_min_7cf53_5 : decode cJ9_min_7cf53 5 = .ok (.iload_n 0, 1) := by decide +kernel
theorem dJ9_min_7cf53_6 : decode cJ9_min_7cf53 6 = .ok (.goto 4, 3) := by decide +kernel
theorem dJ9_min_7cf53_9 : decode cJ9_min_7cf53 9 = .ok (.iload_n 1, 1) := by decide +kernel
theorem dJ9_min_7cf53_10 : decode cJ9_min_7cf53 10 = .ok (.ireturn, 1) := by decide +kernel
theorem dJxa1e45_init_da8c8_0 : decode cJxa1e45_init_da8c8 0 = .ok (.aload_n 0, 1) := by decide +kernel
theorem dJxa1e45_init_da8c8_1 : decode cJxa1e45_init_da8c8 1 = .ok (.invokespecial 1, 3) := by decide +kernel
theorem dJxa1e45_init_da8c8_4 : decode cJxa1e45_init_da8c8 4 = .ok (.return_, 1) := by decide +kernel
theorem dJxc12de_init_da8c8_0 : decode cJxc12de_init_da8c8 0 = .ok (.aload_n 0, 1) := by decide +kernel
theorem dJxc12de_init_da8c8_1 : decode cJxc12de_init_da8c8 1 = .ok (.invokespecial 1, 3) := by decide +kernel
theorem dJxc12de_init_da8c8_4 : decode cJxc12de_init_da8c8 4 = .ok (.aload_n 0, 1) := by decide +kernel
theorem dJxc12de_init_da8c8_5 : decode cJxc12de_init_da8c8 5 = .ok (.iconst 0, 1) := by decide +kernel
theorem dJxc12de_init_da8c8_6 : decode cJxc12de_init_da8c8 6 = .ok (.putfield 7, 3) := by decide +kernel
theorem dJxc12de_init_da8c8_9 : decode cJxc12de_init_da8c8 9 = .ok (.return_, 1) := by decide +kernel
theorem dJx4a65c_init_da8c8_0 : decode cJx4a65c_init_da8c8 0 = .ok (.aload_n 0, 1) := by decide +kernel
theorem dJx4a65c_init_da8c8_1 : decode cJx4a65c_init_da8c8 1 = .ok (.invokespecial 1, 3) := by decide +kernel
theorem dJx4a65c_init_da8c8_4 : decode cJx4a65c_init_da8c8 4 = .ok (.aload_n 0, 1) := by decide +kernel
theorem dJx4a65c_init_da8c8_5 : decode cJx4a65c_init_da8c8 5 = .ok (.getstatic 39, 3) := by decide +kernel
theorem dJx4a65c_init_da8c8_8 : decode cJx4a65c_init_da8c8 8 = .ok (.putfield 9, 3) := by decide +kernel
theorem dJx4a65c_init_da8c8_11 : decode cJx4a65c_init_da8c8 11 = .ok (.return_, 1) := by decide +kernel
theorem dJx4a65c_grow_92f84_0 : decode cJx4a65c_grow_92f84 0 = .ok (.aload_n 0, 1) := by decide +kernel
theorem dJx4a65c_grow_92f84_1 : decode cJx4a65c_grow_92f84 1 = .ok (.getfield 9, 3) := by decide +kernel
theorem dJx4a65c_grow_92f84_4 : decode cJx4a65c_grow_92f84 4 = .ok (.arraylength, 1) := by decide +kernel
theorem dJx4a65c_grow_92f84_5 : decode cJx4a65c_grow_92f84 5 = .ok (.istore_n 2, 1) := by decide +kernel
theorem dJx4a65c_grow_92f84_6 : decode cJx4a65c_grow_92f84 6 = .ok (.iload_n 2, 1) := by decide +kernel
theorem dJx4a65c_grow_92f84_7 : decode cJx4a65c_grow_92f84 7 = .ok (.ifCond .gt 13, 3) := by decide +kernel
theorem dJx4a65c_grow_92f84_10 : decode cJx4a65c_grow_92f84 10 = .ok (.aload_n 0, 1) := by decide +kernel
theorem dJx4a65c_grow_92f84_11 : decode cJx4a65c_grow_92f84 11 = .ok (.getfield 9, 3) := by decide +kernel
theorem dJx4a65c_grow_92f84_14 : decode cJx4a65c_grow_92f84 14 = .ok (.getstatic 39, 3) := by decide +kernel
theorem dJx4a65c_grow_92f84_17 : decode cJx4a65c_grow_92f84 17 = .ok (.if_acmp .eq 28, 3) := by decide +kernel
theorem dJx4a65c_grow_92f84_20 : decode cJx4a65c_grow_92f84 20 = .ok (.iload_n 2, 1) := by decide +kernel
theorem dJx4a65c_grow_92f84_21 : decode cJx4a65c_grow_92f84 21 = .ok (.iload_n 1, 1) := by decide +kernel
theorem dJx4a65c_grow_92f84_22 : decode cJx4a65c_grow_92f84 22 = .ok (.iload_n 2, 1) := by decide +kernel
theorem dJx4a65c_grow_92f84_23 : decode cJx4a65c_grow_92f84 23 = .ok (.isub, 1) := by decide +kernel
theorem dJx4a65c_grow_92f84_24 : decode cJx4a65c_grow_92f84 24 = .ok (.iload_n 2, 1) := by decide +kernel
theorem dJx4a65c_grow_92f84_25 : decode cJx4a65c_grow_92f84 25 = .ok (.iconst 1, 1) := by decide +kernel
theorem dJx4a65c_grow_92f84_26 : decode cJx4a65c_grow_92f84 26 = .ok (.ishr, 1) := by decide +kernel
theorem dJx4a65c_grow_92f84_27 : decode cJx4a65c_grow_92f84 27 = .ok (.invokestatic 73, 3) := by decide +kernel
theorem dJx4a65c_grow_92f84_30 : decode cJx4a65c_grow_92f84 30 = .ok (.istore_n 3, 1) := by decide +kernel
theorem dJx4a65c_grow_92f84_31 : decode cJx4a65c_grow_92f84 31 = .ok (.aload_n 0, 1) := by decide +kernel
theorem dJx4a65c_grow_92f84_32 : decode cJx4a65c_grow_92f84 32 = .ok (.aload_n 0, 1) := by decide +kernel
theorem dJx4a65c_grow_92f84_33 : decode cJx4a65c_grow_92f84 33 = .ok (.getfield 9, 3) := by decide +kernel
theorem dJx4a65c_grow_92f84_36 : decode cJx4a65c_grow_92f84 36 = .ok (.iload_n 3, 1) := by decide +kernel
theorem dJx4a65c_grow_92f84_37 : decode cJx4a65c_grow_92f84 37 = .ok (.invokestatic 66, 3) := by decide +kernel
theorem dJx4a65c_grow_92f84_40 : decode cJx4a65c_grow_92f84 40 = .ok (.dup_x1, 1) := by decide +kernel
theorem dJx4a65c_grow_92f84_41 : decode cJx4a65c_grow_92f84 41 = .ok (.putfield 9, 3) := by decide +kernel
theorem dJx4a65c_grow_92f84_44 : decode cJx4a65c_grow_92f84 44 = .ok (.areturn, 1) := by decide +kernel
theorem dJx4a65c_grow_92f84_45 : decode cJx4a65c_grow_92f84 45 = .ok (.aload_n 0, 1) := by decide +kernel
theorem dJx4a65c_grow_92f84_46 : decode cJx4a65c_grow_92f84 46 = .ok (.bipush 10, 2) := by decide +kernel
theorem dJx4a65c_grow_92f84_48 : decode cJx4a65c_grow_92f84 48 = .ok (.iload_n 1, 1) := by decide +kernel
theorem dJx4a65c_grow_92f84_49 : decode cJx4a65c_grow_92f84 49 = .ok (.invokestatic 79, 3) := by decide +kernel
theorem dJx4a65c_grow_92f84_52 : decode cJx4a65c_grow_92f84 52 = .ok (.anewarray 7, 3) := by decide +kernel
theorem dJx4a65c_grow_92f84_55 : decode cJx4a65c_grow_92f84 55 = .ok (.dup_x1, 1) := by decide +kernel
theorem dJx4a65c_grow_92f84_56 : decode cJx4a65c_grow_92f84 56 = .ok (.putfield 9, 3) := by decide +kernel
theorem dJx4a65c_grow_92f84_59 : decode cJx4a65c_grow_92f84 59 = .ok (.areturn, 1) := by decide +kernel
theorem dJx4a65c_grow_d5877_0 : decode cJx4a65c_grow_d5877 0 = .ok (.aload_n 0, 1) := by decide +kernel
theorem dJx4a65c_grow_d5877_1 : decode cJx4a65c_grow_d5877 1 = .ok (.aload_n 0, 1) := by decide +kernel
theorem dJx4a65c_grow_d5877_2 : decode cJx4a65c_grow_d5877 2 = .ok (.getfield 48, 3) := by decide +kernel
theorem dJx4a65c_grow_d5877_5 : decode cJx4a65c_grow_d5877 5 = .ok (.iconst 1, 1) := by decide +kernel
theorem dJx4a65c_grow_d5877_6 : decode cJx4a65c_grow_d5877 6 = .ok (.iadd, 1) := by decide +kernel
theorem dJx4a65c_grow_d5877_7 : decode cJx4a65c_grow_d5877 7 = .ok (.invokevirtual 69, 3) := by decide +kernel
theorem dJx4a65c_grow_d5877_10 : decode cJx4a65c_grow_d5877 10 = .ok (.areturn, 1) := by decide +kernel
theorem dJx4a65c_size_8abf5_0 : decode cJx4a65c_size_8abf5 0 = .ok (.aload_n 0, 1) := by decide +kernel
theorem dJx4a65c_size_8abf5_1 : decode cJx4a65c_size_8abf5 1 = .ok (.getfield 48, 3) := by decide +kernel
theorem dJx4a65c_size_8abf5_4 : decode cJx4a65c_size_8abf5 4 = .ok (.ireturn, 1) := by decide +kernel
theorem dJx4a65c_isEmpty_aae02_0 : decode cJx4a65c_isEmpty_aae02 0 = .ok (.aload_n 0, 1) := by decide +kernel
theorem dJx4a65c_isEmpty_aae02_1 : decode cJx4a65c_isEmpty_aae02 1 = .ok (.getfield 48, 3) := by decide +kernel
theorem dJx4a65c_isEmpty_aae02_4 : decode cJx4a65c_isEmpty_aae02 4 = .ok (.ifCond .ne 7, 3) := by decide +kernel
theorem dJx4a65c_isEmpty_aae02_7 : decode cJx4a65c_isEmpty_aae02 7 = .ok (.iconst 1, 1) := by decide +kernel
theorem dJx4a65c_isEmpty_aae02_8 : decode cJx4a65c_isEmpty_aae02 8 = .ok (.goto 4, 3) := by decide +kernel
theorem dJx4a65c_isEmpty_aae02_11 : decode cJx4a65c_isEmpty_aae02 11 = .ok (.iconst 0, 1) := by decide +kernel
theorem dJx4a65c_isEmpty_aae02_12 : decode cJx4a65c_isEmpty_aae02 12 = .ok (.ireturn, 1) := by decide +kernel
theorem dJx4a65c_elementData_915e3_0 : decode cJx4a65c_elementData_915e3 0 = .ok (.aload_n 0, 1) := by decide +kernel
theorem dJx4a65c_elementData_915e3_1 : decode cJx4a65c_elementData_915e3 1 = .ok (.getfield 9, 3) := by decide +kernel
theorem dJx4a65c_elementData_915e3_4 : decode cJx4a65c_elementData_915e3 4 = .ok (.iload_n 1, 1) := by decide +kernel
theorem dJx4a65c_elementData_915e3_5 : decode cJx4a65c_elementData_915e3 5 = .ok (.aaload, 1) := by decide +kernel
theorem dJx4a65c_elementData_915e3_6 : decode cJx4a65c_elementData_915e3 6 = .ok (.areturn, 1) := by decide +kernel
theorem dJx4a65c_get_915e3_0 : decode cJx4a65c_get_915e3 0 = .ok (.iload_n 1, 1) := by decide +kernel
theorem dJx4a65c_get_915e3_1 : decode cJx4a65c_get_915e3 1 = .ok (.aload_n 0, 1) := by decide +kernel
theorem dJx4a65c_get_915e3_2 : decode cJx4a65c_get_915e3 2 = .ok (.getfield 48, 3) := by decide +kernel
theorem dJx4a65c_get_915e3_5 : decode cJx4a65c_get_915e3 5 = .ok (.invokestatic 118, 3) := by decide +kernel
theorem dJx4a65c_get_915e3_8 : decode cJx4a65c_get_915e3 8 = .ok (.pop, 1) := by decide +kernel
theorem dJx4a65c_get_915e3_9 : decode cJx4a65c_get_915e3 9 = .ok (.aload_n 0, 1) := by decide +kernel
theorem dJx4a65c_get_915e3_10 : decode cJx4a65c_get_915e3 10 = .ok (.iload_n 1, 1) := by decide +kernel
theorem dJx4a65c_get_915e3_11 : decode cJx4a65c_get_915e3 11 = .ok (.invokevirtual 123, 3) := by decide +kernel
theorem dJx4a65c_get_915e3_14 : decode cJx4a65c_get_915e3 14 = .ok (.areturn, 1) := by decide +kernel
theorem dJx4a65c_add_72be8_0 : decode cJx4a65c_add_72be8 0 = .ok (.iload_n 3, 1) := by decide +kernel
theorem dJx4a65c_add_72be8_1 : decode cJx4a65c_add_72be8 1 = .ok (.aload_n 2, 1) := by decide +kernel
theorem dJx4a65c_add_72be8_2 : decode cJx4a65c_add_72be8 2 = .ok (.arraylength, 1) := by decide +kernel
theorem dJx4a65c_add_72be8_3 : decode cJx4a65c_add_72be8 3 = .ok (.if_icmp .ne 8, 3) := by decide +kernel
theorem dJx4a65c_add_72be8_6 : decode cJx4a65c_add_72be8 6 = .ok (.aload_n 0, 1) := by decide +kernel
theorem dJx4a65c_add_72be8_7 : decode cJx4a65c_add_72be8 7 = .ok (.invokevirtual 129, 3) := by decide +kernel
theorem dJx4a65c_add_72be8_10 : decode cJx4a65c_add_72be8 10 = .ok (.astore_n 2, 1) := by decide +kernel
theorem dJx4a65c_add_72be8_11 : decode cJx4a65c_add_72be8 11 = .ok (.aload_n 2, 1) := by decide +kernel
theorem dJx4a65c_add_72be8_12 : decode cJx4a65c_add_72be8 12 = .ok (.iload_n 3, 1) := by decide +kernel
theorem dJx4a65c_add_72be8_13 : decode cJx4a65c_add_72be8 13 = .ok (.aload_n 1, 1) := by decide +kernel
theorem dJx4a65c_add_72be8_14 : decode cJx4a65c_add_72be8 14 = .ok (.aastore, 1) := by decide +kernel
theorem dJx4a65c_add_72be8_15 : decode cJx4a65c_add_72be8 15 = .ok (.aload_n 0, 1) := by decide +kernel
theorem dJx4a65c_add_72be8_16 : decode cJx4a65c_add_72be8 16 = .ok (.iload_n 3, 1) := by decide +kernel
theorem dJx4a65c_add_72be8_17 : decode cJx4a65c_add_72be8 17 = .ok (.iconst 1, 1) := by decide +kernel
theorem dJx4a65c_add_72be8_18 : decode cJx4a65c_add_72be8 18 = .ok (.iadd, 1) := by decide +kernel
theorem dJx4a65c_add_72be8_19 : decode cJx4a65c_add_72be8 19 = .ok (.putfield 48, 3) := by decide +kernel
theorem dJx4a65c_add_72be8_22 : decode cJx4a65c_add_72be8 22 = .ok (.return_, 1) := by decide +kernel
theorem dJx4a65c_add_9ea2d_0 : decode cJx4a65c_add_9ea2d 0 = .ok (.aload_n 0, 1) := by decide +kernel
theorem dJx4a65c_add_9ea2d_1 : decode cJx4a65c_add_9ea2d 1 = .ok (.dup, 1) := by decide +kernel
theorem dJx4a65c_add_9ea2d_2 : decode cJx4a65c_add_9ea2d 2 = .ok (.getfield 63, 3) := by decide +kernel
theorem dJx4a65c_add_9ea2d_5 : decode cJx4a65c_add_9ea2d 5 = .ok (.iconst 1, 1) := by decide +kernel
theorem dJx4a65c_add_9ea2d_6 : decode cJx4a65c_add_9ea2d 6 = .ok (.iadd, 1) := by decide +kernel
theorem dJx4a65c_add_9ea2d_7 : decode cJx4a65c_add_9ea2d 7 = .ok (.putfield 63, 3) := by decide +kernel
theorem dJx4a65c_add_9ea2d_10 : decode cJx4a65c_add_9ea2d 10 = .ok (.aload_n 0, 1) := by decide +kernel
theorem dJx4a65c_add_9ea2d_11 : decode cJx4a65c_add_9ea2d 11 = .ok (.aload_n 1, 1) := by decide +kernel
theorem dJx4a65c_add_9ea2d_12 : decode cJx4a65c_add_9ea2d 12 = .ok (.aload_n 0, 1) := by decide +kernel
theorem dJx4a65c_add_9ea2d_13 : decode cJx4a65c_add_9ea2d 13 = .ok (.getfield 9, 3) := by decide +kernel
theorem dJx4a65c_add_9ea2d_16 : decode cJx4a65c_add_9ea2d 16 = .ok (.aload_n 0, 1) := by decide +kernel
theorem dJx4a65c_add_9ea2d_17 : decode cJx4a65c_add_9ea2d 17 = .ok (.getfield 48, 3) := by decide +kernel
theorem dJx4a65c_add_9ea2d_20 : decode cJx4a65c_add_9ea2d 20 = .ok (.invokevirtual 131, 3) := by decide +kernel
theorem dJx4a65c_add_9ea2d_23 : decode cJx4a65c_add_9ea2d 23 = .ok (.iconst 1, 1) := by decide +kernel
theorem dJx4a65c_add_9ea2d_24 : decode cJx4a65c_add_9ea2d 24 = .ok (.ireturn, 1) := by decide +kernel
theorem dJ7_copyOf_1904c_0 : decode cJ7_copyOf_1904c 0 = .ok (.aload_n 0, 1) := by decide +kernel
theorem dJ7_copyOf_1904c_1 : decode cJ7_copyOf_1904c 1 = .ok (.iload_n 1, 1) := by decide +kernel
theorem dJ7_copyOf_1904c_2 : decode cJ7_copyOf_1904c 2 = .ok (.aload_n 0, 1) := by decide +kernel
theorem dJ7_copyOf_1904c_3 : decode cJ7_copyOf_1904c 3 = .ok (.invokevirtual 86, 3) := by decide +kernel
theorem dJ7_copyOf_1904c_6 : decode cJ7_copyOf_1904c 6 = .ok (.invokestatic 300, 3) := by decide +kernel
theorem dJ7_copyOf_1904c_9 : decode cJ7_copyOf_1904c 9 = .ok (.areturn, 1) := by decide +kernel
theorem dJ7_copyOf_6403c_0 : decode cJ7_copyOf_6403c 0 = .ok (.aload_n 2, 1) := by decide +kernel
theorem dJ7_copyOf_6403c_1 : decode cJ7_copyOf_6403c 1 = .ok (.ldc 110, 2) := by decide +kernel
theorem dJ7_copyOf_6403c_3 : decode cJ7_copyOf_6403c 3 = .ok (.if_acmp .ne 10, 3) := by decide +kernel
theorem dJ7_copyOf_6403c_6 : decode cJ7_copyOf_6403c 6 = .ok (.iload_n 1, 1) := by decide +kernel
theorem dJ7_copyOf_6403c_7 : decode cJ7_copyOf_6403c 7 = .ok (.anewarray 2, 3) := by decide +kernel
theorem dJ7_copyOf_6403c_10 : decode cJ7_copyOf_6403c 10 = .ok (.goto 14, 3) := by decide +kernel
theorem dJ7_copyOf_6403c_13 : decode cJ7_copyOf_6403c 13 = .ok (.aload_n 2, 1) := by decide +kernel
theorem dJ7_copyOf_6403c_14 : decode cJ7_copyOf_6403c 14 = .ok (.invokevirtual 90, 3) := by decide +kernel
theorem dJ7_copyOf_6403c_17 : decode cJ7_copyOf_6403c 17 = .ok (.iload_n 1, 1) := by decide +kernel
theorem dJ7_copyOf_6403c_18 : decode cJ7_copyOf_6403c 18 = .ok (.invokestatic 95, 3) := by decide +kernel
theorem dJ7_copyOf_6403c_21 : decode cJ7_copyOf_6403c 21 = .ok (.checkcast 110, 3) := by decide +kernel
theorem dJ7_copyOf_6403c_24 : decode cJ7_copyOf_6403c 24 = .ok (.astore_n 3, 1) := by decide +kernel
theorem dJ7_copyOf_6403c_25 : decode cJ7_copyOf_6403c 25 = .ok (.aload_n 0, 1) := by decide +kernel
theorem dJ7_copyOf_6403c_26 : decode cJ7_copyOf_6403c 26 = .ok (.iconst 0, 1) := by decide +kernel
theorem dJ7_copyOf_6403c_27 : decode cJ7_copyOf_6403c 27 = .ok (.aload_n 3, 1) := by decide +kernel
theorem dJ7_copyOf_6403c_28 : decode cJ7_copyOf_6403c 28 = .ok (.iconst 0, 1) := by decide +kernel
theorem dJ7_copyOf_6403c_29 : decode cJ7_copyOf_6403c 29 = .ok (.aload_n 0, 1) := by decide +kernel
theorem dJ7_copyOf_6403c_30 : decode cJ7_copyOf_6403c 30 = .ok (.arraylength, 1) := by decide +kernel
theorem dJ7_copyOf_6403c_31 : decode cJ7_copyOf_6403c 31 = .ok (.iload_n 1, 1) := by decide +kernel
theorem dJ7_copyOf_6403c_32 : decode cJ7_copyOf_6403c 32 = .ok (.invokestatic 304, 3) := by decide +kernel
theorem dJ7_copyOf_6403c_35 : decode cJ7_copyOf_6403c 35 = .ok (.invokestatic 150, 3) := by decide +kernel
theorem dJ7_copyOf_6403c_38 : decode cJ7_copyOf_6403c 38 = .ok (.aload_n 3, 1) := by decide +kernel
theorem dJ7_copyOf_6403c_39 : decode cJ7_copyOf_6403c 39 = .ok (.areturn, 1) := by decide +kernel
theorem dJ15_checkIndex_7cf53_0 : decode cJ15_checkIndex_7cf53 0 = .ok (.iload_n 0, 1) := by decide +kernel
theorem dJ15_checkIndex_7cf53_1 : decode cJ15_checkIndex_7cf53 1 = .ok (.iload_n 1, 1) := by decide +kernel
theorem dJ15_checkIndex_7cf53_2 : decode cJ15_checkIndex_7cf53 2 = .ok (.aconst_null, 1) := by decide +kernel
theorem dJ15_checkIndex_7cf53_3 : decode cJ15_checkIndex_7cf53 3 = .ok (.invokestatic 105, 3) := by decide +kernel
theorem dJ15_checkIndex_7cf53_6 : decode cJ15_checkIndex_7cf53 6 = .ok (.ireturn, 1) := by decide +kernel
theorem dJ8_newLength_cabcc_0 : decode cJ8_newLength_cabcc 0 = .ok (.iload_n 0, 1) := by decide +kernel
theorem dJ8_newLength_cabcc_1 : decode cJ8_newLength_cabcc 1 = .ok (.iload_n 1, 1) := by decide +kernel
theorem dJ8_newLength_cabcc_2 : decode cJ8_newLength_cabcc 2 = .ok (.iload_n 2, 1) := by decide +kernel
theorem dJ8_newLength_cabcc_3 : decode cJ8_newLength_cabcc 3 = .ok (.invokestatic 194, 3) := by decide +kernel
theorem dJ8_newLength_cabcc_6 : decode cJ8_newLength_cabcc 6 = .ok (.iadd, 1) := by decide +kernel
theorem dJ8_newLength_cabcc_7 : decode cJ8_newLength_cabcc 7 = .ok (.istore_n 3, 1) := by decide +kernel
theorem dJ8_newLength_cabcc_8 : decode cJ8_newLength_cabcc 8 = .ok (.iconst 0, 1) := by decide +kernel
theorem dJ8_newLength_cabcc_9 : decode cJ8_newLength_cabcc 9 = .ok (.iload_n 3, 1) := by decide +kernel
theorem dJ8_newLength_cabcc_10 : decode cJ8_newLength_cabcc 10 = .ok (.if_icmp .ge 11, 3) := by decide +kernel
theorem dJ8_newLength_cabcc_13 : decode cJ8_newLength_cabcc 13 = .ok (.iload_n 3, 1) := by decide +kernel
theorem dJ8_newLength_cabcc_14 : decode cJ8_newLength_cabcc 14 = .ok (.ldc 200, 2) := by decide +kernel
theorem dJ8_newLength_cabcc_16 : decode cJ8_newLength_cabcc 16 = .ok (.if_icmp .gt 5, 3) := by decide +kernel
theorem dJ8_newLength_cabcc_19 : decode cJ8_newLength_cabcc 19 = .ok (.iload_n 3, 1) := by decide +kernel
theorem dJ8_newLength_cabcc_20 : decode cJ8_newLength_cabcc 20 = .ok (.ireturn, 1) := by decide +kernel
theorem dJ8_newLength_cabcc_21 : decode cJ8_newLength_cabcc 21 = .ok (.iload_n 0, 1) := by decide +kernel
theorem dJ8_newLength_cabcc_22 : decode cJ8_newLength_cabcc 22 = .ok (.iload_n 1, 1) := by decide +kernel
theorem dJ8_newLength_cabcc_23 : decode cJ8_newLength_cabcc 23 = .ok (.invokestatic 201, 3) := by decide +kernel
theorem dJ8_newLength_cabcc_26 : decode cJ8_newLength_cabcc 26 = .ok (.ireturn, 1) := by decide +kernel
theorem dJ8_hugeLength_7cf53_0 : decode cJ8_hugeLength_7cf53 0 = .ok (.iload_n 0, 1) := by decide +kernel
theorem dJ8_hugeLength_7cf53_1 : decode cJ8_hugeLength_7cf53 1 = .ok (.iload_n 1, 1) := by decide +kernel
theorem dJ8_hugeLength_7cf53_2 : decode cJ8_hugeLength_7cf53 2 = .ok (.iadd, 1) := by decide +kernel
theorem dJ8_hugeLength_7cf53_3 : decode cJ8_hugeLength_7cf53 3 = .ok (.istore_n 2, 1) := by decide +kernel
theorem dJ8_hugeLength_7cf53_4 : decode cJ8_hugeLength_7cf53 4 = .ok (.iload_n 2, 1) := by decide +kernel
theorem dJ8_hugeLength_7cf53_5 : decode cJ8_hugeLength_7cf53 5 = .ok (.ifCond .ge 44, 3) := by decide +kernel
theorem dJ8_hugeLength_7cf53_8 : decode cJ8_hugeLength_7cf53 8 = .ok (.new 204, 3) := by decide +kernel
theorem dJ8_hugeLength_7cf53_11 : decode cJ8_hugeLength_7cf53 11 = .ok (.dup, 1) := by decide +kernel
theorem dJ8_hugeLength_7cf53_12 : decode cJ8_hugeLength_7cf53 12 = .ok (.new 89, 3) := by decide +kernel
theorem dJ8_hugeLength_7cf53_15 : decode cJ8_hugeLength_7cf53 15 = .ok (.dup, 1) := by decide +kernel
theorem dJ8_hugeLength_7cf53_16 : decode cJ8_hugeLength_7cf53 16 = .ok (.invokespecial 91, 3) := by decide +kernel
theorem dJ8_hugeLength_7cf53_19 : decode cJ8_hugeLength_7cf53 19 = .ok (.ldc 206, 2) := by decide +kernel
theorem dJ8_hugeLength_7cf53_21 : decode cJ8_hugeLength_7cf53 21 = .ok (.invokevirtual 94, 3) := by decide +kernel
theorem dJ8_hugeLength_7cf53_24 : decode cJ8_hugeLength_7cf53 24 = .ok (.iload_n 0, 1) := by decide +kernel
theorem dJ8_hugeLength_7cf53_25 : decode cJ8_hugeLength_7cf53 25 = .ok (.invokevirtual 98, 3) := by decide +kernel
theorem dJ8_hugeLength_7cf53_28 : decode cJ8_hugeLength_7cf53 28 = .ok (.ldc 208, 2) := by decide +kernel
theorem dJ8_hugeLength_7cf53_30 : decode cJ8_hugeLength_7cf53 30 = .ok (.invokevirtual 94, 3) := by decide +kernel
theorem dJ8_hugeLength_7cf53_33 : decode cJ8_hugeLength_7cf53 33 = .ok (.iload_n 1, 1) := by decide +kernel
theorem dJ8_hugeLength_7cf53_34 : decode cJ8_hugeLength_7cf53 34 = .ok (.invokevirtual 98, 3) := by decide +kernel
theorem dJ8_hugeLength_7cf53_37 : decode cJ8_hugeLength_7cf53 37 = .ok (.ldc 210, 2) := by decide +kernel
theorem dJ8_hugeLength_7cf53_39 : decode cJ8_hugeLength_7cf53 39 = .ok (.invokevirtual 94, 3) := by decide +kernel
theorem dJ8_hugeLength_7cf53_42 : decode cJ8_hugeLength_7cf53 42 = .ok (.invokevirtual 101, 3) := by decide +kernel
theorem dJ8_hugeLength_7cf53_45 : decode cJ8_hugeLength_7cf53 45 = .ok (.invokespecial 212, 3) := by decide +kernel
theorem dJ8_hugeLength_7cf53_48 : decode cJ8_hugeLength_7cf53 48 = .ok (.athrow, 1) := by decide +kernel
theorem dJ8_hugeLength_7cf53_49 : decode cJ8_hugeLength_7cf53 49 = .ok (.iload_n 2, 1) := by decide +kernel
theorem dJ8_hugeLength_7cf53_50 : decode cJ8_hugeLength_7cf53 50 = .ok (.ldc 200, 2) := by decide +kernel
theorem dJ8_hugeLength_7cf53_52 : decode cJ8_hugeLength_7cf53 52 = .ok (.if_icmp .gt 6, 3) := by decide +kernel
theorem dJ8_hugeLength_7cf53_55 : decode cJ8_hugeLength_7cf53 55 = .ok (.ldc 200, 2) := by decide +kernel
theorem dJ8_hugeLength_7cf53_57 : decode cJ8_hugeLength_7cf53 57 = .ok (.ireturn, 1) := by decide +kernel
theorem dJ8_hugeLength_7cf53_58 : decode cJ8_hugeLength_7cf53 58 = .ok (.iload_n 2, 1) := by decide +kernel
theorem dJ8_hugeLength_7cf53_59 : decode cJ8_hugeLength_7cf53 59 = .ok (.ireturn, 1) := by decide +kernel
theorem dJ3_checkIndex_8e157_0 : decode cJ3_checkIndex_8e157 0 = .ok (.iload_n 0, 1) := by decide +kernel
theorem dJ3_checkIndex_8e157_1 : decode cJ3_checkIndex_8e157 1 = .ok (.ifCond .lt 8, 3) := by decide +kernel
theorem dJ3_checkIndex_8e157_4 : decode cJ3_checkIndex_8e157 4 = .ok (.iload_n 0, 1) := by decide +kernel
theorem dJ3_checkIndex_8e157_5 : decode cJ3_checkIndex_8e157 5 = .ok (.iload_n 1, 1) := by decide +kernel
theorem dJ3_checkIndex_8e157_6 : decode cJ3_checkIndex_8e157 6 = .ok (.if_icmp .lt 10, 3) := by decide +kernel
theorem dJ3_checkIndex_8e157_9 : decode cJ3_checkIndex_8e157 9 = .ok (.aload_n 2, 1) := by decide +kernel
theorem dJ3_checkIndex_8e157_10 : decode cJ3_checkIndex_8e157 10 = .ok (.iload_n 0, 1) := by decide +kernel
theorem dJ3_checkIndex_8e157_11 : decode cJ3_checkIndex_8e157 11 = .ok (.iload_n 1, 1) := by decide +kernel
theorem dJ3_checkIndex_8e157_12 : decode cJ3_checkIndex_8e157 12 = .ok (.invokestatic 95, 3) := by decide +kernel
theorem dJ3_checkIndex_8e157_15 : decode cJ3_checkIndex_8e157 15 = .ok (.athrow, 1) := by decide +kernel
theorem dJ3_checkIndex_8e157_16 : decode cJ3_checkIndex_8e157 16 = .ok (.iload_n 0, 1) := by decide +kernel
theorem dJ3_checkIndex_8e157_17 : decode cJ3_checkIndex_8e157 17 = .ok (.ireturn, 1) := by decide +kernel

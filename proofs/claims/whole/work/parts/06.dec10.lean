/-! decoded instructions -/
theorem dX10_init_0 : decode cX10_init 0 = .ok (.aload_n 0, 1) := by decide +kernel
theorem dX10_init_1 : decode cX10_init 1 = .ok (.invokespecial 3, 3) := by decide +kernel
theorem dX10_init_4 : decode cX10_init 4 = .ok (.aload_n 0, 1) := by decide +kernel
theorem dX10_init_5 : decode cX10_init 5 = .ok (.sipush 900, 3) := by decide +kernel
theorem dX10_init_8 : decode cX10_init 8 = .ok (.newarray .byte, 2) := by decide +kernel
theorem dX10_init_10 : decode cX10_init 10 = .ok (.putfield 9, 3) := by decide +kernel
theorem dX10_init_13 : decode cX10_init 13 = .ok (.aload_n 0, 1) := by decide +kernel
theorem dX10_init_14 : decode cX10_init 14 = .ok (.iconst 0, 1) := by decide +kernel
theorem dX10_init_15 : decode cX10_init 15 = .ok (.putfield 13, 3) := by decide +kernel
theorem dX10_init_18 : decode cX10_init 18 = .ok (.aload_n 0, 1) := by decide +kernel
theorem dX10_init_19 : decode cX10_init 19 = .ok (.iconst (-1), 1) := by decide +kernel
theorem dX10_init_20 : decode cX10_init 20 = .ok (.putfield 17, 3) := by decide +kernel
theorem dX10_init_23 : decode cX10_init 23 = .ok (.aload_n 0, 1) := by decide +kernel
theorem dX10_init_24 : decode cX10_init 24 = .ok (.new 20, 3) := by decide +kernel
theorem dX10_init_27 : decode cX10_init 27 = .ok (.dup, 1) := by decide +kernel
theorem dX10_init_28 : decode cX10_init 28 = .ok (.invokespecial 22, 3) := by decide +kernel
theorem dX10_init_31 : decode cX10_init 31 = .ok (.putfield 23, 3) := by decide +kernel
theorem dX10_init_34 : decode cX10_init 34 = .ok (.aload_n 0, 1) := by decide +kernel
theorem dX10_init_35 : decode cX10_init 35 = .ok (.bipush 8, 2) := by decide +kernel
theorem dX10_init_37 : decode cX10_init 37 = .ok (.anewarray 20, 3) := by decide +kernel
theorem dX10_init_40 : decode cX10_init 40 = .ok (.putfield 27, 3) := by decide +kernel
theorem dX10_init_43 : decode cX10_init 43 = .ok (.aload_n 0, 1) := by decide +kernel
theorem dX10_init_44 : decode cX10_init 44 = .ok (.iconst 0, 1) := by decide +kernel
theorem dX10_init_45 : decode cX10_init 45 = .ok (.putfield 31, 3) := by decide +kernel
theorem dX10_init_48 : decode cX10_init 48 = .ok (.aload_n 0, 1) := by decide +kernel
theorem dX10_init_49 : decode cX10_init 49 = .ok (.iconst 0, 1) := by decide +kernel
theorem dX10_init_50 : decode cX10_init 50 = .ok (.putfield 34, 3) := by decide +kernel
theorem dX10_init_53 : decode cX10_init 53 = .ok (.aload_n 0, 1) := by decide +kernel
theorem dX10_init_54 : decode cX10_init 54 = .ok (.new 37, 3) := by decide +kernel
theorem dX10_init_57 : decode cX10_init 57 = .ok (.dup, 1) := by decide +kernel
theorem dX10_init_58 : decode cX10_init 58 = .ok (.invokespecial 39, 3) := by decide +kernel
theorem dX10_init_61 : decode cX10_init 61 = .ok (.putfield 40, 3) := by decide +kernel
theorem dX10_init_64 : decode cX10_init 64 = .ok (.aload_n 0, 1) := by decide +kernel
theorem dX10_init_65 : decode cX10_init 65 = .ok (.new 44, 3) := by decide +kernel
theorem dX10_init_68 : decode cX10_init 68 = .ok (.dup, 1) := by decide +kernel
theorem dX10_init_69 : decode cX10_init 69 = .ok (.invokespecial 46, 3) := by decide +kernel
theorem dX10_init_72 : decode cX10_init 72 = .ok (.putfield 47, 3) := by decide +kernel
theorem dX10_init_75 : decode cX10_init 75 = .ok (.aload_n 0, 1) := by decide +kernel
theorem dX10_init_76 : decode cX10_init 76 = .ok (.new 51, 3) := by decide +kernel
theorem dX10_init_79 : decode cX10_init 79 = .ok (.dup, 1) := by decide +kernel
theorem dX10_init_80 : decode cX10_init 80 = .ok (.invokespecial 53, 3) := by decide +kernel
theorem dX10_init_83 : decode cX10_init 83 = .ok (.putfield 54, 3) := by decide +kernel
theorem dX10_init_86 : decode cX10_init 86 = .ok (.aload_n 0, 1) := by decide +kernel
theorem dX10_init_87 : decode cX10_init 87 = .ok (.new 58, 3) := by decide +kernel
theorem dX10_init_90 : decode cX10_init 90 = .ok (.dup, 1) := by decide +kernel
theorem dX10_init_91 : decode cX10_init 91 = .ok (.invokespecial 60, 3) := by decide +kernel
theorem dX10_init_94 : decode cX10_init 94 = .ok (.putfield 61, 3) := by decide +kernel
theorem dX10_init_97 : decode cX10_init 97 = .ok (.aload_n 0, 1) := by decide +kernel
theorem dX10_init_98 : decode cX10_init 98 = .ok (.iconst 0, 1) := by decide +kernel
theorem dX10_init_99 : decode cX10_init 99 = .ok (.putfield 65, 3) := by decide +kernel
theorem dX10_init_102 : decode cX10_init 102 = .ok (.aload_n 0, 1) := by decide +kernel
theorem dX10_init_103 : decode cX10_init 103 = .ok (.iconst 0, 1) := by decide +kernel
theorem dX10_init_104 : decode cX10_init 104 = .ok (.putfield 69, 3) := by decide +kernel
theorem dX10_init_107 : decode cX10_init 107 = .ok (.iconst 0, 1) := by decide +kernel
theorem dX10_init_108 : decode cX10_init 108 = .ok (.istore_n 1, 1) := by decide +kernel
theorem dX10_init_109 : decode cX10_init 109 = .ok (.iload_n 1, 1) := by decide +kernel
theorem dX10_init_110 : decode cX10_init 110 = .ok (.aload_n 0, 1) := by decide +kernel
theorem dX10_init_111 : decode cX10_init 111 = .ok (.getfield 27, 3) := by decide +kernel
theorem dX10_init_114 : decode cX10_init 114 = .ok (.arraylength, 1) := by decide +kernel
theorem dX10_init_115 : decode cX10_init 115 = .ok (.if_icmp .ge 22, 3) := by decide +kernel
theorem dX10_init_118 : decode cX10_init 118 = .ok (.aload_n 0, 1) := by decide +kernel
theorem dX10_init_119 : decode cX10_init 119 = .ok (.getfield 27, 3) := by decide +kernel
theorem dX10_init_122 : decode cX10_init 122 = .ok (.iload_n 1, 1) := by decide +kernel
theorem dX10_init_123 : decode cX10_init 123 = .ok (.new 20, 3) := by decide +kernel
theorem dX10_init_126 : decode cX10_init 126 = .ok (.dup, 1) := by decide +kernel
theorem dX10_init_127 : decode cX10_init 127 = .ok (.invokespecial 22, 3) := by decide +kernel
theorem dX10_init_130 : decode cX10_init 130 = .ok (.aastore, 1) := by decide +kernel
theorem dX10_init_131 : decode cX10_init 131 = .ok (.iinc 1 1, 3) := by decide +kernel
theorem dX10_init_134 : decode cX10_init 134 = .ok (.goto (-25), 3) := by decide +kernel
theorem dX10_init_137 : decode cX10_init 137 = .ok (.return_, 1) := by decide +kernel
theorem dX10_append_0 : decode cX10_append 0 = .ok (.aload_n 0, 1) := by decide +kernel
theorem dX10_append_1 : decode cX10_append 1 = .ok (.getfield 13, 3) := by decide +kernel
theorem dX10_append_4 : decode cX10_append 4 = .ok (.bipush 20, 2) := by decide +kernel
theorem dX10_append_6 : decode cX10_append 6 = .ok (.iadd, 1) := by decide +kernel
theorem dX10_append_7 : decode cX10_append 7 = .ok (.sipush 900, 3) := by decide +kernel
theorem dX10_append_10 : decode cX10_append 10 = .ok (.if_icmp .le 5, 3) := by decide +kernel
theorem dX10_append_13 : decode cX10_append 13 = .ok (.iconst (-1), 1) := by decide +kernel
theorem dX10_append_14 : decode cX10_append 14 = .ok (.ireturn, 1) := by decide +kernel
theorem dX10_append_15 : decode cX10_append 15 = .ok (.aload_n 0, 1) := by decide +kernel
theorem dX10_append_16 : decode cX10_append 16 = .ok (.iload_n 1, 1) := by decide +kernel
theorem dX10_append_17 : decode cX10_append 17 = .ok (.invokevirtual 72, 3) := by decide +kernel
theorem dX10_append_20 : decode cX10_append 20 = .ok (.aload_n 0, 1) := by decide +kernel
theorem dX10_append_21 : decode cX10_append 21 = .ok (.iload_n 2, 1) := by decide +kernel
theorem dX10_append_22 : decode cX10_append 22 = .ok (.invokevirtual 72, 3) := by decide +kernel
theorem dX10_append_25 : decode cX10_append 25 = .ok (.aload_n 0, 1) := by decide +kernel
theorem dX10_append_26 : decode cX10_append 26 = .ok (.iload_n 3, 1) := by decide +kernel
theorem dX10_append_27 : decode cX10_append 27 = .ok (.invokevirtual 72, 3) := by decide +kernel
theorem dX10_append_30 : decode cX10_append 30 = .ok (.aload_n 0, 1) := by decide +kernel
theorem dX10_append_31 : decode cX10_append 31 = .ok (.iload 4, 2) := by decide +kernel
theorem dX10_append_33 : decode cX10_append 33 = .ok (.invokevirtual 72, 3) := by decide +kernel
theorem dX10_append_36 : decode cX10_append 36 = .ok (.aload_n 0, 1) := by decide +kernel
theorem dX10_append_37 : decode cX10_append 37 = .ok (.iload 5, 2) := by decide +kernel
theorem dX10_append_39 : decode cX10_append 39 = .ok (.invokevirtual 72, 3) := by decide +kernel
theorem dX10_append_42 : decode cX10_append 42 = .ok (.aload_n 0, 1) := by decide +kernel
theorem dX10_append_43 : decode cX10_append 43 = .ok (.getfield 13, 3) := by decide +kernel
theorem dX10_append_46 : decode cX10_append 46 = .ok (.ireturn, 1) := by decide +kernel
theorem dX10_load_0 : decode cX10_load 0 = .ok (.iload_n 1, 1) := by decide +kernel
theorem dX10_load_1 : decode cX10_load 1 = .ok (.ifCond .lt 11, 3) := by decide +kernel
theorem dX10_load_4 : decode cX10_load 4 = .ok (.iload_n 1, 1) := by decide +kernel
theorem dX10_load_5 : decode cX10_load 5 = .ok (.aload_n 0, 1) := by decide +kernel
theorem dX10_load_6 : decode cX10_load 6 = .ok (.getfield 13, 3) := by decide +kernel
theorem dX10_load_9 : decode cX10_load 9 = .ok (.if_icmp .le 13, 3) := by decide +kernel
theorem dX10_load_12 : decode cX10_load 12 = .ok (.new 76, 3) := by decide +kernel
theorem dX10_load_15 : decode cX10_load 15 = .ok (.dup, 1) := by decide +kernel
theorem dX10_load_16 : decode cX10_load 16 = .ok (.ldc 78, 2) := by decide +kernel
theorem dX10_load_18 : decode cX10_load 18 = .ok (.invokespecial 80, 3) := by decide +kernel
theorem dX10_load_21 : decode cX10_load 21 = .ok (.athrow, 1) := by decide +kernel
theorem dX10_load_22 : decode cX10_load 22 = .ok (.aload_n 0, 1) := by decide +kernel
theorem dX10_load_23 : decode cX10_load 23 = .ok (.iconst 0, 1) := by decide +kernel
theorem dX10_load_24 : decode cX10_load 24 = .ok (.putfield 13, 3) := by decide +kernel
theorem dX10_load_27 : decode cX10_load 27 = .ok (.aload_n 0, 1) := by decide +kernel
theorem dX10_load_28 : decode cX10_load 28 = .ok (.getfield 40, 3) := by decide +kernel
theorem dX10_load_31 : decode cX10_load 31 = .ok (.aload_n 0, 1) := by decide +kernel
theorem dX10_load_32 : decode cX10_load 32 = .ok (.getfield 9, 3) := by decide +kernel
theorem dX10_load_35 : decode cX10_load 35 = .ok (.iload_n 1, 1) := by decide +kernel
theorem dX10_load_36 : decode cX10_load 36 = .ok (.invokevirtual 83, 3) := by decide +kernel
theorem dX10_load_39 : decode cX10_load 39 = .ok (.istore_n 2, 1) := by decide +kernel
theorem dX10_load_40 : decode cX10_load 40 = .ok (.aload_n 0, 1) := by decide +kernel
theorem dX10_load_41 : decode cX10_load 41 = .ok (.aload_n 0, 1) := by decide +kernel
theorem dX10_load_42 : decode cX10_load 42 = .ok (.getfield 40, 3) := by decide +kernel
theorem dX10_load_45 : decode cX10_load 45 = .ok (.getfield 87, 3) := by decide +kernel
theorem dX10_load_48 : decode cX10_load 48 = .ok (.putfield 17, 3) := by decide +kernel
theorem dX10_load_51 : decode cX10_load 51 = .ok (.iload_n 2, 1) := by decide +kernel
theorem dX10_load_52 : decode cX10_load 52 = .ok (.ifCond .eq 5, 3) := by decide +kernel
theorem dX10_load_55 : decode cX10_load 55 = .ok (.iload_n 2, 1) := by decide +kernel
theorem dX10_load_56 : decode cX10_load 56 = .ok (.ireturn, 1) := by decide +kernel
theorem dX10_load_57 : decode cX10_load 57 = .ok (.aload_n 0, 1) := by decide +kernel
theorem dX10_load_58 : decode cX10_load 58 = .ok (.invokevirtual 88, 3) := by decide +kernel
theorem dX10_load_61 : decode cX10_load 61 = .ok (.aload_n 0, 1) := by decide +kernel
theorem dX10_load_62 : decode cX10_load 62 = .ok (.getfield 23, 3) := by decide +kernel
theorem dX10_load_65 : decode cX10_load 65 = .ok (.aload_n 0, 1) := by decide +kernel
theorem dX10_load_66 : decode cX10_load 66 = .ok (.getfield 40, 3) := by decide +kernel
theorem dX10_load_69 : decode cX10_load 69 = .ok (.getfield 91, 3) := by decide +kernel
theorem dX10_load_72 : decode cX10_load 72 = .ok (.invokevirtual 92, 3) := by decide +kernel
theorem dX10_load_75 : decode cX10_load 75 = .ok (.aload_n 0, 1) := by decide +kernel
theorem dX10_load_76 : decode cX10_load 76 = .ok (.getfield 23, 3) := by decide +kernel
theorem dX10_load_79 : decode cX10_load 79 = .ok (.getfield 96, 3) := by decide +kernel
theorem dX10_load_82 : decode cX10_load 82 = .ok (.getfield 100, 3) := by decide +kernel
theorem dX10_load_85 : decode cX10_load 85 = .ok (.ireturn, 1) := by decide +kernel
theorem dX10_errorOffset_0 : decode cX10_errorOffset 0 = .ok (.aload_n 0, 1) := by decide +kernel
theorem dX10_errorOffset_1 : decode cX10_errorOffset 1 = .ok (.getfield 17, 3) := by decide +kernel
theorem dX10_errorOffset_4 : decode cX10_errorOffset 4 = .ok (.ireturn, 1) := by decide +kernel
theorem dX10_crossingCount_0 : decode cX10_crossingCount 0 = .ok (.aload_n 0, 1) := by decide +kernel
theorem dX10_crossingCount_1 : decode cX10_crossingCount 1 = .ok (.getfield 23, 3) := by decide +kernel
theorem dX10_crossingCount_4 : decode cX10_crossingCount 4 = .ok (.getfield 105, 3) := by decide +kernel
theorem dX10_crossingCount_7 : decode cX10_crossingCount 7 = .ok (.ireturn, 1) := by decide +kernel
theorem dX10_streetCount_0 : decode cX10_streetCount 0 = .ok (.aload_n 0, 1) := by decide +kernel
theorem dX10_streetCount_1 : decode cX10_streetCount 1 = .ok (.getfield 23, 3) := by decide +kernel
theorem dX10_streetCount_4 : decode cX10_streetCount 4 = .ok (.getfield 108, 3) := by decide +kernel
theorem dX10_streetCount_7 : decode cX10_streetCount 7 = .ok (.getfield 112, 3) := by decide +kernel
theorem dX10_streetCount_10 : decode cX10_streetCount 10 = .ok (.ireturn, 1) := by decide +kernel
theorem dX10_houseCount_0 : decode cX10_houseCount 0 = .ok (.aload_n 0, 1) := by decide +kernel
theorem dX10_houseCount_1 : decode cX10_houseCount 1 = .ok (.getfield 23, 3) := by decide +kernel
theorem dX10_houseCount_4 : decode cX10_houseCount 4 = .ok (.getfield 96, 3) := by decide +kernel
theorem dX10_houseCount_7 : decode cX10_houseCount 7 = .ok (.getfield 100, 3) := by decide +kernel
theorem dX10_houseCount_10 : decode cX10_houseCount 10 = .ok (.ireturn, 1) := by decide +kernel
theorem dX10_walkerCount_0 : decode cX10_walkerCount 0 = .ok (.aload_n 0, 1) := by decide +kernel
theorem dX10_walkerCount_1 : decode cX10_walkerCount 1 = .ok (.getfield 23, 3) := by decide +kernel
theorem dX10_walkerCount_4 : decode cX10_walkerCount 4 = .ok (.getfield 115, 3) := by decide +kernel
theorem dX10_walkerCount_7 : decode cX10_walkerCount 7 = .ok (.getfield 119, 3) := by decide +kernel
theorem dX10_walkerCount_10 : decode cX10_walkerCount 10 = .ok (.ireturn, 1) := by decide +kernel
theorem dX10_distance_0 : decode cX10_distance 0 = .ok (.aload_n 0, 1) := by decide +kernel
theorem dX10_distance_1 : decode cX10_distance 1 = .ok (.iload_n 1, 1) := by decide +kernel
theorem dX10_distance_2 : decode cX10_distance 2 = .ok (.invokevirtual 122, 3) := by decide +kernel
theorem dX10_distance_5 : decode cX10_distance 5 = .ok (.aload_n 0, 1) := by decide +kernel
theorem dX10_distance_6 : decode cX10_distance 6 = .ok (.iload_n 2, 1) := by decide +kernel
theorem dX10_distance_7 : decode cX10_distance 7 = .ok (.invokevirtual 122, 3) := by decide +kernel
theorem dX10_distance_10 : decode cX10_distance 10 = .ok (.aload_n 0, 1) := by decide +kernel
theorem dX10_distance_11 : decode cX10_distance 11 = .ok (.invokevirtual 125, 3) := by decide +kernel
theorem dX10_distance_14 : decode cX10_distance 14 = .ok (.aload_n 0, 1) := by decide +kernel
theorem dX10_distance_15 : decode cX10_distance 15 = .ok (.getfield 47, 3) := by decide +kernel
theorem dX10_distance_18 : decode cX10_distance 18 = .ok (.aload_n 0, 1) := by decide +kernel
theorem dX10_distance_19 : decode cX10_distance 19 = .ok (.getfield 23, 3) := by decide +kernel
theorem dX10_distance_22 : decode cX10_distance 22 = .ok (.iload_n 1, 1) := by decide +kernel
theorem dX10_distance_23 : decode cX10_distance 23 = .ok (.iload_n 2, 1) := by decide +kernel
theorem dX10_distance_24 : decode cX10_distance 24 = .ok (.invokevirtual 128, 3) := by decide +kernel
theorem dX10_distance_27 : decode cX10_distance 27 = .ok (.ireturn, 1) := by decide +kernel
theorem dX10_distanceFrom_0 : decode cX10_distanceFrom 0 = .ok (.iload_n 1, 1) := by decide +kernel
theorem dX10_distanceFrom_1 : decode cX10_distanceFrom 1 = .ok (.ifCond .lt 14, 3) := by decide +kernel
theorem dX10_distanceFrom_4 : decode cX10_distanceFrom 4 = .ok (.iload_n 1, 1) := by decide +kernel
theorem dX10_distanceFrom_5 : decode cX10_distanceFrom 5 = .ok (.aload_n 0, 1) := by decide +kernel
theorem dX10_distanceFrom_6 : decode cX10_distanceFrom 6 = .ok (.getfield 23, 3) := by decide +kernel
theorem dX10_distanceFrom_9 : decode cX10_distanceFrom 9 = .ok (.getfield 105, 3) := by decide +kernel
theorem dX10_distanceFrom_12 : decode cX10_distanceFrom 12 = .ok (.if_icmp .lt 13, 3) := by decide +kernel
theorem dX10_distanceFrom_15 : decode cX10_distanceFrom 15 = .ok (.new 132, 3) := by decide +kernel
theorem dX10_distanceFrom_18 : decode cX10_distanceFrom 18 = .ok (.dup, 1) := by decide +kernel
theorem dX10_distanceFrom_19 : decode cX10_distanceFrom 19 = .ok (.ldc 134, 2) := by decide +kernel
theorem dX10_distanceFrom_21 : decode cX10_distanceFrom 21 = .ok (.invokespecial 136, 3) := by decide +kernel
theorem dX10_distanceFrom_24 : decode cX10_distanceFrom 24 = .ok (.athrow, 1) := by decide +kernel
theorem dX10_distanceFrom_25 : decode cX10_distanceFrom 25 = .ok (.aload_n 0, 1) := by decide +kernel
theorem dX10_distanceFrom_26 : decode cX10_distanceFrom 26 = .ok (.iload_n 2, 1) := by decide +kernel
theorem dX10_distanceFrom_27 : decode cX10_distanceFrom 27 = .ok (.invokevirtual 122, 3) := by decide +kernel
theorem dX10_distanceFrom_30 : decode cX10_distanceFrom 30 = .ok (.aload_n 0, 1) := by decide +kernel
theorem dX10_distanceFrom_31 : decode cX10_distanceFrom 31 = .ok (.invokevirtual 125, 3) := by decide +kernel
theorem dX10_distanceFrom_34 : decode cX10_distanceFrom 34 = .ok (.aload_n 0, 1) := by decide +kernel
theorem dX10_distanceFrom_35 : decode cX10_distanceFrom 35 = .ok (.getfield 47, 3) := by decide +kernel
theorem dX10_distanceFrom_38 : decode cX10_distanceFrom 38 = .ok (.aload_n 0, 1) := by decide +kernel
theorem dX10_distanceFrom_39 : decode cX10_distanceFrom 39 = .ok (.getfield 23, 3) := by decide +kernel
theorem dX10_distanceFrom_42 : decode cX10_distanceFrom 42 = .ok (.iload_n 1, 1) := by decide +kernel
theorem dX10_distanceFrom_43 : decode cX10_distanceFrom 43 = .ok (.iload_n 2, 1) := by decide +kernel
theorem dX10_distanceFrom_44 : decode cX10_distanceFrom 44 = .ok (.invokevirtual 137, 3) := by decide +kernel
theorem dX10_distanceFrom_47 : decode cX10_distanceFrom 47 = .ok (.ireturn, 1) := by decide +kernel
theorem dX10_streetOf_0 : decode cX10_streetOf 0 = .ok (.aload_n 0, 1) := by decide +kernel
theorem dX10_streetOf_1 : decode cX10_streetOf 1 = .ok (.iload_n 1, 1) := by decide +kernel
theorem dX10_streetOf_2 : decode cX10_streetOf 2 = .ok (.invokevirtual 122, 3) := by decide +kernel
theorem dX10_streetOf_5 : decode cX10_streetOf 5 = .ok (.aload_n 0, 1) := by decide +kernel
theorem dX10_streetOf_6 : decode cX10_streetOf 6 = .ok (.getfield 23, 3) := by decide +kernel
theorem dX10_streetOf_9 : decode cX10_streetOf 9 = .ok (.getfield 96, 3) := by decide +kernel
theorem dX10_streetOf_12 : decode cX10_streetOf 12 = .ok (.getfield 140, 3) := by decide +kernel
theorem dX10_streetOf_15 : decode cX10_streetOf 15 = .ok (.iload_n 1, 1) := by decide +kernel
theorem dX10_streetOf_16 : decode cX10_streetOf 16 = .ok (.iaload, 1) := by decide +kernel
theorem dX10_streetOf_17 : decode cX10_streetOf 17 = .ok (.ireturn, 1) := by decide +kernel
theorem dX10_isOpen_0 : decode cX10_isOpen 0 = .ok (.aload_n 0, 1) := by decide +kernel
theorem dX10_isOpen_1 : decode cX10_isOpen 1 = .ok (.iload_n 1, 1) := by decide +kernel
theorem dX10_isOpen_2 : decode cX10_isOpen 2 = .ok (.invokevirtual 144, 3) := by decide +kernel
theorem dX10_isOpen_5 : decode cX10_isOpen 5 = .ok (.aload_n 0, 1) := by decide +kernel
theorem dX10_isOpen_6 : decode cX10_isOpen 6 = .ok (.getfield 23, 3) := by decide +kernel
theorem dX10_isOpen_9 : decode cX10_isOpen 9 = .ok (.getfield 108, 3) := by decide +kernel
theorem dX10_isOpen_12 : decode cX10_isOpen 12 = .ok (.getfield 147, 3) := by decide +kernel
theorem dX10_isOpen_15 : decode cX10_isOpen 15 = .ok (.iload_n 1, 1) := by decide +kernel
theorem dX10_isOpen_16 : decode cX10_isOpen 16 = .ok (.baload, 1) := by decide +kernel
theorem dX10_isOpen_17 : decode cX10_isOpen 17 = .ok (.ireturn, 1) := by decide +kernel
theorem dX10_hasDog_0 : decode cX10_hasDog 0 = .ok (.aload_n 0, 1) := by decide +kernel
theorem dX10_hasDog_1 : decode cX10_hasDog 1 = .ok (.iload_n 1, 1) := by decide +kernel
theorem dX10_hasDog_2 : decode cX10_hasDog 2 = .ok (.invokevirtual 122, 3) := by decide +kernel
theorem dX10_hasDog_5 : decode cX10_hasDog 5 = .ok (.aload_n 0, 1) := by decide +kernel
theorem dX10_hasDog_6 : decode cX10_hasDog 6 = .ok (.getfield 23, 3) := by decide +kernel
theorem dX10_hasDog_9 : decode cX10_hasDog 9 = .ok (.getfield 96, 3) := by decide +kernel
theorem dX10_hasDog_12 : decode cX10_hasDog 12 = .ok (.getfield 151, 3) := by decide +kernel
theorem dX10_hasDog_15 : decode cX10_hasDog 15 = .ok (.iload_n 1, 1) := by decide +kernel
theorem dX10_hasDog_16 : decode cX10_hasDog 16 = .ok (.baload, 1) := by decide +kernel
theorem dX10_hasDog_17 : decode cX10_hasDog 17 = .ok (.ireturn, 1) := by decide +kernel
theorem dX10_isHome_0 : decode cX10_isHome 0 = .ok (.aload_n 0, 1) := by decide +kernel
theorem dX10_isHome_1 : decode cX10_isHome 1 = .ok (.iload_n 1, 1) := by decide +kernel
theorem dX10_isHome_2 : decode cX10_isHome 2 = .ok (.invokevirtual 122, 3) := by decide +kernel
theorem dX10_isHome_5 : decode cX10_isHome 5 = .ok (.iload_n 2, 1) := by decide +kernel
theorem dX10_isHome_6 : decode cX10_isHome 6 = .ok (.ifCond .lt 10, 3) := by decide +kernel
theorem dX10_isHome_9 : decode cX10_isHome 9 = .ok (.iload_n 2, 1) := by decide +kernel
theorem dX10_isHome_10 : decode cX10_isHome 10 = .ok (.sipush 9999, 3) := by decide +kernel
theorem dX10_isHome_13 : decode cX10_isHome 13 = .ok (.if_icmp .le 13, 3) := by decide +kernel
theorem dX10_isHome_16 : decode cX10_isHome 16 = .ok (.new 76, 3) := by decide +kernel
theorem dX10_isHome_19 : decode cX10_isHome 19 = .ok (.dup, 1) := by decide +kernel
theorem dX10_isHome_20 : decode cX10_isHome 20 = .ok (.ldc 154, 2) := by decide +kernel
theorem dX10_isHome_22 : decode cX10_isHome 22 = .ok (.invokespecial 80, 3) := by decide +kernel
theorem dX10_isHome_25 : decode cX10_isHome 25 = .ok (.athrow, 1) := by decide +kernel
theorem dX10_isHome_26 : decode cX10_isHome 26 = .ok (.aload_n 0, 1) := by decide +kernel
theorem dX10_isHome_27 : decode cX10_isHome 27 = .ok (.getfield 23, 3) := by decide +kernel
theorem dX10_isHome_30 : decode cX10_isHome 30 = .ok (.getfield 96, 3) := by decide +kernel
theorem dX10_isHome_33 : decode cX10_isHome 33 = .ok (.iload_n 1, 1) := by decide +kernel
theorem dX10_isHome_34 : decode cX10_isHome 34 = .ok (.iload_n 2, 1) := by decide +kernel
theorem dX10_isHome_35 : decode cX10_isHome 35 = .ok (.invokevirtual 156, 3) := by decide +kernel
theorem dX10_isHome_38 : decode cX10_isHome 38 = .ok (.ireturn, 1) := by decide +kernel
theorem dX10_duration_0 : decode cX10_duration 0 = .ok (.aload_n 0, 1) := by decide +kernel
theorem dX10_duration_1 : decode cX10_duration 1 = .ok (.iload_n 1, 1) := by decide +kernel
theorem dX10_duration_2 : decode cX10_duration 2 = .ok (.invokevirtual 122, 3) := by decide +kernel
theorem dX10_duration_5 : decode cX10_duration 5 = .ok (.iload_n 2, 1) := by decide +kernel
theorem dX10_duration_6 : decode cX10_duration 6 = .ok (.iconst 1, 1) := by decide +kernel
theorem dX10_duration_7 : decode cX10_duration 7 = .ok (.if_icmp .eq 18, 3) := by decide +kernel
theorem dX10_duration_10 : decode cX10_duration 10 = .ok (.iload_n 2, 1) := by decide +kernel
theorem dX10_duration_11 : decode cX10_duration 11 = .ok (.iconst 2, 1) := by decide +kernel
theorem dX10_duration_12 : decode cX10_duration 12 = .ok (.if_icmp .eq 13, 3) := by decide +kernel
theorem dX10_duration_15 : decode cX10_duration 15 = .ok (.new 76, 3) := by decide +kernel
theorem dX10_duration_18 : decode cX10_duration 18 = .ok (.dup, 1) := by decide +kernel
theorem dX10_duration_19 : decode cX10_duration 19 = .ok (.ldc 160, 2) := by decide +kernel
theorem dX10_duration_21 : decode cX10_duration 21 = .ok (.invokespecial 80, 3) := by decide +kernel
theorem dX10_duration_24 : decode cX10_duration 24 = .ok (.athrow, 1) := by decide +kernel
theorem dX10_duration_25 : decode cX10_duration 25 = .ok (.aload_n 0, 1) := by decide +kernel
theorem dX10_duration_26 : decode cX10_duration 26 = .ok (.getfield 23, 3) := by decide +kernel
theorem dX10_duration_29 : decode cX10_duration 29 = .ok (.getfield 96, 3) := by decide +kernel
theorem dX10_duration_32 : decode cX10_duration 32 = .ok (.iload_n 1, 1) := by decide +kernel
theorem dX10_duration_33 : decode cX10_duration 33 = .ok (.iload_n 2, 1) := by decide +kernel
theorem dX10_duration_34 : decode cX10_duration 34 = .ok (.invokevirtual 162, 3) := by decide +kernel
theorem dX10_duration_37 : decode cX10_duration 37 = .ok (.ireturn, 1) := by decide +kernel
theorem dX10_planLength_0 : decode cX10_planLength 0 = .ok (.aload_n 0, 1) := by decide +kernel
theorem dX10_planLength_1 : decode cX10_planLength 1 = .ok (.iload_n 1, 1) := by decide +kernel
theorem dX10_planLength_2 : decode cX10_planLength 2 = .ok (.invokevirtual 166, 3) := by decide +kernel
theorem dX10_planLength_5 : decode cX10_planLength 5 = .ok (.aload_n 0, 1) := by decide +kernel
theorem dX10_planLength_6 : decode cX10_planLength 6 = .ok (.getfield 23, 3) := by decide +kernel
theorem dX10_planLength_9 : decode cX10_planLength 9 = .ok (.getfield 115, 3) := by decide +kernel
theorem dX10_planLength_12 : decode cX10_planLength 12 = .ok (.getfield 169, 3) := by decide +kernel
theorem dX10_planLength_15 : decode cX10_planLength 15 = .ok (.iload_n 1, 1) := by decide +kernel
theorem dX10_planLength_16 : decode cX10_planLength 16 = .ok (.iaload, 1) := by decide +kernel
theorem dX10_planLength_17 : decode cX10_planLength 17 = .ok (.ireturn, 1) := by decide +kernel
theorem dX10_planned_0 : decode cX10_planned 0 = .ok (.aload_n 0, 1) := by decide +kernel
theorem dX10_planned_1 : decode cX10_planned 1 = .ok (.iload_n 1, 1) := by decide +kernel
theorem dX10_planned_2 : decode cX10_planned 2 = .ok (.iload_n 2, 1) := by decide +kernel
theorem dX10_planned_3 : decode cX10_planned 3 = .ok (.invokevirtual 172, 3) := by decide +kernel
theorem dX10_planned_6 : decode cX10_planned 6 = .ok (.aload_n 0, 1) := by decide +kernel
theorem dX10_planned_7 : decode cX10_planned 7 = .ok (.getfield 23, 3) := by decide +kernel
theorem dX10_planned_10 : decode cX10_planned 10 = .ok (.getfield 115, 3) := by decide +kernel
theorem dX10_planned_13 : decode cX10_planned 13 = .ok (.iload_n 1, 1) := by decide +kernel
theorem dX10_planned_14 : decode cX10_planned 14 = .ok (.iload_n 2, 1) := by decide +kernel
theorem dX10_planned_15 : decode cX10_planned 15 = .ok (.invokevirtual 176, 3) := by decide +kernel
theorem dX10_planned_18 : decode cX10_planned 18 = .ok (.ireturn, 1) := by decide +kernel
theorem dX10_result_0 : decode cX10_result 0 = .ok (.aload_n 0, 1) := by decide +kernel
theorem dX10_result_1 : decode cX10_result 1 = .ok (.iload_n 1, 1) := by decide +kernel
theorem dX10_result_2 : decode cX10_result 2 = .ok (.iload_n 2, 1) := by decide +kernel
theorem dX10_result_3 : decode cX10_result 3 = .ok (.invokevirtual 172, 3) := by decide +kernel
theorem dX10_result_6 : decode cX10_result 6 = .ok (.aload_n 0, 1) := by decide +kernel
theorem dX10_result_7 : decode cX10_result 7 = .ok (.invokevirtual 179, 3) := by decide +kernel
theorem dX10_result_10 : decode cX10_result 10 = .ok (.aload_n 0, 1) := by decide +kernel
theorem dX10_result_11 : decode cX10_result 11 = .ok (.getfield 54, 3) := by decide +kernel
theorem dX10_result_14 : decode cX10_result 14 = .ok (.getfield 182, 3) := by decide +kernel
theorem dX10_result_17 : decode cX10_result 17 = .ok (.iload_n 1, 1) := by decide +kernel
theorem dX10_result_18 : decode cX10_result 18 = .ok (.bipush 12, 2) := by decide +kernel
theorem dX10_result_20 : decode cX10_result 20 = .ok (.imul, 1) := by decide +kernel
theorem dX10_result_21 : decode cX10_result 21 = .ok (.iload_n 2, 1) := by decide +kernel
theorem dX10_result_22 : decode cX10_result 22 = .ok (.iadd, 1) := by decide +kernel
theorem dX10_result_23 : decode cX10_result 23 = .ok (.iaload, 1) := by decide +kernel
theorem dX10_result_24 : decode cX10_result 24 = .ok (.ireturn, 1) := by decide +kernel
theorem dX10_arrival_0 : decode cX10_arrival 0 = .ok (.aload_n 0, 1) := by decide +kernel
theorem dX10_arrival_1 : decode cX10_arrival 1 = .ok (.iload_n 1, 1) := by decide +kernel
theorem dX10_arrival_2 : decode cX10_arrival 2 = .ok (.iload_n 2, 1) := by decide +kernel
theorem dX10_arrival_3 : decode cX10_arrival 3 = .ok (.invokevirtual 172, 3) := by decide +kernel
theorem dX10_arrival_6 : decode cX10_arrival 6 = .ok (.aload_n 0, 1) := by decide +kernel
theorem dX10_arrival_7 : decode cX10_arrival 7 = .ok (.invokevirtual 179, 3) := by decide +kernel
theorem dX10_arrival_10 : decode cX10_arrival 10 = .ok (.aload_n 0, 1) := by decide +kernel
theorem dX10_arrival_11 : decode cX10_arrival 11 = .ok (.getfield 54, 3) := by decide +kernel
theorem dX10_arrival_14 : decode cX10_arrival 14 = .ok (.getfield 185, 3) := by decide +kernel
theorem dX10_arrival_17 : decode cX10_arrival 17 = .ok (.iload_n 1, 1) := by decide +kernel
theorem dX10_arrival_18 : decode cX10_arrival 18 = .ok (.bipush 12, 2) := by decide +kernel
theorem dX10_arrival_20 : decode cX10_arrival 20 = .ok (.imul, 1) := by decide +kernel
theorem dX10_arrival_21 : decode cX10_arrival 21 = .ok (.iload_n 2, 1) := by decide +kernel
theorem dX10_arrival_22 : decode cX10_arrival 22 = .ok (.iadd, 1) := by decide +kernel
theorem dX10_arrival_23 : decode cX10_arrival 23 = .ok (.iaload, 1) := by decide +kernel
theorem dX10_arrival_24 : decode cX10_arrival 24 = .ok (.ireturn, 1) := by decide +kernel
theorem dX10_finish_0 : decode cX10_finish 0 = .ok (.aload_n 0, 1) := by decide +kernel
theorem dX10_finish_1 : decode cX10_finish 1 = .ok (.iload_n 1, 1) := by decide +kernel
theorem dX10_finish_2 : decode cX10_finish 2 = .ok (.invokevirtual 166, 3) := by decide +kernel
theorem dX10_finish_5 : decode cX10_finish 5 = .ok (.aload_n 0, 1) := by decide +kernel
theorem dX10_finish_6 : decode cX10_finish 6 = .ok (.invokevirtual 179, 3) := by decide +kernel
theorem dX10_finish_9 : decode cX10_finish 9 = .ok (.aload_n 0, 1) := by decide +kernel
theorem dX10_finish_10 : decode cX10_finish 10 = .ok (.getfield 54, 3) := by decide +kernel
theorem dX10_finish_13 : decode cX10_finish 13 = .ok (.getfield 188, 3) := by decide +kernel
theorem dX10_finish_16 : decode cX10_finish 16 = .ok (.iload_n 1, 1) := by decide +kernel
theorem dX10_finish_17 : decode cX10_finish 17 = .ok (.iaload, 1) := by decide +kernel
theorem dX10_finish_18 : decode cX10_finish 18 = .ok (.ireturn, 1) := by decide +kernel
theorem dX10_finishAll_0 : decode cX10_finishAll 0 = .ok (.aload_n 0, 1) := by decide +kernel
theorem dX10_finishAll_1 : decode cX10_finishAll 1 = .ok (.invokevirtual 179, 3) := by decide +kernel
theorem dX10_finishAll_4 : decode cX10_finishAll 4 = .ok (.iconst 0, 1) := by decide +kernel
theorem dX10_finishAll_5 : decode cX10_finishAll 5 = .ok (.istore_n 1, 1) := by decide +kernel
theorem dX10_finishAll_6 : decode cX10_finishAll 6 = .ok (.iconst 0, 1) := by decide +kernel
theorem dX10_finishAll_7 : decode cX10_finishAll 7 = .ok (.istore_n 2, 1) := by decide +kernel
theorem dX10_finishAll_8 : decode cX10_finishAll 8 = .ok (.iload_n 2, 1) := by decide +kernel
theorem dX10_finishAll_9 : decode cX10_finishAll 9 = .ok (.aload_n 0, 1) := by decide +kernel
theorem dX10_finishAll_10 : decode cX10_finishAll 10 = .ok (.getfield 23, 3) := by decide +kernel
theorem dX10_finishAll_13 : decode cX10_finishAll 13 = .ok (.getfield 115, 3) := by decide +kernel
theorem dX10_finishAll_16 : decode cX10_finishAll 16 = .ok (.getfield 119, 3) := by decide +kernel
theorem dX10_finishAll_19 : decode cX10_finishAll 19 = .ok (.if_icmp .ge 38, 3) := by decide +kernel
theorem dX10_finishAll_22 : decode cX10_finishAll 22 = .ok (.aload_n 0, 1) := by decide +kernel
theorem dX10_finishAll_23 : decode cX10_finishAll 23 = .ok (.getfield 23, 3) := by decide +kernel
theorem dX10_finishAll_26 : decode cX10_finishAll 26 = .ok (.getfield 115, 3) := by decide +kernel
theorem dX10_finishAll_29 : decode cX10_finishAll 29 = .ok (.getfield 169, 3) := by decide +kernel
theorem dX10_finishAll_32 : decode cX10_finishAll 32 = .ok (.iload_n 2, 1) := by decide +kernel
theorem dX10_finishAll_33 : decode cX10_finishAll 33 = .ok (.iaload, 1) := by decide +kernel
theorem dX10_finishAll_34 : decode cX10_finishAll 34 = .ok (.ifCond .le 17, 3) := by decide +kernel
theorem dX10_finishAll_37 : decode cX10_finishAll 37 = .ok (.iload_n 1, 1) := by decide +kernel
theorem dX10_finishAll_38 : decode cX10_finishAll 38 = .ok (.aload_n 0, 1) := by decide +kernel
theorem dX10_finishAll_39 : decode cX10_finishAll 39 = .ok (.getfield 54, 3) := by decide +kernel
theorem dX10_finishAll_42 : decode cX10_finishAll 42 = .ok (.getfield 188, 3) := by decide +kernel
theorem dX10_finishAll_45 : decode cX10_finishAll 45 = .ok (.iload_n 2, 1) := by decide +kernel
theorem dX10_finishAll_46 : decode cX10_finishAll 46 = .ok (.iaload, 1) := by decide +kernel
theorem dX10_finishAll_47 : decode cX10_finishAll 47 = .ok (.invokestatic 191, 3) := by decide +kernel
theorem dX10_finishAll_50 : decode cX10_finishAll 50 = .ok (.istore_n 1, 1) := by decide +kernel
theorem dX10_finishAll_51 : decode cX10_finishAll 51 = .ok (.iinc 2 1, 3) := by decide +kernel
theorem dX10_finishAll_54 : decode cX10_finishAll 54 = .ok (.goto (-46), 3) := by decide +kernel
theorem dX10_finishAll_57 : decode cX10_finishAll 57 = .ok (.iload_n 1, 1) := by decide +kernel
theorem dX10_finishAll_58 : decode cX10_finishAll 58 = .ok (.ireturn, 1) := by decide +kernel
theorem dX10_counted_0 : decode cX10_counted 0 = .ok (.aload_n 0, 1) := by decide +kernel
theorem dX10_counted_1 : decode cX10_counted 1 = .ok (.invokevirtual 179, 3) := by decide +kernel
theorem dX10_counted_4 : decode cX10_counted 4 = .ok (.aload_n 0, 1) := by decide +kernel
theorem dX10_counted_5 : decode cX10_counted 5 = .ok (.getfield 54, 3) := by decide +kernel
theorem dX10_counted_8 : decode cX10_counted 8 = .ok (.getfield 196, 3) := by decide +kernel
theorem dX10_counted_11 : decode cX10_counted 11 = .ok (.ireturn, 1) := by decide +kernel
theorem dX10_persons_0 : decode cX10_persons 0 = .ok (.aload_n 0, 1) := by decide +kernel
theorem dX10_persons_1 : decode cX10_persons 1 = .ok (.invokevirtual 179, 3) := by decide +kernel
theorem dX10_persons_4 : decode cX10_persons 4 = .ok (.iconst 0, 1) := by decide +kernel
theorem dX10_persons_5 : decode cX10_persons 5 = .ok (.istore_n 1, 1) := by decide +kernel
theorem dX10_persons_6 : decode cX10_persons 6 = .ok (.iconst 0, 1) := by decide +kernel
theorem dX10_persons_7 : decode cX10_persons 7 = .ok (.istore_n 2, 1) := by decide +kernel
theorem dX10_persons_8 : decode cX10_persons 8 = .ok (.iload_n 2, 1) := by decide +kernel
theorem dX10_persons_9 : decode cX10_persons 9 = .ok (.aload_n 0, 1) := by decide +kernel
theorem dX10_persons_10 : decode cX10_persons 10 = .ok (.getfield 23, 3) := by decide +kernel
theorem dX10_persons_13 : decode cX10_persons 13 = .ok (.getfield 96, 3) := by decide +kernel
theorem dX10_persons_16 : decode cX10_persons 16 = .ok (.getfield 100, 3) := by decide +kernel
theorem dX10_persons_19 : decode cX10_persons 19 = .ok (.if_icmp .ge 38, 3) := by decide +kernel
theorem dX10_persons_22 : decode cX10_persons 22 = .ok (.aload_n 0, 1) := by decide +kernel
theorem dX10_persons_23 : decode cX10_persons 23 = .ok (.getfield 54, 3) := by decide +kernel
theorem dX10_persons_26 : decode cX10_persons 26 = .ok (.getfield 196, 3) := by decide +kernel
theorem dX10_persons_29 : decode cX10_persons 29 = .ok (.iload_n 2, 1) := by decide +kernel
theorem dX10_persons_30 : decode cX10_persons 30 = .ok (.invokestatic 199, 3) := by decide +kernel
theorem dX10_persons_33 : decode cX10_persons 33 = .ok (.ifCond .eq 18, 3) := by decide +kernel
theorem dX10_persons_36 : decode cX10_persons 36 = .ok (.iload_n 1, 1) := by decide +kernel
theorem dX10_persons_37 : decode cX10_persons 37 = .ok (.aload_n 0, 1) := by decide +kernel
theorem dX10_persons_38 : decode cX10_persons 38 = .ok (.getfield 23, 3) := by decide +kernel
theorem dX10_persons_41 : decode cX10_persons 41 = .ok (.getfield 96, 3) := by decide +kernel
theorem dX10_persons_44 : decode cX10_persons 44 = .ok (.getfield 202, 3) := by decide +kernel
theorem dX10_persons_47 : decode cX10_persons 47 = .ok (.iload_n 2, 1) := by decide +kernel
theorem dX10_persons_48 : decode cX10_persons 48 = .ok (.iaload, 1) := by decide +kernel
theorem dX10_persons_49 : decode cX10_persons 49 = .ok (.iadd, 1) := by decide +kernel
theorem dX10_persons_50 : decode cX10_persons 50 = .ok (.istore_n 1, 1) := by decide +kernel
theorem dX10_persons_51 : decode cX10_persons 51 = .ok (.iinc 2 1, 3) := by decide +kernel
theorem dX10_persons_54 : decode cX10_persons 54 = .ok (.goto (-46), 3) := by decide +kernel
theorem dX10_persons_57 : decode cX10_persons 57 = .ok (.iload_n 1, 1) := by decide +kernel
theorem dX10_persons_58 : decode cX10_persons 58 = .ok (.ireturn, 1) := by decide +kernel
theorem dX10_calls_0 : decode cX10_calls 0 = .ok (.aload_n 0, 1) := by decide +kernel
theorem dX10_calls_1 : decode cX10_calls 1 = .ok (.iload_n 1, 1) := by decide +kernel
theorem dX10_calls_2 : decode cX10_calls 2 = .ok (.invokevirtual 122, 3) := by decide +kernel
theorem dX10_calls_5 : decode cX10_calls 5 = .ok (.aload_n 0, 1) := by decide +kernel
theorem dX10_calls_6 : decode cX10_calls 6 = .ok (.invokevirtual 179, 3) := by decide +kernel
theorem dX10_calls_9 : decode cX10_calls 9 = .ok (.aload_n 0, 1) := by decide +kernel
theorem dX10_calls_10 : decode cX10_calls 10 = .ok (.getfield 54, 3) := by decide +kernel
theorem dX10_calls_13 : decode cX10_calls 13 = .ok (.getfield 205, 3) := by decide +kernel
theorem dX10_calls_16 : decode cX10_calls 16 = .ok (.iload_n 1, 1) := by decide +kernel
theorem dX10_calls_17 : decode cX10_calls 17 = .ok (.iaload, 1) := by decide +kernel
theorem dX10_calls_18 : decode cX10_calls 18 = .ok (.ireturn, 1) := by decide +kernel
theorem dX10_soonest_0 : decode cX10_soonest 0 = .ok (.aload_n 0, 1) := by decide +kernel
theorem dX10_soonest_1 : decode cX10_soonest 1 = .ok (.iload_n 1, 1) := by decide +kernel
theorem dX10_soonest_2 : decode cX10_soonest 2 = .ok (.invokevirtual 166, 3) := by decide +kernel
theorem dX10_soonest_5 : decode cX10_soonest 5 = .ok (.aload_n 0, 1) := by decide +kernel
theorem dX10_soonest_6 : decode cX10_soonest 6 = .ok (.iload_n 2, 1) := by decide +kernel
theorem dX10_soonest_7 : decode cX10_soonest 7 = .ok (.invokevirtual 208, 3) := by decide +kernel
theorem dX10_soonest_10 : decode cX10_soonest 10 = .ok (.aload_n 0, 1) := by decide +kernel
theorem dX10_soonest_11 : decode cX10_soonest 11 = .ok (.invokevirtual 125, 3) := by decide +kernel
theorem dX10_soonest_14 : decode cX10_soonest 14 = .ok (.aload_n 0, 1) := by decide +kernel
theorem dX10_soonest_15 : decode cX10_soonest 15 = .ok (.getfield 61, 3) := by decide +kernel
theorem dX10_soonest_18 : decode cX10_soonest 18 = .ok (.aload_n 0, 1) := by decide +kernel
theorem dX10_soonest_19 : decode cX10_soonest 19 = .ok (.getfield 23, 3) := by decide +kernel
theorem dX10_soonest_22 : decode cX10_soonest 22 = .ok (.aload_n 0, 1) := by decide +kernel
theorem dX10_soonest_23 : decode cX10_soonest 23 = .ok (.getfield 47, 3) := by decide +kernel
theorem dX10_soonest_26 : decode cX10_soonest 26 = .ok (.iload_n 1, 1) := by decide +kernel
theorem dX10_soonest_27 : decode cX10_soonest 27 = .ok (.iload_n 2, 1) := by decide +kernel
theorem dX10_soonest_28 : decode cX10_soonest 28 = .ok (.invokevirtual 211, 3) := by decide +kernel
theorem dX10_soonest_31 : decode cX10_soonest 31 = .ok (.ireturn, 1) := by decide +kernel
theorem dX10_soonestOrder_0 : decode cX10_soonestOrder 0 = .ok (.aload_n 0, 1) := by decide +kernel
theorem dX10_soonestOrder_1 : decode cX10_soonestOrder 1 = .ok (.iload_n 1, 1) := by decide +kernel
theorem dX10_soonestOrder_2 : decode cX10_soonestOrder 2 = .ok (.invokevirtual 166, 3) := by decide +kernel
theorem dX10_soonestOrder_5 : decode cX10_soonestOrder 5 = .ok (.aload_n 0, 1) := by decide +kernel
theorem dX10_soonestOrder_6 : decode cX10_soonestOrder 6 = .ok (.iload_n 2, 1) := by decide +kernel
theorem dX10_soonestOrder_7 : decode cX10_soonestOrder 7 = .ok (.invokevirtual 208, 3) := by decide +kernel
theorem dX10_soonestOrder_10 : decode cX10_soonestOrder 10 = .ok (.iload_n 3, 1) := by decide +kernel
theorem dX10_soonestOrder_11 : decode cX10_soonestOrder 11 = .ok (.ifCond .ge 13, 3) := by decide +kernel
theorem dX10_soonestOrder_14 : decode cX10_soonestOrder 14 = .ok (.new 76, 3) := by decide +kernel
theorem dX10_soonestOrder_17 : decode cX10_soonestOrder 17 = .ok (.dup, 1) := by decide +kernel
theorem dX10_soonestOrder_18 : decode cX10_soonestOrder 18 = .ok (.ldc 215, 2) := by decide +kernel
theorem dX10_soonestOrder_20 : decode cX10_soonestOrder 20 = .ok (.invokespecial 80, 3) := by decide +kernel
theorem dX10_soonestOrder_23 : decode cX10_soonestOrder 23 = .ok (.athrow, 1) := by decide +kernel
theorem dX10_soonestOrder_24 : decode cX10_soonestOrder 24 = .ok (.aload_n 0, 1) := by decide +kernel
theorem dX10_soonestOrder_25 : decode cX10_soonestOrder 25 = .ok (.invokevirtual 125, 3) := by decide +kernel
theorem dX10_soonestOrder_28 : decode cX10_soonestOrder 28 = .ok (.aload_n 0, 1) := by decide +kernel
theorem dX10_soonestOrder_29 : decode cX10_soonestOrder 29 = .ok (.getfield 61, 3) := by decide +kernel
theorem dX10_soonestOrder_32 : decode cX10_soonestOrder 32 = .ok (.aload_n 0, 1) := by decide +kernel
theorem dX10_soonestOrder_33 : decode cX10_soonestOrder 33 = .ok (.getfield 23, 3) := by decide +kernel
theorem dX10_soonestOrder_36 : decode cX10_soonestOrder 36 = .ok (.aload_n 0, 1) := by decide +kernel
theorem dX10_soonestOrder_37 : decode cX10_soonestOrder 37 = .ok (.getfield 47, 3) := by decide +kernel
theorem dX10_soonestOrder_40 : decode cX10_soonestOrder 40 = .ok (.iload_n 1, 1) := by decide +kernel
theorem dX10_soonestOrder_41 : decode cX10_soonestOrder 41 = .ok (.iload_n 2, 1) := by decide +kernel
theorem dX10_soonestOrder_42 : decode cX10_soonestOrder 42 = .ok (.invokevirtual 211, 3) := by decide +kernel
theorem dX10_soonestOrder_45 : decode cX10_soonestOrder 45 = .ok (.istore 4, 2) := by decide +kernel
theorem dX10_soonestOrder_47 : decode cX10_soonestOrder 47 = .ok (.iload 4, 2) := by decide +kernel
theorem dX10_soonestOrder_49 : decode cX10_soonestOrder 49 = .ok (.iconst (-1), 1) := by decide +kernel
theorem dX10_soonestOrder_50 : decode cX10_soonestOrder 50 = .ok (.if_icmp .eq 14, 3) := by decide +kernel
theorem dX10_soonestOrder_53 : decode cX10_soonestOrder 53 = .ok (.iload_n 3, 1) := by decide +kernel
theorem dX10_soonestOrder_54 : decode cX10_soonestOrder 54 = .ok (.aload_n 0, 1) := by decide +kernel
theorem dX10_soonestOrder_55 : decode cX10_soonestOrder 55 = .ok (.getfield 61, 3) := by decide +kernel
theorem dX10_soonestOrder_58 : decode cX10_soonestOrder 58 = .ok (.getfield 217, 3) := by decide +kernel
theorem dX10_soonestOrder_61 : decode cX10_soonestOrder 61 = .ok (.if_icmp .lt 5, 3) := by decide +kernel
theorem dX10_soonestOrder_64 : decode cX10_soonestOrder 64 = .ok (.iconst (-1), 1) := by decide +kernel
theorem dX10_soonestOrder_65 : decode cX10_soonestOrder 65 = .ok (.ireturn, 1) := by decide +kernel
theorem dX10_soonestOrder_66 : decode cX10_soonestOrder 66 = .ok (.aload_n 0, 1) := by decide +kernel
theorem dX10_soonestOrder_67 : decode cX10_soonestOrder 67 = .ok (.getfield 61, 3) := by decide +kernel
theorem dX10_soonestOrder_70 : decode cX10_soonestOrder 70 = .ok (.iload 4, 2) := by decide +kernel
theorem dX10_soonestOrder_72 : decode cX10_soonestOrder 72 = .ok (.invokevirtual 220, 3) := by decide +kernel
theorem dX10_soonestOrder_75 : decode cX10_soonestOrder 75 = .ok (.aload_n 0, 1) := by decide +kernel
theorem dX10_soonestOrder_76 : decode cX10_soonestOrder 76 = .ok (.getfield 61, 3) := by decide +kernel
theorem dX10_soonestOrder_79 : decode cX10_soonestOrder 79 = .ok (.getfield 223, 3) := by decide +kernel
theorem dX10_soonestOrder_82 : decode cX10_soonestOrder 82 = .ok (.iload_n 3, 1) := by decide +kernel
theorem dX10_soonestOrder_83 : decode cX10_soonestOrder 83 = .ok (.iaload, 1) := by decide +kernel
theorem dX10_soonestOrder_84 : decode cX10_soonestOrder 84 = .ok (.ireturn, 1) := by decide +kernel
theorem dX10_division_0 : decode cX10_division 0 = .ok (.aload_n 0, 1) := by decide +kernel
theorem dX10_division_1 : decode cX10_division 1 = .ok (.iload_n 1, 1) := by decide +kernel
theorem dX10_division_2 : decode cX10_division 2 = .ok (.invokevirtual 208, 3) := by decide +kernel
theorem dX10_division_5 : decode cX10_division 5 = .ok (.aload_n 0, 1) := by decide +kernel
theorem dX10_division_6 : decode cX10_division 6 = .ok (.invokevirtual 125, 3) := by decide +kernel
theorem dX10_division_9 : decode cX10_division 9 = .ok (.aload_n 0, 1) := by decide +kernel
theorem dX10_division_10 : decode cX10_division 10 = .ok (.getfield 61, 3) := by decide +kernel
theorem dX10_division_13 : decode cX10_division 13 = .ok (.aload_n 0, 1) := by decide +kernel
theorem dX10_division_14 : decode cX10_division 14 = .ok (.getfield 23, 3) := by decide +kernel
theorem dX10_division_17 : decode cX10_division 17 = .ok (.aload_n 0, 1) := by decide +kernel
theorem dX10_division_18 : decode cX10_division 18 = .ok (.getfield 47, 3) := by decide +kernel
theorem dX10_division_21 : decode cX10_division 21 = .ok (.iload_n 1, 1) := by decide +kernel
theorem dX10_division_22 : decode cX10_division 22 = .ok (.invokevirtual 226, 3) := by decide +kernel
theorem dX10_division_25 : decode cX10_division 25 = .ok (.aload_n 0, 1) := by decide +kernel
theorem dX10_division_26 : decode cX10_division 26 = .ok (.getfield 61, 3) := by decide +kernel
theorem dX10_division_29 : decode cX10_division 29 = .ok (.getfield 230, 3) := by decide +kernel
theorem dX10_division_32 : decode cX10_division 32 = .ok (.ireturn, 1) := by decide +kernel
theorem dX10_walkerOf_0 : decode cX10_walkerOf 0 = .ok (.aload_n 0, 1) := by decide +kernel
theorem dX10_walkerOf_1 : decode cX10_walkerOf 1 = .ok (.iload_n 2, 1) := by decide +kernel
theorem dX10_walkerOf_2 : decode cX10_walkerOf 2 = .ok (.invokevirtual 122, 3) := by decide +kernel
theorem dX10_walkerOf_5 : decode cX10_walkerOf 5 = .ok (.aload_n 0, 1) := by decide +kernel
theorem dX10_walkerOf_6 : decode cX10_walkerOf 6 = .ok (.iload_n 1, 1) := by decide +kernel
theorem dX10_walkerOf_7 : decode cX10_walkerOf 7 = .ok (.invokevirtual 208, 3) := by decide +kernel
theorem dX10_walkerOf_10 : decode cX10_walkerOf 10 = .ok (.iload_n 1, 1) := by decide +kernel
theorem dX10_walkerOf_11 : decode cX10_walkerOf 11 = .ok (.iload_n 2, 1) := by decide +kernel
theorem dX10_walkerOf_12 : decode cX10_walkerOf 12 = .ok (.invokestatic 199, 3) := by decide +kernel
theorem dX10_walkerOf_15 : decode cX10_walkerOf 15 = .ok (.ifCond .ne 5, 3) := by decide +kernel
theorem dX10_walkerOf_18 : decode cX10_walkerOf 18 = .ok (.iconst (-1), 1) := by decide +kernel
theorem dX10_walkerOf_19 : decode cX10_walkerOf 19 = .ok (.ireturn, 1) := by decide +kernel
theorem dX10_walkerOf_20 : decode cX10_walkerOf 20 = .ok (.aload_n 0, 1) := by decide +kernel
theorem dX10_walkerOf_21 : decode cX10_walkerOf 21 = .ok (.invokevirtual 125, 3) := by decide +kernel
theorem dX10_walkerOf_24 : decode cX10_walkerOf 24 = .ok (.aload_n 0, 1) := by decide +kernel
theorem dX10_walkerOf_25 : decode cX10_walkerOf 25 = .ok (.getfield 61, 3) := by decide +kernel
theorem dX10_walkerOf_28 : decode cX10_walkerOf 28 = .ok (.aload_n 0, 1) := by decide +kernel
theorem dX10_walkerOf_29 : decode cX10_walkerOf 29 = .ok (.getfield 23, 3) := by decide +kernel
theorem dX10_walkerOf_32 : decode cX10_walkerOf 32 = .ok (.aload_n 0, 1) := by decide +kernel
theorem dX10_walkerOf_33 : decode cX10_walkerOf 33 = .ok (.getfield 47, 3) := by decide +kernel
theorem dX10_walkerOf_36 : decode cX10_walkerOf 36 = .ok (.iload_n 1, 1) := by decide +kernel
theorem dX10_walkerOf_37 : decode cX10_walkerOf 37 = .ok (.invokevirtual 226, 3) := by decide +kernel
theorem dX10_walkerOf_40 : decode cX10_walkerOf 40 = .ok (.aload_n 0, 1) := by decide +kernel
theorem dX10_walkerOf_41 : decode cX10_walkerOf 41 = .ok (.getfield 61, 3) := by decide +kernel
theorem dX10_walkerOf_44 : decode cX10_walkerOf 44 = .ok (.iload_n 2, 1) := by decide +kernel
theorem dX10_walkerOf_45 : decode cX10_walkerOf 45 = .ok (.invokevirtual 233, 3) := by decide +kernel
theorem dX10_walkerOf_48 : decode cX10_walkerOf 48 = .ok (.ireturn, 1) := by decide +kernel
theorem dX10_plan_0 : decode cX10_plan 0 = .ok (.aload_n 0, 1) := by decide +kernel
theorem dX10_plan_1 : decode cX10_plan 1 = .ok (.iload_n 1, 1) := by decide +kernel
theorem dX10_plan_2 : decode cX10_plan 2 = .ok (.invokevirtual 166, 3) := by decide +kernel
theorem dX10_plan_5 : decode cX10_plan 5 = .ok (.aload_n 0, 1) := by decide +kernel
theorem dX10_plan_6 : decode cX10_plan 6 = .ok (.iload_n 2, 1) := by decide +kernel
theorem dX10_plan_7 : decode cX10_plan 7 = .ok (.invokevirtual 122, 3) := by decide +kernel
theorem dX10_plan_10 : decode cX10_plan 10 = .ok (.aload_n 0, 1) := by decide +kernel
theorem dX10_plan_11 : decode cX10_plan 11 = .ok (.getfield 23, 3) := by decide +kernel
theorem dX10_plan_14 : decode cX10_plan 14 = .ok (.getfield 115, 3) := by decide +kernel
theorem dX10_plan_17 : decode cX10_plan 17 = .ok (.getfield 169, 3) := by decide +kernel
theorem dX10_plan_20 : decode cX10_plan 20 = .ok (.iload_n 1, 1) := by decide +kernel
theorem dX10_plan_21 : decode cX10_plan 21 = .ok (.iaload, 1) := by decide +kernel
theorem dX10_plan_22 : decode cX10_plan 22 = .ok (.istore_n 3, 1) := by decide +kernel
theorem dX10_plan_23 : decode cX10_plan 23 = .ok (.iload_n 3, 1) := by decide +kernel
theorem dX10_plan_24 : decode cX10_plan 24 = .ok (.bipush 12, 2) := by decide +kernel
theorem dX10_plan_26 : decode cX10_plan 26 = .ok (.if_icmp .lt 13, 3) := by decide +kernel
theorem dX10_plan_29 : decode cX10_plan 29 = .ok (.new 237, 3) := by decide +kernel
theorem dX10_plan_32 : decode cX10_plan 32 = .ok (.dup, 1) := by decide +kernel
theorem dX10_plan_33 : decode cX10_plan 33 = .ok (.ldc 239, 2) := by decide +kernel
theorem dX10_plan_35 : decode cX10_plan 35 = .ok (.invokespecial 241, 3) := by decide +kernel
theorem dX10_plan_38 : decode cX10_plan 38 = .ok (.athrow, 1) := by decide +kernel
theorem dX10_plan_39 : decode cX10_plan 39 = .ok (.aload_n 0, 1) := by decide +kernel
theorem dX10_plan_40 : decode cX10_plan 40 = .ok (.invokevirtual 88, 3) := by decide +kernel
theorem dX10_plan_43 : decode cX10_plan 43 = .ok (.aload_n 0, 1) := by decide +kernel
theorem dX10_plan_44 : decode cX10_plan 44 = .ok (.getfield 23, 3) := by decide +kernel
theorem dX10_plan_47 : decode cX10_plan 47 = .ok (.getfield 115, 3) := by decide +kernel
theorem dX10_plan_50 : decode cX10_plan 50 = .ok (.getfield 242, 3) := by decide +kernel
theorem dX10_plan_53 : decode cX10_plan 53 = .ok (.iload_n 1, 1) := by decide +kernel
theorem dX10_plan_54 : decode cX10_plan 54 = .ok (.bipush 12, 2) := by decide +kernel
theorem dX10_plan_56 : decode cX10_plan 56 = .ok (.imul, 1) := by decide +kernel
theorem dX10_plan_57 : decode cX10_plan 57 = .ok (.iload_n 3, 1) := by decide +kernel
theorem dX10_plan_58 : decode cX10_plan 58 = .ok (.iadd, 1) := by decide +kernel
theorem dX10_plan_59 : decode cX10_plan 59 = .ok (.iload_n 2, 1) := by decide +kernel
theorem dX10_plan_60 : decode cX10_plan 60 = .ok (.iastore, 1) := by decide +kernel
theorem dX10_plan_61 : decode cX10_plan 61 = .ok (.aload_n 0, 1) := by decide +kernel
theorem dX10_plan_62 : decode cX10_plan 62 = .ok (.getfield 23, 3) := by decide +kernel
theorem dX10_plan_65 : decode cX10_plan 65 = .ok (.getfield 115, 3) := by decide +kernel
theorem dX10_plan_68 : decode cX10_plan 68 = .ok (.getfield 169, 3) := by decide +kernel
theorem dX10_plan_71 : decode cX10_plan 71 = .ok (.iload_n 1, 1) := by decide +kernel
theorem dX10_plan_72 : decode cX10_plan 72 = .ok (.iload_n 3, 1) := by decide +kernel
theorem dX10_plan_73 : decode cX10_plan 73 = .ok (.iconst 1, 1) := by decide +kernel
theorem dX10_plan_74 : decode cX10_plan 74 = .ok (.iadd, 1) := by decide +kernel
theorem dX10_plan_75 : decode cX10_plan 75 = .ok (.iastore, 1) := by decide +kernel
theorem dX10_plan_76 : decode cX10_plan 76 = .ok (.iload_n 3, 1) := by decide +kernel
theorem dX10_plan_77 : decode cX10_plan 77 = .ok (.iconst 1, 1) := by decide +kernel
theorem dX10_plan_78 : decode cX10_plan 78 = .ok (.iadd, 1) := by decide +kernel
theorem dX10_plan_79 : decode cX10_plan 79 = .ok (.ireturn, 1) := by decide +kernel
theorem dX10_unplan_0 : decode cX10_unplan 0 = .ok (.aload_n 0, 1) := by decide +kernel
theorem dX10_unplan_1 : decode cX10_unplan 1 = .ok (.iload_n 1, 1) := by decide +kernel
theorem dX10_unplan_2 : decode cX10_unplan 2 = .ok (.invokevirtual 166, 3) := by decide +kernel
theorem dX10_unplan_5 : decode cX10_unplan 5 = .ok (.aload_n 0, 1) := by decide +kernel
theorem dX10_unplan_6 : decode cX10_unplan 6 = .ok (.getfield 23, 3) := by decide +kernel
theorem dX10_unplan_9 : decode cX10_unplan 9 = .ok (.getfield 115, 3) := by decide +kernel
theorem dX10_unplan_12 : decode cX10_unplan 12 = .ok (.getfield 169, 3) := by decide +kernel
theorem dX10_unplan_15 : decode cX10_unplan 15 = .ok (.iload_n 1, 1) := by decide +kernel
theorem dX10_unplan_16 : decode cX10_unplan 16 = .ok (.iaload, 1) := by decide +kernel
theorem dX10_unplan_17 : decode cX10_unplan 17 = .ok (.istore_n 2, 1) := by decide +kernel
theorem dX10_unplan_18 : decode cX10_unplan 18 = .ok (.iload_n 2, 1) := by decide +kernel
theorem dX10_unplan_19 : decode cX10_unplan 19 = .ok (.ifCond .gt 13, 3) := by decide +kernel
theorem dX10_unplan_22 : decode cX10_unplan 22 = .ok (.new 237, 3) := by decide +kernel
theorem dX10_unplan_25 : decode cX10_unplan 25 = .ok (.dup, 1) := by decide +kernel
theorem dX10_unplan_26 : decode cX10_unplan 26 = .ok (.ldc 245, 2) := by decide +kernel
theorem dX10_unplan_28 : decode cX10_unplan 28 = .ok (.invokespecial 241, 3) := by decide +kernel
theorem dX10_unplan_31 : decode cX10_unplan 31 = .ok (.athrow, 1) := by decide +kernel
theorem dX10_unplan_32 : decode cX10_unplan 32 = .ok (.aload_n 0, 1) := by decide +kernel
theorem dX10_unplan_33 : decode cX10_unplan 33 = .ok (.invokevirtual 88, 3) := by decide +kernel
theorem dX10_unplan_36 : decode cX10_unplan 36 = .ok (.aload_n 0, 1) := by decide +kernel
theorem dX10_unplan_37 : decode cX10_unplan 37 = .ok (.getfield 23, 3) := by decide +kernel
theorem dX10_unplan_40 : decode cX10_unplan 40 = .ok (.getfield 115, 3) := by decide +kernel
theorem dX10_unplan_43 : decode cX10_unplan 43 = .ok (.getfield 169, 3) := by decide +kernel
theorem dX10_unplan_46 : decode cX10_unplan 46 = .ok (.iload_n 1, 1) := by decide +kernel
theorem dX10_unplan_47 : decode cX10_unplan 47 = .ok (.iload_n 2, 1) := by decide +kernel
theorem dX10_unplan_48 : decode cX10_unplan 48 = .ok (.iconst 1, 1) := by decide +kernel
theorem dX10_unplan_49 : decode cX10_unplan 49 = .ok (.isub, 1) := by decide +kernel
theorem dX10_unplan_50 : decode cX10_unplan 50 = .ok (.iastore, 1) := by decide +kernel
theorem dX10_unplan_51 : decode cX10_unplan 51 = .ok (.aload_n 0, 1) := by decide +kernel
theorem dX10_unplan_52 : decode cX10_unplan 52 = .ok (.getfield 23, 3) := by decide +kernel
theorem dX10_unplan_55 : decode cX10_unplan 55 = .ok (.getfield 115, 3) := by decide +kernel
theorem dX10_unplan_58 : decode cX10_unplan 58 = .ok (.getfield 242, 3) := by decide +kernel
theorem dX10_unplan_61 : decode cX10_unplan 61 = .ok (.iload_n 1, 1) := by decide +kernel
theorem dX10_unplan_62 : decode cX10_unplan 62 = .ok (.bipush 12, 2) := by decide +kernel
theorem dX10_unplan_64 : decode cX10_unplan 64 = .ok (.imul, 1) := by decide +kernel
theorem dX10_unplan_65 : decode cX10_unplan 65 = .ok (.iload_n 2, 1) := by decide +kernel
theorem dX10_unplan_66 : decode cX10_unplan 66 = .ok (.iadd, 1) := by decide +kernel
theorem dX10_unplan_67 : decode cX10_unplan 67 = .ok (.iconst 1, 1) := by decide +kernel
theorem dX10_unplan_68 : decode cX10_unplan 68 = .ok (.isub, 1) := by decide +kernel
theorem dX10_unplan_69 : decode cX10_unplan 69 = .ok (.iaload, 1) := by decide +kernel
theorem dX10_unplan_70 : decode cX10_unplan 70 = .ok (.ireturn, 1) := by decide +kernel
theorem dX10_setHours_0 : decode cX10_setHours 0 = .ok (.aload_n 0, 1) := by decide +kernel
theorem dX10_setHours_1 : decode cX10_setHours 1 = .ok (.iload_n 1, 1) := by decide +kernel
theorem dX10_setHours_2 : decode cX10_setHours 2 = .ok (.invokevirtual 122, 3) := by decide +kernel
theorem dX10_setHours_5 : decode cX10_setHours 5 = .ok (.iload_n 2, 1) := by decide +kernel
theorem dX10_setHours_6 : decode cX10_setHours 6 = .ok (.ifCond .lt 22, 3) := by decide +kernel
theorem dX10_setHours_9 : decode cX10_setHours 9 = .ok (.iload_n 2, 1) := by decide +kernel
theorem dX10_setHours_10 : decode cX10_setHours 10 = .ok (.sipush 1440, 3) := by decide +kernel
theorem dX10_setHours_13 : decode cX10_setHours 13 = .ok (.if_icmp .ge 15, 3) := by decide +kernel
theorem dX10_setHours_16 : decode cX10_setHours 16 = .ok (.iload_n 3, 1) := by decide +kernel
theorem dX10_setHours_17 : decode cX10_setHours 17 = .ok (.iload_n 2, 1) := by decide +kernel
theorem dX10_setHours_18 : decode cX10_setHours 18 = .ok (.if_icmp .le 10, 3) := by decide +kernel
theorem dX10_setHours_21 : decode cX10_setHours 21 = .ok (.iload_n 3, 1) := by decide +kernel
theorem dX10_setHours_22 : decode cX10_setHours 22 = .ok (.sipush 1440, 3) := by decide +kernel
theorem dX10_setHours_25 : decode cX10_setHours 25 = .ok (.if_icmp .le 13, 3) := by decide +kernel
theorem dX10_setHours_28 : decode cX10_setHours 28 = .ok (.new 76, 3) := by decide +kernel
theorem dX10_setHours_31 : decode cX10_setHours 31 = .ok (.dup, 1) := by decide +kernel
theorem dX10_setHours_32 : decode cX10_setHours 32 = .ok (.ldc 247, 2) := by decide +kernel
theorem dX10_setHours_34 : decode cX10_setHours 34 = .ok (.invokespecial 80, 3) := by decide +kernel
theorem dX10_setHours_37 : decode cX10_setHours 37 = .ok (.athrow, 1) := by decide +kernel
theorem dX10_setHours_38 : decode cX10_setHours 38 = .ok (.aload_n 0, 1) := by decide +kernel
theorem dX10_setHours_39 : decode cX10_setHours 39 = .ok (.invokevirtual 88, 3) := by decide +kernel
theorem dX10_setHours_42 : decode cX10_setHours 42 = .ok (.aload_n 0, 1) := by decide +kernel
theorem dX10_setHours_43 : decode cX10_setHours 43 = .ok (.getfield 23, 3) := by decide +kernel
theorem dX10_setHours_46 : decode cX10_setHours 46 = .ok (.getfield 96, 3) := by decide +kernel
theorem dX10_setHours_49 : decode cX10_setHours 49 = .ok (.getfield 249, 3) := by decide +kernel
theorem dX10_setHours_52 : decode cX10_setHours 52 = .ok (.iload_n 1, 1) := by decide +kernel
theorem dX10_setHours_53 : decode cX10_setHours 53 = .ok (.iload_n 2, 1) := by decide +kernel
theorem dX10_setHours_54 : decode cX10_setHours 54 = .ok (.iastore, 1) := by decide +kernel
theorem dX10_setHours_55 : decode cX10_setHours 55 = .ok (.aload_n 0, 1) := by decide +kernel
theorem dX10_setHours_56 : decode cX10_setHours 56 = .ok (.getfield 23, 3) := by decide +kernel
theorem dX10_setHours_59 : decode cX10_setHours 59 = .ok (.getfield 96, 3) := by decide +kernel
theorem dX10_setHours_62 : decode cX10_setHours 62 = .ok (.getfield 252, 3) := by decide +kernel
theorem dX10_setHours_65 : decode cX10_setHours 65 = .ok (.iload_n 1, 1) := by decide +kernel
theorem dX10_setHours_66 : decode cX10_setHours 66 = .ok (.iload_n 3, 1) := by decide +kernel
theorem dX10_setHours_67 : decode cX10_setHours 67 = .ok (.iastore, 1) := by decide +kernel
theorem dX10_setHours_68 : decode cX10_setHours 68 = .ok (.aload_n 0, 1) := by decide +kernel
theorem dX10_setHours_69 : decode cX10_setHours 69 = .ok (.invokevirtual 179, 3) := by decide +kernel
theorem dX10_setHours_72 : decode cX10_setHours 72 = .ok (.aload_n 0, 1) := by decide +kernel
theorem dX10_setHours_73 : decode cX10_setHours 73 = .ok (.getfield 54, 3) := by decide +kernel
theorem dX10_setHours_76 : decode cX10_setHours 76 = .ok (.getfield 196, 3) := by decide +kernel
theorem dX10_setHours_79 : decode cX10_setHours 79 = .ok (.invokestatic 255, 3) := by decide +kernel
theorem dX10_setHours_82 : decode cX10_setHours 82 = .ok (.ireturn, 1) := by decide +kernel
theorem dX10_setDog_0 : decode cX10_setDog 0 = .ok (.aload_n 0, 1) := by decide +kernel
theorem dX10_setDog_1 : decode cX10_setDog 1 = .ok (.iload_n 1, 1) := by decide +kernel
theorem dX10_setDog_2 : decode cX10_setDog 2 = .ok (.invokevirtual 122, 3) := by decide +kernel
theorem dX10_setDog_5 : decode cX10_setDog 5 = .ok (.aload_n 0, 1) := by decide +kernel
theorem dX10_setDog_6 : decode cX10_setDog 6 = .ok (.invokevirtual 88, 3) := by decide +kernel
theorem dX10_setDog_9 : decode cX10_setDog 9 = .ok (.aload_n 0, 1) := by decide +kernel
theorem dX10_setDog_10 : decode cX10_setDog 10 = .ok (.getfield 23, 3) := by decide +kernel
theorem dX10_setDog_13 : decode cX10_setDog 13 = .ok (.getfield 96, 3) := by decide +kernel
theorem dX10_setDog_16 : decode cX10_setDog 16 = .ok (.getfield 151, 3) := by decide +kernel
theorem dX10_setDog_19 : decode cX10_setDog 19 = .ok (.iload_n 1, 1) := by decide +kernel
theorem dX10_setDog_20 : decode cX10_setDog 20 = .ok (.baload, 1) := by decide +kernel
theorem dX10_setDog_21 : decode cX10_setDog 21 = .ok (.istore_n 3, 1) := by decide +kernel
theorem dX10_setDog_22 : decode cX10_setDog 22 = .ok (.aload_n 0, 1) := by decide +kernel
theorem dX10_setDog_23 : decode cX10_setDog 23 = .ok (.getfield 23, 3) := by decide +kernel
theorem dX10_setDog_26 : decode cX10_setDog 26 = .ok (.getfield 96, 3) := by decide +kernel
theorem dX10_setDog_29 : decode cX10_setDog 29 = .ok (.getfield 151, 3) := by decide +kernel
theorem dX10_setDog_32 : decode cX10_setDog 32 = .ok (.iload_n 1, 1) := by decide +kernel
theorem dX10_setDog_33 : decode cX10_setDog 33 = .ok (.iload_n 2, 1) := by decide +kernel
theorem dX10_setDog_34 : decode cX10_setDog 34 = .ok (.bastore, 1) := by decide +kernel
theorem dX10_setDog_35 : decode cX10_setDog 35 = .ok (.iload_n 3, 1) := by decide +kernel
theorem dX10_setDog_36 : decode cX10_setDog 36 = .ok (.ireturn, 1) := by decide +kernel
theorem dX10_setOpen_0 : decode cX10_setOpen 0 = .ok (.aload_n 0, 1) := by decide +kernel
theorem dX10_setOpen_1 : decode cX10_setOpen 1 = .ok (.iload_n 1, 1) := by decide +kernel
theorem dX10_setOpen_2 : decode cX10_setOpen 2 = .ok (.invokevirtual 144, 3) := by decide +kernel
theorem dX10_setOpen_5 : decode cX10_setOpen 5 = .ok (.aload_n 0, 1) := by decide +kernel
theorem dX10_setOpen_6 : decode cX10_setOpen 6 = .ok (.invokevirtual 88, 3) := by decide +kernel
theorem dX10_setOpen_9 : decode cX10_setOpen 9 = .ok (.aload_n 0, 1) := by decide +kernel
theorem dX10_setOpen_10 : decode cX10_setOpen 10 = .ok (.getfield 23, 3) := by decide +kernel
theorem dX10_setOpen_13 : decode cX10_setOpen 13 = .ok (.getfield 108, 3) := by decide +kernel
theorem dX10_setOpen_16 : decode cX10_setOpen 16 = .ok (.getfield 147, 3) := by decide +kernel
theorem dX10_setOpen_19 : decode cX10_setOpen 19 = .ok (.iload_n 1, 1) := by decide +kernel
theorem dX10_setOpen_20 : decode cX10_setOpen 20 = .ok (.baload, 1) := by decide +kernel
theorem dX10_setOpen_21 : decode cX10_setOpen 21 = .ok (.istore_n 3, 1) := by decide +kernel
theorem dX10_setOpen_22 : decode cX10_setOpen 22 = .ok (.aload_n 0, 1) := by decide +kernel
theorem dX10_setOpen_23 : decode cX10_setOpen 23 = .ok (.getfield 23, 3) := by decide +kernel
theorem dX10_setOpen_26 : decode cX10_setOpen 26 = .ok (.getfield 108, 3) := by decide +kernel
theorem dX10_setOpen_29 : decode cX10_setOpen 29 = .ok (.getfield 147, 3) := by decide +kernel
theorem dX10_setOpen_32 : decode cX10_setOpen 32 = .ok (.iload_n 1, 1) := by decide +kernel
theorem dX10_setOpen_33 : decode cX10_setOpen 33 = .ok (.iload_n 2, 1) := by decide +kernel
theorem dX10_setOpen_34 : decode cX10_setOpen 34 = .ok (.bastore, 1) := by decide +kernel
theorem dX10_setOpen_35 : decode cX10_setOpen 35 = .ok (.iload_n 3, 1) := by decide +kernel
theorem dX10_setOpen_36 : decode cX10_setOpen 36 = .ok (.ireturn, 1) := by decide +kernel
theorem dX10_undo_0 : decode cX10_undo 0 = .ok (.aload_n 0, 1) := by decide +kernel
theorem dX10_undo_1 : decode cX10_undo 1 = .ok (.getfield 34, 3) := by decide +kernel
theorem dX10_undo_4 : decode cX10_undo 4 = .ok (.ifCond .gt 5, 3) := by decide +kernel
theorem dX10_undo_7 : decode cX10_undo 7 = .ok (.iconst (-1), 1) := by decide +kernel
theorem dX10_undo_8 : decode cX10_undo 8 = .ok (.ireturn, 1) := by decide +kernel
theorem dX10_undo_9 : decode cX10_undo 9 = .ok (.aload_n 0, 1) := by decide +kernel
theorem dX10_undo_10 : decode cX10_undo 10 = .ok (.dup, 1) := by decide +kernel
theorem dX10_undo_11 : decode cX10_undo 11 = .ok (.getfield 34, 3) := by decide +kernel
theorem dX10_undo_14 : decode cX10_undo 14 = .ok (.iconst 1, 1) := by decide +kernel
theorem dX10_undo_15 : decode cX10_undo 15 = .ok (.isub, 1) := by decide +kernel
theorem dX10_undo_16 : decode cX10_undo 16 = .ok (.putfield 34, 3) := by decide +kernel
theorem dX10_undo_19 : decode cX10_undo 19 = .ok (.aload_n 0, 1) := by decide +kernel
theorem dX10_undo_20 : decode cX10_undo 20 = .ok (.getfield 23, 3) := by decide +kernel
theorem dX10_undo_23 : decode cX10_undo 23 = .ok (.aload_n 0, 1) := by decide +kernel
theorem dX10_undo_24 : decode cX10_undo 24 = .ok (.getfield 27, 3) := by decide +kernel
theorem dX10_undo_27 : decode cX10_undo 27 = .ok (.aload_n 0, 1) := by decide +kernel
theorem dX10_undo_28 : decode cX10_undo 28 = .ok (.getfield 31, 3) := by decide +kernel
theorem dX10_undo_31 : decode cX10_undo 31 = .ok (.aload_n 0, 1) := by decide +kernel
theorem dX10_undo_32 : decode cX10_undo 32 = .ok (.getfield 34, 3) := by decide +kernel
theorem dX10_undo_35 : decode cX10_undo 35 = .ok (.iadd, 1) := by decide +kernel
theorem dX10_undo_36 : decode cX10_undo 36 = .ok (.bipush 8, 2) := by decide +kernel
theorem dX10_undo_38 : decode cX10_undo 38 = .ok (.irem, 1) := by decide +kernel
theorem dX10_undo_39 : decode cX10_undo 39 = .ok (.aaload, 1) := by decide +kernel
theorem dX10_undo_40 : decode cX10_undo 40 = .ok (.invokevirtual 92, 3) := by decide +kernel
theorem dX10_undo_43 : decode cX10_undo 43 = .ok (.aload_n 0, 1) := by decide +kernel
theorem dX10_undo_44 : decode cX10_undo 44 = .ok (.invokevirtual 260, 3) := by decide +kernel
theorem dX10_undo_47 : decode cX10_undo 47 = .ok (.aload_n 0, 1) := by decide +kernel
theorem dX10_undo_48 : decode cX10_undo 48 = .ok (.getfield 34, 3) := by decide +kernel
theorem dX10_undo_51 : decode cX10_undo 51 = .ok (.ireturn, 1) := by decide +kernel
theorem dX10_checksum_0 : decode cX10_checksum 0 = .ok (.aload_n 0, 1) := by decide +kernel
theorem dX10_checksum_1 : decode cX10_checksum 1 = .ok (.invokevirtual 179, 3) := by decide +kernel
theorem dX10_checksum_4 : decode cX10_checksum 4 = .ok (.lconst 0, 1) := by decide +kernel
theorem dX10_checksum_5 : decode cX10_checksum 5 = .ok (.lstore_n 1, 1) := by decide +kernel
theorem dX10_checksum_6 : decode cX10_checksum 6 = .ok (.iconst 0, 1) := by decide +kernel
theorem dX10_checksum_7 : decode cX10_checksum 7 = .ok (.istore_n 3, 1) := by decide +kernel
theorem dX10_checksum_8 : decode cX10_checksum 8 = .ok (.iload_n 3, 1) := by decide +kernel
theorem dX10_checksum_9 : decode cX10_checksum 9 = .ok (.aload_n 0, 1) := by decide +kernel
theorem dX10_checksum_10 : decode cX10_checksum 10 = .ok (.getfield 23, 3) := by decide +kernel
theorem dX10_checksum_13 : decode cX10_checksum 13 = .ok (.getfield 115, 3) := by decide +kernel
theorem dX10_checksum_16 : decode cX10_checksum 16 = .ok (.getfield 119, 3) := by decide +kernel
theorem dX10_checksum_19 : decode cX10_checksum 19 = .ok (.if_icmp .ge 110, 3) := by decide +kernel
theorem dX10_checksum_22 : decode cX10_checksum 22 = .ok (.aload_n 0, 1) := by decide +kernel
theorem dX10_checksum_23 : decode cX10_checksum 23 = .ok (.getfield 23, 3) := by decide +kernel
theorem dX10_checksum_26 : decode cX10_checksum 26 = .ok (.getfield 115, 3) := by decide +kernel
theorem dX10_checksum_29 : decode cX10_checksum 29 = .ok (.getfield 169, 3) := by decide +kernel
theorem dX10_checksum_32 : decode cX10_checksum 32 = .ok (.iload_n 3, 1) := by decide +kernel
theorem dX10_checksum_33 : decode cX10_checksum 33 = .ok (.iaload, 1) := by decide +kernel
theorem dX10_checksum_34 : decode cX10_checksum 34 = .ok (.istore 4, 2) := by decide +kernel
theorem dX10_checksum_36 : decode cX10_checksum 36 = .ok (.ldc2_w 263, 3) := by decide +kernel
theorem dX10_checksum_39 : decode cX10_checksum 39 = .ok (.lload_n 1, 1) := by decide +kernel
theorem dX10_checksum_40 : decode cX10_checksum 40 = .ok (.lmul, 1) := by decide +kernel
theorem dX10_checksum_41 : decode cX10_checksum 41 = .ok (.iload 4, 2) := by decide +kernel
theorem dX10_checksum_43 : decode cX10_checksum 43 = .ok (.i2l, 1) := by decide +kernel
theorem dX10_checksum_44 : decode cX10_checksum 44 = .ok (.ladd, 1) := by decide +kernel
theorem dX10_checksum_45 : decode cX10_checksum 45 = .ok (.lstore_n 1, 1) := by decide +kernel
theorem dX10_checksum_46 : decode cX10_checksum 46 = .ok (.ldc2_w 263, 3) := by decide +kernel
theorem dX10_checksum_49 : decode cX10_checksum 49 = .ok (.lload_n 1, 1) := by decide +kernel
theorem dX10_checksum_50 : decode cX10_checksum 50 = .ok (.lmul, 1) := by decide +kernel
theorem dX10_checksum_51 : decode cX10_checksum 51 = .ok (.aload_n 0, 1) := by decide +kernel
theorem dX10_checksum_52 : decode cX10_checksum 52 = .ok (.getfield 54, 3) := by decide +kernel
theorem dX10_checksum_55 : decode cX10_checksum 55 = .ok (.getfield 188, 3) := by decide +kernel
theorem dX10_checksum_58 : decode cX10_checksum 58 = .ok (.iload_n 3, 1) := by decide +kernel
theorem dX10_checksum_59 : decode cX10_checksum 59 = .ok (.iaload, 1) := by decide +kernel
theorem dX10_checksum_60 : decode cX10_checksum 60 = .ok (.i2l, 1) := by decide +kernel
theorem dX10_checksum_61 : decode cX10_checksum 61 = .ok (.ladd, 1) := by decide +kernel
theorem dX10_checksum_62 : decode cX10_checksum 62 = .ok (.lstore_n 1, 1) := by decide +kernel
theorem dX10_checksum_63 : decode cX10_checksum 63 = .ok (.iconst 0, 1) := by decide +kernel
theorem dX10_checksum_64 : decode cX10_checksum 64 = .ok (.istore 5, 2) := by decide +kernel
theorem dX10_checksum_66 : decode cX10_checksum 66 = .ok (.iload 5, 2) := by decide +kernel
theorem dX10_checksum_68 : decode cX10_checksum 68 = .ok (.iload 4, 2) := by decide +kernel
theorem dX10_checksum_70 : decode cX10_checksum 70 = .ok (.if_icmp .ge 53, 3) := by decide +kernel
theorem dX10_checksum_73 : decode cX10_checksum 73 = .ok (.ldc2_w 263, 3) := by decide +kernel
theorem dX10_checksum_76 : decode cX10_checksum 76 = .ok (.lload_n 1, 1) := by decide +kernel
theorem dX10_checksum_77 : decode cX10_checksum 77 = .ok (.lmul, 1) := by decide +kernel
theorem dX10_checksum_78 : decode cX10_checksum 78 = .ok (.aload_n 0, 1) := by decide +kernel
theorem dX10_checksum_79 : decode cX10_checksum 79 = .ok (.getfield 23, 3) := by decide +kernel
theorem dX10_checksum_82 : decode cX10_checksum 82 = .ok (.getfield 115, 3) := by decide +kernel
theorem dX10_checksum_85 : decode cX10_checksum 85 = .ok (.iload_n 3, 1) := by decide +kernel
theorem dX10_checksum_86 : decode cX10_checksum 86 = .ok (.iload 5, 2) := by decide +kernel
theorem dX10_checksum_88 : decode cX10_checksum 88 = .ok (.invokevirtual 176, 3) := by decide +kernel
theorem dX10_checksum_91 : decode cX10_checksum 91 = .ok (.i2l, 1) := by decide +kernel
theorem dX10_checksum_92 : decode cX10_checksum 92 = .ok (.ladd, 1) := by decide +kernel
theorem dX10_checksum_93 : decode cX10_checksum 93 = .ok (.lstore_n 1, 1) := by decide +kernel
theorem dX10_checksum_94 : decode cX10_checksum 94 = .ok (.ldc2_w 263, 3) := by decide +kernel
theorem dX10_checksum_97 : decode cX10_checksum 97 = .ok (.lload_n 1, 1) := by decide +kernel
theorem dX10_checksum_98 : decode cX10_checksum 98 = .ok (.lmul, 1) := by decide +kernel
theorem dX10_checksum_99 : decode cX10_checksum 99 = .ok (.aload_n 0, 1) := by decide +kernel
theorem dX10_checksum_100 : decode cX10_checksum 100 = .ok (.getfield 54, 3) := by decide +kernel
theorem dX10_checksum_103 : decode cX10_checksum 103 = .ok (.getfield 182, 3) := by decide +kernel
theorem dX10_checksum_106 : decode cX10_checksum 106 = .ok (.iload_n 3, 1) := by decide +kernel
theorem dX10_checksum_107 : decode cX10_checksum 107 = .ok (.bipush 12, 2) := by decide +kernel
theorem dX10_checksum_109 : decode cX10_checksum 109 = .ok (.imul, 1) := by decide +kernel
theorem dX10_checksum_110 : decode cX10_checksum 110 = .ok (.iload 5, 2) := by decide +kernel
theorem dX10_checksum_112 : decode cX10_checksum 112 = .ok (.iadd, 1) := by decide +kernel
theorem dX10_checksum_113 : decode cX10_checksum 113 = .ok (.iaload, 1) := by decide +kernel
theorem dX10_checksum_114 : decode cX10_checksum 114 = .ok (.i2l, 1) := by decide +kernel
theorem dX10_checksum_115 : decode cX10_checksum 115 = .ok (.ladd, 1) := by decide +kernel
theorem dX10_checksum_116 : decode cX10_checksum 116 = .ok (.lstore_n 1, 1) := by decide +kernel
theorem dX10_checksum_117 : decode cX10_checksum 117 = .ok (.iinc 5 1, 3) := by decide +kernel
theorem dX10_checksum_120 : decode cX10_checksum 120 = .ok (.goto (-54), 3) := by decide +kernel
theorem dX10_checksum_123 : decode cX10_checksum 123 = .ok (.iinc 3 1, 3) := by decide +kernel
theorem dX10_checksum_126 : decode cX10_checksum 126 = .ok (.goto (-118), 3) := by decide +kernel
theorem dX10_checksum_129 : decode cX10_checksum 129 = .ok (.iconst 0, 1) := by decide +kernel
theorem dX10_checksum_130 : decode cX10_checksum 130 = .ok (.istore_n 3, 1) := by decide +kernel
theorem dX10_checksum_131 : decode cX10_checksum 131 = .ok (.iload_n 3, 1) := by decide +kernel
theorem dX10_checksum_132 : decode cX10_checksum 132 = .ok (.aload_n 0, 1) := by decide +kernel
theorem dX10_checksum_133 : decode cX10_checksum 133 = .ok (.getfield 23, 3) := by decide +kernel
theorem dX10_checksum_136 : decode cX10_checksum 136 = .ok (.getfield 96, 3) := by decide +kernel
theorem dX10_checksum_139 : decode cX10_checksum 139 = .ok (.getfield 100, 3) := by decide +kernel
theorem dX10_checksum_142 : decode cX10_checksum 142 = .ok (.if_icmp .ge 54, 3) := by decide +kernel
theorem dX10_checksum_145 : decode cX10_checksum 145 = .ok (.ldc2_w 263, 3) := by decide +kernel
theorem dX10_checksum_148 : decode cX10_checksum 148 = .ok (.lload_n 1, 1) := by decide +kernel
theorem dX10_checksum_149 : decode cX10_checksum 149 = .ok (.lmul, 1) := by decide +kernel
theorem dX10_checksum_150 : decode cX10_checksum 150 = .ok (.aload_n 0, 1) := by decide +kernel
theorem dX10_checksum_151 : decode cX10_checksum 151 = .ok (.getfield 54, 3) := by decide +kernel
theorem dX10_checksum_154 : decode cX10_checksum 154 = .ok (.getfield 205, 3) := by decide +kernel
theorem dX10_checksum_157 : decode cX10_checksum 157 = .ok (.iload_n 3, 1) := by decide +kernel
theorem dX10_checksum_158 : decode cX10_checksum 158 = .ok (.iaload, 1) := by decide +kernel
theorem dX10_checksum_159 : decode cX10_checksum 159 = .ok (.i2l, 1) := by decide +kernel
theorem dX10_checksum_160 : decode cX10_checksum 160 = .ok (.ladd, 1) := by decide +kernel
theorem dX10_checksum_161 : decode cX10_checksum 161 = .ok (.lstore_n 1, 1) := by decide +kernel
theorem dX10_checksum_162 : decode cX10_checksum 162 = .ok (.ldc2_w 263, 3) := by decide +kernel
theorem dX10_checksum_165 : decode cX10_checksum 165 = .ok (.lload_n 1, 1) := by decide +kernel
theorem dX10_checksum_166 : decode cX10_checksum 166 = .ok (.lmul, 1) := by decide +kernel
theorem dX10_checksum_167 : decode cX10_checksum 167 = .ok (.aload_n 0, 1) := by decide +kernel
theorem dX10_checksum_168 : decode cX10_checksum 168 = .ok (.getfield 23, 3) := by decide +kernel
theorem dX10_checksum_171 : decode cX10_checksum 171 = .ok (.getfield 96, 3) := by decide +kernel
theorem dX10_checksum_174 : decode cX10_checksum 174 = .ok (.getfield 151, 3) := by decide +kernel
theorem dX10_checksum_177 : decode cX10_checksum 177 = .ok (.iload_n 3, 1) := by decide +kernel
theorem dX10_checksum_178 : decode cX10_checksum 178 = .ok (.baload, 1) := by decide +kernel
theorem dX10_checksum_179 : decode cX10_checksum 179 = .ok (.ifCond .eq 7, 3) := by decide +kernel
theorem dX10_checksum_182 : decode cX10_checksum 182 = .ok (.iconst 1, 1) := by decide +kernel
theorem dX10_checksum_183 : decode cX10_checksum 183 = .ok (.goto 4, 3) := by decide +kernel
theorem dX10_checksum_186 : decode cX10_checksum 186 = .ok (.iconst 0, 1) := by decide +kernel
theorem dX10_checksum_187 : decode cX10_checksum 187 = .ok (.i2l, 1) := by decide +kernel
theorem dX10_checksum_188 : decode cX10_checksum 188 = .ok (.ladd, 1) := by decide +kernel
theorem dX10_checksum_189 : decode cX10_checksum 189 = .ok (.lstore_n 1, 1) := by decide +kernel
theorem dX10_checksum_190 : decode cX10_checksum 190 = .ok (.iinc 3 1, 3) := by decide +kernel
theorem dX10_checksum_193 : decode cX10_checksum 193 = .ok (.goto (-62), 3) := by decide +kernel
theorem dX10_checksum_196 : decode cX10_checksum 196 = .ok (.iconst 0, 1) := by decide +kernel
theorem dX10_checksum_197 : decode cX10_checksum 197 = .ok (.istore_n 3, 1) := by decide +kernel
theorem dX10_checksum_198 : decode cX10_checksum 198 = .ok (.iload_n 3, 1) := by decide +kernel
theorem dX10_checksum_199 : decode cX10_checksum 199 = .ok (.aload_n 0, 1) := by decide +kernel
theorem dX10_checksum_200 : decode cX10_checksum 200 = .ok (.getfield 23, 3) := by decide +kernel
theorem dX10_checksum_203 : decode cX10_checksum 203 = .ok (.getfield 108, 3) := by decide +kernel
theorem dX10_checksum_206 : decode cX10_checksum 206 = .ok (.getfield 112, 3) := by decide +kernel
theorem dX10_checksum_209 : decode cX10_checksum 209 = .ok (.if_icmp .ge 37, 3) := by decide +kernel
theorem dX10_checksum_212 : decode cX10_checksum 212 = .ok (.ldc2_w 263, 3) := by decide +kernel
theorem dX10_checksum_215 : decode cX10_checksum 215 = .ok (.lload_n 1, 1) := by decide +kernel
theorem dX10_checksum_216 : decode cX10_checksum 216 = .ok (.lmul, 1) := by decide +kernel
theorem dX10_checksum_217 : decode cX10_checksum 217 = .ok (.aload_n 0, 1) := by decide +kernel
theorem dX10_checksum_218 : decode cX10_checksum 218 = .ok (.getfield 23, 3) := by decide +kernel
theorem dX10_checksum_221 : decode cX10_checksum 221 = .ok (.getfield 108, 3) := by decide +kernel
theorem dX10_checksum_224 : decode cX10_checksum 224 = .ok (.getfield 147, 3) := by decide +kernel
theorem dX10_checksum_227 : decode cX10_checksum 227 = .ok (.iload_n 3, 1) := by decide +kernel
theorem dX10_checksum_228 : decode cX10_checksum 228 = .ok (.baload, 1) := by decide +kernel
theorem dX10_checksum_229 : decode cX10_checksum 229 = .ok (.ifCond .eq 7, 3) := by decide +kernel
theorem dX10_checksum_232 : decode cX10_checksum 232 = .ok (.iconst 1, 1) := by decide +kernel
theorem dX10_checksum_233 : decode cX10_checksum 233 = .ok (.goto 4, 3) := by decide +kernel
theorem dX10_checksum_236 : decode cX10_checksum 236 = .ok (.iconst 0, 1) := by decide +kernel
theorem dX10_checksum_237 : decode cX10_checksum 237 = .ok (.i2l, 1) := by decide +kernel
theorem dX10_checksum_238 : decode cX10_checksum 238 = .ok (.ladd, 1) := by decide +kernel
theorem dX10_checksum_239 : decode cX10_checksum 239 = .ok (.lstore_n 1, 1) := by decide +kernel
theorem dX10_checksum_240 : decode cX10_checksum 240 = .ok (.iinc 3 1, 3) := by decide +kernel
theorem dX10_checksum_243 : decode cX10_checksum 243 = .ok (.goto (-45), 3) := by decide +kernel
theorem dX10_checksum_246 : decode cX10_checksum 246 = .ok (.ldc2_w 263, 3) := by decide +kernel
theorem dX10_checksum_249 : decode cX10_checksum 249 = .ok (.lload_n 1, 1) := by decide +kernel
theorem dX10_checksum_250 : decode cX10_checksum 250 = .ok (.lmul, 1) := by decide +kernel
theorem dX10_checksum_251 : decode cX10_checksum 251 = .ok (.aload_n 0, 1) := by decide +kernel
theorem dX10_checksum_252 : decode cX10_checksum 252 = .ok (.getfield 54, 3) := by decide +kernel
theorem dX10_checksum_255 : decode cX10_checksum 255 = .ok (.getfield 196, 3) := by decide +kernel
theorem dX10_checksum_258 : decode cX10_checksum 258 = .ok (.i2l, 1) := by decide +kernel
theorem dX10_checksum_259 : decode cX10_checksum 259 = .ok (.ladd, 1) := by decide +kernel
theorem dX10_checksum_260 : decode cX10_checksum 260 = .ok (.lreturn, 1) := by decide +kernel
theorem dX10_appendWord_0 : decode cX10_appendWord 0 = .ok (.bipush 24, 2) := by decide +kernel
theorem dX10_appendWord_2 : decode cX10_appendWord 2 = .ok (.istore_n 2, 1) := by decide +kernel
theorem dX10_appendWord_3 : decode cX10_appendWord 3 = .ok (.iload_n 2, 1) := by decide +kernel
theorem dX10_appendWord_4 : decode cX10_appendWord 4 = .ok (.ifCond .lt 44, 3) := by decide +kernel
theorem dX10_appendWord_7 : decode cX10_appendWord 7 = .ok (.aload_n 0, 1) := by decide +kernel
theorem dX10_appendWord_8 : decode cX10_appendWord 8 = .ok (.getfield 13, 3) := by decide +kernel
theorem dX10_appendWord_11 : decode cX10_appendWord 11 = .ok (.aload_n 0, 1) := by decide +kernel
theorem dX10_appendWord_12 : decode cX10_appendWord 12 = .ok (.getfield 9, 3) := by decide +kernel
theorem dX10_appendWord_15 : decode cX10_appendWord 15 = .ok (.arraylength, 1) := by decide +kernel
theorem dX10_appendWord_16 : decode cX10_appendWord 16 = .ok (.if_icmp .ge 26, 3) := by decide +kernel
theorem dX10_appendWord_19 : decode cX10_appendWord 19 = .ok (.aload_n 0, 1) := by decide +kernel
theorem dX10_appendWord_20 : decode cX10_appendWord 20 = .ok (.getfield 9, 3) := by decide +kernel
theorem dX10_appendWord_23 : decode cX10_appendWord 23 = .ok (.aload_n 0, 1) := by decide +kernel
theorem dX10_appendWord_24 : decode cX10_appendWord 24 = .ok (.getfield 13, 3) := by decide +kernel
theorem dX10_appendWord_27 : decode cX10_appendWord 27 = .ok (.iload_n 1, 1) := by decide +kernel
theorem dX10_appendWord_28 : decode cX10_appendWord 28 = .ok (.iload_n 2, 1) := by decide +kernel
theorem dX10_appendWord_29 : decode cX10_appendWord 29 = .ok (.ishr, 1) := by decide +kernel
theorem dX10_appendWord_30 : decode cX10_appendWord 30 = .ok (.i2b, 1) := by decide +kernel
theorem dX10_appendWord_31 : decode cX10_appendWord 31 = .ok (.bastore, 1) := by decide +kernel
theorem dX10_appendWord_32 : decode cX10_appendWord 32 = .ok (.aload_n 0, 1) := by decide +kernel
theorem dX10_appendWord_33 : decode cX10_appendWord 33 = .ok (.dup, 1) := by decide +kernel
theorem dX10_appendWord_34 : decode cX10_appendWord 34 = .ok (.getfield 13, 3) := by decide +kernel
theorem dX10_appendWord_37 : decode cX10_appendWord 37 = .ok (.iconst 1, 1) := by decide +kernel
theorem dX10_appendWord_38 : decode cX10_appendWord 38 = .ok (.iadd, 1) := by decide +kernel
theorem dX10_appendWord_39 : decode cX10_appendWord 39 = .ok (.putfield 13, 3) := by decide +kernel
theorem dX10_appendWord_42 : decode cX10_appendWord 42 = .ok (.iinc 2 (-8), 3) := by decide +kernel
theorem dX10_appendWord_45 : decode cX10_appendWord 45 = .ok (.goto (-42), 3) := by decide +kernel
theorem dX10_appendWord_48 : decode cX10_appendWord 48 = .ok (.return_, 1) := by decide +kernel
theorem dX10_beginChange_0 : decode cX10_beginChange 0 = .ok (.aload_n 0, 1) := by decide +kernel
theorem dX10_beginChange_1 : decode cX10_beginChange 1 = .ok (.getfield 34, 3) := by decide +kernel
theorem dX10_beginChange_4 : decode cX10_beginChange 4 = .ok (.bipush 8, 2) := by decide +kernel
theorem dX10_beginChange_6 : decode cX10_beginChange 6 = .ok (.if_icmp .ne 26, 3) := by decide +kernel
theorem dX10_beginChange_9 : decode cX10_beginChange 9 = .ok (.aload_n 0, 1) := by decide +kernel
theorem dX10_beginChange_10 : decode cX10_beginChange 10 = .ok (.aload_n 0, 1) := by decide +kernel
theorem dX10_beginChange_11 : decode cX10_beginChange 11 = .ok (.getfield 31, 3) := by decide +kernel
theorem dX10_beginChange_14 : decode cX10_beginChange 14 = .ok (.iconst 1, 1) := by decide +kernel
theorem dX10_beginChange_15 : decode cX10_beginChange 15 = .ok (.iadd, 1) := by decide +kernel
theorem dX10_beginChange_16 : decode cX10_beginChange 16 = .ok (.bipush 8, 2) := by decide +kernel
theorem dX10_beginChange_18 : decode cX10_beginChange 18 = .ok (.irem, 1) := by decide +kernel
theorem dX10_beginChange_19 : decode cX10_beginChange 19 = .ok (.putfield 31, 3) := by decide +kernel
theorem dX10_beginChange_22 : decode cX10_beginChange 22 = .ok (.aload_n 0, 1) := by decide +kernel
theorem dX10_beginChange_23 : decode cX10_beginChange 23 = .ok (.dup, 1) := by decide +kernel
theorem dX10_beginChange_24 : decode cX10_beginChange 24 = .ok (.getfield 34, 3) := by decide +kernel
theorem dX10_beginChange_27 : decode cX10_beginChange 27 = .ok (.iconst 1, 1) := by decide +kernel
theorem dX10_beginChange_28 : decode cX10_beginChange 28 = .ok (.isub, 1) := by decide +kernel
theorem dX10_beginChange_29 : decode cX10_beginChange 29 = .ok (.putfield 34, 3) := by decide +kernel
theorem dX10_beginChange_32 : decode cX10_beginChange 32 = .ok (.aload_n 0, 1) := by decide +kernel
theorem dX10_beginChange_33 : decode cX10_beginChange 33 = .ok (.getfield 27, 3) := by decide +kernel
theorem dX10_beginChange_36 : decode cX10_beginChange 36 = .ok (.aload_n 0, 1) := by decide +kernel
theorem dX10_beginChange_37 : decode cX10_beginChange 37 = .ok (.getfield 31, 3) := by decide +kernel
theorem dX10_beginChange_40 : decode cX10_beginChange 40 = .ok (.aload_n 0, 1) := by decide +kernel
theorem dX10_beginChange_41 : decode cX10_beginChange 41 = .ok (.getfield 34, 3) := by decide +kernel
theorem dX10_beginChange_44 : decode cX10_beginChange 44 = .ok (.iadd, 1) := by decide +kernel
theorem dX10_beginChange_45 : decode cX10_beginChange 45 = .ok (.bipush 8, 2) := by decide +kernel
theorem dX10_beginChange_47 : decode cX10_beginChange 47 = .ok (.irem, 1) := by decide +kernel
theorem dX10_beginChange_48 : decode cX10_beginChange 48 = .ok (.aaload, 1) := by decide +kernel
theorem dX10_beginChange_49 : decode cX10_beginChange 49 = .ok (.aload_n 0, 1) := by decide +kernel
theorem dX10_beginChange_50 : decode cX10_beginChange 50 = .ok (.getfield 23, 3) := by decide +kernel
theorem dX10_beginChange_53 : decode cX10_beginChange 53 = .ok (.invokevirtual 92, 3) := by decide +kernel
theorem dX10_beginChange_56 : decode cX10_beginChange 56 = .ok (.aload_n 0, 1) := by decide +kernel
theorem dX10_beginChange_57 : decode cX10_beginChange 57 = .ok (.dup, 1) := by decide +kernel
theorem dX10_beginChange_58 : decode cX10_beginChange 58 = .ok (.getfield 34, 3) := by decide +kernel
theorem dX10_beginChange_61 : decode cX10_beginChange 61 = .ok (.iconst 1, 1) := by decide +kernel
theorem dX10_beginChange_62 : decode cX10_beginChange 62 = .ok (.iadd, 1) := by decide +kernel
theorem dX10_beginChange_63 : decode cX10_beginChange 63 = .ok (.putfield 34, 3) := by decide +kernel
theorem dX10_beginChange_66 : decode cX10_beginChange 66 = .ok (.aload_n 0, 1) := by decide +kernel
theorem dX10_beginChange_67 : decode cX10_beginChange 67 = .ok (.invokevirtual 260, 3) := by decide +kernel
theorem dX10_beginChange_70 : decode cX10_beginChange 70 = .ok (.return_, 1) := by decide +kernel
theorem dX10_forgetAnswers_0 : decode cX10_forgetAnswers 0 = .ok (.aload_n 0, 1) := by decide +kernel
theorem dX10_forgetAnswers_1 : decode cX10_forgetAnswers 1 = .ok (.iconst 0, 1) := by decide +kernel
theorem dX10_forgetAnswers_2 : decode cX10_forgetAnswers 2 = .ok (.putfield 65, 3) := by decide +kernel
theorem dX10_forgetAnswers_5 : decode cX10_forgetAnswers 5 = .ok (.aload_n 0, 1) := by decide +kernel
theorem dX10_forgetAnswers_6 : decode cX10_forgetAnswers 6 = .ok (.iconst 0, 1) := by decide +kernel
theorem dX10_forgetAnswers_7 : decode cX10_forgetAnswers 7 = .ok (.putfield 69, 3) := by decide +kernel
theorem dX10_forgetAnswers_10 : decode cX10_forgetAnswers 10 = .ok (.return_, 1) := by decide +kernel
theorem dX10_refreshRoutes_0 : decode cX10_refreshRoutes 0 = .ok (.aload_n 0, 1) := by decide +kernel
theorem dX10_refreshRoutes_1 : decode cX10_refreshRoutes 1 = .ok (.getfield 65, 3) := by decide +kernel
theorem dX10_refreshRoutes_4 : decode cX10_refreshRoutes 4 = .ok (.ifCond .ne 19, 3) := by decide +kernel
theorem dX10_refreshRoutes_7 : decode cX10_refreshRoutes 7 = .ok (.aload_n 0, 1) := by decide +kernel
theorem dX10_refreshRoutes_8 : decode cX10_refreshRoutes 8 = .ok (.getfield 47, 3) := by decide +kernel
theorem dX10_refreshRoutes_11 : decode cX10_refreshRoutes 11 = .ok (.aload_n 0, 1) := by decide +kernel
theorem dX10_refreshRoutes_12 : decode cX10_refreshRoutes 12 = .ok (.getfield 23, 3) := by decide +kernel
theorem dX10_refreshRoutes_15 : decode cX10_refreshRoutes 15 = .ok (.invokevirtual 265, 3) := by decide +kernel
theorem dX10_refreshRoutes_18 : decode cX10_refreshRoutes 18 = .ok (.aload_n 0, 1) := by decide +kernel
theorem dX10_refreshRoutes_19 : decode cX10_refreshRoutes 19 = .ok (.iconst 1, 1) := by decide +kernel
theorem dX10_refreshRoutes_20 : decode cX10_refreshRoutes 20 = .ok (.putfield 65, 3) := by decide +kernel
theorem dX10_refreshRoutes_23 : decode cX10_refreshRoutes 23 = .ok (.return_, 1) := by decide +kernel
theorem dX10_refreshSimulation_0 : decode cX10_refreshSimulation 0 = .ok (.aload_n 0, 1) := by decide +kernel
theorem dX10_refreshSimulation_1 : decode cX10_refreshSimulation 1 = .ok (.getfield 69, 3) := by decide +kernel
theorem dX10_refreshSimulation_4 : decode cX10_refreshSimulation 4 = .ok (.ifCond .ne 27, 3) := by decide +kernel
theorem dX10_refreshSimulation_7 : decode cX10_refreshSimulation 7 = .ok (.aload_n 0, 1) := by decide +kernel
theorem dX10_refreshSimulation_8 : decode cX10_refreshSimulation 8 = .ok (.invokevirtual 125, 3) := by decide +kernel
theorem dX10_refreshSimulation_11 : decode cX10_refreshSimulation 11 = .ok (.aload_n 0, 1) := by decide +kernel
theorem dX10_refreshSimulation_12 : decode cX10_refreshSimulation 12 = .ok (.getfield 54, 3) := by decide +kernel
theorem dX10_refreshSimulation_15 : decode cX10_refreshSimulation 15 = .ok (.aload_n 0, 1) := by decide +kernel
theorem dX10_refreshSimulation_16 : decode cX10_refreshSimulation 16 = .ok (.getfield 23, 3) := by decide +kernel
theorem dX10_refreshSimulation_19 : decode cX10_refreshSimulation 19 = .ok (.aload_n 0, 1) := by decide +kernel
theorem dX10_refreshSimulation_20 : decode cX10_refreshSimulation 20 = .ok (.getfield 47, 3) := by decide +kernel
theorem dX10_refreshSimulation_23 : decode cX10_refreshSimulation 23 = .ok (.invokevirtual 268, 3) := by decide +kernel
theorem dX10_refreshSimulation_26 : decode cX10_refreshSimulation 26 = .ok (.aload_n 0, 1) := by decide +kernel
theorem dX10_refreshSimulation_27 : decode cX10_refreshSimulation 27 = .ok (.iconst 1, 1) := by decide +kernel
theorem dX10_refreshSimulation_28 : decode cX10_refreshSimulation 28 = .ok (.putfield 69, 3) := by decide +kernel
theorem dX10_refreshSimulation_31 : decode cX10_refreshSimulation 31 = .ok (.return_, 1) := by decide +kernel
theorem dX10_checkStreet_0 : decode cX10_checkStreet 0 = .ok (.aload_n 0, 1) := by decide +kernel
theorem dX10_checkStreet_1 : decode cX10_checkStreet 1 = .ok (.getfield 23, 3) := by decide +kernel
theorem dX10_checkStreet_4 : decode cX10_checkStreet 4 = .ok (.getfield 108, 3) := by decide +kernel
theorem dX10_checkStreet_7 : decode cX10_checkStreet 7 = .ok (.iload_n 1, 1) := by decide +kernel
theorem dX10_checkStreet_8 : decode cX10_checkStreet 8 = .ok (.invokevirtual 272, 3) := by decide +kernel
theorem dX10_checkStreet_11 : decode cX10_checkStreet 11 = .ok (.ifCond .ne 14, 3) := by decide +kernel
theorem dX10_checkStreet_14 : decode cX10_checkStreet 14 = .ok (.new 132, 3) := by decide +kernel
theorem dX10_checkStreet_17 : decode cX10_checkStreet 17 = .ok (.dup, 1) := by decide +kernel
theorem dX10_checkStreet_18 : decode cX10_checkStreet 18 = .ok (.ldc_w 276, 3) := by decide +kernel
theorem dX10_checkStreet_21 : decode cX10_checkStreet 21 = .ok (.invokespecial 136, 3) := by decide +kernel
theorem dX10_checkStreet_24 : decode cX10_checkStreet 24 = .ok (.athrow, 1) := by decide +kernel
theorem dX10_checkStreet_25 : decode cX10_checkStreet 25 = .ok (.return_, 1) := by decide +kernel
theorem dX10_checkHouse_0 : decode cX10_checkHouse 0 = .ok (.aload_n 0, 1) := by decide +kernel
theorem dX10_checkHouse_1 : decode cX10_checkHouse 1 = .ok (.getfield 23, 3) := by decide +kernel
theorem dX10_checkHouse_4 : decode cX10_checkHouse 4 = .ok (.getfield 96, 3) := by decide +kernel
theorem dX10_checkHouse_7 : decode cX10_checkHouse 7 = .ok (.iload_n 1, 1) := by decide +kernel
theorem dX10_checkHouse_8 : decode cX10_checkHouse 8 = .ok (.invokevirtual 278, 3) := by decide +kernel
theorem dX10_checkHouse_11 : decode cX10_checkHouse 11 = .ok (.ifCond .ne 14, 3) := by decide +kernel
theorem dX10_checkHouse_14 : decode cX10_checkHouse 14 = .ok (.new 132, 3) := by decide +kernel
theorem dX10_checkHouse_17 : decode cX10_checkHouse 17 = .ok (.dup, 1) := by decide +kernel
theorem dX10_checkHouse_18 : decode cX10_checkHouse 18 = .ok (.ldc_w 279, 3) := by decide +kernel
theorem dX10_checkHouse_21 : decode cX10_checkHouse 21 = .ok (.invokespecial 136, 3) := by decide +kernel
theorem dX10_checkHouse_24 : decode cX10_checkHouse 24 = .ok (.athrow, 1) := by decide +kernel
theorem dX10_checkHouse_25 : decode cX10_checkHouse 25 = .ok (.return_, 1) := by decide +kernel
theorem dX10_checkWalker_0 : decode cX10_checkWalker 0 = .ok (.aload_n 0, 1) := by decide +kernel
theorem dX10_checkWalker_1 : decode cX10_checkWalker 1 = .ok (.getfield 23, 3) := by decide +kernel
theorem dX10_checkWalker_4 : decode cX10_checkWalker 4 = .ok (.getfield 115, 3) := by decide +kernel
theorem dX10_checkWalker_7 : decode cX10_checkWalker 7 = .ok (.iload_n 1, 1) := by decide +kernel
theorem dX10_checkWalker_8 : decode cX10_checkWalker 8 = .ok (.invokevirtual 281, 3) := by decide +kernel
theorem dX10_checkWalker_11 : decode cX10_checkWalker 11 = .ok (.ifCond .ne 14, 3) := by decide +kernel
theorem dX10_checkWalker_14 : decode cX10_checkWalker 14 = .ok (.new 132, 3) := by decide +kernel
theorem dX10_checkWalker_17 : decode cX10_checkWalker 17 = .ok (.dup, 1) := by decide +kernel
theorem dX10_checkWalker_18 : decode cX10_checkWalker 18 = .ok (.ldc_w 282, 3) := by decide +kernel
theorem dX10_checkWalker_21 : decode cX10_checkWalker 21 = .ok (.invokespecial 136, 3) := by decide +kernel
theorem dX10_checkWalker_24 : decode cX10_checkWalker 24 = .ok (.athrow, 1) := by decide +kernel
theorem dX10_checkWalker_25 : decode cX10_checkWalker 25 = .ok (.return_, 1) := by decide +kernel
theorem dX10_checkPlanIndex_0 : decode cX10_checkPlanIndex 0 = .ok (.aload_n 0, 1) := by decide +kernel
theorem dX10_checkPlanIndex_1 : decode cX10_checkPlanIndex 1 = .ok (.iload_n 1, 1) := by decide +kernel
theorem dX10_checkPlanIndex_2 : decode cX10_checkPlanIndex 2 = .ok (.invokevirtual 166, 3) := by decide +kernel
theorem dX10_checkPlanIndex_5 : decode cX10_checkPlanIndex 5 = .ok (.iload_n 2, 1) := by decide +kernel
theorem dX10_checkPlanIndex_6 : decode cX10_checkPlanIndex 6 = .ok (.ifCond .lt 19, 3) := by decide +kernel
theorem dX10_checkPlanIndex_9 : decode cX10_checkPlanIndex 9 = .ok (.iload_n 2, 1) := by decide +kernel
theorem dX10_checkPlanIndex_10 : decode cX10_checkPlanIndex 10 = .ok (.aload_n 0, 1) := by decide +kernel
theorem dX10_checkPlanIndex_11 : decode cX10_checkPlanIndex 11 = .ok (.getfield 23, 3) := by decide +kernel
theorem dX10_checkPlanIndex_14 : decode cX10_checkPlanIndex 14 = .ok (.getfield 115, 3) := by decide +kernel
theorem dX10_checkPlanIndex_17 : decode cX10_checkPlanIndex 17 = .ok (.getfield 169, 3) := by decide +kernel
theorem dX10_checkPlanIndex_20 : decode cX10_checkPlanIndex 20 = .ok (.iload_n 1, 1) := by decide +kernel
theorem dX10_checkPlanIndex_21 : decode cX10_checkPlanIndex 21 = .ok (.iaload, 1) := by decide +kernel
theorem dX10_checkPlanIndex_22 : decode cX10_checkPlanIndex 22 = .ok (.if_icmp .lt 14, 3) := by decide +kernel
theorem dX10_checkPlanIndex_25 : decode cX10_checkPlanIndex 25 = .ok (.new 132, 3) := by decide +kernel
theorem dX10_checkPlanIndex_28 : decode cX10_checkPlanIndex 28 = .ok (.dup, 1) := by decide +kernel
theorem dX10_checkPlanIndex_29 : decode cX10_checkPlanIndex 29 = .ok (.ldc_w 284, 3) := by decide +kernel
theorem dX10_checkPlanIndex_32 : decode cX10_checkPlanIndex 32 = .ok (.invokespecial 136, 3) := by decide +kernel
theorem dX10_checkPlanIndex_35 : decode cX10_checkPlanIndex 35 = .ok (.athrow, 1) := by decide +kernel
theorem dX10_checkPlanIndex_36 : decode cX10_checkPlanIndex 36 = .ok (.return_, 1) := by decide +kernel
theorem dX10_checkSet_0 : decode cX10_checkSet 0 = .ok (.iload_n 1, 1) := by decide +kernel
theorem dX10_checkSet_1 : decode cX10_checkSet 1 = .ok (.aload_n 0, 1) := by decide +kernel
theorem dX10_checkSet_2 : decode cX10_checkSet 2 = .ok (.getfield 23, 3) := by decide +kernel
theorem dX10_checkSet_5 : decode cX10_checkSet 5 = .ok (.getfield 96, 3) := by decide +kernel
theorem dX10_checkSet_8 : decode cX10_checkSet 8 = .ok (.getfield 100, 3) := by decide +kernel
theorem dX10_checkSet_11 : decode cX10_checkSet 11 = .ok (.iushr, 1) := by decide +kernel
theorem dX10_checkSet_12 : decode cX10_checkSet 12 = .ok (.ifCond .ne 12, 3) := by decide +kernel
theorem dX10_checkSet_15 : decode cX10_checkSet 15 = .ok (.iload_n 1, 1) := by decide +kernel
theorem dX10_checkSet_16 : decode cX10_checkSet 16 = .ok (.invokestatic 255, 3) := by decide +kernel
theorem dX10_checkSet_19 : decode cX10_checkSet 19 = .ok (.bipush 8, 2) := by decide +kernel
theorem dX10_checkSet_21 : decode cX10_checkSet 21 = .ok (.if_icmp .le 14, 3) := by decide +kernel
theorem dX10_checkSet_24 : decode cX10_checkSet 24 = .ok (.new 76, 3) := by decide +kernel
theorem dX10_checkSet_27 : decode cX10_checkSet 27 = .ok (.dup, 1) := by decide +kernel
theorem dX10_checkSet_28 : decode cX10_checkSet 28 = .ok (.ldc_w 286, 3) := by decide +kernel
theorem dX10_checkSet_31 : decode cX10_checkSet 31 = .ok (.invokespecial 80, 3) := by decide +kernel
theorem dX10_checkSet_34 : decode cX10_checkSet 34 = .ok (.athrow, 1) := by decide +kernel
theorem dX10_checkSet_35 : decode cX10_checkSet 35 = .ok (.return_, 1) := by decide +kernel
theorem dX10_contains_0 : decode cX10_contains 0 = .ok (.iload_n 0, 1) := by decide +kernel
theorem dX10_contains_1 : decode cX10_contains 1 = .ok (.iload_n 1, 1) := by decide +kernel
theorem dX10_contains_2 : decode cX10_contains 2 = .ok (.ishr, 1) := by decide +kernel
theorem dX10_contains_3 : decode cX10_contains 3 = .ok (.iconst 1, 1) := by decide +kernel
theorem dX10_contains_4 : decode cX10_contains 4 = .ok (.iand, 1) := by decide +kernel
theorem dX10_contains_5 : decode cX10_contains 5 = .ok (.ifCond .eq 7, 3) := by decide +kernel
theorem dX10_contains_8 : decode cX10_contains 8 = .ok (.iconst 1, 1) := by decide +kernel
theorem dX10_contains_9 : decode cX10_contains 9 = .ok (.goto 4, 3) := by decide +kernel
theorem dX10_contains_12 : decode cX10_contains 12 = .ok (.iconst 0, 1) := by decide +kernel
theorem dX10_contains_13 : decode cX10_contains 13 = .ok (.ireturn, 1) := by decide +kernel

/-! decoded instructions -/
theorem dX0_init_0 : decode cX0_init 0 = .ok (.aload_n 0, 1) := by decide +kernel
theorem dX0_init_1 : decode cX0_init 1 = .ok (.invokespecial 3, 3) := by decide +kernel
theorem dX0_init_4 : decode cX0_init 4 = .ok (.aload_n 0, 1) := by decide +kernel
theorem dX0_init_5 : decode cX0_init 5 = .ok (.iconst 0, 1) := by decide +kernel
theorem dX0_init_6 : decode cX0_init 6 = .ok (.putfield 9, 3) := by decide +kernel
theorem dX0_init_9 : decode cX0_init 9 = .ok (.aload_n 0, 1) := by decide +kernel
theorem dX0_init_10 : decode cX0_init 10 = .ok (.bipush 16, 2) := by decide +kernel
theorem dX0_init_12 : decode cX0_init 12 = .ok (.newarray .int, 2) := by decide +kernel
theorem dX0_init_14 : decode cX0_init 14 = .ok (.putfield 15, 3) := by decide +kernel
theorem dX0_init_17 : decode cX0_init 17 = .ok (.aload_n 0, 1) := by decide +kernel
theorem dX0_init_18 : decode cX0_init 18 = .ok (.bipush 16, 2) := by decide +kernel
theorem dX0_init_20 : decode cX0_init 20 = .ok (.newarray .int, 2) := by decide +kernel
theorem dX0_init_22 : decode cX0_init 22 = .ok (.putfield 19, 3) := by decide +kernel
theorem dX0_init_25 : decode cX0_init 25 = .ok (.aload_n 0, 1) := by decide +kernel
theorem dX0_init_26 : decode cX0_init 26 = .ok (.bipush 16, 2) := by decide +kernel
theorem dX0_init_28 : decode cX0_init 28 = .ok (.newarray .int, 2) := by decide +kernel
theorem dX0_init_30 : decode cX0_init 30 = .ok (.putfield 22, 3) := by decide +kernel
theorem dX0_init_33 : decode cX0_init 33 = .ok (.aload_n 0, 1) := by decide +kernel
theorem dX0_init_34 : decode cX0_init 34 = .ok (.bipush 16, 2) := by decide +kernel
theorem dX0_init_36 : decode cX0_init 36 = .ok (.newarray .int, 2) := by decide +kernel
theorem dX0_init_38 : decode cX0_init 38 = .ok (.putfield 25, 3) := by decide +kernel
theorem dX0_init_41 : decode cX0_init 41 = .ok (.aload_n 0, 1) := by decide +kernel
theorem dX0_init_42 : decode cX0_init 42 = .ok (.bipush 16, 2) := by decide +kernel
theorem dX0_init_44 : decode cX0_init 44 = .ok (.newarray .int, 2) := by decide +kernel
theorem dX0_init_46 : decode cX0_init 46 = .ok (.putfield 28, 3) := by decide +kernel
theorem dX0_init_49 : decode cX0_init 49 = .ok (.aload_n 0, 1) := by decide +kernel
theorem dX0_init_50 : decode cX0_init 50 = .ok (.bipush 16, 2) := by decide +kernel
theorem dX0_init_52 : decode cX0_init 52 = .ok (.newarray .int, 2) := by decide +kernel
theorem dX0_init_54 : decode cX0_init 54 = .ok (.putfield 31, 3) := by decide +kernel
theorem dX0_init_57 : decode cX0_init 57 = .ok (.aload_n 0, 1) := by decide +kernel
theorem dX0_init_58 : decode cX0_init 58 = .ok (.bipush 16, 2) := by decide +kernel
theorem dX0_init_60 : decode cX0_init 60 = .ok (.newarray .boolean, 2) := by decide +kernel
theorem dX0_init_62 : decode cX0_init 62 = .ok (.putfield 34, 3) := by decide +kernel
theorem dX0_init_65 : decode cX0_init 65 = .ok (.aload_n 0, 1) := by decide +kernel
theorem dX0_init_66 : decode cX0_init 66 = .ok (.bipush 64, 2) := by decide +kernel
theorem dX0_init_68 : decode cX0_init 68 = .ok (.newarray .int, 2) := by decide +kernel
theorem dX0_init_70 : decode cX0_init 70 = .ok (.putfield 38, 3) := by decide +kernel
theorem dX0_init_73 : decode cX0_init 73 = .ok (.return_, 1) := by decide +kernel
theorem dX0_has_0 : decode cX0_has 0 = .ok (.iload_n 1, 1) := by decide +kernel
theorem dX0_has_1 : decode cX0_has 1 = .ok (.ifCond .lt 15, 3) := by decide +kernel
theorem dX0_has_4 : decode cX0_has 4 = .ok (.iload_n 1, 1) := by decide +kernel
theorem dX0_has_5 : decode cX0_has 5 = .ok (.aload_n 0, 1) := by decide +kernel
theorem dX0_has_6 : decode cX0_has 6 = .ok (.getfield 9, 3) := by decide +kernel
theorem dX0_has_9 : decode cX0_has 9 = .ok (.if_icmp .ge 7, 3) := by decide +kernel
theorem dX0_has_12 : decode cX0_has 12 = .ok (.iconst 1, 1) := by decide +kernel
theorem dX0_has_13 : decode cX0_has 13 = .ok (.goto 4, 3) := by decide +kernel
theorem dX0_has_16 : decode cX0_has 16 = .ok (.iconst 0, 1) := by decide +kernel
theorem dX0_has_17 : decode cX0_has 17 = .ok (.ireturn, 1) := by decide +kernel
theorem dX0_homeAt_0 : decode cX0_homeAt 0 = .ok (.aload_n 0, 1) := by decide +kernel
theorem dX0_homeAt_1 : decode cX0_homeAt 1 = .ok (.iload_n 1, 1) := by decide +kernel
theorem dX0_homeAt_2 : decode cX0_homeAt 2 = .ok (.invokevirtual 41, 3) := by decide +kernel
theorem dX0_homeAt_5 : decode cX0_homeAt 5 = .ok (.ifCond .eq 27, 3) := by decide +kernel
theorem dX0_homeAt_8 : decode cX0_homeAt 8 = .ok (.aload_n 0, 1) := by decide +kernel
theorem dX0_homeAt_9 : decode cX0_homeAt 9 = .ok (.getfield 28, 3) := by decide +kernel
theorem dX0_homeAt_12 : decode cX0_homeAt 12 = .ok (.iload_n 1, 1) := by decide +kernel
theorem dX0_homeAt_13 : decode cX0_homeAt 13 = .ok (.iaload, 1) := by decide +kernel
theorem dX0_homeAt_14 : decode cX0_homeAt 14 = .ok (.iload_n 2, 1) := by decide +kernel
theorem dX0_homeAt_15 : decode cX0_homeAt 15 = .ok (.if_icmp .gt 17, 3) := by decide +kernel
theorem dX0_homeAt_18 : decode cX0_homeAt 18 = .ok (.iload_n 2, 1) := by decide +kernel
theorem dX0_homeAt_19 : decode cX0_homeAt 19 = .ok (.aload_n 0, 1) := by decide +kernel
theorem dX0_homeAt_20 : decode cX0_homeAt 20 = .ok (.getfield 31, 3) := by decide +kernel
theorem dX0_homeAt_23 : decode cX0_homeAt 23 = .ok (.iload_n 1, 1) := by decide +kernel
theorem dX0_homeAt_24 : decode cX0_homeAt 24 = .ok (.iaload, 1) := by decide +kernel
theorem dX0_homeAt_25 : decode cX0_homeAt 25 = .ok (.if_icmp .ge 7, 3) := by decide +kernel
theorem dX0_homeAt_28 : decode cX0_homeAt 28 = .ok (.iconst 1, 1) := by decide +kernel
theorem dX0_homeAt_29 : decode cX0_homeAt 29 = .ok (.goto 4, 3) := by decide +kernel
theorem dX0_homeAt_32 : decode cX0_homeAt 32 = .ok (.iconst 0, 1) := by decide +kernel
theorem dX0_homeAt_33 : decode cX0_homeAt 33 = .ok (.ireturn, 1) := by decide +kernel
theorem dX0_visitTime_0 : decode cX0_visitTime 0 = .ok (.aload_n 0, 1) := by decide +kernel
theorem dX0_visitTime_1 : decode cX0_visitTime 1 = .ok (.iload_n 1, 1) := by decide +kernel
theorem dX0_visitTime_2 : decode cX0_visitTime 2 = .ok (.invokevirtual 41, 3) := by decide +kernel
theorem dX0_visitTime_5 : decode cX0_visitTime 5 = .ok (.ifCond .eq 13, 3) := by decide +kernel
theorem dX0_visitTime_8 : decode cX0_visitTime 8 = .ok (.iload_n 2, 1) := by decide +kernel
theorem dX0_visitTime_9 : decode cX0_visitTime 9 = .ok (.iconst 1, 1) := by decide +kernel
theorem dX0_visitTime_10 : decode cX0_visitTime 10 = .ok (.if_icmp .lt 8, 3) := by decide +kernel
theorem dX0_visitTime_13 : decode cX0_visitTime 13 = .ok (.iload_n 2, 1) := by decide +kernel
theorem dX0_visitTime_14 : decode cX0_visitTime 14 = .ok (.iconst 2, 1) := by decide +kernel
theorem dX0_visitTime_15 : decode cX0_visitTime 15 = .ok (.if_icmp .le 6, 3) := by decide +kernel
theorem dX0_visitTime_18 : decode cX0_visitTime 18 = .ok (.bipush 10, 2) := by decide +kernel
theorem dX0_visitTime_20 : decode cX0_visitTime 20 = .ok (.ireturn, 1) := by decide +kernel
theorem dX0_visitTime_21 : decode cX0_visitTime 21 = .ok (.aload_n 0, 1) := by decide +kernel
theorem dX0_visitTime_22 : decode cX0_visitTime 22 = .ok (.getfield 38, 3) := by decide +kernel
theorem dX0_visitTime_25 : decode cX0_visitTime 25 = .ok (.iload_n 1, 1) := by decide +kernel
theorem dX0_visitTime_26 : decode cX0_visitTime 26 = .ok (.iconst 4, 1) := by decide +kernel
theorem dX0_visitTime_27 : decode cX0_visitTime 27 = .ok (.imul, 1) := by decide +kernel
theorem dX0_visitTime_28 : decode cX0_visitTime 28 = .ok (.aload_n 0, 1) := by decide +kernel
theorem dX0_visitTime_29 : decode cX0_visitTime 29 = .ok (.getfield 34, 3) := by decide +kernel
theorem dX0_visitTime_32 : decode cX0_visitTime 32 = .ok (.iload_n 1, 1) := by decide +kernel
theorem dX0_visitTime_33 : decode cX0_visitTime 33 = .ok (.baload, 1) := by decide +kernel
theorem dX0_visitTime_34 : decode cX0_visitTime 34 = .ok (.ifCond .eq 7, 3) := by decide +kernel
theorem dX0_visitTime_37 : decode cX0_visitTime 37 = .ok (.iconst 2, 1) := by decide +kernel
theorem dX0_visitTime_38 : decode cX0_visitTime 38 = .ok (.goto 4, 3) := by decide +kernel
theorem dX0_visitTime_41 : decode cX0_visitTime 41 = .ok (.iconst 0, 1) := by decide +kernel
theorem dX0_visitTime_42 : decode cX0_visitTime 42 = .ok (.iadd, 1) := by decide +kernel
theorem dX0_visitTime_43 : decode cX0_visitTime 43 = .ok (.iload_n 2, 1) := by decide +kernel
theorem dX0_visitTime_44 : decode cX0_visitTime 44 = .ok (.iadd, 1) := by decide +kernel
theorem dX0_visitTime_45 : decode cX0_visitTime 45 = .ok (.iconst 1, 1) := by decide +kernel
theorem dX0_visitTime_46 : decode cX0_visitTime 46 = .ok (.isub, 1) := by decide +kernel
theorem dX0_visitTime_47 : decode cX0_visitTime 47 = .ok (.iaload, 1) := by decide +kernel
theorem dX0_visitTime_48 : decode cX0_visitTime 48 = .ok (.ireturn, 1) := by decide +kernel
theorem dX0_setVisits_0 : decode cX0_setVisits 0 = .ok (.iconst 0, 1) := by decide +kernel
theorem dX0_setVisits_1 : decode cX0_setVisits 1 = .ok (.istore_n 2, 1) := by decide +kernel
theorem dX0_setVisits_2 : decode cX0_setVisits 2 = .ok (.iload_n 2, 1) := by decide +kernel
theorem dX0_setVisits_3 : decode cX0_setVisits 3 = .ok (.aload_n 0, 1) := by decide +kernel
theorem dX0_setVisits_4 : decode cX0_setVisits 4 = .ok (.getfield 9, 3) := by decide +kernel
theorem dX0_setVisits_7 : decode cX0_setVisits 7 = .ok (.if_icmp .ge 50, 3) := by decide +kernel
theorem dX0_setVisits_10 : decode cX0_setVisits 10 = .ok (.iconst 0, 1) := by decide +kernel
theorem dX0_setVisits_11 : decode cX0_setVisits 11 = .ok (.istore_n 3, 1) := by decide +kernel
theorem dX0_setVisits_12 : decode cX0_setVisits 12 = .ok (.iload_n 3, 1) := by decide +kernel
theorem dX0_setVisits_13 : decode cX0_setVisits 13 = .ok (.iconst 4, 1) := by decide +kernel
theorem dX0_setVisits_14 : decode cX0_setVisits 14 = .ok (.if_icmp .ge 37, 3) := by decide +kernel
theorem dX0_setVisits_17 : decode cX0_setVisits 17 = .ok (.aload_n 0, 1) := by decide +kernel
theorem dX0_setVisits_18 : decode cX0_setVisits 18 = .ok (.getfield 38, 3) := by decide +kernel
theorem dX0_setVisits_21 : decode cX0_setVisits 21 = .ok (.iload_n 2, 1) := by decide +kernel
theorem dX0_setVisits_22 : decode cX0_setVisits 22 = .ok (.iconst 4, 1) := by decide +kernel
theorem dX0_setVisits_23 : decode cX0_setVisits 23 = .ok (.imul, 1) := by decide +kernel
theorem dX0_setVisits_24 : decode cX0_setVisits 24 = .ok (.iload_n 3, 1) := by decide +kernel
theorem dX0_setVisits_25 : decode cX0_setVisits 25 = .ok (.iadd, 1) := by decide +kernel
theorem dX0_setVisits_26 : decode cX0_setVisits 26 = .ok (.aload_n 1, 1) := by decide +kernel
theorem dX0_setVisits_27 : decode cX0_setVisits 27 = .ok (.aload_n 0, 1) := by decide +kernel
theorem dX0_setVisits_28 : decode cX0_setVisits 28 = .ok (.getfield 25, 3) := by decide +kernel
theorem dX0_setVisits_31 : decode cX0_setVisits 31 = .ok (.iload_n 2, 1) := by decide +kernel
theorem dX0_setVisits_32 : decode cX0_setVisits 32 = .ok (.iaload, 1) := by decide +kernel
theorem dX0_setVisits_33 : decode cX0_setVisits 33 = .ok (.iload_n 3, 1) := by decide +kernel
theorem dX0_setVisits_34 : decode cX0_setVisits 34 = .ok (.iconst 1, 1) := by decide +kernel
theorem dX0_setVisits_35 : decode cX0_setVisits 35 = .ok (.ishr, 1) := by decide +kernel
theorem dX0_setVisits_36 : decode cX0_setVisits 36 = .ok (.iload_n 3, 1) := by decide +kernel
theorem dX0_setVisits_37 : decode cX0_setVisits 37 = .ok (.iconst 1, 1) := by decide +kernel
theorem dX0_setVisits_38 : decode cX0_setVisits 38 = .ok (.iand, 1) := by decide +kernel
theorem dX0_setVisits_39 : decode cX0_setVisits 39 = .ok (.iconst 1, 1) := by decide +kernel
theorem dX0_setVisits_40 : decode cX0_setVisits 40 = .ok (.iadd, 1) := by decide +kernel
theorem dX0_setVisits_41 : decode cX0_setVisits 41 = .ok (.invokevirtual 47, 3) := by decide +kernel
theorem dX0_setVisits_44 : decode cX0_setVisits 44 = .ok (.iastore, 1) := by decide +kernel
theorem dX0_setVisits_45 : decode cX0_setVisits 45 = .ok (.iinc 3 1, 3) := by decide +kernel
theorem dX0_setVisits_48 : decode cX0_setVisits 48 = .ok (.goto (-36), 3) := by decide +kernel
theorem dX0_setVisits_51 : decode cX0_setVisits 51 = .ok (.iinc 2 1, 3) := by decide +kernel
theorem dX0_setVisits_54 : decode cX0_setVisits 54 = .ok (.goto (-52), 3) := by decide +kernel
theorem dX0_setVisits_57 : decode cX0_setVisits 57 = .ok (.return_, 1) := by decide +kernel
theorem dX0_copyFrom_0 : decode cX0_copyFrom 0 = .ok (.aload_n 0, 1) := by decide +kernel
theorem dX0_copyFrom_1 : decode cX0_copyFrom 1 = .ok (.aload_n 1, 1) := by decide +kernel
theorem dX0_copyFrom_2 : decode cX0_copyFrom 2 = .ok (.getfield 9, 3) := by decide +kernel
theorem dX0_copyFrom_5 : decode cX0_copyFrom 5 = .ok (.putfield 9, 3) := by decide +kernel
theorem dX0_copyFrom_8 : decode cX0_copyFrom 8 = .ok (.aload_n 1, 1) := by decide +kernel
theorem dX0_copyFrom_9 : decode cX0_copyFrom 9 = .ok (.getfield 15, 3) := by decide +kernel
theorem dX0_copyFrom_12 : decode cX0_copyFrom 12 = .ok (.iconst 0, 1) := by decide +kernel
theorem dX0_copyFrom_13 : decode cX0_copyFrom 13 = .ok (.aload_n 0, 1) := by decide +kernel
theorem dX0_copyFrom_14 : decode cX0_copyFrom 14 = .ok (.getfield 15, 3) := by decide +kernel
theorem dX0_copyFrom_17 : decode cX0_copyFrom 17 = .ok (.iconst 0, 1) := by decide +kernel
theorem dX0_copyFrom_18 : decode cX0_copyFrom 18 = .ok (.bipush 16, 2) := by decide +kernel
theorem dX0_copyFrom_20 : decode cX0_copyFrom 20 = .ok (.invokestatic 51, 3) := by decide +kernel
theorem dX0_copyFrom_23 : decode cX0_copyFrom 23 = .ok (.aload_n 1, 1) := by decide +kernel
theorem dX0_copyFrom_24 : decode cX0_copyFrom 24 = .ok (.getfield 19, 3) := by decide +kernel
theorem dX0_copyFrom_27 : decode cX0_copyFrom 27 = .ok (.iconst 0, 1) := by decide +kernel
theorem dX0_copyFrom_28 : decode cX0_copyFrom 28 = .ok (.aload_n 0, 1) := by decide +kernel
theorem dX0_copyFrom_29 : decode cX0_copyFrom 29 = .ok (.getfield 19, 3) := by decide +kernel
theorem dX0_copyFrom_32 : decode cX0_copyFrom 32 = .ok (.iconst 0, 1) := by decide +kernel
theorem dX0_copyFrom_33 : decode cX0_copyFrom 33 = .ok (.bipush 16, 2) := by decide +kernel
theorem dX0_copyFrom_35 : decode cX0_copyFrom 35 = .ok (.invokestatic 51, 3) := by decide +kernel
theorem dX0_copyFrom_38 : decode cX0_copyFrom 38 = .ok (.aload_n 1, 1) := by decide +kernel
theorem dX0_copyFrom_39 : decode cX0_copyFrom 39 = .ok (.getfield 22, 3) := by decide +kernel
theorem dX0_copyFrom_42 : decode cX0_copyFrom 42 = .ok (.iconst 0, 1) := by decide +kernel
theorem dX0_copyFrom_43 : decode cX0_copyFrom 43 = .ok (.aload_n 0, 1) := by decide +kernel
theorem dX0_copyFrom_44 : decode cX0_copyFrom 44 = .ok (.getfield 22, 3) := by decide +kernel
theorem dX0_copyFrom_47 : decode cX0_copyFrom 47 = .ok (.iconst 0, 1) := by decide +kernel
theorem dX0_copyFrom_48 : decode cX0_copyFrom 48 = .ok (.bipush 16, 2) := by decide +kernel
theorem dX0_copyFrom_50 : decode cX0_copyFrom 50 = .ok (.invokestatic 51, 3) := by decide +kernel
theorem dX0_copyFrom_53 : decode cX0_copyFrom 53 = .ok (.aload_n 1, 1) := by decide +kernel
theorem dX0_copyFrom_54 : decode cX0_copyFrom 54 = .ok (.getfield 25, 3) := by decide +kernel
theorem dX0_copyFrom_57 : decode cX0_copyFrom 57 = .ok (.iconst 0, 1) := by decide +kernel
theorem dX0_copyFrom_58 : decode cX0_copyFrom 58 = .ok (.aload_n 0, 1) := by decide +kernel
theorem dX0_copyFrom_59 : decode cX0_copyFrom 59 = .ok (.getfield 25, 3) := by decide +kernel
theorem dX0_copyFrom_62 : decode cX0_copyFrom 62 = .ok (.iconst 0, 1) := by decide +kernel
theorem dX0_copyFrom_63 : decode cX0_copyFrom 63 = .ok (.bipush 16, 2) := by decide +kernel
theorem dX0_copyFrom_65 : decode cX0_copyFrom 65 = .ok (.invokestatic 51, 3) := by decide +kernel
theorem dX0_copyFrom_68 : decode cX0_copyFrom 68 = .ok (.aload_n 1, 1) := by decide +kernel
theorem dX0_copyFrom_69 : decode cX0_copyFrom 69 = .ok (.getfield 28, 3) := by decide +kernel
theorem dX0_copyFrom_72 : decode cX0_copyFrom 72 = .ok (.iconst 0, 1) := by decide +kernel
theorem dX0_copyFrom_73 : decode cX0_copyFrom 73 = .ok (.aload_n 0, 1) := by decide +kernel
theorem dX0_copyFrom_74 : decode cX0_copyFrom 74 = .ok (.getfield 28, 3) := by decide +kernel
theorem dX0_copyFrom_77 : decode cX0_copyFrom 77 = .ok (.iconst 0, 1) := by decide +kernel
theorem dX0_copyFrom_78 : decode cX0_copyFrom 78 = .ok (.bipush 16, 2) := by decide +kernel
theorem dX0_copyFrom_80 : decode cX0_copyFrom 80 = .ok (.invokestatic 51, 3) := by decide +kernel
theorem dX0_copyFrom_83 : decode cX0_copyFrom 83 = .ok (.aload_n 1, 1) := by decide +kernel
theorem dX0_copyFrom_84 : decode cX0_copyFrom 84 = .ok (.getfield 31, 3) := by decide +kernel
theorem dX0_copyFrom_87 : decode cX0_copyFrom 87 = .ok (.iconst 0, 1) := by decide +kernel
theorem dX0_copyFrom_88 : decode cX0_copyFrom 88 = .ok (.aload_n 0, 1) := by decide +kernel
theorem dX0_copyFrom_89 : decode cX0_copyFrom 89 = .ok (.getfield 31, 3) := by decide +kernel
theorem dX0_copyFrom_92 : decode cX0_copyFrom 92 = .ok (.iconst 0, 1) := by decide +kernel
theorem dX0_copyFrom_93 : decode cX0_copyFrom 93 = .ok (.bipush 16, 2) := by decide +kernel
theorem dX0_copyFrom_95 : decode cX0_copyFrom 95 = .ok (.invokestatic 51, 3) := by decide +kernel
theorem dX0_copyFrom_98 : decode cX0_copyFrom 98 = .ok (.aload_n 1, 1) := by decide +kernel
theorem dX0_copyFrom_99 : decode cX0_copyFrom 99 = .ok (.getfield 38, 3) := by decide +kernel
theorem dX0_copyFrom_102 : decode cX0_copyFrom 102 = .ok (.iconst 0, 1) := by decide +kernel
theorem dX0_copyFrom_103 : decode cX0_copyFrom 103 = .ok (.aload_n 0, 1) := by decide +kernel
theorem dX0_copyFrom_104 : decode cX0_copyFrom 104 = .ok (.getfield 38, 3) := by decide +kernel
theorem dX0_copyFrom_107 : decode cX0_copyFrom 107 = .ok (.iconst 0, 1) := by decide +kernel
theorem dX0_copyFrom_108 : decode cX0_copyFrom 108 = .ok (.bipush 64, 2) := by decide +kernel
theorem dX0_copyFrom_110 : decode cX0_copyFrom 110 = .ok (.invokestatic 51, 3) := by decide +kernel
theorem dX0_copyFrom_113 : decode cX0_copyFrom 113 = .ok (.iconst 0, 1) := by decide +kernel
theorem dX0_copyFrom_114 : decode cX0_copyFrom 114 = .ok (.istore_n 2, 1) := by decide +kernel
theorem dX0_copyFrom_115 : decode cX0_copyFrom 115 = .ok (.iload_n 2, 1) := by decide +kernel
theorem dX0_copyFrom_116 : decode cX0_copyFrom 116 = .ok (.bipush 16, 2) := by decide +kernel
theorem dX0_copyFrom_118 : decode cX0_copyFrom 118 = .ok (.if_icmp .ge 21, 3) := by decide +kernel
theorem dX0_copyFrom_121 : decode cX0_copyFrom 121 = .ok (.aload_n 0, 1) := by decide +kernel
theorem dX0_copyFrom_122 : decode cX0_copyFrom 122 = .ok (.getfield 34, 3) := by decide +kernel
theorem dX0_copyFrom_125 : decode cX0_copyFrom 125 = .ok (.iload_n 2, 1) := by decide +kernel
theorem dX0_copyFrom_126 : decode cX0_copyFrom 126 = .ok (.aload_n 1, 1) := by decide +kernel
theorem dX0_copyFrom_127 : decode cX0_copyFrom 127 = .ok (.getfield 34, 3) := by decide +kernel
theorem dX0_copyFrom_130 : decode cX0_copyFrom 130 = .ok (.iload_n 2, 1) := by decide +kernel
theorem dX0_copyFrom_131 : decode cX0_copyFrom 131 = .ok (.baload, 1) := by decide +kernel
theorem dX0_copyFrom_132 : decode cX0_copyFrom 132 = .ok (.bastore, 1) := by decide +kernel
theorem dX0_copyFrom_133 : decode cX0_copyFrom 133 = .ok (.iinc 2 1, 3) := by decide +kernel
theorem dX0_copyFrom_136 : decode cX0_copyFrom 136 = .ok (.goto (-21), 3) := by decide +kernel
theorem dX0_copyFrom_139 : decode cX0_copyFrom 139 = .ok (.return_, 1) := by decide +kernel
theorem dX1_init_0 : decode cX1_init 0 = .ok (.aload_n 0, 1) := by decide +kernel
theorem dX1_init_1 : decode cX1_init 1 = .ok (.invokespecial 3, 3) := by decide +kernel
theorem dX1_init_4 : decode cX1_init 4 = .ok (.aload_n 0, 1) := by decide +kernel
theorem dX1_init_5 : decode cX1_init 5 = .ok (.bipush 100, 2) := by decide +kernel
theorem dX1_init_7 : decode cX1_init 7 = .ok (.newarray .int, 2) := by decide +kernel
theorem dX1_init_9 : decode cX1_init 9 = .ok (.putfield 9, 3) := by decide +kernel
theorem dX1_init_12 : decode cX1_init 12 = .ok (.return_, 1) := by decide +kernel
theorem dX1_measure_0 : decode cX1_measure 0 = .ok (.aload_n 0, 1) := by decide +kernel
theorem dX1_measure_1 : decode cX1_measure 1 = .ok (.getfield 9, 3) := by decide +kernel
theorem dX1_measure_4 : decode cX1_measure 4 = .ok (.ldc 15, 2) := by decide +kernel
theorem dX1_measure_6 : decode cX1_measure 6 = .ok (.invokestatic 16, 3) := by decide +kernel
theorem dX1_measure_9 : decode cX1_measure 9 = .ok (.iconst 0, 1) := by decide +kernel
theorem dX1_measure_10 : decode cX1_measure 10 = .ok (.istore_n 2, 1) := by decide +kernel
theorem dX1_measure_11 : decode cX1_measure 11 = .ok (.iload_n 2, 1) := by decide +kernel
theorem dX1_measure_12 : decode cX1_measure 12 = .ok (.bipush 10, 2) := by decide +kernel
theorem dX1_measure_14 : decode cX1_measure 14 = .ok (.if_icmp .ge 16, 3) := by decide +kernel
theorem dX1_measure_17 : decode cX1_measure 17 = .ok (.aload_n 0, 1) := by decide +kernel
theorem dX1_measure_18 : decode cX1_measure 18 = .ok (.iload_n 2, 1) := by decide +kernel
theorem dX1_measure_19 : decode cX1_measure 19 = .ok (.iload_n 2, 1) := by decide +kernel
theorem dX1_measure_20 : decode cX1_measure 20 = .ok (.iconst 0, 1) := by decide +kernel
theorem dX1_measure_21 : decode cX1_measure 21 = .ok (.invokevirtual 22, 3) := by decide +kernel
theorem dX1_measure_24 : decode cX1_measure 24 = .ok (.iinc 2 1, 3) := by decide +kernel
theorem dX1_measure_27 : decode cX1_measure 27 = .ok (.goto (-16), 3) := by decide +kernel
theorem dX1_measure_30 : decode cX1_measure 30 = .ok (.aload_n 1, 1) := by decide +kernel
theorem dX1_measure_31 : decode cX1_measure 31 = .ok (.getfield 26, 3) := by decide +kernel
theorem dX1_measure_34 : decode cX1_measure 34 = .ok (.astore_n 2, 1) := by decide +kernel
theorem dX1_measure_35 : decode cX1_measure 35 = .ok (.iconst 0, 1) := by decide +kernel
theorem dX1_measure_36 : decode cX1_measure 36 = .ok (.istore_n 3, 1) := by decide +kernel
theorem dX1_measure_37 : decode cX1_measure 37 = .ok (.iload_n 3, 1) := by decide +kernel
theorem dX1_measure_38 : decode cX1_measure 38 = .ok (.aload_n 2, 1) := by decide +kernel
theorem dX1_measure_39 : decode cX1_measure 39 = .ok (.getfield 32, 3) := by decide +kernel
theorem dX1_measure_42 : decode cX1_measure 42 = .ok (.if_icmp .ge 62, 3) := by decide +kernel
theorem dX1_measure_45 : decode cX1_measure 45 = .ok (.aload_n 2, 1) := by decide +kernel
theorem dX1_measure_46 : decode cX1_measure 46 = .ok (.getfield 38, 3) := by decide +kernel
theorem dX1_measure_49 : decode cX1_measure 49 = .ok (.iload_n 3, 1) := by decide +kernel
theorem dX1_measure_50 : decode cX1_measure 50 = .ok (.baload, 1) := by decide +kernel
theorem dX1_measure_51 : decode cX1_measure 51 = .ok (.ifCond .eq 47, 3) := by decide +kernel
theorem dX1_measure_54 : decode cX1_measure 54 = .ok (.aload_n 0, 1) := by decide +kernel
theorem dX1_measure_55 : decode cX1_measure 55 = .ok (.aload_n 2, 1) := by decide +kernel
theorem dX1_measure_56 : decode cX1_measure 56 = .ok (.getfield 42, 3) := by decide +kernel
theorem dX1_measure_59 : decode cX1_measure 59 = .ok (.iload_n 3, 1) := by decide +kernel
theorem dX1_measure_60 : decode cX1_measure 60 = .ok (.iaload, 1) := by decide +kernel
theorem dX1_measure_61 : decode cX1_measure 61 = .ok (.aload_n 2, 1) := by decide +kernel
theorem dX1_measure_62 : decode cX1_measure 62 = .ok (.getfield 45, 3) := by decide +kernel
theorem dX1_measure_65 : decode cX1_measure 65 = .ok (.iload_n 3, 1) := by decide +kernel
theorem dX1_measure_66 : decode cX1_measure 66 = .ok (.iaload, 1) := by decide +kernel
theorem dX1_measure_67 : decode cX1_measure 67 = .ok (.aload_n 2, 1) := by decide +kernel
theorem dX1_measure_68 : decode cX1_measure 68 = .ok (.getfield 48, 3) := by decide +kernel
theorem dX1_measure_71 : decode cX1_measure 71 = .ok (.iload_n 3, 1) := by decide +kernel
theorem dX1_measure_72 : decode cX1_measure 72 = .ok (.iaload, 1) := by decide +kernel
theorem dX1_measure_73 : decode cX1_measure 73 = .ok (.invokevirtual 22, 3) := by decide +kernel
theorem dX1_measure_76 : decode cX1_measure 76 = .ok (.aload_n 0, 1) := by decide +kernel
theorem dX1_measure_77 : decode cX1_measure 77 = .ok (.aload_n 2, 1) := by decide +kernel
theorem dX1_measure_78 : decode cX1_measure 78 = .ok (.getfield 45, 3) := by decide +kernel
theorem dX1_measure_81 : decode cX1_measure 81 = .ok (.iload_n 3, 1) := by decide +kernel
theorem dX1_measure_82 : decode cX1_measure 82 = .ok (.iaload, 1) := by decide +kernel
theorem dX1_measure_83 : decode cX1_measure 83 = .ok (.aload_n 2, 1) := by decide +kernel
theorem dX1_measure_84 : decode cX1_measure 84 = .ok (.getfield 42, 3) := by decide +kernel
theorem dX1_measure_87 : decode cX1_measure 87 = .ok (.iload_n 3, 1) := by decide +kernel
theorem dX1_measure_88 : decode cX1_measure 88 = .ok (.iaload, 1) := by decide +kernel
theorem dX1_measure_89 : decode cX1_measure 89 = .ok (.aload_n 2, 1) := by decide +kernel
theorem dX1_measure_90 : decode cX1_measure 90 = .ok (.getfield 48, 3) := by decide +kernel
theorem dX1_measure_93 : decode cX1_measure 93 = .ok (.iload_n 3, 1) := by decide +kernel
theorem dX1_measure_94 : decode cX1_measure 94 = .ok (.iaload, 1) := by decide +kernel
theorem dX1_measure_95 : decode cX1_measure 95 = .ok (.invokevirtual 22, 3) := by decide +kernel
theorem dX1_measure_98 : decode cX1_measure 98 = .ok (.iinc 3 1, 3) := by decide +kernel
theorem dX1_measure_101 : decode cX1_measure 101 = .ok (.goto (-64), 3) := by decide +kernel
theorem dX1_measure_104 : decode cX1_measure 104 = .ok (.iconst 0, 1) := by decide +kernel
theorem dX1_measure_105 : decode cX1_measure 105 = .ok (.istore_n 3, 1) := by decide +kernel
theorem dX1_measure_106 : decode cX1_measure 106 = .ok (.iload_n 3, 1) := by decide +kernel
theorem dX1_measure_107 : decode cX1_measure 107 = .ok (.aload_n 1, 1) := by decide +kernel
theorem dX1_measure_108 : decode cX1_measure 108 = .ok (.getfield 51, 3) := by decide +kernel
theorem dX1_measure_111 : decode cX1_measure 111 = .ok (.if_icmp .ge 38, 3) := by decide +kernel
theorem dX1_measure_114 : decode cX1_measure 114 = .ok (.iconst 0, 1) := by decide +kernel
theorem dX1_measure_115 : decode cX1_measure 115 = .ok (.istore 4, 2) := by decide +kernel
theorem dX1_measure_117 : decode cX1_measure 117 = .ok (.iload 4, 2) := by decide +kernel
theorem dX1_measure_119 : decode cX1_measure 119 = .ok (.aload_n 1, 1) := by decide +kernel
theorem dX1_measure_120 : decode cX1_measure 120 = .ok (.getfield 51, 3) := by decide +kernel
theorem dX1_measure_123 : decode cX1_measure 123 = .ok (.if_icmp .ge 20, 3) := by decide +kernel
theorem dX1_measure_126 : decode cX1_measure 126 = .ok (.aload_n 0, 1) := by decide +kernel
theorem dX1_measure_127 : decode cX1_measure 127 = .ok (.iload 4, 2) := by decide +kernel
theorem dX1_measure_129 : decode cX1_measure 129 = .ok (.iload_n 3, 1) := by decide +kernel
theorem dX1_measure_130 : decode cX1_measure 130 = .ok (.aload_n 1, 1) := by decide +kernel
theorem dX1_measure_131 : decode cX1_measure 131 = .ok (.getfield 51, 3) := by decide +kernel
theorem dX1_measure_134 : decode cX1_measure 134 = .ok (.invokevirtual 54, 3) := by decide +kernel
theorem dX1_measure_137 : decode cX1_measure 137 = .ok (.iinc 4 1, 3) := by decide +kernel
theorem dX1_measure_140 : decode cX1_measure 140 = .ok (.goto (-23), 3) := by decide +kernel
theorem dX1_measure_143 : decode cX1_measure 143 = .ok (.iinc 3 1, 3) := by decide +kernel
theorem dX1_measure_146 : decode cX1_measure 146 = .ok (.goto (-40), 3) := by decide +kernel
theorem dX1_measure_149 : decode cX1_measure 149 = .ok (.return_, 1) := by decide +kernel
theorem dX1_fromCrossing_0 : decode cX1_fromCrossing 0 = .ok (.aload_n 0, 1) := by decide +kernel
theorem dX1_fromCrossing_1 : decode cX1_fromCrossing 1 = .ok (.aload_n 1, 1) := by decide +kernel
theorem dX1_fromCrossing_2 : decode cX1_fromCrossing 2 = .ok (.iload_n 2, 1) := by decide +kernel
theorem dX1_fromCrossing_3 : decode cX1_fromCrossing 3 = .ok (.iload_n 3, 1) := by decide +kernel
theorem dX1_fromCrossing_4 : decode cX1_fromCrossing 4 = .ok (.invokevirtual 57, 3) := by decide +kernel
theorem dX1_fromCrossing_7 : decode cX1_fromCrossing 7 = .ok (.istore 4, 2) := by decide +kernel
theorem dX1_fromCrossing_9 : decode cX1_fromCrossing 9 = .ok (.iload 4, 2) := by decide +kernel
theorem dX1_fromCrossing_11 : decode cX1_fromCrossing 11 = .ok (.ldc 15, 2) := by decide +kernel
theorem dX1_fromCrossing_13 : decode cX1_fromCrossing 13 = .ok (.if_icmp .lt 7, 3) := by decide +kernel
theorem dX1_fromCrossing_16 : decode cX1_fromCrossing 16 = .ok (.iconst (-1), 1) := by decide +kernel
theorem dX1_fromCrossing_17 : decode cX1_fromCrossing 17 = .ok (.goto 5, 3) := by decide +kernel
theorem dX1_fromCrossing_20 : decode cX1_fromCrossing 20 = .ok (.iload 4, 2) := by decide +kernel
theorem dX1_fromCrossing_22 : decode cX1_fromCrossing 22 = .ok (.ireturn, 1) := by decide +kernel
theorem dX1_betweenHouses_0 : decode cX1_betweenHouses 0 = .ok (.iload_n 2, 1) := by decide +kernel
theorem dX1_betweenHouses_1 : decode cX1_betweenHouses 1 = .ok (.iload_n 3, 1) := by decide +kernel
theorem dX1_betweenHouses_2 : decode cX1_betweenHouses 2 = .ok (.if_icmp .ne 5, 3) := by decide +kernel
theorem dX1_betweenHouses_5 : decode cX1_betweenHouses 5 = .ok (.iconst 0, 1) := by decide +kernel
theorem dX1_betweenHouses_6 : decode cX1_betweenHouses 6 = .ok (.ireturn, 1) := by decide +kernel
theorem dX1_betweenHouses_7 : decode cX1_betweenHouses 7 = .ok (.aload_n 1, 1) := by decide +kernel
theorem dX1_betweenHouses_8 : decode cX1_betweenHouses 8 = .ok (.getfield 61, 3) := by decide +kernel
theorem dX1_betweenHouses_11 : decode cX1_betweenHouses 11 = .ok (.astore 4, 2) := by decide +kernel
theorem dX1_betweenHouses_13 : decode cX1_betweenHouses 13 = .ok (.aload 4, 2) := by decide +kernel
theorem dX1_betweenHouses_15 : decode cX1_betweenHouses 15 = .ok (.iload_n 2, 1) := by decide +kernel
theorem dX1_betweenHouses_16 : decode cX1_betweenHouses 16 = .ok (.invokevirtual 65, 3) := by decide +kernel
theorem dX1_betweenHouses_19 : decode cX1_betweenHouses 19 = .ok (.ifCond .eq 12, 3) := by decide +kernel
theorem dX1_betweenHouses_22 : decode cX1_betweenHouses 22 = .ok (.aload 4, 2) := by decide +kernel
theorem dX1_betweenHouses_24 : decode cX1_betweenHouses 24 = .ok (.iload_n 3, 1) := by decide +kernel
theorem dX1_betweenHouses_25 : decode cX1_betweenHouses 25 = .ok (.invokevirtual 65, 3) := by decide +kernel
theorem dX1_betweenHouses_28 : decode cX1_betweenHouses 28 = .ok (.ifCond .ne 5, 3) := by decide +kernel
theorem dX1_betweenHouses_31 : decode cX1_betweenHouses 31 = .ok (.iconst (-1), 1) := by decide +kernel
theorem dX1_betweenHouses_32 : decode cX1_betweenHouses 32 = .ok (.ireturn, 1) := by decide +kernel
theorem dX1_betweenHouses_33 : decode cX1_betweenHouses 33 = .ok (.aload 4, 2) := by decide +kernel
theorem dX1_betweenHouses_35 : decode cX1_betweenHouses 35 = .ok (.getfield 71, 3) := by decide +kernel
theorem dX1_betweenHouses_38 : decode cX1_betweenHouses 38 = .ok (.iload_n 2, 1) := by decide +kernel
theorem dX1_betweenHouses_39 : decode cX1_betweenHouses 39 = .ok (.iaload, 1) := by decide +kernel
theorem dX1_betweenHouses_40 : decode cX1_betweenHouses 40 = .ok (.istore 5, 2) := by decide +kernel
theorem dX1_betweenHouses_42 : decode cX1_betweenHouses 42 = .ok (.aload_n 1, 1) := by decide +kernel
theorem dX1_betweenHouses_43 : decode cX1_betweenHouses 43 = .ok (.getfield 26, 3) := by decide +kernel
theorem dX1_betweenHouses_46 : decode cX1_betweenHouses 46 = .ok (.iload 5, 2) := by decide +kernel
theorem dX1_betweenHouses_48 : decode cX1_betweenHouses 48 = .ok (.invokevirtual 74, 3) := by decide +kernel
theorem dX1_betweenHouses_51 : decode cX1_betweenHouses 51 = .ok (.ifCond .eq 16, 3) := by decide +kernel
theorem dX1_betweenHouses_54 : decode cX1_betweenHouses 54 = .ok (.aload_n 1, 1) := by decide +kernel
theorem dX1_betweenHouses_55 : decode cX1_betweenHouses 55 = .ok (.getfield 26, 3) := by decide +kernel
theorem dX1_betweenHouses_58 : decode cX1_betweenHouses 58 = .ok (.getfield 38, 3) := by decide +kernel
theorem dX1_betweenHouses_61 : decode cX1_betweenHouses 61 = .ok (.iload 5, 2) := by decide +kernel
theorem dX1_betweenHouses_63 : decode cX1_betweenHouses 63 = .ok (.baload, 1) := by decide +kernel
theorem dX1_betweenHouses_64 : decode cX1_betweenHouses 64 = .ok (.ifCond .ne 5, 3) := by decide +kernel
theorem dX1_betweenHouses_67 : decode cX1_betweenHouses 67 = .ok (.iconst (-1), 1) := by decide +kernel
theorem dX1_betweenHouses_68 : decode cX1_betweenHouses 68 = .ok (.ireturn, 1) := by decide +kernel
theorem dX1_betweenHouses_69 : decode cX1_betweenHouses 69 = .ok (.aload 4, 2) := by decide +kernel
theorem dX1_betweenHouses_71 : decode cX1_betweenHouses 71 = .ok (.getfield 75, 3) := by decide +kernel
theorem dX1_betweenHouses_74 : decode cX1_betweenHouses 74 = .ok (.iload_n 2, 1) := by decide +kernel
theorem dX1_betweenHouses_75 : decode cX1_betweenHouses 75 = .ok (.iaload, 1) := by decide +kernel
theorem dX1_betweenHouses_76 : decode cX1_betweenHouses 76 = .ok (.istore 6, 2) := by decide +kernel
theorem dX1_betweenHouses_78 : decode cX1_betweenHouses 78 = .ok (.aload_n 1, 1) := by decide +kernel
theorem dX1_betweenHouses_79 : decode cX1_betweenHouses 79 = .ok (.getfield 26, 3) := by decide +kernel
theorem dX1_betweenHouses_82 : decode cX1_betweenHouses 82 = .ok (.getfield 48, 3) := by decide +kernel
theorem dX1_betweenHouses_85 : decode cX1_betweenHouses 85 = .ok (.iload 5, 2) := by decide +kernel
theorem dX1_betweenHouses_87 : decode cX1_betweenHouses 87 = .ok (.iaload, 1) := by decide +kernel
theorem dX1_betweenHouses_88 : decode cX1_betweenHouses 88 = .ok (.iload 6, 2) := by decide +kernel
theorem dX1_betweenHouses_90 : decode cX1_betweenHouses 90 = .ok (.isub, 1) := by decide +kernel
theorem dX1_betweenHouses_91 : decode cX1_betweenHouses 91 = .ok (.istore 7, 2) := by decide +kernel
theorem dX1_betweenHouses_93 : decode cX1_betweenHouses 93 = .ok (.iload 6, 2) := by decide +kernel
theorem dX1_betweenHouses_95 : decode cX1_betweenHouses 95 = .ok (.aload_n 0, 1) := by decide +kernel
theorem dX1_betweenHouses_96 : decode cX1_betweenHouses 96 = .ok (.aload_n 1, 1) := by decide +kernel
theorem dX1_betweenHouses_97 : decode cX1_betweenHouses 97 = .ok (.aload_n 1, 1) := by decide +kernel
theorem dX1_betweenHouses_98 : decode cX1_betweenHouses 98 = .ok (.getfield 26, 3) := by decide +kernel
theorem dX1_betweenHouses_101 : decode cX1_betweenHouses 101 = .ok (.getfield 42, 3) := by decide +kernel
theorem dX1_betweenHouses_104 : decode cX1_betweenHouses 104 = .ok (.iload 5, 2) := by decide +kernel
theorem dX1_betweenHouses_106 : decode cX1_betweenHouses 106 = .ok (.iaload, 1) := by decide +kernel
theorem dX1_betweenHouses_107 : decode cX1_betweenHouses 107 = .ok (.iload_n 3, 1) := by decide +kernel
theorem dX1_betweenHouses_108 : decode cX1_betweenHouses 108 = .ok (.invokevirtual 57, 3) := by decide +kernel
theorem dX1_betweenHouses_111 : decode cX1_betweenHouses 111 = .ok (.iadd, 1) := by decide +kernel
theorem dX1_betweenHouses_112 : decode cX1_betweenHouses 112 = .ok (.iload 7, 2) := by decide +kernel
theorem dX1_betweenHouses_114 : decode cX1_betweenHouses 114 = .ok (.aload_n 0, 1) := by decide +kernel
theorem dX1_betweenHouses_115 : decode cX1_betweenHouses 115 = .ok (.aload_n 1, 1) := by decide +kernel
theorem dX1_betweenHouses_116 : decode cX1_betweenHouses 116 = .ok (.aload_n 1, 1) := by decide +kernel
theorem dX1_betweenHouses_117 : decode cX1_betweenHouses 117 = .ok (.getfield 26, 3) := by decide +kernel
theorem dX1_betweenHouses_120 : decode cX1_betweenHouses 120 = .ok (.getfield 45, 3) := by decide +kernel
theorem dX1_betweenHouses_123 : decode cX1_betweenHouses 123 = .ok (.iload 5, 2) := by decide +kernel
theorem dX1_betweenHouses_125 : decode cX1_betweenHouses 125 = .ok (.iaload, 1) := by decide +kernel
theorem dX1_betweenHouses_126 : decode cX1_betweenHouses 126 = .ok (.iload_n 3, 1) := by decide +kernel
theorem dX1_betweenHouses_127 : decode cX1_betweenHouses 127 = .ok (.invokevirtual 57, 3) := by decide +kernel
theorem dX1_betweenHouses_130 : decode cX1_betweenHouses 130 = .ok (.iadd, 1) := by decide +kernel
theorem dX1_betweenHouses_131 : decode cX1_betweenHouses 131 = .ok (.invokestatic 78, 3) := by decide +kernel
theorem dX1_betweenHouses_134 : decode cX1_betweenHouses 134 = .ok (.istore 8, 2) := by decide +kernel
theorem dX1_betweenHouses_136 : decode cX1_betweenHouses 136 = .ok (.iload 5, 2) := by decide +kernel
theorem dX1_betweenHouses_138 : decode cX1_betweenHouses 138 = .ok (.aload 4, 2) := by decide +kernel
theorem dX1_betweenHouses_140 : decode cX1_betweenHouses 140 = .ok (.getfield 71, 3) := by decide +kernel
theorem dX1_betweenHouses_143 : decode cX1_betweenHouses 143 = .ok (.iload_n 3, 1) := by decide +kernel
theorem dX1_betweenHouses_144 : decode cX1_betweenHouses 144 = .ok (.iaload, 1) := by decide +kernel
theorem dX1_betweenHouses_145 : decode cX1_betweenHouses 145 = .ok (.if_icmp .ne 58, 3) := by decide +kernel
theorem dX1_betweenHouses_148 : decode cX1_betweenHouses 148 = .ok (.iload 8, 2) := by decide +kernel
theorem dX1_betweenHouses_150 : decode cX1_betweenHouses 150 = .ok (.aload 4, 2) := by decide +kernel
theorem dX1_betweenHouses_152 : decode cX1_betweenHouses 152 = .ok (.getfield 75, 3) := by decide +kernel
theorem dX1_betweenHouses_155 : decode cX1_betweenHouses 155 = .ok (.iload_n 2, 1) := by decide +kernel
theorem dX1_betweenHouses_156 : decode cX1_betweenHouses 156 = .ok (.iaload, 1) := by decide +kernel
theorem dX1_betweenHouses_157 : decode cX1_betweenHouses 157 = .ok (.aload 4, 2) := by decide +kernel
theorem dX1_betweenHouses_159 : decode cX1_betweenHouses 159 = .ok (.getfield 75, 3) := by decide +kernel
theorem dX1_betweenHouses_162 : decode cX1_betweenHouses 162 = .ok (.iload_n 3, 1) := by decide +kernel
theorem dX1_betweenHouses_163 : decode cX1_betweenHouses 163 = .ok (.iaload, 1) := by decide +kernel
theorem dX1_betweenHouses_164 : decode cX1_betweenHouses 164 = .ok (.isub, 1) := by decide +kernel
theorem dX1_betweenHouses_165 : decode cX1_betweenHouses 165 = .ok (.invokestatic 84, 3) := by decide +kernel
theorem dX1_betweenHouses_168 : decode cX1_betweenHouses 168 = .ok (.invokestatic 78, 3) := by decide +kernel
theorem dX1_betweenHouses_171 : decode cX1_betweenHouses 171 = .ok (.istore 8, 2) := by decide +kernel
theorem dX1_betweenHouses_173 : decode cX1_betweenHouses 173 = .ok (.iload 8, 2) := by decide +kernel
theorem dX1_betweenHouses_175 : decode cX1_betweenHouses 175 = .ok (.aload 4, 2) := by decide +kernel
theorem dX1_betweenHouses_177 : decode cX1_betweenHouses 177 = .ok (.getfield 88, 3) := by decide +kernel
theorem dX1_betweenHouses_180 : decode cX1_betweenHouses 180 = .ok (.iload_n 2, 1) := by decide +kernel
theorem dX1_betweenHouses_181 : decode cX1_betweenHouses 181 = .ok (.iaload, 1) := by decide +kernel
theorem dX1_betweenHouses_182 : decode cX1_betweenHouses 182 = .ok (.aload 4, 2) := by decide +kernel
theorem dX1_betweenHouses_184 : decode cX1_betweenHouses 184 = .ok (.getfield 88, 3) := by decide +kernel
theorem dX1_betweenHouses_187 : decode cX1_betweenHouses 187 = .ok (.iload_n 3, 1) := by decide +kernel
theorem dX1_betweenHouses_188 : decode cX1_betweenHouses 188 = .ok (.iaload, 1) := by decide +kernel
theorem dX1_betweenHouses_189 : decode cX1_betweenHouses 189 = .ok (.if_icmp .eq 10, 3) := by decide +kernel
theorem dX1_betweenHouses_192 : decode cX1_betweenHouses 192 = .ok (.aload_n 1, 1) := by decide +kernel
theorem dX1_betweenHouses_193 : decode cX1_betweenHouses 193 = .ok (.getfield 91, 3) := by decide +kernel
theorem dX1_betweenHouses_196 : decode cX1_betweenHouses 196 = .ok (.goto 4, 3) := by decide +kernel
theorem dX1_betweenHouses_199 : decode cX1_betweenHouses 199 = .ok (.iconst 0, 1) := by decide +kernel
theorem dX1_betweenHouses_200 : decode cX1_betweenHouses 200 = .ok (.iadd, 1) := by decide +kernel
theorem dX1_betweenHouses_201 : decode cX1_betweenHouses 201 = .ok (.istore 8, 2) := by decide +kernel
theorem dX1_betweenHouses_203 : decode cX1_betweenHouses 203 = .ok (.iload 8, 2) := by decide +kernel
theorem dX1_betweenHouses_205 : decode cX1_betweenHouses 205 = .ok (.ldc 15, 2) := by decide +kernel
theorem dX1_betweenHouses_207 : decode cX1_betweenHouses 207 = .ok (.if_icmp .lt 7, 3) := by decide +kernel
theorem dX1_betweenHouses_210 : decode cX1_betweenHouses 210 = .ok (.iconst (-1), 1) := by decide +kernel
theorem dX1_betweenHouses_211 : decode cX1_betweenHouses 211 = .ok (.goto 5, 3) := by decide +kernel
theorem dX1_betweenHouses_214 : decode cX1_betweenHouses 214 = .ok (.iload 8, 2) := by decide +kernel
theorem dX1_betweenHouses_216 : decode cX1_betweenHouses 216 = .ok (.ireturn, 1) := by decide +kernel
theorem dX1_reach_0 : decode cX1_reach 0 = .ok (.aload_n 1, 1) := by decide +kernel
theorem dX1_reach_1 : decode cX1_reach 1 = .ok (.getfield 26, 3) := by decide +kernel
theorem dX1_reach_4 : decode cX1_reach 4 = .ok (.astore 4, 2) := by decide +kernel
theorem dX1_reach_6 : decode cX1_reach 6 = .ok (.aload_n 1, 1) := by decide +kernel
theorem dX1_reach_7 : decode cX1_reach 7 = .ok (.getfield 61, 3) := by decide +kernel
theorem dX1_reach_10 : decode cX1_reach 10 = .ok (.astore 5, 2) := by decide +kernel
theorem dX1_reach_12 : decode cX1_reach 12 = .ok (.aload 5, 2) := by decide +kernel
theorem dX1_reach_14 : decode cX1_reach 14 = .ok (.iload_n 3, 1) := by decide +kernel
theorem dX1_reach_15 : decode cX1_reach 15 = .ok (.invokevirtual 65, 3) := by decide +kernel
theorem dX1_reach_18 : decode cX1_reach 18 = .ok (.ifCond .ne 6, 3) := by decide +kernel
theorem dX1_reach_21 : decode cX1_reach 21 = .ok (.ldc 15, 2) := by decide +kernel
theorem dX1_reach_23 : decode cX1_reach 23 = .ok (.ireturn, 1) := by decide +kernel
theorem dX1_reach_24 : decode cX1_reach 24 = .ok (.aload 5, 2) := by decide +kernel
theorem dX1_reach_26 : decode cX1_reach 26 = .ok (.getfield 71, 3) := by decide +kernel
theorem dX1_reach_29 : decode cX1_reach 29 = .ok (.iload_n 3, 1) := by decide +kernel
theorem dX1_reach_30 : decode cX1_reach 30 = .ok (.iaload, 1) := by decide +kernel
theorem dX1_reach_31 : decode cX1_reach 31 = .ok (.istore 6, 2) := by decide +kernel
theorem dX1_reach_33 : decode cX1_reach 33 = .ok (.aload 4, 2) := by decide +kernel
theorem dX1_reach_35 : decode cX1_reach 35 = .ok (.iload 6, 2) := by decide +kernel
theorem dX1_reach_37 : decode cX1_reach 37 = .ok (.invokevirtual 74, 3) := by decide +kernel
theorem dX1_reach_40 : decode cX1_reach 40 = .ok (.ifCond .eq 14, 3) := by decide +kernel
theorem dX1_reach_43 : decode cX1_reach 43 = .ok (.aload 4, 2) := by decide +kernel
theorem dX1_reach_45 : decode cX1_reach 45 = .ok (.getfield 38, 3) := by decide +kernel
theorem dX1_reach_48 : decode cX1_reach 48 = .ok (.iload 6, 2) := by decide +kernel
theorem dX1_reach_50 : decode cX1_reach 50 = .ok (.baload, 1) := by decide +kernel
theorem dX1_reach_51 : decode cX1_reach 51 = .ok (.ifCond .ne 6, 3) := by decide +kernel
theorem dX1_reach_54 : decode cX1_reach 54 = .ok (.ldc 15, 2) := by decide +kernel
theorem dX1_reach_56 : decode cX1_reach 56 = .ok (.ireturn, 1) := by decide +kernel
theorem dX1_reach_57 : decode cX1_reach 57 = .ok (.aload 5, 2) := by decide +kernel
theorem dX1_reach_59 : decode cX1_reach 59 = .ok (.getfield 75, 3) := by decide +kernel
theorem dX1_reach_62 : decode cX1_reach 62 = .ok (.iload_n 3, 1) := by decide +kernel
theorem dX1_reach_63 : decode cX1_reach 63 = .ok (.iaload, 1) := by decide +kernel
theorem dX1_reach_64 : decode cX1_reach 64 = .ok (.istore 7, 2) := by decide +kernel
theorem dX1_reach_66 : decode cX1_reach 66 = .ok (.aload_n 0, 1) := by decide +kernel
theorem dX1_reach_67 : decode cX1_reach 67 = .ok (.iload_n 2, 1) := by decide +kernel
theorem dX1_reach_68 : decode cX1_reach 68 = .ok (.aload 4, 2) := by decide +kernel
theorem dX1_reach_70 : decode cX1_reach 70 = .ok (.getfield 42, 3) := by decide +kernel
theorem dX1_reach_73 : decode cX1_reach 73 = .ok (.iload 6, 2) := by decide +kernel
theorem dX1_reach_75 : decode cX1_reach 75 = .ok (.iaload, 1) := by decide +kernel
theorem dX1_reach_76 : decode cX1_reach 76 = .ok (.invokevirtual 94, 3) := by decide +kernel
theorem dX1_reach_79 : decode cX1_reach 79 = .ok (.iload 7, 2) := by decide +kernel
theorem dX1_reach_81 : decode cX1_reach 81 = .ok (.iadd, 1) := by decide +kernel
theorem dX1_reach_82 : decode cX1_reach 82 = .ok (.aload_n 0, 1) := by decide +kernel
theorem dX1_reach_83 : decode cX1_reach 83 = .ok (.iload_n 2, 1) := by decide +kernel
theorem dX1_reach_84 : decode cX1_reach 84 = .ok (.aload 4, 2) := by decide +kernel
theorem dX1_reach_86 : decode cX1_reach 86 = .ok (.getfield 45, 3) := by decide +kernel
theorem dX1_reach_89 : decode cX1_reach 89 = .ok (.iload 6, 2) := by decide +kernel
theorem dX1_reach_91 : decode cX1_reach 91 = .ok (.iaload, 1) := by decide +kernel
theorem dX1_reach_92 : decode cX1_reach 92 = .ok (.invokevirtual 94, 3) := by decide +kernel
theorem dX1_reach_95 : decode cX1_reach 95 = .ok (.aload 4, 2) := by decide +kernel
theorem dX1_reach_97 : decode cX1_reach 97 = .ok (.getfield 48, 3) := by decide +kernel
theorem dX1_reach_100 : decode cX1_reach 100 = .ok (.iload 6, 2) := by decide +kernel
theorem dX1_reach_102 : decode cX1_reach 102 = .ok (.iaload, 1) := by decide +kernel
theorem dX1_reach_103 : decode cX1_reach 103 = .ok (.iadd, 1) := by decide +kernel
theorem dX1_reach_104 : decode cX1_reach 104 = .ok (.iload 7, 2) := by decide +kernel
theorem dX1_reach_106 : decode cX1_reach 106 = .ok (.isub, 1) := by decide +kernel
theorem dX1_reach_107 : decode cX1_reach 107 = .ok (.invokestatic 78, 3) := by decide +kernel
theorem dX1_reach_110 : decode cX1_reach 110 = .ok (.ireturn, 1) := by decide +kernel
theorem dX1_shortenAllFrom_0 : decode cX1_shortenAllFrom 0 = .ok (.aload_n 0, 1) := by decide +kernel
theorem dX1_shortenAllFrom_1 : decode cX1_shortenAllFrom 1 = .ok (.iload_n 1, 1) := by decide +kernel
theorem dX1_shortenAllFrom_2 : decode cX1_shortenAllFrom 2 = .ok (.iload_n 2, 1) := by decide +kernel
theorem dX1_shortenAllFrom_3 : decode cX1_shortenAllFrom 3 = .ok (.invokevirtual 94, 3) := by decide +kernel
theorem dX1_shortenAllFrom_6 : decode cX1_shortenAllFrom 6 = .ok (.istore 4, 2) := by decide +kernel
theorem dX1_shortenAllFrom_8 : decode cX1_shortenAllFrom 8 = .ok (.iload 4, 2) := by decide +kernel
theorem dX1_shortenAllFrom_10 : decode cX1_shortenAllFrom 10 = .ok (.ldc 15, 2) := by decide +kernel
theorem dX1_shortenAllFrom_12 : decode cX1_shortenAllFrom 12 = .ok (.if_icmp .lt 4, 3) := by decide +kernel
theorem dX1_shortenAllFrom_15 : decode cX1_shortenAllFrom 15 = .ok (.return_, 1) := by decide +kernel
theorem dX1_shortenAllFrom_16 : decode cX1_shortenAllFrom 16 = .ok (.iconst 0, 1) := by decide +kernel
theorem dX1_shortenAllFrom_17 : decode cX1_shortenAllFrom 17 = .ok (.istore 5, 2) := by decide +kernel
theorem dX1_shortenAllFrom_19 : decode cX1_shortenAllFrom 19 = .ok (.iload 5, 2) := by decide +kernel
theorem dX1_shortenAllFrom_21 : decode cX1_shortenAllFrom 21 = .ok (.iload_n 3, 1) := by decide +kernel
theorem dX1_shortenAllFrom_22 : decode cX1_shortenAllFrom 22 = .ok (.if_icmp .ge 26, 3) := by decide +kernel
theorem dX1_shortenAllFrom_25 : decode cX1_shortenAllFrom 25 = .ok (.aload_n 0, 1) := by decide +kernel
theorem dX1_shortenAllFrom_26 : decode cX1_shortenAllFrom 26 = .ok (.iload_n 1, 1) := by decide +kernel
theorem dX1_shortenAllFrom_27 : decode cX1_shortenAllFrom 27 = .ok (.iload 5, 2) := by decide +kernel
theorem dX1_shortenAllFrom_29 : decode cX1_shortenAllFrom 29 = .ok (.iload 4, 2) := by decide +kernel
theorem dX1_shortenAllFrom_31 : decode cX1_shortenAllFrom 31 = .ok (.aload_n 0, 1) := by decide +kernel
theorem dX1_shortenAllFrom_32 : decode cX1_shortenAllFrom 32 = .ok (.iload_n 2, 1) := by decide +kernel
theorem dX1_shortenAllFrom_33 : decode cX1_shortenAllFrom 33 = .ok (.iload 5, 2) := by decide +kernel
theorem dX1_shortenAllFrom_35 : decode cX1_shortenAllFrom 35 = .ok (.invokevirtual 94, 3) := by decide +kernel
theorem dX1_shortenAllFrom_38 : decode cX1_shortenAllFrom 38 = .ok (.iadd, 1) := by decide +kernel
theorem dX1_shortenAllFrom_39 : decode cX1_shortenAllFrom 39 = .ok (.invokevirtual 22, 3) := by decide +kernel
theorem dX1_shortenAllFrom_42 : decode cX1_shortenAllFrom 42 = .ok (.iinc 5 1, 3) := by decide +kernel
theorem dX1_shortenAllFrom_45 : decode cX1_shortenAllFrom 45 = .ok (.goto (-26), 3) := by decide +kernel
theorem dX1_shortenAllFrom_48 : decode cX1_shortenAllFrom 48 = .ok (.return_, 1) := by decide +kernel
theorem dX1_shorten_0 : decode cX1_shorten 0 = .ok (.iload_n 1, 1) := by decide +kernel
theorem dX1_shorten_1 : decode cX1_shorten 1 = .ok (.invokestatic 97, 3) := by decide +kernel
theorem dX1_shorten_4 : decode cX1_shorten 4 = .ok (.ifCond .eq 37, 3) := by decide +kernel
theorem dX1_shorten_7 : decode cX1_shorten 7 = .ok (.iload_n 2, 1) := by decide +kernel
theorem dX1_shorten_8 : decode cX1_shorten 8 = .ok (.invokestatic 97, 3) := by decide +kernel
theorem dX1_shorten_11 : decode cX1_shorten 11 = .ok (.ifCond .eq 30, 3) := by decide +kernel
theorem dX1_shorten_14 : decode cX1_shorten 14 = .ok (.iload_n 3, 1) := by decide +kernel
theorem dX1_shorten_15 : decode cX1_shorten 15 = .ok (.aload_n 0, 1) := by decide +kernel
theorem dX1_shorten_16 : decode cX1_shorten 16 = .ok (.getfield 9, 3) := by decide +kernel
theorem dX1_shorten_19 : decode cX1_shorten 19 = .ok (.iload_n 1, 1) := by decide +kernel
theorem dX1_shorten_20 : decode cX1_shorten 20 = .ok (.bipush 10, 2) := by decide +kernel
theorem dX1_shorten_22 : decode cX1_shorten 22 = .ok (.imul, 1) := by decide +kernel
theorem dX1_shorten_23 : decode cX1_shorten 23 = .ok (.iload_n 2, 1) := by decide +kernel
theorem dX1_shorten_24 : decode cX1_shorten 24 = .ok (.iadd, 1) := by decide +kernel
theorem dX1_shorten_25 : decode cX1_shorten 25 = .ok (.iaload, 1) := by decide +kernel
theorem dX1_shorten_26 : decode cX1_shorten 26 = .ok (.if_icmp .ge 15, 3) := by decide +kernel
theorem dX1_shorten_29 : decode cX1_shorten 29 = .ok (.aload_n 0, 1) := by decide +kernel
theorem dX1_shorten_30 : decode cX1_shorten 30 = .ok (.getfield 9, 3) := by decide +kernel
theorem dX1_shorten_33 : decode cX1_shorten 33 = .ok (.iload_n 1, 1) := by decide +kernel
theorem dX1_shorten_34 : decode cX1_shorten 34 = .ok (.bipush 10, 2) := by decide +kernel
theorem dX1_shorten_36 : decode cX1_shorten 36 = .ok (.imul, 1) := by decide +kernel
theorem dX1_shorten_37 : decode cX1_shorten 37 = .ok (.iload_n 2, 1) := by decide +kernel
theorem dX1_shorten_38 : decode cX1_shorten 38 = .ok (.iadd, 1) := by decide +kernel
theorem dX1_shorten_39 : decode cX1_shorten 39 = .ok (.iload_n 3, 1) := by decide +kernel
theorem dX1_shorten_40 : decode cX1_shorten 40 = .ok (.iastore, 1) := by decide +kernel
theorem dX1_shorten_41 : decode cX1_shorten 41 = .ok (.return_, 1) := by decide +kernel
theorem dX1_way_0 : decode cX1_way 0 = .ok (.iload_n 1, 1) := by decide +kernel
theorem dX1_way_1 : decode cX1_way 1 = .ok (.invokestatic 97, 3) := by decide +kernel
theorem dX1_way_4 : decode cX1_way 4 = .ok (.ifCond .eq 24, 3) := by decide +kernel
theorem dX1_way_7 : decode cX1_way 7 = .ok (.iload_n 2, 1) := by decide +kernel
theorem dX1_way_8 : decode cX1_way 8 = .ok (.invokestatic 97, 3) := by decide +kernel
theorem dX1_way_11 : decode cX1_way 11 = .ok (.ifCond .eq 17, 3) := by decide +kernel
theorem dX1_way_14 : decode cX1_way 14 = .ok (.aload_n 0, 1) := by decide +kernel
theorem dX1_way_15 : decode cX1_way 15 = .ok (.getfield 9, 3) := by decide +kernel
theorem dX1_way_18 : decode cX1_way 18 = .ok (.iload_n 1, 1) := by decide +kernel
theorem dX1_way_19 : decode cX1_way 19 = .ok (.bipush 10, 2) := by decide +kernel
theorem dX1_way_21 : decode cX1_way 21 = .ok (.imul, 1) := by decide +kernel
theorem dX1_way_22 : decode cX1_way 22 = .ok (.iload_n 2, 1) := by decide +kernel
theorem dX1_way_23 : decode cX1_way 23 = .ok (.iadd, 1) := by decide +kernel
theorem dX1_way_24 : decode cX1_way 24 = .ok (.iaload, 1) := by decide +kernel
theorem dX1_way_25 : decode cX1_way 25 = .ok (.goto 5, 3) := by decide +kernel
theorem dX1_way_28 : decode cX1_way 28 = .ok (.ldc 15, 2) := by decide +kernel
theorem dX1_way_30 : decode cX1_way 30 = .ok (.ireturn, 1) := by decide +kernel
theorem dX1_isCrossing_0 : decode cX1_isCrossing 0 = .ok (.iload_n 0, 1) := by decide +kernel
theorem dX1_isCrossing_1 : decode cX1_isCrossing 1 = .ok (.ifCond .lt 13, 3) := by decide +kernel
theorem dX1_isCrossing_4 : decode cX1_isCrossing 4 = .ok (.iload_n 0, 1) := by decide +kernel
theorem dX1_isCrossing_5 : decode cX1_isCrossing 5 = .ok (.bipush 10, 2) := by decide +kernel
theorem dX1_isCrossing_7 : decode cX1_isCrossing 7 = .ok (.if_icmp .ge 7, 3) := by decide +kernel
theorem dX1_isCrossing_10 : decode cX1_isCrossing 10 = .ok (.iconst 1, 1) := by decide +kernel
theorem dX1_isCrossing_11 : decode cX1_isCrossing 11 = .ok (.goto 4, 3) := by decide +kernel
theorem dX1_isCrossing_14 : decode cX1_isCrossing 14 = .ok (.iconst 0, 1) := by decide +kernel
theorem dX1_isCrossing_15 : decode cX1_isCrossing 15 = .ok (.ireturn, 1) := by decide +kernel
theorem dX2_init_0 : decode cX2_init 0 = .ok (.aload_n 0, 1) := by decide +kernel
theorem dX2_init_1 : decode cX2_init 1 = .ok (.invokespecial 3, 3) := by decide +kernel
theorem dX2_init_4 : decode cX2_init 4 = .ok (.aload_n 0, 1) := by decide +kernel
theorem dX2_init_5 : decode cX2_init 5 = .ok (.iconst 0, 1) := by decide +kernel
theorem dX2_init_6 : decode cX2_init 6 = .ok (.putfield 9, 3) := by decide +kernel
theorem dX2_init_9 : decode cX2_init 9 = .ok (.aload_n 0, 1) := by decide +kernel
theorem dX2_init_10 : decode cX2_init 10 = .ok (.bipush 8, 2) := by decide +kernel
theorem dX2_init_12 : decode cX2_init 12 = .ok (.newarray .int, 2) := by decide +kernel
theorem dX2_init_14 : decode cX2_init 14 = .ok (.putfield 15, 3) := by decide +kernel
theorem dX2_init_17 : decode cX2_init 17 = .ok (.aload_n 0, 1) := by decide +kernel
theorem dX2_init_18 : decode cX2_init 18 = .ok (.iconst (-1), 1) := by decide +kernel
theorem dX2_init_19 : decode cX2_init 19 = .ok (.putfield 19, 3) := by decide +kernel
theorem dX2_init_22 : decode cX2_init 22 = .ok (.aload_n 0, 1) := by decide +kernel
theorem dX2_init_23 : decode cX2_init 23 = .ok (.bipush 8, 2) := by decide +kernel
theorem dX2_init_25 : decode cX2_init 25 = .ok (.newarray .int, 2) := by decide +kernel
theorem dX2_init_27 : decode cX2_init 27 = .ok (.putfield 22, 3) := by decide +kernel
theorem dX2_init_30 : decode cX2_init 30 = .ok (.aload_n 0, 1) := by decide +kernel
theorem dX2_init_31 : decode cX2_init 31 = .ok (.bipush 8, 2) := by decide +kernel
theorem dX2_init_33 : decode cX2_init 33 = .ok (.newarray .int, 2) := by decide +kernel
theorem dX2_init_35 : decode cX2_init 35 = .ok (.putfield 25, 3) := by decide +kernel
theorem dX2_init_38 : decode cX2_init 38 = .ok (.aload_n 0, 1) := by decide +kernel
theorem dX2_init_39 : decode cX2_init 39 = .ok (.bipush 8, 2) := by decide +kernel
theorem dX2_init_41 : decode cX2_init 41 = .ok (.newarray .int, 2) := by decide +kernel
theorem dX2_init_43 : decode cX2_init 43 = .ok (.putfield 28, 3) := by decide +kernel
theorem dX2_init_46 : decode cX2_init 46 = .ok (.aload_n 0, 1) := by decide +kernel
theorem dX2_init_47 : decode cX2_init 47 = .ok (.bipush 8, 2) := by decide +kernel
theorem dX2_init_49 : decode cX2_init 49 = .ok (.newarray .int, 2) := by decide +kernel
theorem dX2_init_51 : decode cX2_init 51 = .ok (.putfield 31, 3) := by decide +kernel
theorem dX2_init_54 : decode cX2_init 54 = .ok (.aload_n 0, 1) := by decide +kernel
theorem dX2_init_55 : decode cX2_init 55 = .ok (.bipush 64, 2) := by decide +kernel
theorem dX2_init_57 : decode cX2_init 57 = .ok (.newarray .int, 2) := by decide +kernel
theorem dX2_init_59 : decode cX2_init 59 = .ok (.putfield 34, 3) := by decide +kernel
theorem dX2_init_62 : decode cX2_init 62 = .ok (.aload_n 0, 1) := by decide +kernel
theorem dX2_init_63 : decode cX2_init 63 = .ok (.bipush 8, 2) := by decide +kernel
theorem dX2_init_65 : decode cX2_init 65 = .ok (.newarray .int, 2) := by decide +kernel
theorem dX2_init_67 : decode cX2_init 67 = .ok (.putfield 37, 3) := by decide +kernel
theorem dX2_init_70 : decode cX2_init 70 = .ok (.aload_n 0, 1) := by decide +kernel
theorem dX2_init_71 : decode cX2_init 71 = .ok (.iconst 0, 1) := by decide +kernel
theorem dX2_init_72 : decode cX2_init 72 = .ok (.putfield 40, 3) := by decide +kernel
theorem dX2_init_75 : decode cX2_init 75 = .ok (.aload_n 0, 1) := by decide +kernel
theorem dX2_init_76 : decode cX2_init 76 = .ok (.sipush 2048, 3) := by decide +kernel
theorem dX2_init_79 : decode cX2_init 79 = .ok (.newarray .int, 2) := by decide +kernel
theorem dX2_init_81 : decode cX2_init 81 = .ok (.putfield 43, 3) := by decide +kernel
theorem dX2_init_84 : decode cX2_init 84 = .ok (.aload_n 0, 1) := by decide +kernel
theorem dX2_init_85 : decode cX2_init 85 = .ok (.sipush 2048, 3) := by decide +kernel
theorem dX2_init_88 : decode cX2_init 88 = .ok (.newarray .int, 2) := by decide +kernel
theorem dX2_init_90 : decode cX2_init 90 = .ok (.putfield 46, 3) := by decide +kernel
theorem dX2_init_93 : decode cX2_init 93 = .ok (.aload_n 0, 1) := by decide +kernel
theorem dX2_init_94 : decode cX2_init 94 = .ok (.sipush 768, 3) := by decide +kernel
theorem dX2_init_97 : decode cX2_init 97 = .ok (.newarray .int, 2) := by decide +kernel
theorem dX2_init_99 : decode cX2_init 99 = .ok (.putfield 49, 3) := by decide +kernel
theorem dX2_init_102 : decode cX2_init 102 = .ok (.aload_n 0, 1) := by decide +kernel
theorem dX2_init_103 : decode cX2_init 103 = .ok (.iconst 3, 1) := by decide +kernel
theorem dX2_init_104 : decode cX2_init 104 = .ok (.newarray .int, 2) := by decide +kernel
theorem dX2_init_106 : decode cX2_init 106 = .ok (.putfield 52, 3) := by decide +kernel
theorem dX2_init_109 : decode cX2_init 109 = .ok (.aload_n 0, 1) := by decide +kernel
theorem dX2_init_110 : decode cX2_init 110 = .ok (.iconst 3, 1) := by decide +kernel
theorem dX2_init_111 : decode cX2_init 111 = .ok (.newarray .int, 2) := by decide +kernel
theorem dX2_init_113 : decode cX2_init 113 = .ok (.putfield 55, 3) := by decide +kernel
theorem dX2_init_116 : decode cX2_init 116 = .ok (.aload_n 0, 1) := by decide +kernel
theorem dX2_init_117 : decode cX2_init 117 = .ok (.iconst 0, 1) := by decide +kernel
theorem dX2_init_118 : decode cX2_init 118 = .ok (.putfield 58, 3) := by decide +kernel
theorem dX2_init_121 : decode cX2_init 121 = .ok (.return_, 1) := by decide +kernel
theorem dX2_soonestEnd_0 : decode cX2_soonestEnd 0 = .ok (.aload_n 0, 1) := by decide +kernel
theorem dX2_soonestEnd_1 : decode cX2_soonestEnd 1 = .ok (.aload_n 1, 1) := by decide +kernel
theorem dX2_soonestEnd_2 : decode cX2_soonestEnd 2 = .ok (.aload_n 2, 1) := by decide +kernel
theorem dX2_soonestEnd_3 : decode cX2_soonestEnd 3 = .ok (.iload 4, 2) := by decide +kernel
theorem dX2_soonestEnd_5 : decode cX2_soonestEnd 5 = .ok (.invokevirtual 61, 3) := by decide +kernel
theorem dX2_soonestEnd_8 : decode cX2_soonestEnd 8 = .ok (.aload_n 0, 1) := by decide +kernel
theorem dX2_soonestEnd_9 : decode cX2_soonestEnd 9 = .ok (.aload_n 1, 1) := by decide +kernel
theorem dX2_soonestEnd_10 : decode cX2_soonestEnd 10 = .ok (.aload_n 2, 1) := by decide +kernel
theorem dX2_soonestEnd_11 : decode cX2_soonestEnd 11 = .ok (.iload_n 3, 1) := by decide +kernel
theorem dX2_soonestEnd_12 : decode cX2_soonestEnd 12 = .ok (.invokevirtual 65, 3) := by decide +kernel
theorem dX2_soonestEnd_15 : decode cX2_soonestEnd 15 = .ok (.aload_n 0, 1) := by decide +kernel
theorem dX2_soonestEnd_16 : decode cX2_soonestEnd 16 = .ok (.invokevirtual 68, 3) := by decide +kernel
theorem dX2_soonestEnd_19 : decode cX2_soonestEnd 19 = .ok (.aload_n 0, 1) := by decide +kernel
theorem dX2_soonestEnd_20 : decode cX2_soonestEnd 20 = .ok (.iconst 1, 1) := by decide +kernel
theorem dX2_soonestEnd_21 : decode cX2_soonestEnd 21 = .ok (.aload_n 0, 1) := by decide +kernel
theorem dX2_soonestEnd_22 : decode cX2_soonestEnd 22 = .ok (.getfield 9, 3) := by decide +kernel
theorem dX2_soonestEnd_25 : decode cX2_soonestEnd 25 = .ok (.ishl, 1) := by decide +kernel
theorem dX2_soonestEnd_26 : decode cX2_soonestEnd 26 = .ok (.iconst 1, 1) := by decide +kernel
theorem dX2_soonestEnd_27 : decode cX2_soonestEnd 27 = .ok (.isub, 1) := by decide +kernel
theorem dX2_soonestEnd_28 : decode cX2_soonestEnd 28 = .ok (.invokevirtual 71, 3) := by decide +kernel
theorem dX2_soonestEnd_31 : decode cX2_soonestEnd 31 = .ok (.ireturn, 1) := by decide +kernel
theorem dX2_findOrder_0 : decode cX2_findOrder 0 = .ok (.aload_n 0, 1) := by decide +kernel
theorem dX2_findOrder_1 : decode cX2_findOrder 1 = .ok (.iload_n 1, 1) := by decide +kernel
theorem dX2_findOrder_2 : decode cX2_findOrder 2 = .ok (.invokevirtual 75, 3) := by decide +kernel
theorem dX2_findOrder_5 : decode cX2_findOrder 5 = .ok (.iconst 1, 1) := by decide +kernel
theorem dX2_findOrder_6 : decode cX2_findOrder 6 = .ok (.aload_n 0, 1) := by decide +kernel
theorem dX2_findOrder_7 : decode cX2_findOrder 7 = .ok (.getfield 9, 3) := by decide +kernel
theorem dX2_findOrder_10 : decode cX2_findOrder 10 = .ok (.ishl, 1) := by decide +kernel
theorem dX2_findOrder_11 : decode cX2_findOrder 11 = .ok (.iconst 1, 1) := by decide +kernel
theorem dX2_findOrder_12 : decode cX2_findOrder 12 = .ok (.isub, 1) := by decide +kernel
theorem dX2_findOrder_13 : decode cX2_findOrder 13 = .ok (.istore_n 2, 1) := by decide +kernel
theorem dX2_findOrder_14 : decode cX2_findOrder 14 = .ok (.iconst (-1), 1) := by decide +kernel
theorem dX2_findOrder_15 : decode cX2_findOrder 15 = .ok (.istore_n 3, 1) := by decide +kernel
theorem dX2_findOrder_16 : decode cX2_findOrder 16 = .ok (.aload_n 0, 1) := by decide +kernel
theorem dX2_findOrder_17 : decode cX2_findOrder 17 = .ok (.getfield 40, 3) := by decide +kernel
theorem dX2_findOrder_20 : decode cX2_findOrder 20 = .ok (.istore 4, 2) := by decide +kernel
theorem dX2_findOrder_22 : decode cX2_findOrder 22 = .ok (.iconst 0, 1) := by decide +kernel
theorem dX2_findOrder_23 : decode cX2_findOrder 23 = .ok (.istore 5, 2) := by decide +kernel
theorem dX2_findOrder_25 : decode cX2_findOrder 25 = .ok (.iload 5, 2) := by decide +kernel
theorem dX2_findOrder_27 : decode cX2_findOrder 27 = .ok (.aload_n 0, 1) := by decide +kernel
theorem dX2_findOrder_28 : decode cX2_findOrder 28 = .ok (.getfield 9, 3) := by decide +kernel
theorem dX2_findOrder_31 : decode cX2_findOrder 31 = .ok (.if_icmp .ge 67, 3) := by decide +kernel
theorem dX2_findOrder_34 : decode cX2_findOrder 34 = .ok (.aload_n 0, 1) := by decide +kernel
theorem dX2_findOrder_35 : decode cX2_findOrder 35 = .ok (.iload_n 2, 1) := by decide +kernel
theorem dX2_findOrder_36 : decode cX2_findOrder 36 = .ok (.iload_n 3, 1) := by decide +kernel
theorem dX2_findOrder_37 : decode cX2_findOrder 37 = .ok (.iload 4, 2) := by decide +kernel
theorem dX2_findOrder_39 : decode cX2_findOrder 39 = .ok (.invokevirtual 79, 3) := by decide +kernel
theorem dX2_findOrder_42 : decode cX2_findOrder 42 = .ok (.istore 6, 2) := by decide +kernel
theorem dX2_findOrder_44 : decode cX2_findOrder 44 = .ok (.iload 6, 2) := by decide +kernel
theorem dX2_findOrder_46 : decode cX2_findOrder 46 = .ok (.iconst (-1), 1) := by decide +kernel
theorem dX2_findOrder_47 : decode cX2_findOrder 47 = .ok (.if_icmp .ne 4, 3) := by decide +kernel
theorem dX2_findOrder_50 : decode cX2_findOrder 50 = .ok (.return_, 1) := by decide +kernel
theorem dX2_findOrder_51 : decode cX2_findOrder 51 = .ok (.aload_n 0, 1) := by decide +kernel
theorem dX2_findOrder_52 : decode cX2_findOrder 52 = .ok (.getfield 15, 3) := by decide +kernel
theorem dX2_findOrder_55 : decode cX2_findOrder 55 = .ok (.iload 5, 2) := by decide +kernel
theorem dX2_findOrder_57 : decode cX2_findOrder 57 = .ok (.aload_n 0, 1) := by decide +kernel
theorem dX2_findOrder_58 : decode cX2_findOrder 58 = .ok (.getfield 22, 3) := by decide +kernel
theorem dX2_findOrder_61 : decode cX2_findOrder 61 = .ok (.iload 6, 2) := by decide +kernel
theorem dX2_findOrder_63 : decode cX2_findOrder 63 = .ok (.iaload, 1) := by decide +kernel
theorem dX2_findOrder_64 : decode cX2_findOrder 64 = .ok (.iastore, 1) := by decide +kernel
theorem dX2_findOrder_65 : decode cX2_findOrder 65 = .ok (.aload_n 0, 1) := by decide +kernel
theorem dX2_findOrder_66 : decode cX2_findOrder 66 = .ok (.iload 6, 2) := by decide +kernel
theorem dX2_findOrder_68 : decode cX2_findOrder 68 = .ok (.aload_n 0, 1) := by decide +kernel
theorem dX2_findOrder_69 : decode cX2_findOrder 69 = .ok (.iload_n 3, 1) := by decide +kernel
theorem dX2_findOrder_70 : decode cX2_findOrder 70 = .ok (.iload 6, 2) := by decide +kernel
theorem dX2_findOrder_72 : decode cX2_findOrder 72 = .ok (.invokevirtual 83, 3) := by decide +kernel
theorem dX2_findOrder_75 : decode cX2_findOrder 75 = .ok (.iload 4, 2) := by decide +kernel
theorem dX2_findOrder_77 : decode cX2_findOrder 77 = .ok (.invokevirtual 87, 3) := by decide +kernel
theorem dX2_findOrder_80 : decode cX2_findOrder 80 = .ok (.istore 4, 2) := by decide +kernel
theorem dX2_findOrder_82 : decode cX2_findOrder 82 = .ok (.iload_n 2, 1) := by decide +kernel
theorem dX2_findOrder_83 : decode cX2_findOrder 83 = .ok (.iconst 1, 1) := by decide +kernel
theorem dX2_findOrder_84 : decode cX2_findOrder 84 = .ok (.iload 6, 2) := by decide +kernel
theorem dX2_findOrder_86 : decode cX2_findOrder 86 = .ok (.ishl, 1) := by decide +kernel
theorem dX2_findOrder_87 : decode cX2_findOrder 87 = .ok (.ixor, 1) := by decide +kernel
theorem dX2_findOrder_88 : decode cX2_findOrder 88 = .ok (.istore_n 2, 1) := by decide +kernel
theorem dX2_findOrder_89 : decode cX2_findOrder 89 = .ok (.iload 6, 2) := by decide +kernel
theorem dX2_findOrder_91 : decode cX2_findOrder 91 = .ok (.istore_n 3, 1) := by decide +kernel
theorem dX2_findOrder_92 : decode cX2_findOrder 92 = .ok (.iinc 5 1, 3) := by decide +kernel
theorem dX2_findOrder_95 : decode cX2_findOrder 95 = .ok (.goto (-70), 3) := by decide +kernel
theorem dX2_findOrder_98 : decode cX2_findOrder 98 = .ok (.return_, 1) := by decide +kernel
theorem dX2_divide_0 : decode cX2_divide 0 = .ok (.aload_n 0, 1) := by decide +kernel
theorem dX2_divide_1 : decode cX2_divide 1 = .ok (.aload_n 1, 1) := by decide +kernel
theorem dX2_divide_2 : decode cX2_divide 2 = .ok (.aload_n 2, 1) := by decide +kernel
theorem dX2_divide_3 : decode cX2_divide 3 = .ok (.iload_n 3, 1) := by decide +kernel
theorem dX2_divide_4 : decode cX2_divide 4 = .ok (.invokevirtual 61, 3) := by decide +kernel
theorem dX2_divide_7 : decode cX2_divide 7 = .ok (.aload_n 0, 1) := by decide +kernel
theorem dX2_divide_8 : decode cX2_divide 8 = .ok (.aload_n 1, 1) := by decide +kernel
theorem dX2_divide_9 : decode cX2_divide 9 = .ok (.getfield 90, 3) := by decide +kernel
theorem dX2_divide_12 : decode cX2_divide 12 = .ok (.getfield 96, 3) := by decide +kernel
theorem dX2_divide_15 : decode cX2_divide 15 = .ok (.putfield 58, 3) := by decide +kernel
theorem dX2_divide_18 : decode cX2_divide 18 = .ok (.iconst 0, 1) := by decide +kernel
theorem dX2_divide_19 : decode cX2_divide 19 = .ok (.istore 4, 2) := by decide +kernel
theorem dX2_divide_21 : decode cX2_divide 21 = .ok (.iload 4, 2) := by decide +kernel
theorem dX2_divide_23 : decode cX2_divide 23 = .ok (.aload_n 0, 1) := by decide +kernel
theorem dX2_divide_24 : decode cX2_divide 24 = .ok (.getfield 58, 3) := by decide +kernel
theorem dX2_divide_27 : decode cX2_divide 27 = .ok (.if_icmp .ge 69, 3) := by decide +kernel
theorem dX2_divide_30 : decode cX2_divide 30 = .ok (.aload_n 0, 1) := by decide +kernel
theorem dX2_divide_31 : decode cX2_divide 31 = .ok (.aload_n 1, 1) := by decide +kernel
theorem dX2_divide_32 : decode cX2_divide 32 = .ok (.aload_n 2, 1) := by decide +kernel
theorem dX2_divide_33 : decode cX2_divide 33 = .ok (.iload 4, 2) := by decide +kernel
theorem dX2_divide_35 : decode cX2_divide 35 = .ok (.invokevirtual 65, 3) := by decide +kernel
theorem dX2_divide_38 : decode cX2_divide 38 = .ok (.aload_n 0, 1) := by decide +kernel
theorem dX2_divide_39 : decode cX2_divide 39 = .ok (.invokevirtual 68, 3) := by decide +kernel
theorem dX2_divide_42 : decode cX2_divide 42 = .ok (.iconst 0, 1) := by decide +kernel
theorem dX2_divide_43 : decode cX2_divide 43 = .ok (.istore 5, 2) := by decide +kernel
theorem dX2_divide_45 : decode cX2_divide 45 = .ok (.iload 5, 2) := by decide +kernel
theorem dX2_divide_47 : decode cX2_divide 47 = .ok (.iconst 1, 1) := by decide +kernel
theorem dX2_divide_48 : decode cX2_divide 48 = .ok (.aload_n 0, 1) := by decide +kernel
theorem dX2_divide_49 : decode cX2_divide 49 = .ok (.getfield 9, 3) := by decide +kernel
theorem dX2_divide_52 : decode cX2_divide 52 = .ok (.ishl, 1) := by decide +kernel
theorem dX2_divide_53 : decode cX2_divide 53 = .ok (.if_icmp .ge 29, 3) := by decide +kernel
theorem dX2_divide_56 : decode cX2_divide 56 = .ok (.aload_n 0, 1) := by decide +kernel
theorem dX2_divide_57 : decode cX2_divide 57 = .ok (.getfield 49, 3) := by decide +kernel
theorem dX2_divide_60 : decode cX2_divide 60 = .ok (.iload 4, 2) := by decide +kernel
theorem dX2_divide_62 : decode cX2_divide 62 = .ok (.sipush 256, 3) := by decide +kernel
theorem dX2_divide_65 : decode cX2_divide 65 = .ok (.imul, 1) := by decide +kernel
theorem dX2_divide_66 : decode cX2_divide 66 = .ok (.iload 5, 2) := by decide +kernel
theorem dX2_divide_68 : decode cX2_divide 68 = .ok (.iadd, 1) := by decide +kernel
theorem dX2_divide_69 : decode cX2_divide 69 = .ok (.aload_n 0, 1) := by decide +kernel
theorem dX2_divide_70 : decode cX2_divide 70 = .ok (.iload 5, 2) := by decide +kernel
theorem dX2_divide_72 : decode cX2_divide 72 = .ok (.invokevirtual 71, 3) := by decide +kernel
theorem dX2_divide_75 : decode cX2_divide 75 = .ok (.iastore, 1) := by decide +kernel
theorem dX2_divide_76 : decode cX2_divide 76 = .ok (.iinc 5 1, 3) := by decide +kernel
theorem dX2_divide_79 : decode cX2_divide 79 = .ok (.goto (-34), 3) := by decide +kernel
theorem dX2_divide_82 : decode cX2_divide 82 = .ok (.aload_n 0, 1) := by decide +kernel
theorem dX2_divide_83 : decode cX2_divide 83 = .ok (.getfield 52, 3) := by decide +kernel
theorem dX2_divide_86 : decode cX2_divide 86 = .ok (.iload 4, 2) := by decide +kernel
theorem dX2_divide_88 : decode cX2_divide 88 = .ok (.iconst 0, 1) := by decide +kernel
theorem dX2_divide_89 : decode cX2_divide 89 = .ok (.iastore, 1) := by decide +kernel
theorem dX2_divide_90 : decode cX2_divide 90 = .ok (.iinc 4 1, 3) := by decide +kernel
theorem dX2_divide_93 : decode cX2_divide 93 = .ok (.goto (-72), 3) := by decide +kernel
theorem dX2_divide_96 : decode cX2_divide 96 = .ok (.aload_n 0, 1) := by decide +kernel
theorem dX2_divide_97 : decode cX2_divide 97 = .ok (.iconst (-1), 1) := by decide +kernel
theorem dX2_divide_98 : decode cX2_divide 98 = .ok (.putfield 19, 3) := by decide +kernel
theorem dX2_divide_101 : decode cX2_divide 101 = .ok (.aload_n 0, 1) := by decide +kernel
theorem dX2_divide_102 : decode cX2_divide 102 = .ok (.iconst 0, 1) := by decide +kernel
theorem dX2_divide_103 : decode cX2_divide 103 = .ok (.invokevirtual 101, 3) := by decide +kernel
theorem dX2_divide_106 : decode cX2_divide 106 = .ok (.return_, 1) := by decide +kernel
theorem dX2_chosenWalker_0 : decode cX2_chosenWalker 0 = .ok (.aload_n 0, 1) := by decide +kernel
theorem dX2_chosenWalker_1 : decode cX2_chosenWalker 1 = .ok (.getfield 19, 3) := by decide +kernel
theorem dX2_chosenWalker_4 : decode cX2_chosenWalker 4 = .ok (.iconst (-1), 1) := by decide +kernel
theorem dX2_chosenWalker_5 : decode cX2_chosenWalker 5 = .ok (.if_icmp .ne 5, 3) := by decide +kernel
theorem dX2_chosenWalker_8 : decode cX2_chosenWalker 8 = .ok (.iconst (-1), 1) := by decide +kernel
theorem dX2_chosenWalker_9 : decode cX2_chosenWalker 9 = .ok (.ireturn, 1) := by decide +kernel
theorem dX2_chosenWalker_10 : decode cX2_chosenWalker 10 = .ok (.iconst 0, 1) := by decide +kernel
theorem dX2_chosenWalker_11 : decode cX2_chosenWalker 11 = .ok (.istore_n 2, 1) := by decide +kernel
theorem dX2_chosenWalker_12 : decode cX2_chosenWalker 12 = .ok (.iload_n 2, 1) := by decide +kernel
theorem dX2_chosenWalker_13 : decode cX2_chosenWalker 13 = .ok (.aload_n 0, 1) := by decide +kernel
theorem dX2_chosenWalker_14 : decode cX2_chosenWalker 14 = .ok (.getfield 9, 3) := by decide +kernel
theorem dX2_chosenWalker_17 : decode cX2_chosenWalker 17 = .ok (.if_icmp .ge 50, 3) := by decide +kernel
theorem dX2_chosenWalker_20 : decode cX2_chosenWalker 20 = .ok (.iconst 0, 1) := by decide +kernel
theorem dX2_chosenWalker_21 : decode cX2_chosenWalker 21 = .ok (.istore_n 3, 1) := by decide +kernel
theorem dX2_chosenWalker_22 : decode cX2_chosenWalker 22 = .ok (.iload_n 3, 1) := by decide +kernel
theorem dX2_chosenWalker_23 : decode cX2_chosenWalker 23 = .ok (.aload_n 0, 1) := by decide +kernel
theorem dX2_chosenWalker_24 : decode cX2_chosenWalker 24 = .ok (.getfield 58, 3) := by decide +kernel
theorem dX2_chosenWalker_27 : decode cX2_chosenWalker 27 = .ok (.if_icmp .ge 34, 3) := by decide +kernel
theorem dX2_chosenWalker_30 : decode cX2_chosenWalker 30 = .ok (.aload_n 0, 1) := by decide +kernel
theorem dX2_chosenWalker_31 : decode cX2_chosenWalker 31 = .ok (.getfield 22, 3) := by decide +kernel
theorem dX2_chosenWalker_34 : decode cX2_chosenWalker 34 = .ok (.iload_n 2, 1) := by decide +kernel
theorem dX2_chosenWalker_35 : decode cX2_chosenWalker 35 = .ok (.iaload, 1) := by decide +kernel
theorem dX2_chosenWalker_36 : decode cX2_chosenWalker 36 = .ok (.iload_n 1, 1) := by decide +kernel
theorem dX2_chosenWalker_37 : decode cX2_chosenWalker 37 = .ok (.if_icmp .ne 18, 3) := by decide +kernel
theorem dX2_chosenWalker_40 : decode cX2_chosenWalker 40 = .ok (.aload_n 0, 1) := by decide +kernel
theorem dX2_chosenWalker_41 : decode cX2_chosenWalker 41 = .ok (.getfield 55, 3) := by decide +kernel
theorem dX2_chosenWalker_44 : decode cX2_chosenWalker 44 = .ok (.iload_n 3, 1) := by decide +kernel
theorem dX2_chosenWalker_45 : decode cX2_chosenWalker 45 = .ok (.iaload, 1) := by decide +kernel
theorem dX2_chosenWalker_46 : decode cX2_chosenWalker 46 = .ok (.iload_n 2, 1) := by decide +kernel
theorem dX2_chosenWalker_47 : decode cX2_chosenWalker 47 = .ok (.invokestatic 104, 3) := by decide +kernel
theorem dX2_chosenWalker_50 : decode cX2_chosenWalker 50 = .ok (.ifCond .eq 5, 3) := by decide +kernel
theorem dX2_chosenWalker_53 : decode cX2_chosenWalker 53 = .ok (.iload_n 3, 1) := by decide +kernel
theorem dX2_chosenWalker_54 : decode cX2_chosenWalker 54 = .ok (.ireturn, 1) := by decide +kernel
theorem dX2_chosenWalker_55 : decode cX2_chosenWalker 55 = .ok (.iinc 3 1, 3) := by decide +kernel
theorem dX2_chosenWalker_58 : decode cX2_chosenWalker 58 = .ok (.goto (-36), 3) := by decide +kernel
theorem dX2_chosenWalker_61 : decode cX2_chosenWalker 61 = .ok (.iinc 2 1, 3) := by decide +kernel
theorem dX2_chosenWalker_64 : decode cX2_chosenWalker 64 = .ok (.goto (-52), 3) := by decide +kernel
theorem dX2_chosenWalker_67 : decode cX2_chosenWalker 67 = .ok (.iconst (-1), 1) := by decide +kernel
theorem dX2_chosenWalker_68 : decode cX2_chosenWalker 68 = .ok (.ireturn, 1) := by decide +kernel
theorem dX2_choose_0 : decode cX2_choose 0 = .ok (.aload_n 0, 1) := by decide +kernel
theorem dX2_choose_1 : decode cX2_choose 1 = .ok (.iconst 0, 1) := by decide +kernel
theorem dX2_choose_2 : decode cX2_choose 2 = .ok (.putfield 9, 3) := by decide +kernel
theorem dX2_choose_5 : decode cX2_choose 5 = .ok (.iconst 0, 1) := by decide +kernel
theorem dX2_choose_6 : decode cX2_choose 6 = .ok (.istore 4, 2) := by decide +kernel
theorem dX2_choose_8 : decode cX2_choose 8 = .ok (.iload 4, 2) := by decide +kernel
theorem dX2_choose_10 : decode cX2_choose 10 = .ok (.aload_n 1, 1) := by decide +kernel
theorem dX2_choose_11 : decode cX2_choose 11 = .ok (.getfield 108, 3) := by decide +kernel
theorem dX2_choose_14 : decode cX2_choose 14 = .ok (.getfield 112, 3) := by decide +kernel
theorem dX2_choose_17 : decode cX2_choose 17 = .ok (.if_icmp .ge 105, 3) := by decide +kernel
theorem dX2_choose_20 : decode cX2_choose 20 = .ok (.iload_n 3, 1) := by decide +kernel
theorem dX2_choose_21 : decode cX2_choose 21 = .ok (.iload 4, 2) := by decide +kernel
theorem dX2_choose_23 : decode cX2_choose 23 = .ok (.invokestatic 104, 3) := by decide +kernel
theorem dX2_choose_26 : decode cX2_choose 26 = .ok (.ifCond .eq 90, 3) := by decide +kernel
theorem dX2_choose_29 : decode cX2_choose 29 = .ok (.aload_n 0, 1) := by decide +kernel
theorem dX2_choose_30 : decode cX2_choose 30 = .ok (.getfield 9, 3) := by decide +kernel
theorem dX2_choose_33 : decode cX2_choose 33 = .ok (.bipush 8, 2) := by decide +kernel
theorem dX2_choose_35 : decode cX2_choose 35 = .ok (.if_icmp .ge 81, 3) := by decide +kernel
theorem dX2_choose_38 : decode cX2_choose 38 = .ok (.aload_n 0, 1) := by decide +kernel
theorem dX2_choose_39 : decode cX2_choose 39 = .ok (.getfield 22, 3) := by decide +kernel
theorem dX2_choose_42 : decode cX2_choose 42 = .ok (.aload_n 0, 1) := by decide +kernel
theorem dX2_choose_43 : decode cX2_choose 43 = .ok (.getfield 9, 3) := by decide +kernel
theorem dX2_choose_46 : decode cX2_choose 46 = .ok (.iload 4, 2) := by decide +kernel
theorem dX2_choose_48 : decode cX2_choose 48 = .ok (.iastore, 1) := by decide +kernel
theorem dX2_choose_49 : decode cX2_choose 49 = .ok (.aload_n 0, 1) := by decide +kernel
theorem dX2_choose_50 : decode cX2_choose 50 = .ok (.getfield 25, 3) := by decide +kernel
theorem dX2_choose_53 : decode cX2_choose 53 = .ok (.aload_n 0, 1) := by decide +kernel
theorem dX2_choose_54 : decode cX2_choose 54 = .ok (.getfield 9, 3) := by decide +kernel
theorem dX2_choose_57 : decode cX2_choose 57 = .ok (.aload_n 1, 1) := by decide +kernel
theorem dX2_choose_58 : decode cX2_choose 58 = .ok (.getfield 108, 3) := by decide +kernel
theorem dX2_choose_61 : decode cX2_choose 61 = .ok (.getfield 115, 3) := by decide +kernel
theorem dX2_choose_64 : decode cX2_choose 64 = .ok (.iload 4, 2) := by decide +kernel
theorem dX2_choose_66 : decode cX2_choose 66 = .ok (.iaload, 1) := by decide +kernel
theorem dX2_choose_67 : decode cX2_choose 67 = .ok (.iastore, 1) := by decide +kernel
theorem dX2_choose_68 : decode cX2_choose 68 = .ok (.aload_n 0, 1) := by decide +kernel
theorem dX2_choose_69 : decode cX2_choose 69 = .ok (.getfield 28, 3) := by decide +kernel
theorem dX2_choose_72 : decode cX2_choose 72 = .ok (.aload_n 0, 1) := by decide +kernel
theorem dX2_choose_73 : decode cX2_choose 73 = .ok (.getfield 9, 3) := by decide +kernel
theorem dX2_choose_76 : decode cX2_choose 76 = .ok (.aload_n 1, 1) := by decide +kernel
theorem dX2_choose_77 : decode cX2_choose 77 = .ok (.getfield 108, 3) := by decide +kernel
theorem dX2_choose_80 : decode cX2_choose 80 = .ok (.getfield 118, 3) := by decide +kernel
theorem dX2_choose_83 : decode cX2_choose 83 = .ok (.iload 4, 2) := by decide +kernel
theorem dX2_choose_85 : decode cX2_choose 85 = .ok (.iaload, 1) := by decide +kernel
theorem dX2_choose_86 : decode cX2_choose 86 = .ok (.iastore, 1) := by decide +kernel
theorem dX2_choose_87 : decode cX2_choose 87 = .ok (.aload_n 0, 1) := by decide +kernel
theorem dX2_choose_88 : decode cX2_choose 88 = .ok (.getfield 31, 3) := by decide +kernel
theorem dX2_choose_91 : decode cX2_choose 91 = .ok (.aload_n 0, 1) := by decide +kernel
theorem dX2_choose_92 : decode cX2_choose 92 = .ok (.getfield 9, 3) := by decide +kernel
theorem dX2_choose_95 : decode cX2_choose 95 = .ok (.aload_n 1, 1) := by decide +kernel
theorem dX2_choose_96 : decode cX2_choose 96 = .ok (.getfield 108, 3) := by decide +kernel
theorem dX2_choose_99 : decode cX2_choose 99 = .ok (.iload 4, 2) := by decide +kernel
theorem dX2_choose_101 : decode cX2_choose 101 = .ok (.iconst 1, 1) := by decide +kernel
theorem dX2_choose_102 : decode cX2_choose 102 = .ok (.invokevirtual 121, 3) := by decide +kernel
theorem dX2_choose_105 : decode cX2_choose 105 = .ok (.iastore, 1) := by decide +kernel
theorem dX2_choose_106 : decode cX2_choose 106 = .ok (.aload_n 0, 1) := by decide +kernel
theorem dX2_choose_107 : decode cX2_choose 107 = .ok (.dup, 1) := by decide +kernel
theorem dX2_choose_108 : decode cX2_choose 108 = .ok (.getfield 9, 3) := by decide +kernel
theorem dX2_choose_111 : decode cX2_choose 111 = .ok (.iconst 1, 1) := by decide +kernel
theorem dX2_choose_112 : decode cX2_choose 112 = .ok (.iadd, 1) := by decide +kernel
theorem dX2_choose_113 : decode cX2_choose 113 = .ok (.putfield 9, 3) := by decide +kernel
theorem dX2_choose_116 : decode cX2_choose 116 = .ok (.iinc 4 1, 3) := by decide +kernel
theorem dX2_choose_119 : decode cX2_choose 119 = .ok (.goto (-111), 3) := by decide +kernel
theorem dX2_choose_122 : decode cX2_choose 122 = .ok (.iconst 0, 1) := by decide +kernel
theorem dX2_choose_123 : decode cX2_choose 123 = .ok (.istore 4, 2) := by decide +kernel
theorem dX2_choose_125 : decode cX2_choose 125 = .ok (.iload 4, 2) := by decide +kernel
theorem dX2_choose_127 : decode cX2_choose 127 = .ok (.aload_n 0, 1) := by decide +kernel
theorem dX2_choose_128 : decode cX2_choose 128 = .ok (.getfield 9, 3) := by decide +kernel
theorem dX2_choose_131 : decode cX2_choose 131 = .ok (.if_icmp .ge 59, 3) := by decide +kernel
theorem dX2_choose_134 : decode cX2_choose 134 = .ok (.iconst 0, 1) := by decide +kernel
theorem dX2_choose_135 : decode cX2_choose 135 = .ok (.istore 5, 2) := by decide +kernel
theorem dX2_choose_137 : decode cX2_choose 137 = .ok (.iload 5, 2) := by decide +kernel
theorem dX2_choose_139 : decode cX2_choose 139 = .ok (.aload_n 0, 1) := by decide +kernel
theorem dX2_choose_140 : decode cX2_choose 140 = .ok (.getfield 9, 3) := by decide +kernel
theorem dX2_choose_143 : decode cX2_choose 143 = .ok (.if_icmp .ge 41, 3) := by decide +kernel
theorem dX2_choose_146 : decode cX2_choose 146 = .ok (.aload_n 0, 1) := by decide +kernel
theorem dX2_choose_147 : decode cX2_choose 147 = .ok (.getfield 34, 3) := by decide +kernel
theorem dX2_choose_150 : decode cX2_choose 150 = .ok (.iload 4, 2) := by decide +kernel
theorem dX2_choose_152 : decode cX2_choose 152 = .ok (.bipush 8, 2) := by decide +kernel
theorem dX2_choose_154 : decode cX2_choose 154 = .ok (.imul, 1) := by decide +kernel
theorem dX2_choose_155 : decode cX2_choose 155 = .ok (.iload 5, 2) := by decide +kernel
theorem dX2_choose_157 : decode cX2_choose 157 = .ok (.iadd, 1) := by decide +kernel
theorem dX2_choose_158 : decode cX2_choose 158 = .ok (.aload_n 2, 1) := by decide +kernel
theorem dX2_choose_159 : decode cX2_choose 159 = .ok (.aload_n 1, 1) := by decide +kernel
theorem dX2_choose_160 : decode cX2_choose 160 = .ok (.aload_n 0, 1) := by decide +kernel
theorem dX2_choose_161 : decode cX2_choose 161 = .ok (.getfield 22, 3) := by decide +kernel
theorem dX2_choose_164 : decode cX2_choose 164 = .ok (.iload 4, 2) := by decide +kernel
theorem dX2_choose_166 : decode cX2_choose 166 = .ok (.iaload, 1) := by decide +kernel
theorem dX2_choose_167 : decode cX2_choose 167 = .ok (.aload_n 0, 1) := by decide +kernel
theorem dX2_choose_168 : decode cX2_choose 168 = .ok (.getfield 22, 3) := by decide +kernel
theorem dX2_choose_171 : decode cX2_choose 171 = .ok (.iload 5, 2) := by decide +kernel
theorem dX2_choose_173 : decode cX2_choose 173 = .ok (.iaload, 1) := by decide +kernel
theorem dX2_choose_174 : decode cX2_choose 174 = .ok (.invokevirtual 124, 3) := by decide +kernel
theorem dX2_choose_177 : decode cX2_choose 177 = .ok (.iastore, 1) := by decide +kernel
theorem dX2_choose_178 : decode cX2_choose 178 = .ok (.iinc 5 1, 3) := by decide +kernel
theorem dX2_choose_181 : decode cX2_choose 181 = .ok (.goto (-44), 3) := by decide +kernel
theorem dX2_choose_184 : decode cX2_choose 184 = .ok (.iinc 4 1, 3) := by decide +kernel
theorem dX2_choose_187 : decode cX2_choose 187 = .ok (.goto (-62), 3) := by decide +kernel
theorem dX2_choose_190 : decode cX2_choose 190 = .ok (.return_, 1) := by decide +kernel
theorem dX2_beginAt_0 : decode cX2_beginAt 0 = .ok (.aload_n 1, 1) := by decide +kernel
theorem dX2_beginAt_1 : decode cX2_beginAt 1 = .ok (.getfield 90, 3) := by decide +kernel
theorem dX2_beginAt_4 : decode cX2_beginAt 4 = .ok (.iload_n 3, 1) := by decide +kernel
theorem dX2_beginAt_5 : decode cX2_beginAt 5 = .ok (.invokevirtual 130, 3) := by decide +kernel
theorem dX2_beginAt_8 : decode cX2_beginAt 8 = .ok (.ifCond .ne 4, 3) := by decide +kernel
theorem dX2_beginAt_11 : decode cX2_beginAt 11 = .ok (.return_, 1) := by decide +kernel
theorem dX2_beginAt_12 : decode cX2_beginAt 12 = .ok (.aload_n 0, 1) := by decide +kernel
theorem dX2_beginAt_13 : decode cX2_beginAt 13 = .ok (.aload_n 1, 1) := by decide +kernel
theorem dX2_beginAt_14 : decode cX2_beginAt 14 = .ok (.getfield 90, 3) := by decide +kernel
theorem dX2_beginAt_17 : decode cX2_beginAt 17 = .ok (.getfield 134, 3) := by decide +kernel
theorem dX2_beginAt_20 : decode cX2_beginAt 20 = .ok (.iload_n 3, 1) := by decide +kernel
theorem dX2_beginAt_21 : decode cX2_beginAt 21 = .ok (.iaload, 1) := by decide +kernel
theorem dX2_beginAt_22 : decode cX2_beginAt 22 = .ok (.putfield 40, 3) := by decide +kernel
theorem dX2_beginAt_25 : decode cX2_beginAt 25 = .ok (.iconst 0, 1) := by decide +kernel
theorem dX2_beginAt_26 : decode cX2_beginAt 26 = .ok (.istore 4, 2) := by decide +kernel
theorem dX2_beginAt_28 : decode cX2_beginAt 28 = .ok (.iload 4, 2) := by decide +kernel
theorem dX2_beginAt_30 : decode cX2_beginAt 30 = .ok (.aload_n 0, 1) := by decide +kernel
theorem dX2_beginAt_31 : decode cX2_beginAt 31 = .ok (.getfield 9, 3) := by decide +kernel
theorem dX2_beginAt_34 : decode cX2_beginAt 34 = .ok (.if_icmp .ge 37, 3) := by decide +kernel
theorem dX2_beginAt_37 : decode cX2_beginAt 37 = .ok (.aload_n 0, 1) := by decide +kernel
theorem dX2_beginAt_38 : decode cX2_beginAt 38 = .ok (.getfield 37, 3) := by decide +kernel
theorem dX2_beginAt_41 : decode cX2_beginAt 41 = .ok (.iload 4, 2) := by decide +kernel
theorem dX2_beginAt_43 : decode cX2_beginAt 43 = .ok (.aload_n 2, 1) := by decide +kernel
theorem dX2_beginAt_44 : decode cX2_beginAt 44 = .ok (.aload_n 1, 1) := by decide +kernel
theorem dX2_beginAt_45 : decode cX2_beginAt 45 = .ok (.aload_n 1, 1) := by decide +kernel
theorem dX2_beginAt_46 : decode cX2_beginAt 46 = .ok (.getfield 90, 3) := by decide +kernel
theorem dX2_beginAt_49 : decode cX2_beginAt 49 = .ok (.getfield 137, 3) := by decide +kernel
theorem dX2_beginAt_52 : decode cX2_beginAt 52 = .ok (.iload_n 3, 1) := by decide +kernel
theorem dX2_beginAt_53 : decode cX2_beginAt 53 = .ok (.iaload, 1) := by decide +kernel
theorem dX2_beginAt_54 : decode cX2_beginAt 54 = .ok (.aload_n 0, 1) := by decide +kernel
theorem dX2_beginAt_55 : decode cX2_beginAt 55 = .ok (.getfield 22, 3) := by decide +kernel
theorem dX2_beginAt_58 : decode cX2_beginAt 58 = .ok (.iload 4, 2) := by decide +kernel
theorem dX2_beginAt_60 : decode cX2_beginAt 60 = .ok (.iaload, 1) := by decide +kernel
theorem dX2_beginAt_61 : decode cX2_beginAt 61 = .ok (.invokevirtual 140, 3) := by decide +kernel
theorem dX2_beginAt_64 : decode cX2_beginAt 64 = .ok (.iastore, 1) := by decide +kernel
theorem dX2_beginAt_65 : decode cX2_beginAt 65 = .ok (.iinc 4 1, 3) := by decide +kernel
theorem dX2_beginAt_68 : decode cX2_beginAt 68 = .ok (.goto (-40), 3) := by decide +kernel
theorem dX2_beginAt_71 : decode cX2_beginAt 71 = .ok (.return_, 1) := by decide +kernel
theorem dX2_findEarly_0 : decode cX2_findEarly 0 = .ok (.iconst 1, 1) := by decide +kernel
theorem dX2_findEarly_1 : decode cX2_findEarly 1 = .ok (.istore_n 1, 1) := by decide +kernel
theorem dX2_findEarly_2 : decode cX2_findEarly 2 = .ok (.iload_n 1, 1) := by decide +kernel
theorem dX2_findEarly_3 : decode cX2_findEarly 3 = .ok (.iconst 1, 1) := by decide +kernel
theorem dX2_findEarly_4 : decode cX2_findEarly 4 = .ok (.aload_n 0, 1) := by decide +kernel
theorem dX2_findEarly_5 : decode cX2_findEarly 5 = .ok (.getfield 9, 3) := by decide +kernel
theorem dX2_findEarly_8 : decode cX2_findEarly 8 = .ok (.ishl, 1) := by decide +kernel
theorem dX2_findEarly_9 : decode cX2_findEarly 9 = .ok (.if_icmp .ge 54, 3) := by decide +kernel
theorem dX2_findEarly_12 : decode cX2_findEarly 12 = .ok (.iconst 0, 1) := by decide +kernel
theorem dX2_findEarly_13 : decode cX2_findEarly 13 = .ok (.istore_n 2, 1) := by decide +kernel
theorem dX2_findEarly_14 : decode cX2_findEarly 14 = .ok (.iload_n 2, 1) := by decide +kernel
theorem dX2_findEarly_15 : decode cX2_findEarly 15 = .ok (.aload_n 0, 1) := by decide +kernel
theorem dX2_findEarly_16 : decode cX2_findEarly 16 = .ok (.getfield 9, 3) := by decide +kernel
theorem dX2_findEarly_19 : decode cX2_findEarly 19 = .ok (.if_icmp .ge 38, 3) := by decide +kernel
theorem dX2_findEarly_22 : decode cX2_findEarly 22 = .ok (.iload_n 1, 1) := by decide +kernel
theorem dX2_findEarly_23 : decode cX2_findEarly 23 = .ok (.iload_n 2, 1) := by decide +kernel
theorem dX2_findEarly_24 : decode cX2_findEarly 24 = .ok (.invokestatic 104, 3) := by decide +kernel
theorem dX2_findEarly_27 : decode cX2_findEarly 27 = .ok (.ifCond .eq 24, 3) := by decide +kernel
theorem dX2_findEarly_30 : decode cX2_findEarly 30 = .ok (.aload_n 0, 1) := by decide +kernel
theorem dX2_findEarly_31 : decode cX2_findEarly 31 = .ok (.getfield 43, 3) := by decide +kernel
theorem dX2_findEarly_34 : decode cX2_findEarly 34 = .ok (.iload_n 1, 1) := by decide +kernel
theorem dX2_findEarly_35 : decode cX2_findEarly 35 = .ok (.bipush 8, 2) := by decide +kernel
theorem dX2_findEarly_37 : decode cX2_findEarly 37 = .ok (.imul, 1) := by decide +kernel
theorem dX2_findEarly_38 : decode cX2_findEarly 38 = .ok (.iload_n 2, 1) := by decide +kernel
theorem dX2_findEarly_39 : decode cX2_findEarly 39 = .ok (.iadd, 1) := by decide +kernel
theorem dX2_findEarly_40 : decode cX2_findEarly 40 = .ok (.aload_n 0, 1) := by decide +kernel
theorem dX2_findEarly_41 : decode cX2_findEarly 41 = .ok (.iload_n 1, 1) := by decide +kernel
theorem dX2_findEarly_42 : decode cX2_findEarly 42 = .ok (.iconst 1, 1) := by decide +kernel
theorem dX2_findEarly_43 : decode cX2_findEarly 43 = .ok (.iload_n 2, 1) := by decide +kernel
theorem dX2_findEarly_44 : decode cX2_findEarly 44 = .ok (.ishl, 1) := by decide +kernel
theorem dX2_findEarly_45 : decode cX2_findEarly 45 = .ok (.ixor, 1) := by decide +kernel
theorem dX2_findEarly_46 : decode cX2_findEarly 46 = .ok (.iload_n 2, 1) := by decide +kernel
theorem dX2_findEarly_47 : decode cX2_findEarly 47 = .ok (.invokevirtual 143, 3) := by decide +kernel
theorem dX2_findEarly_50 : decode cX2_findEarly 50 = .ok (.iastore, 1) := by decide +kernel
theorem dX2_findEarly_51 : decode cX2_findEarly 51 = .ok (.iinc 2 1, 3) := by decide +kernel
theorem dX2_findEarly_54 : decode cX2_findEarly 54 = .ok (.goto (-40), 3) := by decide +kernel
theorem dX2_findEarly_57 : decode cX2_findEarly 57 = .ok (.iinc 1 1, 3) := by decide +kernel
theorem dX2_findEarly_60 : decode cX2_findEarly 60 = .ok (.goto (-58), 3) := by decide +kernel
theorem dX2_findEarly_63 : decode cX2_findEarly 63 = .ok (.return_, 1) := by decide +kernel
theorem dX2_earliestAfter_0 : decode cX2_earliestAfter 0 = .ok (.iload_n 1, 1) := by decide +kernel
theorem dX2_earliestAfter_1 : decode cX2_earliestAfter 1 = .ok (.ifCond .ne 19, 3) := by decide +kernel
theorem dX2_earliestAfter_4 : decode cX2_earliestAfter 4 = .ok (.aload_n 0, 1) := by decide +kernel
theorem dX2_earliestAfter_5 : decode cX2_earliestAfter 5 = .ok (.iload_n 2, 1) := by decide +kernel
theorem dX2_earliestAfter_6 : decode cX2_earliestAfter 6 = .ok (.aload_n 0, 1) := by decide +kernel
theorem dX2_earliestAfter_7 : decode cX2_earliestAfter 7 = .ok (.getfield 37, 3) := by decide +kernel
theorem dX2_earliestAfter_10 : decode cX2_earliestAfter 10 = .ok (.iload_n 2, 1) := by decide +kernel
theorem dX2_earliestAfter_11 : decode cX2_earliestAfter 11 = .ok (.iaload, 1) := by decide +kernel
theorem dX2_earliestAfter_12 : decode cX2_earliestAfter 12 = .ok (.aload_n 0, 1) := by decide +kernel
theorem dX2_earliestAfter_13 : decode cX2_earliestAfter 13 = .ok (.getfield 40, 3) := by decide +kernel
theorem dX2_earliestAfter_16 : decode cX2_earliestAfter 16 = .ok (.invokevirtual 87, 3) := by decide +kernel
theorem dX2_earliestAfter_19 : decode cX2_earliestAfter 19 = .ok (.ireturn, 1) := by decide +kernel
theorem dX2_earliestAfter_20 : decode cX2_earliestAfter 20 = .ok (.iconst (-1), 1) := by decide +kernel
theorem dX2_earliestAfter_21 : decode cX2_earliestAfter 21 = .ok (.istore_n 3, 1) := by decide +kernel
theorem dX2_earliestAfter_22 : decode cX2_earliestAfter 22 = .ok (.iconst 0, 1) := by decide +kernel
theorem dX2_earliestAfter_23 : decode cX2_earliestAfter 23 = .ok (.istore 4, 2) := by decide +kernel
theorem dX2_earliestAfter_25 : decode cX2_earliestAfter 25 = .ok (.iload 4, 2) := by decide +kernel
theorem dX2_earliestAfter_27 : decode cX2_earliestAfter 27 = .ok (.aload_n 0, 1) := by decide +kernel
theorem dX2_earliestAfter_28 : decode cX2_earliestAfter 28 = .ok (.getfield 9, 3) := by decide +kernel
theorem dX2_earliestAfter_31 : decode cX2_earliestAfter 31 = .ok (.if_icmp .ge 72, 3) := by decide +kernel
theorem dX2_earliestAfter_34 : decode cX2_earliestAfter 34 = .ok (.iload_n 1, 1) := by decide +kernel
theorem dX2_earliestAfter_35 : decode cX2_earliestAfter 35 = .ok (.iload 4, 2) := by decide +kernel
theorem dX2_earliestAfter_37 : decode cX2_earliestAfter 37 = .ok (.invokestatic 104, 3) := by decide +kernel
theorem dX2_earliestAfter_40 : decode cX2_earliestAfter 40 = .ok (.ifCond .eq 57, 3) := by decide +kernel
theorem dX2_earliestAfter_43 : decode cX2_earliestAfter 43 = .ok (.aload_n 0, 1) := by decide +kernel
theorem dX2_earliestAfter_44 : decode cX2_earliestAfter 44 = .ok (.getfield 43, 3) := by decide +kernel
theorem dX2_earliestAfter_47 : decode cX2_earliestAfter 47 = .ok (.iload_n 1, 1) := by decide +kernel
theorem dX2_earliestAfter_48 : decode cX2_earliestAfter 48 = .ok (.bipush 8, 2) := by decide +kernel
theorem dX2_earliestAfter_50 : decode cX2_earliestAfter 50 = .ok (.imul, 1) := by decide +kernel
theorem dX2_earliestAfter_51 : decode cX2_earliestAfter 51 = .ok (.iload 4, 2) := by decide +kernel
theorem dX2_earliestAfter_53 : decode cX2_earliestAfter 53 = .ok (.iadd, 1) := by decide +kernel
theorem dX2_earliestAfter_54 : decode cX2_earliestAfter 54 = .ok (.iaload, 1) := by decide +kernel
theorem dX2_earliestAfter_55 : decode cX2_earliestAfter 55 = .ok (.iconst (-1), 1) := by decide +kernel
theorem dX2_earliestAfter_56 : decode cX2_earliestAfter 56 = .ok (.if_icmp .eq 41, 3) := by decide +kernel
theorem dX2_earliestAfter_59 : decode cX2_earliestAfter 59 = .ok (.aload_n 0, 1) := by decide +kernel
theorem dX2_earliestAfter_60 : decode cX2_earliestAfter 60 = .ok (.iload_n 2, 1) := by decide +kernel
theorem dX2_earliestAfter_61 : decode cX2_earliestAfter 61 = .ok (.aload_n 0, 1) := by decide +kernel
theorem dX2_earliestAfter_62 : decode cX2_earliestAfter 62 = .ok (.getfield 34, 3) := by decide +kernel
theorem dX2_earliestAfter_65 : decode cX2_earliestAfter 65 = .ok (.iload 4, 2) := by decide +kernel
theorem dX2_earliestAfter_67 : decode cX2_earliestAfter 67 = .ok (.bipush 8, 2) := by decide +kernel
theorem dX2_earliestAfter_69 : decode cX2_earliestAfter 69 = .ok (.imul, 1) := by decide +kernel
theorem dX2_earliestAfter_70 : decode cX2_earliestAfter 70 = .ok (.iload_n 2, 1) := by decide +kernel
theorem dX2_earliestAfter_71 : decode cX2_earliestAfter 71 = .ok (.iadd, 1) := by decide +kernel
theorem dX2_earliestAfter_72 : decode cX2_earliestAfter 72 = .ok (.iaload, 1) := by decide +kernel
theorem dX2_earliestAfter_73 : decode cX2_earliestAfter 73 = .ok (.aload_n 0, 1) := by decide +kernel
theorem dX2_earliestAfter_74 : decode cX2_earliestAfter 74 = .ok (.getfield 43, 3) := by decide +kernel
theorem dX2_earliestAfter_77 : decode cX2_earliestAfter 77 = .ok (.iload_n 1, 1) := by decide +kernel
theorem dX2_earliestAfter_78 : decode cX2_earliestAfter 78 = .ok (.bipush 8, 2) := by decide +kernel
theorem dX2_earliestAfter_80 : decode cX2_earliestAfter 80 = .ok (.imul, 1) := by decide +kernel
theorem dX2_earliestAfter_81 : decode cX2_earliestAfter 81 = .ok (.iload 4, 2) := by decide +kernel
theorem dX2_earliestAfter_83 : decode cX2_earliestAfter 83 = .ok (.iadd, 1) := by decide +kernel
theorem dX2_earliestAfter_84 : decode cX2_earliestAfter 84 = .ok (.iaload, 1) := by decide +kernel
theorem dX2_earliestAfter_85 : decode cX2_earliestAfter 85 = .ok (.invokevirtual 87, 3) := by decide +kernel
theorem dX2_earliestAfter_88 : decode cX2_earliestAfter 88 = .ok (.istore 5, 2) := by decide +kernel
theorem dX2_earliestAfter_90 : decode cX2_earliestAfter 90 = .ok (.iload_n 3, 1) := by decide +kernel
theorem dX2_earliestAfter_91 : decode cX2_earliestAfter 91 = .ok (.iload 5, 2) := by decide +kernel
theorem dX2_earliestAfter_93 : decode cX2_earliestAfter 93 = .ok (.invokestatic 146, 3) := by decide +kernel
theorem dX2_earliestAfter_96 : decode cX2_earliestAfter 96 = .ok (.istore_n 3, 1) := by decide +kernel
theorem dX2_earliestAfter_97 : decode cX2_earliestAfter 97 = .ok (.iinc 4 1, 3) := by decide +kernel
theorem dX2_earliestAfter_100 : decode cX2_earliestAfter 100 = .ok (.goto (-75), 3) := by decide +kernel
theorem dX2_earliestAfter_103 : decode cX2_earliestAfter 103 = .ok (.iload_n 3, 1) := by decide +kernel
theorem dX2_earliestAfter_104 : decode cX2_earliestAfter 104 = .ok (.ireturn, 1) := by decide +kernel
theorem dX2_earliestEnd_0 : decode cX2_earliestEnd 0 = .ok (.iload_n 1, 1) := by decide +kernel
theorem dX2_earliestEnd_1 : decode cX2_earliestEnd 1 = .ok (.ifCond .ne 8, 3) := by decide +kernel
theorem dX2_earliestEnd_4 : decode cX2_earliestEnd 4 = .ok (.aload_n 0, 1) := by decide +kernel
theorem dX2_earliestEnd_5 : decode cX2_earliestEnd 5 = .ok (.getfield 40, 3) := by decide +kernel
theorem dX2_earliestEnd_8 : decode cX2_earliestEnd 8 = .ok (.ireturn, 1) := by decide +kernel
theorem dX2_earliestEnd_9 : decode cX2_earliestEnd 9 = .ok (.iconst (-1), 1) := by decide +kernel
theorem dX2_earliestEnd_10 : decode cX2_earliestEnd 10 = .ok (.istore_n 2, 1) := by decide +kernel
theorem dX2_earliestEnd_11 : decode cX2_earliestEnd 11 = .ok (.iconst 0, 1) := by decide +kernel
theorem dX2_earliestEnd_12 : decode cX2_earliestEnd 12 = .ok (.istore_n 3, 1) := by decide +kernel
theorem dX2_earliestEnd_13 : decode cX2_earliestEnd 13 = .ok (.iload_n 3, 1) := by decide +kernel
theorem dX2_earliestEnd_14 : decode cX2_earliestEnd 14 = .ok (.aload_n 0, 1) := by decide +kernel
theorem dX2_earliestEnd_15 : decode cX2_earliestEnd 15 = .ok (.getfield 9, 3) := by decide +kernel
theorem dX2_earliestEnd_18 : decode cX2_earliestEnd 18 = .ok (.if_icmp .ge 33, 3) := by decide +kernel
theorem dX2_earliestEnd_21 : decode cX2_earliestEnd 21 = .ok (.iload_n 1, 1) := by decide +kernel
theorem dX2_earliestEnd_22 : decode cX2_earliestEnd 22 = .ok (.iload_n 3, 1) := by decide +kernel
theorem dX2_earliestEnd_23 : decode cX2_earliestEnd 23 = .ok (.invokestatic 104, 3) := by decide +kernel
theorem dX2_earliestEnd_26 : decode cX2_earliestEnd 26 = .ok (.ifCond .eq 19, 3) := by decide +kernel
theorem dX2_earliestEnd_29 : decode cX2_earliestEnd 29 = .ok (.iload_n 2, 1) := by decide +kernel
theorem dX2_earliestEnd_30 : decode cX2_earliestEnd 30 = .ok (.aload_n 0, 1) := by decide +kernel
theorem dX2_earliestEnd_31 : decode cX2_earliestEnd 31 = .ok (.getfield 43, 3) := by decide +kernel
theorem dX2_earliestEnd_34 : decode cX2_earliestEnd 34 = .ok (.iload_n 1, 1) := by decide +kernel
theorem dX2_earliestEnd_35 : decode cX2_earliestEnd 35 = .ok (.bipush 8, 2) := by decide +kernel
theorem dX2_earliestEnd_37 : decode cX2_earliestEnd 37 = .ok (.imul, 1) := by decide +kernel
theorem dX2_earliestEnd_38 : decode cX2_earliestEnd 38 = .ok (.iload_n 3, 1) := by decide +kernel
theorem dX2_earliestEnd_39 : decode cX2_earliestEnd 39 = .ok (.iadd, 1) := by decide +kernel
theorem dX2_earliestEnd_40 : decode cX2_earliestEnd 40 = .ok (.iaload, 1) := by decide +kernel
theorem dX2_earliestEnd_41 : decode cX2_earliestEnd 41 = .ok (.invokestatic 146, 3) := by decide +kernel
theorem dX2_earliestEnd_44 : decode cX2_earliestEnd 44 = .ok (.istore_n 2, 1) := by decide +kernel
theorem dX2_earliestEnd_45 : decode cX2_earliestEnd 45 = .ok (.iinc 3 1, 3) := by decide +kernel
theorem dX2_earliestEnd_48 : decode cX2_earliestEnd 48 = .ok (.goto (-35), 3) := by decide +kernel
theorem dX2_earliestEnd_51 : decode cX2_earliestEnd 51 = .ok (.iload_n 2, 1) := by decide +kernel
theorem dX2_earliestEnd_52 : decode cX2_earliestEnd 52 = .ok (.ireturn, 1) := by decide +kernel
theorem dX2_earlier_0 : decode cX2_earlier 0 = .ok (.iload_n 0, 1) := by decide +kernel
theorem dX2_earlier_1 : decode cX2_earlier 1 = .ok (.iconst (-1), 1) := by decide +kernel
theorem dX2_earlier_2 : decode cX2_earlier 2 = .ok (.if_icmp .ne 5, 3) := by decide +kernel
theorem dX2_earlier_5 : decode cX2_earlier 5 = .ok (.iload_n 1, 1) := by decide +kernel
theorem dX2_earlier_6 : decode cX2_earlier 6 = .ok (.ireturn, 1) := by decide +kernel
theorem dX2_earlier_7 : decode cX2_earlier 7 = .ok (.iload_n 1, 1) := by decide +kernel
theorem dX2_earlier_8 : decode cX2_earlier 8 = .ok (.iconst (-1), 1) := by decide +kernel
theorem dX2_earlier_9 : decode cX2_earlier 9 = .ok (.if_icmp .ne 7, 3) := by decide +kernel
theorem dX2_earlier_12 : decode cX2_earlier 12 = .ok (.iload_n 0, 1) := by decide +kernel
theorem dX2_earlier_13 : decode cX2_earlier 13 = .ok (.goto 8, 3) := by decide +kernel
theorem dX2_earlier_16 : decode cX2_earlier 16 = .ok (.iload_n 0, 1) := by decide +kernel
theorem dX2_earlier_17 : decode cX2_earlier 17 = .ok (.iload_n 1, 1) := by decide +kernel
theorem dX2_earlier_18 : decode cX2_earlier 18 = .ok (.invokestatic 149, 3) := by decide +kernel
theorem dX2_earlier_21 : decode cX2_earlier 21 = .ok (.ireturn, 1) := by decide +kernel
theorem dX2_visitEnd_0 : decode cX2_visitEnd 0 = .ok (.iload_n 2, 1) := by decide +kernel
theorem dX2_visitEnd_1 : decode cX2_visitEnd 1 = .ok (.iconst (-1), 1) := by decide +kernel
theorem dX2_visitEnd_2 : decode cX2_visitEnd 2 = .ok (.if_icmp .eq 15, 3) := by decide +kernel
theorem dX2_visitEnd_5 : decode cX2_visitEnd 5 = .ok (.iload_n 3, 1) := by decide +kernel
theorem dX2_visitEnd_6 : decode cX2_visitEnd 6 = .ok (.iload_n 2, 1) := by decide +kernel
theorem dX2_visitEnd_7 : decode cX2_visitEnd 7 = .ok (.iadd, 1) := by decide +kernel
theorem dX2_visitEnd_8 : decode cX2_visitEnd 8 = .ok (.aload_n 0, 1) := by decide +kernel
theorem dX2_visitEnd_9 : decode cX2_visitEnd 9 = .ok (.getfield 28, 3) := by decide +kernel
theorem dX2_visitEnd_12 : decode cX2_visitEnd 12 = .ok (.iload_n 1, 1) := by decide +kernel
theorem dX2_visitEnd_13 : decode cX2_visitEnd 13 = .ok (.iaload, 1) := by decide +kernel
theorem dX2_visitEnd_14 : decode cX2_visitEnd 14 = .ok (.if_icmp .lt 5, 3) := by decide +kernel
theorem dX2_visitEnd_17 : decode cX2_visitEnd 17 = .ok (.iconst (-1), 1) := by decide +kernel
theorem dX2_visitEnd_18 : decode cX2_visitEnd 18 = .ok (.ireturn, 1) := by decide +kernel
theorem dX2_visitEnd_19 : decode cX2_visitEnd 19 = .ok (.iload_n 3, 1) := by decide +kernel
theorem dX2_visitEnd_20 : decode cX2_visitEnd 20 = .ok (.iload_n 2, 1) := by decide +kernel
theorem dX2_visitEnd_21 : decode cX2_visitEnd 21 = .ok (.iadd, 1) := by decide +kernel
theorem dX2_visitEnd_22 : decode cX2_visitEnd 22 = .ok (.aload_n 0, 1) := by decide +kernel
theorem dX2_visitEnd_23 : decode cX2_visitEnd 23 = .ok (.getfield 25, 3) := by decide +kernel
theorem dX2_visitEnd_26 : decode cX2_visitEnd 26 = .ok (.iload_n 1, 1) := by decide +kernel
theorem dX2_visitEnd_27 : decode cX2_visitEnd 27 = .ok (.iaload, 1) := by decide +kernel
theorem dX2_visitEnd_28 : decode cX2_visitEnd 28 = .ok (.invokestatic 154, 3) := by decide +kernel
theorem dX2_visitEnd_31 : decode cX2_visitEnd 31 = .ok (.aload_n 0, 1) := by decide +kernel
theorem dX2_visitEnd_32 : decode cX2_visitEnd 32 = .ok (.getfield 31, 3) := by decide +kernel
theorem dX2_visitEnd_35 : decode cX2_visitEnd 35 = .ok (.iload_n 1, 1) := by decide +kernel
theorem dX2_visitEnd_36 : decode cX2_visitEnd 36 = .ok (.iaload, 1) := by decide +kernel
theorem dX2_visitEnd_37 : decode cX2_visitEnd 37 = .ok (.iadd, 1) := by decide +kernel
theorem dX2_visitEnd_38 : decode cX2_visitEnd 38 = .ok (.ireturn, 1) := by decide +kernel
theorem dX2_wayTo_0 : decode cX2_wayTo 0 = .ok (.iload_n 1, 1) := by decide +kernel
theorem dX2_wayTo_1 : decode cX2_wayTo 1 = .ok (.iconst (-1), 1) := by decide +kernel
theorem dX2_wayTo_2 : decode cX2_wayTo 2 = .ok (.if_icmp .ne 12, 3) := by decide +kernel
theorem dX2_wayTo_5 : decode cX2_wayTo 5 = .ok (.aload_n 0, 1) := by decide +kernel
theorem dX2_wayTo_6 : decode cX2_wayTo 6 = .ok (.getfield 37, 3) := by decide +kernel
theorem dX2_wayTo_9 : decode cX2_wayTo 9 = .ok (.iload_n 2, 1) := by decide +kernel
theorem dX2_wayTo_10 : decode cX2_wayTo 10 = .ok (.iaload, 1) := by decide +kernel
theorem dX2_wayTo_11 : decode cX2_wayTo 11 = .ok (.goto 14, 3) := by decide +kernel
theorem dX2_wayTo_14 : decode cX2_wayTo 14 = .ok (.aload_n 0, 1) := by decide +kernel
theorem dX2_wayTo_15 : decode cX2_wayTo 15 = .ok (.getfield 34, 3) := by decide +kernel
theorem dX2_wayTo_18 : decode cX2_wayTo 18 = .ok (.iload_n 1, 1) := by decide +kernel
theorem dX2_wayTo_19 : decode cX2_wayTo 19 = .ok (.bipush 8, 2) := by decide +kernel
theorem dX2_wayTo_21 : decode cX2_wayTo 21 = .ok (.imul, 1) := by decide +kernel
theorem dX2_wayTo_22 : decode cX2_wayTo 22 = .ok (.iload_n 2, 1) := by decide +kernel
theorem dX2_wayTo_23 : decode cX2_wayTo 23 = .ok (.iadd, 1) := by decide +kernel
theorem dX2_wayTo_24 : decode cX2_wayTo 24 = .ok (.iaload, 1) := by decide +kernel
theorem dX2_wayTo_25 : decode cX2_wayTo 25 = .ok (.ireturn, 1) := by decide +kernel
theorem dX2_findLate_0 : decode cX2_findLate 0 = .ok (.iconst 0, 1) := by decide +kernel
theorem dX2_findLate_1 : decode cX2_findLate 1 = .ok (.istore_n 2, 1) := by decide +kernel
theorem dX2_findLate_2 : decode cX2_findLate 2 = .ok (.iload_n 2, 1) := by decide +kernel
theorem dX2_findLate_3 : decode cX2_findLate 3 = .ok (.iconst 1, 1) := by decide +kernel
theorem dX2_findLate_4 : decode cX2_findLate 4 = .ok (.aload_n 0, 1) := by decide +kernel
theorem dX2_findLate_5 : decode cX2_findLate 5 = .ok (.getfield 9, 3) := by decide +kernel
theorem dX2_findLate_8 : decode cX2_findLate 8 = .ok (.ishl, 1) := by decide +kernel
theorem dX2_findLate_9 : decode cX2_findLate 9 = .ok (.if_icmp .ge 58, 3) := by decide +kernel
theorem dX2_findLate_12 : decode cX2_findLate 12 = .ok (.iconst 0, 1) := by decide +kernel
theorem dX2_findLate_13 : decode cX2_findLate 13 = .ok (.istore_n 3, 1) := by decide +kernel
theorem dX2_findLate_14 : decode cX2_findLate 14 = .ok (.iload_n 3, 1) := by decide +kernel
theorem dX2_findLate_15 : decode cX2_findLate 15 = .ok (.aload_n 0, 1) := by decide +kernel
theorem dX2_findLate_16 : decode cX2_findLate 16 = .ok (.getfield 9, 3) := by decide +kernel
theorem dX2_findLate_19 : decode cX2_findLate 19 = .ok (.if_icmp .ge 42, 3) := by decide +kernel
theorem dX2_findLate_22 : decode cX2_findLate 22 = .ok (.iload_n 2, 1) := by decide +kernel
theorem dX2_findLate_23 : decode cX2_findLate 23 = .ok (.iload_n 3, 1) := by decide +kernel
theorem dX2_findLate_24 : decode cX2_findLate 24 = .ok (.invokestatic 104, 3) := by decide +kernel
theorem dX2_findLate_27 : decode cX2_findLate 27 = .ok (.ifCond .ne 28, 3) := by decide +kernel
theorem dX2_findLate_30 : decode cX2_findLate 30 = .ok (.aload_n 0, 1) := by decide +kernel
theorem dX2_findLate_31 : decode cX2_findLate 31 = .ok (.getfield 46, 3) := by decide +kernel
theorem dX2_findLate_34 : decode cX2_findLate 34 = .ok (.iload_n 2, 1) := by decide +kernel
theorem dX2_findLate_35 : decode cX2_findLate 35 = .ok (.bipush 8, 2) := by decide +kernel
theorem dX2_findLate_37 : decode cX2_findLate 37 = .ok (.imul, 1) := by decide +kernel
theorem dX2_findLate_38 : decode cX2_findLate 38 = .ok (.iload_n 3, 1) := by decide +kernel
theorem dX2_findLate_39 : decode cX2_findLate 39 = .ok (.iadd, 1) := by decide +kernel
theorem dX2_findLate_40 : decode cX2_findLate 40 = .ok (.iload_n 2, 1) := by decide +kernel
theorem dX2_findLate_41 : decode cX2_findLate 41 = .ok (.ifCond .ne 7, 3) := by decide +kernel
theorem dX2_findLate_44 : decode cX2_findLate 44 = .ok (.iload_n 1, 1) := by decide +kernel
theorem dX2_findLate_45 : decode cX2_findLate 45 = .ok (.goto 9, 3) := by decide +kernel
theorem dX2_findLate_48 : decode cX2_findLate 48 = .ok (.aload_n 0, 1) := by decide +kernel
theorem dX2_findLate_49 : decode cX2_findLate 49 = .ok (.iload_n 2, 1) := by decide +kernel
theorem dX2_findLate_50 : decode cX2_findLate 50 = .ok (.iload_n 3, 1) := by decide +kernel
theorem dX2_findLate_51 : decode cX2_findLate 51 = .ok (.invokevirtual 157, 3) := by decide +kernel
theorem dX2_findLate_54 : decode cX2_findLate 54 = .ok (.iastore, 1) := by decide +kernel
theorem dX2_findLate_55 : decode cX2_findLate 55 = .ok (.iinc 3 1, 3) := by decide +kernel
theorem dX2_findLate_58 : decode cX2_findLate 58 = .ok (.goto (-44), 3) := by decide +kernel
theorem dX2_findLate_61 : decode cX2_findLate 61 = .ok (.iinc 2 1, 3) := by decide +kernel
theorem dX2_findLate_64 : decode cX2_findLate 64 = .ok (.goto (-62), 3) := by decide +kernel
theorem dX2_findLate_67 : decode cX2_findLate 67 = .ok (.return_, 1) := by decide +kernel
theorem dX2_latestLeave_0 : decode cX2_latestLeave 0 = .ok (.iconst (-1), 1) := by decide +kernel
theorem dX2_latestLeave_1 : decode cX2_latestLeave 1 = .ok (.istore_n 3, 1) := by decide +kernel
theorem dX2_latestLeave_2 : decode cX2_latestLeave 2 = .ok (.iconst 0, 1) := by decide +kernel
theorem dX2_latestLeave_3 : decode cX2_latestLeave 3 = .ok (.istore 4, 2) := by decide +kernel
theorem dX2_latestLeave_5 : decode cX2_latestLeave 5 = .ok (.iload 4, 2) := by decide +kernel
theorem dX2_latestLeave_7 : decode cX2_latestLeave 7 = .ok (.aload_n 0, 1) := by decide +kernel
theorem dX2_latestLeave_8 : decode cX2_latestLeave 8 = .ok (.getfield 9, 3) := by decide +kernel
theorem dX2_latestLeave_11 : decode cX2_latestLeave 11 = .ok (.if_icmp .ge 73, 3) := by decide +kernel
theorem dX2_latestLeave_14 : decode cX2_latestLeave 14 = .ok (.aload_n 0, 1) := by decide +kernel
theorem dX2_latestLeave_15 : decode cX2_latestLeave 15 = .ok (.getfield 34, 3) := by decide +kernel
theorem dX2_latestLeave_18 : decode cX2_latestLeave 18 = .ok (.iload_n 2, 1) := by decide +kernel
theorem dX2_latestLeave_19 : decode cX2_latestLeave 19 = .ok (.bipush 8, 2) := by decide +kernel
theorem dX2_latestLeave_21 : decode cX2_latestLeave 21 = .ok (.imul, 1) := by decide +kernel
theorem dX2_latestLeave_22 : decode cX2_latestLeave 22 = .ok (.iload 4, 2) := by decide +kernel
theorem dX2_latestLeave_24 : decode cX2_latestLeave 24 = .ok (.iadd, 1) := by decide +kernel
theorem dX2_latestLeave_25 : decode cX2_latestLeave 25 = .ok (.iaload, 1) := by decide +kernel
theorem dX2_latestLeave_26 : decode cX2_latestLeave 26 = .ok (.istore 5, 2) := by decide +kernel
theorem dX2_latestLeave_28 : decode cX2_latestLeave 28 = .ok (.iload_n 1, 1) := by decide +kernel
theorem dX2_latestLeave_29 : decode cX2_latestLeave 29 = .ok (.iload 4, 2) := by decide +kernel
theorem dX2_latestLeave_31 : decode cX2_latestLeave 31 = .ok (.invokestatic 104, 3) := by decide +kernel
theorem dX2_latestLeave_34 : decode cX2_latestLeave 34 = .ok (.ifCond .eq 44, 3) := by decide +kernel
theorem dX2_latestLeave_37 : decode cX2_latestLeave 37 = .ok (.iload 5, 2) := by decide +kernel
theorem dX2_latestLeave_39 : decode cX2_latestLeave 39 = .ok (.iconst (-1), 1) := by decide +kernel
theorem dX2_latestLeave_40 : decode cX2_latestLeave 40 = .ok (.if_icmp .eq 38, 3) := by decide +kernel
theorem dX2_latestLeave_43 : decode cX2_latestLeave 43 = .ok (.aload_n 0, 1) := by decide +kernel
theorem dX2_latestLeave_44 : decode cX2_latestLeave 44 = .ok (.iload 4, 2) := by decide +kernel
theorem dX2_latestLeave_46 : decode cX2_latestLeave 46 = .ok (.aload_n 0, 1) := by decide +kernel
theorem dX2_latestLeave_47 : decode cX2_latestLeave 47 = .ok (.getfield 46, 3) := by decide +kernel
theorem dX2_latestLeave_50 : decode cX2_latestLeave 50 = .ok (.iload_n 1, 1) := by decide +kernel
theorem dX2_latestLeave_51 : decode cX2_latestLeave 51 = .ok (.iconst 1, 1) := by decide +kernel
theorem dX2_latestLeave_52 : decode cX2_latestLeave 52 = .ok (.iload 4, 2) := by decide +kernel
theorem dX2_latestLeave_54 : decode cX2_latestLeave 54 = .ok (.ishl, 1) := by decide +kernel
theorem dX2_latestLeave_55 : decode cX2_latestLeave 55 = .ok (.ixor, 1) := by decide +kernel
theorem dX2_latestLeave_56 : decode cX2_latestLeave 56 = .ok (.bipush 8, 2) := by decide +kernel
theorem dX2_latestLeave_58 : decode cX2_latestLeave 58 = .ok (.imul, 1) := by decide +kernel
theorem dX2_latestLeave_59 : decode cX2_latestLeave 59 = .ok (.iload 4, 2) := by decide +kernel
theorem dX2_latestLeave_61 : decode cX2_latestLeave 61 = .ok (.iadd, 1) := by decide +kernel
theorem dX2_latestLeave_62 : decode cX2_latestLeave 62 = .ok (.iaload, 1) := by decide +kernel
theorem dX2_latestLeave_63 : decode cX2_latestLeave 63 = .ok (.invokevirtual 160, 3) := by decide +kernel
theorem dX2_latestLeave_66 : decode cX2_latestLeave 66 = .ok (.istore 6, 2) := by decide +kernel
theorem dX2_latestLeave_68 : decode cX2_latestLeave 68 = .ok (.iload_n 3, 1) := by decide +kernel
theorem dX2_latestLeave_69 : decode cX2_latestLeave 69 = .ok (.iload 6, 2) := by decide +kernel
theorem dX2_latestLeave_71 : decode cX2_latestLeave 71 = .ok (.iload 5, 2) := by decide +kernel
theorem dX2_latestLeave_73 : decode cX2_latestLeave 73 = .ok (.isub, 1) := by decide +kernel
theorem dX2_latestLeave_74 : decode cX2_latestLeave 74 = .ok (.invokestatic 154, 3) := by decide +kernel
theorem dX2_latestLeave_77 : decode cX2_latestLeave 77 = .ok (.istore_n 3, 1) := by decide +kernel
theorem dX2_latestLeave_78 : decode cX2_latestLeave 78 = .ok (.iinc 4 1, 3) := by decide +kernel
theorem dX2_latestLeave_81 : decode cX2_latestLeave 81 = .ok (.goto (-76), 3) := by decide +kernel
theorem dX2_latestLeave_84 : decode cX2_latestLeave 84 = .ok (.iload_n 3, 1) := by decide +kernel
theorem dX2_latestLeave_85 : decode cX2_latestLeave 85 = .ok (.ireturn, 1) := by decide +kernel
theorem dX2_latestCall_0 : decode cX2_latestCall 0 = .ok (.aload_n 0, 1) := by decide +kernel
theorem dX2_latestCall_1 : decode cX2_latestCall 1 = .ok (.getfield 28, 3) := by decide +kernel
theorem dX2_latestCall_4 : decode cX2_latestCall 4 = .ok (.iload_n 1, 1) := by decide +kernel
theorem dX2_latestCall_5 : decode cX2_latestCall 5 = .ok (.iaload, 1) := by decide +kernel
theorem dX2_latestCall_6 : decode cX2_latestCall 6 = .ok (.iconst 1, 1) := by decide +kernel
theorem dX2_latestCall_7 : decode cX2_latestCall 7 = .ok (.isub, 1) := by decide +kernel
theorem dX2_latestCall_8 : decode cX2_latestCall 8 = .ok (.iload_n 2, 1) := by decide +kernel
theorem dX2_latestCall_9 : decode cX2_latestCall 9 = .ok (.aload_n 0, 1) := by decide +kernel
theorem dX2_latestCall_10 : decode cX2_latestCall 10 = .ok (.getfield 31, 3) := by decide +kernel
theorem dX2_latestCall_13 : decode cX2_latestCall 13 = .ok (.iload_n 1, 1) := by decide +kernel
theorem dX2_latestCall_14 : decode cX2_latestCall 14 = .ok (.iaload, 1) := by decide +kernel
theorem dX2_latestCall_15 : decode cX2_latestCall 15 = .ok (.isub, 1) := by decide +kernel
theorem dX2_latestCall_16 : decode cX2_latestCall 16 = .ok (.invokestatic 149, 3) := by decide +kernel
theorem dX2_latestCall_19 : decode cX2_latestCall 19 = .ok (.istore_n 3, 1) := by decide +kernel
theorem dX2_latestCall_20 : decode cX2_latestCall 20 = .ok (.iload_n 3, 1) := by decide +kernel
theorem dX2_latestCall_21 : decode cX2_latestCall 21 = .ok (.aload_n 0, 1) := by decide +kernel
theorem dX2_latestCall_22 : decode cX2_latestCall 22 = .ok (.getfield 25, 3) := by decide +kernel
theorem dX2_latestCall_25 : decode cX2_latestCall 25 = .ok (.iload_n 1, 1) := by decide +kernel
theorem dX2_latestCall_26 : decode cX2_latestCall 26 = .ok (.iaload, 1) := by decide +kernel
theorem dX2_latestCall_27 : decode cX2_latestCall 27 = .ok (.if_icmp .lt 7, 3) := by decide +kernel
theorem dX2_latestCall_30 : decode cX2_latestCall 30 = .ok (.iload_n 3, 1) := by decide +kernel
theorem dX2_latestCall_31 : decode cX2_latestCall 31 = .ok (.goto 4, 3) := by decide +kernel
theorem dX2_latestCall_34 : decode cX2_latestCall 34 = .ok (.iconst (-1), 1) := by decide +kernel
theorem dX2_latestCall_35 : decode cX2_latestCall 35 = .ok (.ireturn, 1) := by decide +kernel
theorem dX2_firstInTime_0 : decode cX2_firstInTime 0 = .ok (.iconst 0, 1) := by decide +kernel
theorem dX2_firstInTime_1 : decode cX2_firstInTime 1 = .ok (.istore 4, 2) := by decide +kernel
theorem dX2_firstInTime_3 : decode cX2_firstInTime 3 = .ok (.iload 4, 2) := by decide +kernel
theorem dX2_firstInTime_5 : decode cX2_firstInTime 5 = .ok (.aload_n 0, 1) := by decide +kernel
theorem dX2_firstInTime_6 : decode cX2_firstInTime 6 = .ok (.getfield 9, 3) := by decide +kernel
theorem dX2_firstInTime_9 : decode cX2_firstInTime 9 = .ok (.if_icmp .ge 65, 3) := by decide +kernel
theorem dX2_firstInTime_12 : decode cX2_firstInTime 12 = .ok (.iload_n 1, 1) := by decide +kernel
theorem dX2_firstInTime_13 : decode cX2_firstInTime 13 = .ok (.iload 4, 2) := by decide +kernel
theorem dX2_firstInTime_15 : decode cX2_firstInTime 15 = .ok (.invokestatic 104, 3) := by decide +kernel
theorem dX2_firstInTime_18 : decode cX2_firstInTime 18 = .ok (.ifCond .eq 50, 3) := by decide +kernel
theorem dX2_firstInTime_21 : decode cX2_firstInTime 21 = .ok (.aload_n 0, 1) := by decide +kernel
theorem dX2_firstInTime_22 : decode cX2_firstInTime 22 = .ok (.iload 4, 2) := by decide +kernel
theorem dX2_firstInTime_24 : decode cX2_firstInTime 24 = .ok (.aload_n 0, 1) := by decide +kernel
theorem dX2_firstInTime_25 : decode cX2_firstInTime 25 = .ok (.iload_n 2, 1) := by decide +kernel
theorem dX2_firstInTime_26 : decode cX2_firstInTime 26 = .ok (.iload 4, 2) := by decide +kernel
theorem dX2_firstInTime_28 : decode cX2_firstInTime 28 = .ok (.invokevirtual 83, 3) := by decide +kernel
theorem dX2_firstInTime_31 : decode cX2_firstInTime 31 = .ok (.iload_n 3, 1) := by decide +kernel
theorem dX2_firstInTime_32 : decode cX2_firstInTime 32 = .ok (.invokevirtual 87, 3) := by decide +kernel
theorem dX2_firstInTime_35 : decode cX2_firstInTime 35 = .ok (.istore 5, 2) := by decide +kernel
theorem dX2_firstInTime_37 : decode cX2_firstInTime 37 = .ok (.iload 5, 2) := by decide +kernel
theorem dX2_firstInTime_39 : decode cX2_firstInTime 39 = .ok (.iconst (-1), 1) := by decide +kernel
theorem dX2_firstInTime_40 : decode cX2_firstInTime 40 = .ok (.if_icmp .eq 28, 3) := by decide +kernel
theorem dX2_firstInTime_43 : decode cX2_firstInTime 43 = .ok (.iload 5, 2) := by decide +kernel
theorem dX2_firstInTime_45 : decode cX2_firstInTime 45 = .ok (.aload_n 0, 1) := by decide +kernel
theorem dX2_firstInTime_46 : decode cX2_firstInTime 46 = .ok (.getfield 46, 3) := by decide +kernel
theorem dX2_firstInTime_49 : decode cX2_firstInTime 49 = .ok (.iload_n 1, 1) := by decide +kernel
theorem dX2_firstInTime_50 : decode cX2_firstInTime 50 = .ok (.iconst 1, 1) := by decide +kernel
theorem dX2_firstInTime_51 : decode cX2_firstInTime 51 = .ok (.iload 4, 2) := by decide +kernel
theorem dX2_firstInTime_53 : decode cX2_firstInTime 53 = .ok (.ishl, 1) := by decide +kernel
theorem dX2_firstInTime_54 : decode cX2_firstInTime 54 = .ok (.ixor, 1) := by decide +kernel
theorem dX2_firstInTime_55 : decode cX2_firstInTime 55 = .ok (.bipush 8, 2) := by decide +kernel
theorem dX2_firstInTime_57 : decode cX2_firstInTime 57 = .ok (.imul, 1) := by decide +kernel
theorem dX2_firstInTime_58 : decode cX2_firstInTime 58 = .ok (.iload 4, 2) := by decide +kernel
theorem dX2_firstInTime_60 : decode cX2_firstInTime 60 = .ok (.iadd, 1) := by decide +kernel
theorem dX2_firstInTime_61 : decode cX2_firstInTime 61 = .ok (.iaload, 1) := by decide +kernel
theorem dX2_firstInTime_62 : decode cX2_firstInTime 62 = .ok (.if_icmp .gt 6, 3) := by decide +kernel
theorem dX2_firstInTime_65 : decode cX2_firstInTime 65 = .ok (.iload 4, 2) := by decide +kernel
theorem dX2_firstInTime_67 : decode cX2_firstInTime 67 = .ok (.ireturn, 1) := by decide +kernel
theorem dX2_firstInTime_68 : decode cX2_firstInTime 68 = .ok (.iinc 4 1, 3) := by decide +kernel
theorem dX2_firstInTime_71 : decode cX2_firstInTime 71 = .ok (.goto (-68), 3) := by decide +kernel
theorem dX2_firstInTime_74 : decode cX2_firstInTime 74 = .ok (.iconst (-1), 1) := by decide +kernel
theorem dX2_firstInTime_75 : decode cX2_firstInTime 75 = .ok (.ireturn, 1) := by decide +kernel
theorem dX2_giveFrom_0 : decode cX2_giveFrom 0 = .ok (.iload_n 1, 1) := by decide +kernel
theorem dX2_giveFrom_1 : decode cX2_giveFrom 1 = .ok (.aload_n 0, 1) := by decide +kernel
theorem dX2_giveFrom_2 : decode cX2_giveFrom 2 = .ok (.getfield 9, 3) := by decide +kernel
theorem dX2_giveFrom_5 : decode cX2_giveFrom 5 = .ok (.if_icmp .lt 8, 3) := by decide +kernel
theorem dX2_giveFrom_8 : decode cX2_giveFrom 8 = .ok (.aload_n 0, 1) := by decide +kernel
theorem dX2_giveFrom_9 : decode cX2_giveFrom 9 = .ok (.invokevirtual 163, 3) := by decide +kernel
theorem dX2_giveFrom_12 : decode cX2_giveFrom 12 = .ok (.return_, 1) := by decide +kernel
theorem dX2_giveFrom_13 : decode cX2_giveFrom 13 = .ok (.iconst 0, 1) := by decide +kernel
theorem dX2_giveFrom_14 : decode cX2_giveFrom 14 = .ok (.istore_n 2, 1) := by decide +kernel
theorem dX2_giveFrom_15 : decode cX2_giveFrom 15 = .ok (.iload_n 2, 1) := by decide +kernel
theorem dX2_giveFrom_16 : decode cX2_giveFrom 16 = .ok (.aload_n 0, 1) := by decide +kernel
theorem dX2_giveFrom_17 : decode cX2_giveFrom 17 = .ok (.getfield 58, 3) := by decide +kernel
theorem dX2_giveFrom_20 : decode cX2_giveFrom 20 = .ok (.if_icmp .ge 40, 3) := by decide +kernel
theorem dX2_giveFrom_23 : decode cX2_giveFrom 23 = .ok (.aload_n 0, 1) := by decide +kernel
theorem dX2_giveFrom_24 : decode cX2_giveFrom 24 = .ok (.getfield 52, 3) := by decide +kernel
theorem dX2_giveFrom_27 : decode cX2_giveFrom 27 = .ok (.iload_n 2, 1) := by decide +kernel
theorem dX2_giveFrom_28 : decode cX2_giveFrom 28 = .ok (.dup2, 1) := by decide +kernel
theorem dX2_giveFrom_29 : decode cX2_giveFrom 29 = .ok (.iaload, 1) := by decide +kernel
theorem dX2_giveFrom_30 : decode cX2_giveFrom 30 = .ok (.iconst 1, 1) := by decide +kernel
theorem dX2_giveFrom_31 : decode cX2_giveFrom 31 = .ok (.iload_n 1, 1) := by decide +kernel
theorem dX2_giveFrom_32 : decode cX2_giveFrom 32 = .ok (.ishl, 1) := by decide +kernel
theorem dX2_giveFrom_33 : decode cX2_giveFrom 33 = .ok (.ior, 1) := by decide +kernel
theorem dX2_giveFrom_34 : decode cX2_giveFrom 34 = .ok (.iastore, 1) := by decide +kernel
theorem dX2_giveFrom_35 : decode cX2_giveFrom 35 = .ok (.aload_n 0, 1) := by decide +kernel
theorem dX2_giveFrom_36 : decode cX2_giveFrom 36 = .ok (.iload_n 1, 1) := by decide +kernel
theorem dX2_giveFrom_37 : decode cX2_giveFrom 37 = .ok (.iconst 1, 1) := by decide +kernel
theorem dX2_giveFrom_38 : decode cX2_giveFrom 38 = .ok (.iadd, 1) := by decide +kernel
theorem dX2_giveFrom_39 : decode cX2_giveFrom 39 = .ok (.invokevirtual 101, 3) := by decide +kernel
theorem dX2_giveFrom_42 : decode cX2_giveFrom 42 = .ok (.aload_n 0, 1) := by decide +kernel
theorem dX2_giveFrom_43 : decode cX2_giveFrom 43 = .ok (.getfield 52, 3) := by decide +kernel
theorem dX2_giveFrom_46 : decode cX2_giveFrom 46 = .ok (.iload_n 2, 1) := by decide +kernel
theorem dX2_giveFrom_47 : decode cX2_giveFrom 47 = .ok (.dup2, 1) := by decide +kernel
theorem dX2_giveFrom_48 : decode cX2_giveFrom 48 = .ok (.iaload, 1) := by decide +kernel
theorem dX2_giveFrom_49 : decode cX2_giveFrom 49 = .ok (.iconst 1, 1) := by decide +kernel
theorem dX2_giveFrom_50 : decode cX2_giveFrom 50 = .ok (.iload_n 1, 1) := by decide +kernel
theorem dX2_giveFrom_51 : decode cX2_giveFrom 51 = .ok (.ishl, 1) := by decide +kernel
theorem dX2_giveFrom_52 : decode cX2_giveFrom 52 = .ok (.ixor, 1) := by decide +kernel
theorem dX2_giveFrom_53 : decode cX2_giveFrom 53 = .ok (.iastore, 1) := by decide +kernel
theorem dX2_giveFrom_54 : decode cX2_giveFrom 54 = .ok (.iinc 2 1, 3) := by decide +kernel
theorem dX2_giveFrom_57 : decode cX2_giveFrom 57 = .ok (.goto (-42), 3) := by decide +kernel
theorem dX2_giveFrom_60 : decode cX2_giveFrom 60 = .ok (.return_, 1) := by decide +kernel
theorem dX2_judgeShares_0 : decode cX2_judgeShares 0 = .ok (.iconst 0, 1) := by decide +kernel
theorem dX2_judgeShares_1 : decode cX2_judgeShares 1 = .ok (.istore_n 1, 1) := by decide +kernel
theorem dX2_judgeShares_2 : decode cX2_judgeShares 2 = .ok (.iconst 0, 1) := by decide +kernel
theorem dX2_judgeShares_3 : decode cX2_judgeShares 3 = .ok (.istore_n 2, 1) := by decide +kernel
theorem dX2_judgeShares_4 : decode cX2_judgeShares 4 = .ok (.iload_n 2, 1) := by decide +kernel
theorem dX2_judgeShares_5 : decode cX2_judgeShares 5 = .ok (.aload_n 0, 1) := by decide +kernel
theorem dX2_judgeShares_6 : decode cX2_judgeShares 6 = .ok (.getfield 58, 3) := by decide +kernel
theorem dX2_judgeShares_9 : decode cX2_judgeShares 9 = .ok (.if_icmp .ge 48, 3) := by decide +kernel
theorem dX2_judgeShares_12 : decode cX2_judgeShares 12 = .ok (.aload_n 0, 1) := by decide +kernel
theorem dX2_judgeShares_13 : decode cX2_judgeShares 13 = .ok (.getfield 52, 3) := by decide +kernel
theorem dX2_judgeShares_16 : decode cX2_judgeShares 16 = .ok (.iload_n 2, 1) := by decide +kernel
theorem dX2_judgeShares_17 : decode cX2_judgeShares 17 = .ok (.iaload, 1) := by decide +kernel
theorem dX2_judgeShares_18 : decode cX2_judgeShares 18 = .ok (.ifCond .eq 33, 3) := by decide +kernel
theorem dX2_judgeShares_21 : decode cX2_judgeShares 21 = .ok (.aload_n 0, 1) := by decide +kernel
theorem dX2_judgeShares_22 : decode cX2_judgeShares 22 = .ok (.getfield 49, 3) := by decide +kernel
theorem dX2_judgeShares_25 : decode cX2_judgeShares 25 = .ok (.iload_n 2, 1) := by decide +kernel
theorem dX2_judgeShares_26 : decode cX2_judgeShares 26 = .ok (.sipush 256, 3) := by decide +kernel
theorem dX2_judgeShares_29 : decode cX2_judgeShares 29 = .ok (.imul, 1) := by decide +kernel
theorem dX2_judgeShares_30 : decode cX2_judgeShares 30 = .ok (.aload_n 0, 1) := by decide +kernel
theorem dX2_judgeShares_31 : decode cX2_judgeShares 31 = .ok (.getfield 52, 3) := by decide +kernel
theorem dX2_judgeShares_34 : decode cX2_judgeShares 34 = .ok (.iload_n 2, 1) := by decide +kernel
theorem dX2_judgeShares_35 : decode cX2_judgeShares 35 = .ok (.iaload, 1) := by decide +kernel
theorem dX2_judgeShares_36 : decode cX2_judgeShares 36 = .ok (.iadd, 1) := by decide +kernel
theorem dX2_judgeShares_37 : decode cX2_judgeShares 37 = .ok (.iaload, 1) := by decide +kernel
theorem dX2_judgeShares_38 : decode cX2_judgeShares 38 = .ok (.istore_n 3, 1) := by decide +kernel
theorem dX2_judgeShares_39 : decode cX2_judgeShares 39 = .ok (.iload_n 3, 1) := by decide +kernel
theorem dX2_judgeShares_40 : decode cX2_judgeShares 40 = .ok (.iconst (-1), 1) := by decide +kernel
theorem dX2_judgeShares_41 : decode cX2_judgeShares 41 = .ok (.if_icmp .ne 4, 3) := by decide +kernel
theorem dX2_judgeShares_44 : decode cX2_judgeShares 44 = .ok (.return_, 1) := by decide +kernel
theorem dX2_judgeShares_45 : decode cX2_judgeShares 45 = .ok (.iload_n 1, 1) := by decide +kernel
theorem dX2_judgeShares_46 : decode cX2_judgeShares 46 = .ok (.iload_n 3, 1) := by decide +kernel
theorem dX2_judgeShares_47 : decode cX2_judgeShares 47 = .ok (.invokestatic 154, 3) := by decide +kernel
theorem dX2_judgeShares_50 : decode cX2_judgeShares 50 = .ok (.istore_n 1, 1) := by decide +kernel
theorem dX2_judgeShares_51 : decode cX2_judgeShares 51 = .ok (.iinc 2 1, 3) := by decide +kernel
theorem dX2_judgeShares_54 : decode cX2_judgeShares 54 = .ok (.goto (-50), 3) := by decide +kernel
theorem dX2_judgeShares_57 : decode cX2_judgeShares 57 = .ok (.aload_n 0, 1) := by decide +kernel
theorem dX2_judgeShares_58 : decode cX2_judgeShares 58 = .ok (.getfield 19, 3) := by decide +kernel
theorem dX2_judgeShares_61 : decode cX2_judgeShares 61 = .ok (.iconst (-1), 1) := by decide +kernel
theorem dX2_judgeShares_62 : decode cX2_judgeShares 62 = .ok (.if_icmp .eq 11, 3) := by decide +kernel
theorem dX2_judgeShares_65 : decode cX2_judgeShares 65 = .ok (.iload_n 1, 1) := by decide +kernel
theorem dX2_judgeShares_66 : decode cX2_judgeShares 66 = .ok (.aload_n 0, 1) := by decide +kernel
theorem dX2_judgeShares_67 : decode cX2_judgeShares 67 = .ok (.getfield 19, 3) := by decide +kernel
theorem dX2_judgeShares_70 : decode cX2_judgeShares 70 = .ok (.if_icmp .ge 22, 3) := by decide +kernel
theorem dX2_judgeShares_73 : decode cX2_judgeShares 73 = .ok (.aload_n 0, 1) := by decide +kernel
theorem dX2_judgeShares_74 : decode cX2_judgeShares 74 = .ok (.iload_n 1, 1) := by decide +kernel
theorem dX2_judgeShares_75 : decode cX2_judgeShares 75 = .ok (.putfield 19, 3) := by decide +kernel
theorem dX2_judgeShares_78 : decode cX2_judgeShares 78 = .ok (.aload_n 0, 1) := by decide +kernel
theorem dX2_judgeShares_79 : decode cX2_judgeShares 79 = .ok (.getfield 52, 3) := by decide +kernel
theorem dX2_judgeShares_82 : decode cX2_judgeShares 82 = .ok (.iconst 0, 1) := by decide +kernel
theorem dX2_judgeShares_83 : decode cX2_judgeShares 83 = .ok (.aload_n 0, 1) := by decide +kernel
theorem dX2_judgeShares_84 : decode cX2_judgeShares 84 = .ok (.getfield 55, 3) := by decide +kernel
theorem dX2_judgeShares_87 : decode cX2_judgeShares 87 = .ok (.iconst 0, 1) := by decide +kernel
theorem dX2_judgeShares_88 : decode cX2_judgeShares 88 = .ok (.iconst 3, 1) := by decide +kernel
theorem dX2_judgeShares_89 : decode cX2_judgeShares 89 = .ok (.invokestatic 166, 3) := by decide +kernel
theorem dX2_judgeShares_92 : decode cX2_judgeShares 92 = .ok (.return_, 1) := by decide +kernel
theorem dX3_init_0 : decode cX3_init 0 = .ok (.aload_n 0, 1) := by decide +kernel
theorem dX3_init_1 : decode cX3_init 1 = .ok (.invokespecial 3, 3) := by decide +kernel
theorem dX3_init_4 : decode cX3_init 4 = .ok (.aload_n 0, 1) := by decide +kernel
theorem dX3_init_5 : decode cX3_init 5 = .ok (.new 9, 3) := by decide +kernel
theorem dX3_init_8 : decode cX3_init 8 = .ok (.dup, 1) := by decide +kernel
theorem dX3_init_9 : decode cX3_init 9 = .ok (.invokespecial 11, 3) := by decide +kernel
theorem dX3_init_12 : decode cX3_init 12 = .ok (.putfield 12, 3) := by decide +kernel
theorem dX3_init_15 : decode cX3_init 15 = .ok (.aload_n 0, 1) := by decide +kernel
theorem dX3_init_16 : decode cX3_init 16 = .ok (.iconst (-1), 1) := by decide +kernel
theorem dX3_init_17 : decode cX3_init 17 = .ok (.putfield 18, 3) := by decide +kernel
theorem dX3_init_20 : decode cX3_init 20 = .ok (.aload_n 0, 1) := by decide +kernel
theorem dX3_init_21 : decode cX3_init 21 = .ok (.iconst 0, 1) := by decide +kernel
theorem dX3_init_22 : decode cX3_init 22 = .ok (.putfield 22, 3) := by decide +kernel
theorem dX3_init_25 : decode cX3_init 25 = .ok (.aload_n 0, 1) := by decide +kernel
theorem dX3_init_26 : decode cX3_init 26 = .ok (.new 25, 3) := by decide +kernel
theorem dX3_init_29 : decode cX3_init 29 = .ok (.dup, 1) := by decide +kernel
theorem dX3_init_30 : decode cX3_init 30 = .ok (.invokespecial 27, 3) := by decide +kernel
theorem dX3_init_33 : decode cX3_init 33 = .ok (.putfield 28, 3) := by decide +kernel
theorem dX3_init_36 : decode cX3_init 36 = .ok (.aload_n 0, 1) := by decide +kernel
theorem dX3_init_37 : decode cX3_init 37 = .ok (.new 32, 3) := by decide +kernel
theorem dX3_init_40 : decode cX3_init 40 = .ok (.dup, 1) := by decide +kernel
theorem dX3_init_41 : decode cX3_init 41 = .ok (.invokespecial 34, 3) := by decide +kernel
theorem dX3_init_44 : decode cX3_init 44 = .ok (.putfield 35, 3) := by decide +kernel
theorem dX3_init_47 : decode cX3_init 47 = .ok (.aload_n 0, 1) := by decide +kernel
theorem dX3_init_48 : decode cX3_init 48 = .ok (.iconst 0, 1) := by decide +kernel
theorem dX3_init_49 : decode cX3_init 49 = .ok (.putfield 39, 3) := by decide +kernel
theorem dX3_init_52 : decode cX3_init 52 = .ok (.aload_n 0, 1) := by decide +kernel
theorem dX3_init_53 : decode cX3_init 53 = .ok (.iconst 0, 1) := by decide +kernel
theorem dX3_init_54 : decode cX3_init 54 = .ok (.putfield 43, 3) := by decide +kernel
theorem dX3_init_57 : decode cX3_init 57 = .ok (.aload_n 0, 1) := by decide +kernel
theorem dX3_init_58 : decode cX3_init 58 = .ok (.iconst 0, 1) := by decide +kernel
theorem dX3_init_59 : decode cX3_init 59 = .ok (.putfield 46, 3) := by decide +kernel
theorem dX3_init_62 : decode cX3_init 62 = .ok (.return_, 1) := by decide +kernel
theorem dX3_read_0 : decode cX3_read 0 = .ok (.aload_n 0, 1) := by decide +kernel
theorem dX3_read_1 : decode cX3_read 1 = .ok (.getfield 12, 3) := by decide +kernel
theorem dX3_read_4 : decode cX3_read 4 = .ok (.invokevirtual 49, 3) := by decide +kernel
theorem dX3_read_7 : decode cX3_read 7 = .ok (.aload_n 0, 1) := by decide +kernel
theorem dX3_read_8 : decode cX3_read 8 = .ok (.getfield 35, 3) := by decide +kernel
theorem dX3_read_11 : decode cX3_read 11 = .ok (.invokevirtual 52, 3) := by decide +kernel
theorem dX3_read_14 : decode cX3_read 14 = .ok (.aload_n 0, 1) := by decide +kernel
theorem dX3_read_15 : decode cX3_read 15 = .ok (.iconst 0, 1) := by decide +kernel
theorem dX3_read_16 : decode cX3_read 16 = .ok (.putfield 39, 3) := by decide +kernel
theorem dX3_read_19 : decode cX3_read 19 = .ok (.aload_n 0, 1) := by decide +kernel
theorem dX3_read_20 : decode cX3_read 20 = .ok (.iconst 0, 1) := by decide +kernel
theorem dX3_read_21 : decode cX3_read 21 = .ok (.putfield 43, 3) := by decide +kernel
theorem dX3_read_24 : decode cX3_read 24 = .ok (.aload_n 0, 1) := by decide +kernel
theorem dX3_read_25 : decode cX3_read 25 = .ok (.iconst 0, 1) := by decide +kernel
theorem dX3_read_26 : decode cX3_read 26 = .ok (.putfield 46, 3) := by decide +kernel
theorem dX3_read_29 : decode cX3_read 29 = .ok (.aload_n 0, 1) := by decide +kernel
theorem dX3_read_30 : decode cX3_read 30 = .ok (.iconst 0, 1) := by decide +kernel
theorem dX3_read_31 : decode cX3_read 31 = .ok (.putfield 22, 3) := by decide +kernel
theorem dX3_read_34 : decode cX3_read 34 = .ok (.aload_n 0, 1) := by decide +kernel
theorem dX3_read_35 : decode cX3_read 35 = .ok (.iconst (-1), 1) := by decide +kernel
theorem dX3_read_36 : decode cX3_read 36 = .ok (.putfield 18, 3) := by decide +kernel
theorem dX3_read_39 : decode cX3_read 39 = .ok (.aload_n 0, 1) := by decide +kernel
theorem dX3_read_40 : decode cX3_read 40 = .ok (.getfield 28, 3) := by decide +kernel
theorem dX3_read_43 : decode cX3_read 43 = .ok (.aload_n 1, 1) := by decide +kernel
theorem dX3_read_44 : decode cX3_read 44 = .ok (.iload_n 2, 1) := by decide +kernel
theorem dX3_read_45 : decode cX3_read 45 = .ok (.invokevirtual 53, 3) := by decide +kernel
theorem dX3_read_48 : decode cX3_read 48 = .ok (.aload_n 0, 1) := by decide +kernel
theorem dX3_read_49 : decode cX3_read 49 = .ok (.invokevirtual 57, 3) := by decide +kernel
theorem dX3_read_52 : decode cX3_read 52 = .ok (.istore_n 3, 1) := by decide +kernel
theorem dX3_read_53 : decode cX3_read 53 = .ok (.iconst 0, 1) := by decide +kernel
theorem dX3_read_54 : decode cX3_read 54 = .ok (.istore 4, 2) := by decide +kernel
theorem dX3_read_56 : decode cX3_read 56 = .ok (.iload 4, 2) := by decide +kernel
theorem dX3_read_58 : decode cX3_read 58 = .ok (.sipush 900, 3) := by decide +kernel
theorem dX3_read_61 : decode cX3_read 61 = .ok (.if_icmp .ge 45, 3) := by decide +kernel
theorem dX3_read_64 : decode cX3_read 64 = .ok (.iload_n 3, 1) := by decide +kernel
theorem dX3_read_65 : decode cX3_read 65 = .ok (.ifCond .eq 41, 3) := by decide +kernel
theorem dX3_read_68 : decode cX3_read 68 = .ok (.aload_n 0, 1) := by decide +kernel
theorem dX3_read_69 : decode cX3_read 69 = .ok (.getfield 28, 3) := by decide +kernel
theorem dX3_read_72 : decode cX3_read 72 = .ok (.getfield 61, 3) := by decide +kernel
theorem dX3_read_75 : decode cX3_read 75 = .ok (.ifCond .eq 31, 3) := by decide +kernel
theorem dX3_read_78 : decode cX3_read 78 = .ok (.aload_n 0, 1) := by decide +kernel
theorem dX3_read_79 : decode cX3_read 79 = .ok (.invokevirtual 64, 3) := by decide +kernel
theorem dX3_read_82 : decode cX3_read 82 = .ok (.ifCond .eq 16, 3) := by decide +kernel
theorem dX3_read_85 : decode cX3_read 85 = .ok (.aload_n 0, 1) := by decide +kernel
theorem dX3_read_86 : decode cX3_read 86 = .ok (.bipush 59, 2) := by decide +kernel
theorem dX3_read_88 : decode cX3_read 88 = .ok (.invokevirtual 67, 3) := by decide +kernel
theorem dX3_read_91 : decode cX3_read 91 = .ok (.ifCond .eq 7, 3) := by decide +kernel
theorem dX3_read_94 : decode cX3_read 94 = .ok (.iconst 1, 1) := by decide +kernel
theorem dX3_read_95 : decode cX3_read 95 = .ok (.goto 4, 3) := by decide +kernel
theorem dX3_read_98 : decode cX3_read 98 = .ok (.iconst 0, 1) := by decide +kernel
theorem dX3_read_99 : decode cX3_read 99 = .ok (.istore_n 3, 1) := by decide +kernel
theorem dX3_read_100 : decode cX3_read 100 = .ok (.iinc 4 1, 3) := by decide +kernel
theorem dX3_read_103 : decode cX3_read 103 = .ok (.goto (-47), 3) := by decide +kernel
theorem dX3_read_106 : decode cX3_read 106 = .ok (.iload_n 3, 1) := by decide +kernel
theorem dX3_read_107 : decode cX3_read 107 = .ok (.ifCond .eq 17, 3) := by decide +kernel
theorem dX3_read_110 : decode cX3_read 110 = .ok (.aload_n 0, 1) := by decide +kernel
theorem dX3_read_111 : decode cX3_read 111 = .ok (.getfield 12, 3) := by decide +kernel
theorem dX3_read_114 : decode cX3_read 114 = .ok (.getfield 71, 3) := by decide +kernel
theorem dX3_read_117 : decode cX3_read 117 = .ok (.aload_n 0, 1) := by decide +kernel
theorem dX3_read_118 : decode cX3_read 118 = .ok (.getfield 35, 3) := by decide +kernel
theorem dX3_read_121 : decode cX3_read 121 = .ok (.invokevirtual 75, 3) := by decide +kernel
theorem dX3_read_124 : decode cX3_read 124 = .ok (.aload_n 0, 1) := by decide +kernel
theorem dX3_read_125 : decode cX3_read 125 = .ok (.getfield 22, 3) := by decide +kernel
theorem dX3_read_128 : decode cX3_read 128 = .ok (.ireturn, 1) := by decide +kernel
theorem dX3_header_0 : decode cX3_header 0 = .ok (.aload_n 0, 1) := by decide +kernel
theorem dX3_header_1 : decode cX3_header 1 = .ok (.getfield 28, 3) := by decide +kernel
theorem dX3_header_4 : decode cX3_header 4 = .ok (.ldc 81, 2) := by decide +kernel
theorem dX3_header_6 : decode cX3_header 6 = .ok (.invokevirtual 82, 3) := by decide +kernel
theorem dX3_header_9 : decode cX3_header 9 = .ok (.ifCond .ne 10, 3) := by decide +kernel
theorem dX3_header_12 : decode cX3_header 12 = .ok (.aload_n 0, 1) := by decide +kernel
theorem dX3_header_13 : decode cX3_header 13 = .ok (.bipush (-2), 2) := by decide +kernel
theorem dX3_header_15 : decode cX3_header 15 = .ok (.invokevirtual 86, 3) := by decide +kernel
theorem dX3_header_18 : decode cX3_header 18 = .ok (.ireturn, 1) := by decide +kernel
theorem dX3_header_19 : decode cX3_header 19 = .ok (.aload_n 0, 1) := by decide +kernel
theorem dX3_header_20 : decode cX3_header 20 = .ok (.getfield 28, 3) := by decide +kernel
theorem dX3_header_23 : decode cX3_header 23 = .ok (.invokevirtual 90, 3) := by decide +kernel
theorem dX3_header_26 : decode cX3_header 26 = .ok (.aload_n 0, 1) := by decide +kernel
theorem dX3_header_27 : decode cX3_header 27 = .ok (.iconst 1, 1) := by decide +kernel
theorem dX3_header_28 : decode cX3_header 28 = .ok (.bipush 10, 2) := by decide +kernel
theorem dX3_header_30 : decode cX3_header 30 = .ok (.invokevirtual 93, 3) := by decide +kernel
theorem dX3_header_33 : decode cX3_header 33 = .ok (.istore_n 1, 1) := by decide +kernel
theorem dX3_header_34 : decode cX3_header 34 = .ok (.iload_n 1, 1) := by decide +kernel
theorem dX3_header_35 : decode cX3_header 35 = .ok (.iconst (-1), 1) := by decide +kernel
theorem dX3_header_36 : decode cX3_header 36 = .ok (.if_icmp .ne 5, 3) := by decide +kernel
theorem dX3_header_39 : decode cX3_header 39 = .ok (.iconst 0, 1) := by decide +kernel
theorem dX3_header_40 : decode cX3_header 40 = .ok (.ireturn, 1) := by decide +kernel
theorem dX3_header_41 : decode cX3_header 41 = .ok (.aload_n 0, 1) := by decide +kernel
theorem dX3_header_42 : decode cX3_header 42 = .ok (.getfield 12, 3) := by decide +kernel
theorem dX3_header_45 : decode cX3_header 45 = .ok (.iload_n 1, 1) := by decide +kernel
theorem dX3_header_46 : decode cX3_header 46 = .ok (.putfield 97, 3) := by decide +kernel
theorem dX3_header_49 : decode cX3_header 49 = .ok (.aload_n 0, 1) := by decide +kernel
theorem dX3_header_50 : decode cX3_header 50 = .ok (.bipush 59, 2) := by decide +kernel
theorem dX3_header_52 : decode cX3_header 52 = .ok (.invokevirtual 67, 3) := by decide +kernel
theorem dX3_header_55 : decode cX3_header 55 = .ok (.ireturn, 1) := by decide +kernel
theorem dX3_statement_0 : decode cX3_statement 0 = .ok (.aload_n 0, 1) := by decide +kernel
theorem dX3_statement_1 : decode cX3_statement 1 = .ok (.getfield 28, 3) := by decide +kernel
theorem dX3_statement_4 : decode cX3_statement 4 = .ok (.ldc 100, 2) := by decide +kernel
theorem dX3_statement_6 : decode cX3_statement 6 = .ok (.invokevirtual 82, 3) := by decide +kernel
theorem dX3_statement_9 : decode cX3_statement 9 = .ok (.ifCond .eq 8, 3) := by decide +kernel
theorem dX3_statement_12 : decode cX3_statement 12 = .ok (.aload_n 0, 1) := by decide +kernel
theorem dX3_statement_13 : decode cX3_statement 13 = .ok (.invokevirtual 102, 3) := by decide +kernel
theorem dX3_statement_16 : decode cX3_statement 16 = .ok (.ireturn, 1) := by decide +kernel
theorem dX3_statement_17 : decode cX3_statement 17 = .ok (.aload_n 0, 1) := by decide +kernel
theorem dX3_statement_18 : decode cX3_statement 18 = .ok (.getfield 28, 3) := by decide +kernel
theorem dX3_statement_21 : decode cX3_statement 21 = .ok (.ldc 104, 2) := by decide +kernel
theorem dX3_statement_23 : decode cX3_statement 23 = .ok (.invokevirtual 82, 3) := by decide +kernel
theorem dX3_statement_26 : decode cX3_statement 26 = .ok (.ifCond .eq 8, 3) := by decide +kernel
theorem dX3_statement_29 : decode cX3_statement 29 = .ok (.aload_n 0, 1) := by decide +kernel
theorem dX3_statement_30 : decode cX3_statement 30 = .ok (.invokevirtual 106, 3) := by decide +kernel
theorem dX3_statement_33 : decode cX3_statement 33 = .ok (.ireturn, 1) := by decide +kernel
theorem dX3_statement_34 : decode cX3_statement 34 = .ok (.aload_n 0, 1) := by decide +kernel
theorem dX3_statement_35 : decode cX3_statement 35 = .ok (.getfield 28, 3) := by decide +kernel
theorem dX3_statement_38 : decode cX3_statement 38 = .ok (.ldc 108, 2) := by decide +kernel
theorem dX3_statement_40 : decode cX3_statement 40 = .ok (.invokevirtual 82, 3) := by decide +kernel
theorem dX3_statement_43 : decode cX3_statement 43 = .ok (.ifCond .eq 8, 3) := by decide +kernel
theorem dX3_statement_46 : decode cX3_statement 46 = .ok (.aload_n 0, 1) := by decide +kernel
theorem dX3_statement_47 : decode cX3_statement 47 = .ok (.invokevirtual 110, 3) := by decide +kernel
theorem dX3_statement_50 : decode cX3_statement 50 = .ok (.ireturn, 1) := by decide +kernel
theorem dX3_statement_51 : decode cX3_statement 51 = .ok (.aload_n 0, 1) := by decide +kernel
theorem dX3_statement_52 : decode cX3_statement 52 = .ok (.getfield 28, 3) := by decide +kernel
theorem dX3_statement_55 : decode cX3_statement 55 = .ok (.ldc 112, 2) := by decide +kernel
theorem dX3_statement_57 : decode cX3_statement 57 = .ok (.invokevirtual 82, 3) := by decide +kernel
theorem dX3_statement_60 : decode cX3_statement 60 = .ok (.ifCond .eq 53, 3) := by decide +kernel
theorem dX3_statement_63 : decode cX3_statement 63 = .ok (.aload_n 0, 1) := by decide +kernel
theorem dX3_statement_64 : decode cX3_statement 64 = .ok (.getfield 39, 3) := by decide +kernel
theorem dX3_statement_67 : decode cX3_statement 67 = .ok (.ifCond .ne 46, 3) := by decide +kernel
theorem dX3_statement_70 : decode cX3_statement 70 = .ok (.aload_n 0, 1) := by decide +kernel
theorem dX3_statement_71 : decode cX3_statement 71 = .ok (.iconst 1, 1) := by decide +kernel
theorem dX3_statement_72 : decode cX3_statement 72 = .ok (.putfield 39, 3) := by decide +kernel
theorem dX3_statement_75 : decode cX3_statement 75 = .ok (.aload_n 0, 1) := by decide +kernel
theorem dX3_statement_76 : decode cX3_statement 76 = .ok (.getfield 28, 3) := by decide +kernel
theorem dX3_statement_79 : decode cX3_statement 79 = .ok (.invokevirtual 90, 3) := by decide +kernel
theorem dX3_statement_82 : decode cX3_statement 82 = .ok (.aload_n 0, 1) := by decide +kernel
theorem dX3_statement_83 : decode cX3_statement 83 = .ok (.getfield 12, 3) := by decide +kernel
theorem dX3_statement_86 : decode cX3_statement 86 = .ok (.aload_n 0, 1) := by decide +kernel
theorem dX3_statement_87 : decode cX3_statement 87 = .ok (.iconst 0, 1) := by decide +kernel
theorem dX3_statement_88 : decode cX3_statement 88 = .ok (.bipush 9, 2) := by decide +kernel
theorem dX3_statement_90 : decode cX3_statement 90 = .ok (.invokevirtual 93, 3) := by decide +kernel
theorem dX3_statement_93 : decode cX3_statement 93 = .ok (.putfield 114, 3) := by decide +kernel
theorem dX3_statement_96 : decode cX3_statement 96 = .ok (.aload_n 0, 1) := by decide +kernel
theorem dX3_statement_97 : decode cX3_statement 97 = .ok (.getfield 12, 3) := by decide +kernel
theorem dX3_statement_100 : decode cX3_statement 100 = .ok (.getfield 114, 3) := by decide +kernel
theorem dX3_statement_103 : decode cX3_statement 103 = .ok (.iconst (-1), 1) := by decide +kernel
theorem dX3_statement_104 : decode cX3_statement 104 = .ok (.if_icmp .eq 7, 3) := by decide +kernel
theorem dX3_statement_107 : decode cX3_statement 107 = .ok (.iconst 1, 1) := by decide +kernel
theorem dX3_statement_108 : decode cX3_statement 108 = .ok (.goto 4, 3) := by decide +kernel
theorem dX3_statement_111 : decode cX3_statement 111 = .ok (.iconst 0, 1) := by decide +kernel
theorem dX3_statement_112 : decode cX3_statement 112 = .ok (.ireturn, 1) := by decide +kernel
theorem dX3_statement_113 : decode cX3_statement 113 = .ok (.aload_n 0, 1) := by decide +kernel
theorem dX3_statement_114 : decode cX3_statement 114 = .ok (.getfield 28, 3) := by decide +kernel
theorem dX3_statement_117 : decode cX3_statement 117 = .ok (.ldc 117, 2) := by decide +kernel
theorem dX3_statement_119 : decode cX3_statement 119 = .ok (.invokevirtual 82, 3) := by decide +kernel
theorem dX3_statement_122 : decode cX3_statement 122 = .ok (.ifCond .eq 54, 3) := by decide +kernel
theorem dX3_statement_125 : decode cX3_statement 125 = .ok (.aload_n 0, 1) := by decide +kernel
theorem dX3_statement_126 : decode cX3_statement 126 = .ok (.getfield 43, 3) := by decide +kernel
theorem dX3_statement_129 : decode cX3_statement 129 = .ok (.ifCond .ne 47, 3) := by decide +kernel
theorem dX3_statement_132 : decode cX3_statement 132 = .ok (.aload_n 0, 1) := by decide +kernel
theorem dX3_statement_133 : decode cX3_statement 133 = .ok (.iconst 1, 1) := by decide +kernel
theorem dX3_statement_134 : decode cX3_statement 134 = .ok (.putfield 43, 3) := by decide +kernel
theorem dX3_statement_137 : decode cX3_statement 137 = .ok (.aload_n 0, 1) := by decide +kernel
theorem dX3_statement_138 : decode cX3_statement 138 = .ok (.getfield 28, 3) := by decide +kernel
theorem dX3_statement_141 : decode cX3_statement 141 = .ok (.invokevirtual 90, 3) := by decide +kernel
theorem dX3_statement_144 : decode cX3_statement 144 = .ok (.aload_n 0, 1) := by decide +kernel
theorem dX3_statement_145 : decode cX3_statement 145 = .ok (.getfield 12, 3) := by decide +kernel
theorem dX3_statement_148 : decode cX3_statement 148 = .ok (.aload_n 0, 1) := by decide +kernel
theorem dX3_statement_149 : decode cX3_statement 149 = .ok (.iconst 0, 1) := by decide +kernel
theorem dX3_statement_150 : decode cX3_statement 150 = .ok (.sipush 600, 3) := by decide +kernel
theorem dX3_statement_153 : decode cX3_statement 153 = .ok (.invokevirtual 93, 3) := by decide +kernel
theorem dX3_statement_156 : decode cX3_statement 156 = .ok (.putfield 119, 3) := by decide +kernel
theorem dX3_statement_159 : decode cX3_statement 159 = .ok (.aload_n 0, 1) := by decide +kernel
theorem dX3_statement_160 : decode cX3_statement 160 = .ok (.getfield 12, 3) := by decide +kernel
theorem dX3_statement_163 : decode cX3_statement 163 = .ok (.getfield 119, 3) := by decide +kernel
theorem dX3_statement_166 : decode cX3_statement 166 = .ok (.iconst (-1), 1) := by decide +kernel
theorem dX3_statement_167 : decode cX3_statement 167 = .ok (.if_icmp .eq 7, 3) := by decide +kernel
theorem dX3_statement_170 : decode cX3_statement 170 = .ok (.iconst 1, 1) := by decide +kernel
theorem dX3_statement_171 : decode cX3_statement 171 = .ok (.goto 4, 3) := by decide +kernel
theorem dX3_statement_174 : decode cX3_statement 174 = .ok (.iconst 0, 1) := by decide +kernel
theorem dX3_statement_175 : decode cX3_statement 175 = .ok (.ireturn, 1) := by decide +kernel
theorem dX3_statement_176 : decode cX3_statement 176 = .ok (.aload_n 0, 1) := by decide +kernel
theorem dX3_statement_177 : decode cX3_statement 177 = .ok (.getfield 28, 3) := by decide +kernel
theorem dX3_statement_180 : decode cX3_statement 180 = .ok (.ldc 121, 2) := by decide +kernel
theorem dX3_statement_182 : decode cX3_statement 182 = .ok (.invokevirtual 82, 3) := by decide +kernel
theorem dX3_statement_185 : decode cX3_statement 185 = .ok (.ifCond .eq 28, 3) := by decide +kernel
theorem dX3_statement_188 : decode cX3_statement 188 = .ok (.aload_n 0, 1) := by decide +kernel
theorem dX3_statement_189 : decode cX3_statement 189 = .ok (.getfield 46, 3) := by decide +kernel
theorem dX3_statement_192 : decode cX3_statement 192 = .ok (.ifCond .ne 21, 3) := by decide +kernel
theorem dX3_statement_195 : decode cX3_statement 195 = .ok (.aload_n 0, 1) := by decide +kernel
theorem dX3_statement_196 : decode cX3_statement 196 = .ok (.iconst 1, 1) := by decide +kernel
theorem dX3_statement_197 : decode cX3_statement 197 = .ok (.putfield 46, 3) := by decide +kernel
theorem dX3_statement_200 : decode cX3_statement 200 = .ok (.aload_n 0, 1) := by decide +kernel
theorem dX3_statement_201 : decode cX3_statement 201 = .ok (.getfield 28, 3) := by decide +kernel
theorem dX3_statement_204 : decode cX3_statement 204 = .ok (.invokevirtual 90, 3) := by decide +kernel
theorem dX3_statement_207 : decode cX3_statement 207 = .ok (.aload_n 0, 1) := by decide +kernel
theorem dX3_statement_208 : decode cX3_statement 208 = .ok (.iconst 0, 1) := by decide +kernel
theorem dX3_statement_209 : decode cX3_statement 209 = .ok (.invokevirtual 122, 3) := by decide +kernel
theorem dX3_statement_212 : decode cX3_statement 212 = .ok (.ireturn, 1) := by decide +kernel
theorem dX3_statement_213 : decode cX3_statement 213 = .ok (.aload_n 0, 1) := by decide +kernel
theorem dX3_statement_214 : decode cX3_statement 214 = .ok (.bipush (-2), 2) := by decide +kernel
theorem dX3_statement_216 : decode cX3_statement 216 = .ok (.invokevirtual 86, 3) := by decide +kernel
theorem dX3_statement_219 : decode cX3_statement 219 = .ok (.ireturn, 1) := by decide +kernel
theorem dX3_street_0 : decode cX3_street 0 = .ok (.aload_n 0, 1) := by decide +kernel
theorem dX3_street_1 : decode cX3_street 1 = .ok (.getfield 12, 3) := by decide +kernel
theorem dX3_street_4 : decode cX3_street 4 = .ok (.getfield 125, 3) := by decide +kernel
theorem dX3_street_7 : decode cX3_street 7 = .ok (.getfield 129, 3) := by decide +kernel
theorem dX3_street_10 : decode cX3_street 10 = .ok (.bipush 12, 2) := by decide +kernel
theorem dX3_street_12 : decode cX3_street 12 = .ok (.if_icmp .lt 10, 3) := by decide +kernel
theorem dX3_street_15 : decode cX3_street 15 = .ok (.aload_n 0, 1) := by decide +kernel
theorem dX3_street_16 : decode cX3_street 16 = .ok (.bipush (-4), 2) := by decide +kernel
theorem dX3_street_18 : decode cX3_street 18 = .ok (.invokevirtual 86, 3) := by decide +kernel
theorem dX3_street_21 : decode cX3_street 21 = .ok (.ireturn, 1) := by decide +kernel
theorem dX3_street_22 : decode cX3_street 22 = .ok (.aload_n 0, 1) := by decide +kernel
theorem dX3_street_23 : decode cX3_street 23 = .ok (.getfield 28, 3) := by decide +kernel
theorem dX3_street_26 : decode cX3_street 26 = .ok (.invokevirtual 90, 3) := by decide +kernel
theorem dX3_street_29 : decode cX3_street 29 = .ok (.aload_n 0, 1) := by decide +kernel
theorem dX3_street_30 : decode cX3_street 30 = .ok (.iconst 0, 1) := by decide +kernel
theorem dX3_street_31 : decode cX3_street 31 = .ok (.aload_n 0, 1) := by decide +kernel
theorem dX3_street_32 : decode cX3_street 32 = .ok (.getfield 12, 3) := by decide +kernel
theorem dX3_street_35 : decode cX3_street 35 = .ok (.getfield 97, 3) := by decide +kernel
theorem dX3_street_38 : decode cX3_street 38 = .ok (.iconst 1, 1) := by decide +kernel
theorem dX3_street_39 : decode cX3_street 39 = .ok (.isub, 1) := by decide +kernel
theorem dX3_street_40 : decode cX3_street 40 = .ok (.invokevirtual 93, 3) := by decide +kernel
theorem dX3_street_43 : decode cX3_street 43 = .ok (.istore_n 1, 1) := by decide +kernel
theorem dX3_street_44 : decode cX3_street 44 = .ok (.iload_n 1, 1) := by decide +kernel
theorem dX3_street_45 : decode cX3_street 45 = .ok (.iconst (-1), 1) := by decide +kernel
theorem dX3_street_46 : decode cX3_street 46 = .ok (.if_icmp .ne 5, 3) := by decide +kernel
theorem dX3_street_49 : decode cX3_street 49 = .ok (.iconst 0, 1) := by decide +kernel
theorem dX3_street_50 : decode cX3_street 50 = .ok (.ireturn, 1) := by decide +kernel
theorem dX3_street_51 : decode cX3_street 51 = .ok (.aload_n 0, 1) := by decide +kernel
theorem dX3_street_52 : decode cX3_street 52 = .ok (.getfield 28, 3) := by decide +kernel
theorem dX3_street_55 : decode cX3_street 55 = .ok (.getfield 61, 3) := by decide +kernel
theorem dX3_street_58 : decode cX3_street 58 = .ok (.iconst 1, 1) := by decide +kernel
theorem dX3_street_59 : decode cX3_street 59 = .ok (.if_icmp .ne 21, 3) := by decide +kernel
theorem dX3_street_62 : decode cX3_street 62 = .ok (.aload_n 0, 1) := by decide +kernel
theorem dX3_street_63 : decode cX3_street 63 = .ok (.getfield 28, 3) := by decide +kernel
theorem dX3_street_66 : decode cX3_street 66 = .ok (.getfield 134, 3) := by decide +kernel
theorem dX3_street_69 : decode cX3_street 69 = .ok (.iload_n 1, 1) := by decide +kernel
theorem dX3_street_70 : decode cX3_street 70 = .ok (.if_icmp .ne 10, 3) := by decide +kernel
theorem dX3_street_73 : decode cX3_street 73 = .ok (.aload_n 0, 1) := by decide +kernel
theorem dX3_street_74 : decode cX3_street 74 = .ok (.bipush (-3), 2) := by decide +kernel
theorem dX3_street_76 : decode cX3_street 76 = .ok (.invokevirtual 86, 3) := by decide +kernel
theorem dX3_street_79 : decode cX3_street 79 = .ok (.ireturn, 1) := by decide +kernel
theorem dX3_street_80 : decode cX3_street 80 = .ok (.aload_n 0, 1) := by decide +kernel
theorem dX3_street_81 : decode cX3_street 81 = .ok (.iconst 0, 1) := by decide +kernel
theorem dX3_street_82 : decode cX3_street 82 = .ok (.aload_n 0, 1) := by decide +kernel
theorem dX3_street_83 : decode cX3_street 83 = .ok (.getfield 12, 3) := by decide +kernel
theorem dX3_street_86 : decode cX3_street 86 = .ok (.getfield 97, 3) := by decide +kernel
theorem dX3_street_89 : decode cX3_street 89 = .ok (.iconst 1, 1) := by decide +kernel
theorem dX3_street_90 : decode cX3_street 90 = .ok (.isub, 1) := by decide +kernel
theorem dX3_street_91 : decode cX3_street 91 = .ok (.invokevirtual 93, 3) := by decide +kernel
theorem dX3_street_94 : decode cX3_street 94 = .ok (.istore_n 2, 1) := by decide +kernel
theorem dX3_street_95 : decode cX3_street 95 = .ok (.iload_n 2, 1) := by decide +kernel
theorem dX3_street_96 : decode cX3_street 96 = .ok (.iconst (-1), 1) := by decide +kernel
theorem dX3_street_97 : decode cX3_street 97 = .ok (.if_icmp .ne 7, 3) := by decide +kernel
theorem dX3_street_100 : decode cX3_street 100 = .ok (.iconst (-1), 1) := by decide +kernel
theorem dX3_street_101 : decode cX3_street 101 = .ok (.goto 10, 3) := by decide +kernel
theorem dX3_street_104 : decode cX3_street 104 = .ok (.aload_n 0, 1) := by decide +kernel
theorem dX3_street_105 : decode cX3_street 105 = .ok (.iconst 1, 1) := by decide +kernel
theorem dX3_street_106 : decode cX3_street 106 = .ok (.bipush 99, 2) := by decide +kernel
theorem dX3_street_108 : decode cX3_street 108 = .ok (.invokevirtual 93, 3) := by decide +kernel
theorem dX3_street_111 : decode cX3_street 111 = .ok (.istore_n 3, 1) := by decide +kernel
theorem dX3_street_112 : decode cX3_street 112 = .ok (.iload_n 3, 1) := by decide +kernel
theorem dX3_street_113 : decode cX3_street 113 = .ok (.iconst (-1), 1) := by decide +kernel
theorem dX3_street_114 : decode cX3_street 114 = .ok (.if_icmp .ne 5, 3) := by decide +kernel
theorem dX3_street_117 : decode cX3_street 117 = .ok (.iconst 0, 1) := by decide +kernel
theorem dX3_street_118 : decode cX3_street 118 = .ok (.ireturn, 1) := by decide +kernel
theorem dX3_street_119 : decode cX3_street 119 = .ok (.aload_n 0, 1) := by decide +kernel
theorem dX3_street_120 : decode cX3_street 120 = .ok (.getfield 12, 3) := by decide +kernel
theorem dX3_street_123 : decode cX3_street 123 = .ok (.getfield 125, 3) := by decide +kernel
theorem dX3_street_126 : decode cX3_street 126 = .ok (.iload_n 1, 1) := by decide +kernel
theorem dX3_street_127 : decode cX3_street 127 = .ok (.iload_n 2, 1) := by decide +kernel
theorem dX3_street_128 : decode cX3_street 128 = .ok (.iload_n 3, 1) := by decide +kernel
theorem dX3_street_129 : decode cX3_street 129 = .ok (.invokevirtual 137, 3) := by decide +kernel
theorem dX3_street_132 : decode cX3_street 132 = .ok (.iconst 1, 1) := by decide +kernel
theorem dX3_street_133 : decode cX3_street 133 = .ok (.ireturn, 1) := by decide +kernel
theorem dX3_house_0 : decode cX3_house 0 = .ok (.aload_n 0, 1) := by decide +kernel
theorem dX3_house_1 : decode cX3_house 1 = .ok (.getfield 12, 3) := by decide +kernel
theorem dX3_house_4 : decode cX3_house 4 = .ok (.getfield 71, 3) := by decide +kernel
theorem dX3_house_7 : decode cX3_house 7 = .ok (.astore_n 1, 1) := by decide +kernel
theorem dX3_house_8 : decode cX3_house 8 = .ok (.aload_n 1, 1) := by decide +kernel
theorem dX3_house_9 : decode cX3_house 9 = .ok (.getfield 141, 3) := by decide +kernel
theorem dX3_house_12 : decode cX3_house 12 = .ok (.istore_n 2, 1) := by decide +kernel
theorem dX3_house_13 : decode cX3_house 13 = .ok (.iload_n 2, 1) := by decide +kernel
theorem dX3_house_14 : decode cX3_house 14 = .ok (.bipush 16, 2) := by decide +kernel
theorem dX3_house_16 : decode cX3_house 16 = .ok (.if_icmp .lt 10, 3) := by decide +kernel
theorem dX3_house_19 : decode cX3_house 19 = .ok (.aload_n 0, 1) := by decide +kernel
theorem dX3_house_20 : decode cX3_house 20 = .ok (.bipush (-4), 2) := by decide +kernel
theorem dX3_house_22 : decode cX3_house 22 = .ok (.invokevirtual 86, 3) := by decide +kernel
theorem dX3_house_25 : decode cX3_house 25 = .ok (.ireturn, 1) := by decide +kernel
theorem dX3_house_26 : decode cX3_house 26 = .ok (.aload_n 0, 1) := by decide +kernel
theorem dX3_house_27 : decode cX3_house 27 = .ok (.getfield 28, 3) := by decide +kernel
theorem dX3_house_30 : decode cX3_house 30 = .ok (.invokevirtual 90, 3) := by decide +kernel
theorem dX3_house_33 : decode cX3_house 33 = .ok (.aload_n 0, 1) := by decide +kernel
theorem dX3_house_34 : decode cX3_house 34 = .ok (.iconst 0, 1) := by decide +kernel
theorem dX3_house_35 : decode cX3_house 35 = .ok (.aload_n 0, 1) := by decide +kernel
theorem dX3_house_36 : decode cX3_house 36 = .ok (.getfield 12, 3) := by decide +kernel
theorem dX3_house_39 : decode cX3_house 39 = .ok (.getfield 125, 3) := by decide +kernel
theorem dX3_house_42 : decode cX3_house 42 = .ok (.getfield 129, 3) := by decide +kernel
theorem dX3_house_45 : decode cX3_house 45 = .ok (.iconst 1, 1) := by decide +kernel
theorem dX3_house_46 : decode cX3_house 46 = .ok (.isub, 1) := by decide +kernel
theorem dX3_house_47 : decode cX3_house 47 = .ok (.invokevirtual 93, 3) := by decide +kernel
theorem dX3_house_50 : decode cX3_house 50 = .ok (.istore_n 3, 1) := by decide +kernel
theorem dX3_house_51 : decode cX3_house 51 = .ok (.aload_n 0, 1) := by decide +kernel
theorem dX3_house_52 : decode cX3_house 52 = .ok (.getfield 12, 3) := by decide +kernel
theorem dX3_house_55 : decode cX3_house 55 = .ok (.getfield 125, 3) := by decide +kernel
theorem dX3_house_58 : decode cX3_house 58 = .ok (.iload_n 3, 1) := by decide +kernel
theorem dX3_house_59 : decode cX3_house 59 = .ok (.invokevirtual 142, 3) := by decide +kernel
theorem dX3_house_62 : decode cX3_house 62 = .ok (.ifCond .ne 5, 3) := by decide +kernel
theorem dX3_house_65 : decode cX3_house 65 = .ok (.iconst 0, 1) := by decide +kernel
theorem dX3_house_66 : decode cX3_house 66 = .ok (.ireturn, 1) := by decide +kernel
theorem dX3_house_67 : decode cX3_house 67 = .ok (.aload_n 0, 1) := by decide +kernel
theorem dX3_house_68 : decode cX3_house 68 = .ok (.iconst 0, 1) := by decide +kernel
theorem dX3_house_69 : decode cX3_house 69 = .ok (.aload_n 0, 1) := by decide +kernel
theorem dX3_house_70 : decode cX3_house 70 = .ok (.getfield 12, 3) := by decide +kernel
theorem dX3_house_73 : decode cX3_house 73 = .ok (.getfield 125, 3) := by decide +kernel
theorem dX3_house_76 : decode cX3_house 76 = .ok (.getfield 145, 3) := by decide +kernel
theorem dX3_house_79 : decode cX3_house 79 = .ok (.iload_n 3, 1) := by decide +kernel
theorem dX3_house_80 : decode cX3_house 80 = .ok (.iaload, 1) := by decide +kernel
theorem dX3_house_81 : decode cX3_house 81 = .ok (.invokevirtual 93, 3) := by decide +kernel
theorem dX3_house_84 : decode cX3_house 84 = .ok (.istore 4, 2) := by decide +kernel
theorem dX3_house_86 : decode cX3_house 86 = .ok (.iload 4, 2) := by decide +kernel
theorem dX3_house_88 : decode cX3_house 88 = .ok (.iconst (-1), 1) := by decide +kernel
theorem dX3_house_89 : decode cX3_house 89 = .ok (.if_icmp .ne 7, 3) := by decide +kernel
theorem dX3_house_92 : decode cX3_house 92 = .ok (.iconst (-1), 1) := by decide +kernel
theorem dX3_house_93 : decode cX3_house 93 = .ok (.goto 9, 3) := by decide +kernel
theorem dX3_house_96 : decode cX3_house 96 = .ok (.aload_n 0, 1) := by decide +kernel
theorem dX3_house_97 : decode cX3_house 97 = .ok (.iconst 0, 1) := by decide +kernel
theorem dX3_house_98 : decode cX3_house 98 = .ok (.iconst 1, 1) := by decide +kernel
theorem dX3_house_99 : decode cX3_house 99 = .ok (.invokevirtual 93, 3) := by decide +kernel
theorem dX3_house_102 : decode cX3_house 102 = .ok (.istore 5, 2) := by decide +kernel
theorem dX3_house_104 : decode cX3_house 104 = .ok (.iload 5, 2) := by decide +kernel
theorem dX3_house_106 : decode cX3_house 106 = .ok (.iconst (-1), 1) := by decide +kernel
theorem dX3_house_107 : decode cX3_house 107 = .ok (.if_icmp .ne 7, 3) := by decide +kernel
theorem dX3_house_110 : decode cX3_house 110 = .ok (.iconst (-1), 1) := by decide +kernel
theorem dX3_house_111 : decode cX3_house 111 = .ok (.goto 10, 3) := by decide +kernel
theorem dX3_house_114 : decode cX3_house 114 = .ok (.aload_n 0, 1) := by decide +kernel
theorem dX3_house_115 : decode cX3_house 115 = .ok (.iconst 0, 1) := by decide +kernel
theorem dX3_house_116 : decode cX3_house 116 = .ok (.bipush 20, 2) := by decide +kernel
theorem dX3_house_118 : decode cX3_house 118 = .ok (.invokevirtual 93, 3) := by decide +kernel
theorem dX3_house_121 : decode cX3_house 121 = .ok (.istore 6, 2) := by decide +kernel
theorem dX3_house_123 : decode cX3_house 123 = .ok (.iload 6, 2) := by decide +kernel
theorem dX3_house_125 : decode cX3_house 125 = .ok (.iconst (-1), 1) := by decide +kernel
theorem dX3_house_126 : decode cX3_house 126 = .ok (.if_icmp .ne 7, 3) := by decide +kernel
theorem dX3_house_129 : decode cX3_house 129 = .ok (.iconst (-1), 1) := by decide +kernel
theorem dX3_house_130 : decode cX3_house 130 = .ok (.goto 11, 3) := by decide +kernel
theorem dX3_house_133 : decode cX3_house 133 = .ok (.aload_n 0, 1) := by decide +kernel
theorem dX3_house_134 : decode cX3_house 134 = .ok (.iconst 0, 1) := by decide +kernel
theorem dX3_house_135 : decode cX3_house 135 = .ok (.sipush 1439, 3) := by decide +kernel
theorem dX3_house_138 : decode cX3_house 138 = .ok (.invokevirtual 93, 3) := by decide +kernel
theorem dX3_house_141 : decode cX3_house 141 = .ok (.istore 7, 2) := by decide +kernel
theorem dX3_house_143 : decode cX3_house 143 = .ok (.iload 7, 2) := by decide +kernel
theorem dX3_house_145 : decode cX3_house 145 = .ok (.iconst (-1), 1) := by decide +kernel
theorem dX3_house_146 : decode cX3_house 146 = .ok (.if_icmp .ne 7, 3) := by decide +kernel
theorem dX3_house_149 : decode cX3_house 149 = .ok (.iconst (-1), 1) := by decide +kernel
theorem dX3_house_150 : decode cX3_house 150 = .ok (.goto 14, 3) := by decide +kernel
theorem dX3_house_153 : decode cX3_house 153 = .ok (.aload_n 0, 1) := by decide +kernel
theorem dX3_house_154 : decode cX3_house 154 = .ok (.iload 7, 2) := by decide +kernel
theorem dX3_house_156 : decode cX3_house 156 = .ok (.iconst 1, 1) := by decide +kernel
theorem dX3_house_157 : decode cX3_house 157 = .ok (.iadd, 1) := by decide +kernel
theorem dX3_house_158 : decode cX3_house 158 = .ok (.sipush 1440, 3) := by decide +kernel
theorem dX3_house_161 : decode cX3_house 161 = .ok (.invokevirtual 93, 3) := by decide +kernel
theorem dX3_house_164 : decode cX3_house 164 = .ok (.istore 8, 2) := by decide +kernel
theorem dX3_house_166 : decode cX3_house 166 = .ok (.iload 8, 2) := by decide +kernel
theorem dX3_house_168 : decode cX3_house 168 = .ok (.iconst (-1), 1) := by decide +kernel
theorem dX3_house_169 : decode cX3_house 169 = .ok (.if_icmp .ne 5, 3) := by decide +kernel
theorem dX3_house_172 : decode cX3_house 172 = .ok (.iconst 0, 1) := by decide +kernel
theorem dX3_house_173 : decode cX3_house 173 = .ok (.ireturn, 1) := by decide +kernel
theorem dX3_house_174 : decode cX3_house 174 = .ok (.aload_n 1, 1) := by decide +kernel
theorem dX3_house_175 : decode cX3_house 175 = .ok (.getfield 149, 3) := by decide +kernel
theorem dX3_house_178 : decode cX3_house 178 = .ok (.iload_n 2, 1) := by decide +kernel
theorem dX3_house_179 : decode cX3_house 179 = .ok (.iload_n 3, 1) := by decide +kernel
theorem dX3_house_180 : decode cX3_house 180 = .ok (.iastore, 1) := by decide +kernel
theorem dX3_house_181 : decode cX3_house 181 = .ok (.aload_n 1, 1) := by decide +kernel
theorem dX3_house_182 : decode cX3_house 182 = .ok (.getfield 151, 3) := by decide +kernel
theorem dX3_house_185 : decode cX3_house 185 = .ok (.iload_n 2, 1) := by decide +kernel
theorem dX3_house_186 : decode cX3_house 186 = .ok (.iload 4, 2) := by decide +kernel
theorem dX3_house_188 : decode cX3_house 188 = .ok (.iastore, 1) := by decide +kernel
theorem dX3_house_189 : decode cX3_house 189 = .ok (.aload_n 1, 1) := by decide +kernel
theorem dX3_house_190 : decode cX3_house 190 = .ok (.getfield 154, 3) := by decide +kernel
theorem dX3_house_193 : decode cX3_house 193 = .ok (.iload_n 2, 1) := by decide +kernel
theorem dX3_house_194 : decode cX3_house 194 = .ok (.iload 5, 2) := by decide +kernel
theorem dX3_house_196 : decode cX3_house 196 = .ok (.iastore, 1) := by decide +kernel
theorem dX3_house_197 : decode cX3_house 197 = .ok (.aload_n 1, 1) := by decide +kernel
theorem dX3_house_198 : decode cX3_house 198 = .ok (.getfield 157, 3) := by decide +kernel
theorem dX3_house_201 : decode cX3_house 201 = .ok (.iload_n 2, 1) := by decide +kernel
theorem dX3_house_202 : decode cX3_house 202 = .ok (.iload 6, 2) := by decide +kernel
theorem dX3_house_204 : decode cX3_house 204 = .ok (.iastore, 1) := by decide +kernel
theorem dX3_house_205 : decode cX3_house 205 = .ok (.aload_n 1, 1) := by decide +kernel
theorem dX3_house_206 : decode cX3_house 206 = .ok (.getfield 160, 3) := by decide +kernel
theorem dX3_house_209 : decode cX3_house 209 = .ok (.iload_n 2, 1) := by decide +kernel
theorem dX3_house_210 : decode cX3_house 210 = .ok (.iload 7, 2) := by decide +kernel
theorem dX3_house_212 : decode cX3_house 212 = .ok (.iastore, 1) := by decide +kernel
theorem dX3_house_213 : decode cX3_house 213 = .ok (.aload_n 1, 1) := by decide +kernel
theorem dX3_house_214 : decode cX3_house 214 = .ok (.getfield 163, 3) := by decide +kernel
theorem dX3_house_217 : decode cX3_house 217 = .ok (.iload_n 2, 1) := by decide +kernel
theorem dX3_house_218 : decode cX3_house 218 = .ok (.iload 8, 2) := by decide +kernel
theorem dX3_house_220 : decode cX3_house 220 = .ok (.iastore, 1) := by decide +kernel
theorem dX3_house_221 : decode cX3_house 221 = .ok (.aload_n 1, 1) := by decide +kernel
theorem dX3_house_222 : decode cX3_house 222 = .ok (.getfield 166, 3) := by decide +kernel
theorem dX3_house_225 : decode cX3_house 225 = .ok (.iload_n 2, 1) := by decide +kernel
theorem dX3_house_226 : decode cX3_house 226 = .ok (.aload_n 0, 1) := by decide +kernel
theorem dX3_house_227 : decode cX3_house 227 = .ok (.getfield 28, 3) := by decide +kernel
theorem dX3_house_230 : decode cX3_house 230 = .ok (.ldc 170, 2) := by decide +kernel
theorem dX3_house_232 : decode cX3_house 232 = .ok (.invokevirtual 82, 3) := by decide +kernel
theorem dX3_house_235 : decode cX3_house 235 = .ok (.bastore, 1) := by decide +kernel
theorem dX3_house_236 : decode cX3_house 236 = .ok (.aload_n 1, 1) := by decide +kernel
theorem dX3_house_237 : decode cX3_house 237 = .ok (.iload_n 2, 1) := by decide +kernel
theorem dX3_house_238 : decode cX3_house 238 = .ok (.iconst 1, 1) := by decide +kernel
theorem dX3_house_239 : decode cX3_house 239 = .ok (.iadd, 1) := by decide +kernel
theorem dX3_house_240 : decode cX3_house 240 = .ok (.putfield 141, 3) := by decide +kernel
theorem dX3_house_243 : decode cX3_house 243 = .ok (.aload_n 1, 1) := by decide +kernel
theorem dX3_house_244 : decode cX3_house 244 = .ok (.getfield 166, 3) := by decide +kernel
theorem dX3_house_247 : decode cX3_house 247 = .ok (.iload_n 2, 1) := by decide +kernel
theorem dX3_house_248 : decode cX3_house 248 = .ok (.baload, 1) := by decide +kernel
theorem dX3_house_249 : decode cX3_house 249 = .ok (.ifCond .eq 10, 3) := by decide +kernel
theorem dX3_house_252 : decode cX3_house 252 = .ok (.aload_n 0, 1) := by decide +kernel
theorem dX3_house_253 : decode cX3_house 253 = .ok (.getfield 28, 3) := by decide +kernel
theorem dX3_house_256 : decode cX3_house 256 = .ok (.invokevirtual 90, 3) := by decide +kernel
theorem dX3_house_259 : decode cX3_house 259 = .ok (.iconst 1, 1) := by decide +kernel
theorem dX3_house_260 : decode cX3_house 260 = .ok (.ireturn, 1) := by decide +kernel
theorem dX3_walker_0 : decode cX3_walker 0 = .ok (.aload_n 0, 1) := by decide +kernel
theorem dX3_walker_1 : decode cX3_walker 1 = .ok (.getfield 12, 3) := by decide +kernel
theorem dX3_walker_4 : decode cX3_walker 4 = .ok (.getfield 171, 3) := by decide +kernel
theorem dX3_walker_7 : decode cX3_walker 7 = .ok (.getfield 175, 3) := by decide +kernel
theorem dX3_walker_10 : decode cX3_walker 10 = .ok (.iconst 3, 1) := by decide +kernel
theorem dX3_walker_11 : decode cX3_walker 11 = .ok (.if_icmp .lt 10, 3) := by decide +kernel
theorem dX3_walker_14 : decode cX3_walker 14 = .ok (.aload_n 0, 1) := by decide +kernel
theorem dX3_walker_15 : decode cX3_walker 15 = .ok (.bipush (-4), 2) := by decide +kernel
theorem dX3_walker_17 : decode cX3_walker 17 = .ok (.invokevirtual 86, 3) := by decide +kernel
theorem dX3_walker_20 : decode cX3_walker 20 = .ok (.ireturn, 1) := by decide +kernel
theorem dX3_walker_21 : decode cX3_walker 21 = .ok (.aload_n 0, 1) := by decide +kernel
theorem dX3_walker_22 : decode cX3_walker 22 = .ok (.getfield 28, 3) := by decide +kernel
theorem dX3_walker_25 : decode cX3_walker 25 = .ok (.invokevirtual 90, 3) := by decide +kernel
theorem dX3_walker_28 : decode cX3_walker 28 = .ok (.aload_n 0, 1) := by decide +kernel
theorem dX3_walker_29 : decode cX3_walker 29 = .ok (.iconst 0, 1) := by decide +kernel
theorem dX3_walker_30 : decode cX3_walker 30 = .ok (.aload_n 0, 1) := by decide +kernel
theorem dX3_walker_31 : decode cX3_walker 31 = .ok (.getfield 12, 3) := by decide +kernel
theorem dX3_walker_34 : decode cX3_walker 34 = .ok (.getfield 97, 3) := by decide +kernel
theorem dX3_walker_37 : decode cX3_walker 37 = .ok (.iconst 1, 1) := by decide +kernel
theorem dX3_walker_38 : decode cX3_walker 38 = .ok (.isub, 1) := by decide +kernel
theorem dX3_walker_39 : decode cX3_walker 39 = .ok (.invokevirtual 93, 3) := by decide +kernel
theorem dX3_walker_42 : decode cX3_walker 42 = .ok (.istore_n 1, 1) := by decide +kernel
theorem dX3_walker_43 : decode cX3_walker 43 = .ok (.iload_n 1, 1) := by decide +kernel
theorem dX3_walker_44 : decode cX3_walker 44 = .ok (.iconst (-1), 1) := by decide +kernel
theorem dX3_walker_45 : decode cX3_walker 45 = .ok (.if_icmp .ne 7, 3) := by decide +kernel
theorem dX3_walker_48 : decode cX3_walker 48 = .ok (.iconst (-1), 1) := by decide +kernel
theorem dX3_walker_49 : decode cX3_walker 49 = .ok (.goto 11, 3) := by decide +kernel
theorem dX3_walker_52 : decode cX3_walker 52 = .ok (.aload_n 0, 1) := by decide +kernel
theorem dX3_walker_53 : decode cX3_walker 53 = .ok (.iconst 0, 1) := by decide +kernel
theorem dX3_walker_54 : decode cX3_walker 54 = .ok (.sipush 1440, 3) := by decide +kernel
theorem dX3_walker_57 : decode cX3_walker 57 = .ok (.invokevirtual 93, 3) := by decide +kernel
theorem dX3_walker_60 : decode cX3_walker 60 = .ok (.istore_n 2, 1) := by decide +kernel
theorem dX3_walker_61 : decode cX3_walker 61 = .ok (.iload_n 2, 1) := by decide +kernel
theorem dX3_walker_62 : decode cX3_walker 62 = .ok (.iconst (-1), 1) := by decide +kernel
theorem dX3_walker_63 : decode cX3_walker 63 = .ok (.if_icmp .ne 5, 3) := by decide +kernel
theorem dX3_walker_66 : decode cX3_walker 66 = .ok (.iconst 0, 1) := by decide +kernel
theorem dX3_walker_67 : decode cX3_walker 67 = .ok (.ireturn, 1) := by decide +kernel
theorem dX3_walker_68 : decode cX3_walker 68 = .ok (.aload_n 0, 1) := by decide +kernel
theorem dX3_walker_69 : decode cX3_walker 69 = .ok (.getfield 12, 3) := by decide +kernel
theorem dX3_walker_72 : decode cX3_walker 72 = .ok (.getfield 171, 3) := by decide +kernel
theorem dX3_walker_75 : decode cX3_walker 75 = .ok (.iload_n 1, 1) := by decide +kernel
theorem dX3_walker_76 : decode cX3_walker 76 = .ok (.iload_n 2, 1) := by decide +kernel
theorem dX3_walker_77 : decode cX3_walker 77 = .ok (.invokevirtual 178, 3) := by decide +kernel
theorem dX3_walker_80 : decode cX3_walker 80 = .ok (.iconst 1, 1) := by decide +kernel
theorem dX3_walker_81 : decode cX3_walker 81 = .ok (.ireturn, 1) := by decide +kernel
theorem dX3_sum_0 : decode cX3_sum 0 = .ok (.aload_n 0, 1) := by decide +kernel
theorem dX3_sum_1 : decode cX3_sum 1 = .ok (.iload_n 1, 1) := by decide +kernel
theorem dX3_sum_2 : decode cX3_sum 2 = .ok (.invokevirtual 181, 3) := by decide +kernel
theorem dX3_sum_5 : decode cX3_sum 5 = .ok (.ifCond .ne 5, 3) := by decide +kernel
theorem dX3_sum_8 : decode cX3_sum 8 = .ok (.iconst 0, 1) := by decide +kernel
theorem dX3_sum_9 : decode cX3_sum 9 = .ok (.ireturn, 1) := by decide +kernel
theorem dX3_sum_10 : decode cX3_sum 10 = .ok (.iconst 0, 1) := by decide +kernel
theorem dX3_sum_11 : decode cX3_sum 11 = .ok (.istore_n 2, 1) := by decide +kernel
theorem dX3_sum_12 : decode cX3_sum 12 = .ok (.iload_n 2, 1) := by decide +kernel
theorem dX3_sum_13 : decode cX3_sum 13 = .ok (.sipush 900, 3) := by decide +kernel
theorem dX3_sum_16 : decode cX3_sum 16 = .ok (.if_icmp .ge 78, 3) := by decide +kernel
theorem dX3_sum_19 : decode cX3_sum 19 = .ok (.aload_n 0, 1) := by decide +kernel
theorem dX3_sum_20 : decode cX3_sum 20 = .ok (.getfield 28, 3) := by decide +kernel
theorem dX3_sum_23 : decode cX3_sum 23 = .ok (.bipush 43, 2) := by decide +kernel
theorem dX3_sum_25 : decode cX3_sum 25 = .ok (.invokevirtual 184, 3) := by decide +kernel
theorem dX3_sum_28 : decode cX3_sum 28 = .ok (.ifCond .ne 15, 3) := by decide +kernel
theorem dX3_sum_31 : decode cX3_sum 31 = .ok (.aload_n 0, 1) := by decide +kernel
theorem dX3_sum_32 : decode cX3_sum 32 = .ok (.getfield 28, 3) := by decide +kernel
theorem dX3_sum_35 : decode cX3_sum 35 = .ok (.bipush 45, 2) := by decide +kernel
theorem dX3_sum_37 : decode cX3_sum 37 = .ok (.invokevirtual 184, 3) := by decide +kernel
theorem dX3_sum_40 : decode cX3_sum 40 = .ok (.ifCond .eq 54, 3) := by decide +kernel
theorem dX3_sum_43 : decode cX3_sum 43 = .ok (.aload_n 0, 1) := by decide +kernel
theorem dX3_sum_44 : decode cX3_sum 44 = .ok (.getfield 28, 3) := by decide +kernel
theorem dX3_sum_47 : decode cX3_sum 47 = .ok (.bipush 43, 2) := by decide +kernel
theorem dX3_sum_49 : decode cX3_sum 49 = .ok (.invokevirtual 184, 3) := by decide +kernel
theorem dX3_sum_52 : decode cX3_sum 52 = .ok (.ifCond .eq 8, 3) := by decide +kernel
theorem dX3_sum_55 : decode cX3_sum 55 = .ok (.bipush (-4), 2) := by decide +kernel
theorem dX3_sum_57 : decode cX3_sum 57 = .ok (.goto 5, 3) := by decide +kernel
theorem dX3_sum_60 : decode cX3_sum 60 = .ok (.bipush (-5), 2) := by decide +kernel
theorem dX3_sum_62 : decode cX3_sum 62 = .ok (.istore_n 3, 1) := by decide +kernel
theorem dX3_sum_63 : decode cX3_sum 63 = .ok (.aload_n 0, 1) := by decide +kernel
theorem dX3_sum_64 : decode cX3_sum 64 = .ok (.getfield 28, 3) := by decide +kernel
theorem dX3_sum_67 : decode cX3_sum 67 = .ok (.invokevirtual 90, 3) := by decide +kernel
theorem dX3_sum_70 : decode cX3_sum 70 = .ok (.aload_n 0, 1) := by decide +kernel
theorem dX3_sum_71 : decode cX3_sum 71 = .ok (.iload_n 1, 1) := by decide +kernel
theorem dX3_sum_72 : decode cX3_sum 72 = .ok (.invokevirtual 181, 3) := by decide +kernel
theorem dX3_sum_75 : decode cX3_sum 75 = .ok (.ifCond .ne 5, 3) := by decide +kernel
theorem dX3_sum_78 : decode cX3_sum 78 = .ok (.iconst 0, 1) := by decide +kernel
theorem dX3_sum_79 : decode cX3_sum 79 = .ok (.ireturn, 1) := by decide +kernel
theorem dX3_sum_80 : decode cX3_sum 80 = .ok (.aload_n 0, 1) := by decide +kernel
theorem dX3_sum_81 : decode cX3_sum 81 = .ok (.getfield 35, 3) := by decide +kernel
theorem dX3_sum_84 : decode cX3_sum 84 = .ok (.iload_n 3, 1) := by decide +kernel
theorem dX3_sum_85 : decode cX3_sum 85 = .ok (.invokevirtual 187, 3) := by decide +kernel
theorem dX3_sum_88 : decode cX3_sum 88 = .ok (.iinc 2 1, 3) := by decide +kernel
theorem dX3_sum_91 : decode cX3_sum 91 = .ok (.goto (-79), 3) := by decide +kernel
theorem dX3_sum_94 : decode cX3_sum 94 = .ok (.iconst 1, 1) := by decide +kernel
theorem dX3_sum_95 : decode cX3_sum 95 = .ok (.ireturn, 1) := by decide +kernel
theorem dX3_term_0 : decode cX3_term 0 = .ok (.aload_n 0, 1) := by decide +kernel
theorem dX3_term_1 : decode cX3_term 1 = .ok (.iload_n 1, 1) := by decide +kernel
theorem dX3_term_2 : decode cX3_term 2 = .ok (.invokevirtual 190, 3) := by decide +kernel
theorem dX3_term_5 : decode cX3_term 5 = .ok (.ifCond .ne 5, 3) := by decide +kernel
theorem dX3_term_8 : decode cX3_term 8 = .ok (.iconst 0, 1) := by decide +kernel
theorem dX3_term_9 : decode cX3_term 9 = .ok (.ireturn, 1) := by decide +kernel
theorem dX3_term_10 : decode cX3_term 10 = .ok (.iconst 0, 1) := by decide +kernel
theorem dX3_term_11 : decode cX3_term 11 = .ok (.istore_n 2, 1) := by decide +kernel
theorem dX3_term_12 : decode cX3_term 12 = .ok (.iload_n 2, 1) := by decide +kernel
theorem dX3_term_13 : decode cX3_term 13 = .ok (.sipush 900, 3) := by decide +kernel
theorem dX3_term_16 : decode cX3_term 16 = .ok (.if_icmp .ge 78, 3) := by decide +kernel
theorem dX3_term_19 : decode cX3_term 19 = .ok (.aload_n 0, 1) := by decide +kernel
theorem dX3_term_20 : decode cX3_term 20 = .ok (.getfield 28, 3) := by decide +kernel
theorem dX3_term_23 : decode cX3_term 23 = .ok (.bipush 42, 2) := by decide +kernel
theorem dX3_term_25 : decode cX3_term 25 = .ok (.invokevirtual 184, 3) := by decide +kernel
theorem dX3_term_28 : decode cX3_term 28 = .ok (.ifCond .ne 15, 3) := by decide +kernel
theorem dX3_term_31 : decode cX3_term 31 = .ok (.aload_n 0, 1) := by decide +kernel
theorem dX3_term_32 : decode cX3_term 32 = .ok (.getfield 28, 3) := by decide +kernel
theorem dX3_term_35 : decode cX3_term 35 = .ok (.bipush 47, 2) := by decide +kernel
theorem dX3_term_37 : decode cX3_term 37 = .ok (.invokevirtual 184, 3) := by decide +kernel
theorem dX3_term_40 : decode cX3_term 40 = .ok (.ifCond .eq 54, 3) := by decide +kernel
theorem dX3_term_43 : decode cX3_term 43 = .ok (.aload_n 0, 1) := by decide +kernel
theorem dX3_term_44 : decode cX3_term 44 = .ok (.getfield 28, 3) := by decide +kernel
theorem dX3_term_47 : decode cX3_term 47 = .ok (.bipush 42, 2) := by decide +kernel
theorem dX3_term_49 : decode cX3_term 49 = .ok (.invokevirtual 184, 3) := by decide +kernel
theorem dX3_term_52 : decode cX3_term 52 = .ok (.ifCond .eq 8, 3) := by decide +kernel
theorem dX3_term_55 : decode cX3_term 55 = .ok (.bipush (-6), 2) := by decide +kernel
theorem dX3_term_57 : decode cX3_term 57 = .ok (.goto 5, 3) := by decide +kernel
theorem dX3_term_60 : decode cX3_term 60 = .ok (.bipush (-7), 2) := by decide +kernel
theorem dX3_term_62 : decode cX3_term 62 = .ok (.istore_n 3, 1) := by decide +kernel
theorem dX3_term_63 : decode cX3_term 63 = .ok (.aload_n 0, 1) := by decide +kernel
theorem dX3_term_64 : decode cX3_term 64 = .ok (.getfield 28, 3) := by decide +kernel
theorem dX3_term_67 : decode cX3_term 67 = .ok (.invokevirtual 90, 3) := by decide +kernel
theorem dX3_term_70 : decode cX3_term 70 = .ok (.aload_n 0, 1) := by decide +kernel
theorem dX3_term_71 : decode cX3_term 71 = .ok (.iload_n 1, 1) := by decide +kernel
theorem dX3_term_72 : decode cX3_term 72 = .ok (.invokevirtual 190, 3) := by decide +kernel
theorem dX3_term_75 : decode cX3_term 75 = .ok (.ifCond .ne 5, 3) := by decide +kernel
theorem dX3_term_78 : decode cX3_term 78 = .ok (.iconst 0, 1) := by decide +kernel
theorem dX3_term_79 : decode cX3_term 79 = .ok (.ireturn, 1) := by decide +kernel
theorem dX3_term_80 : decode cX3_term 80 = .ok (.aload_n 0, 1) := by decide +kernel
theorem dX3_term_81 : decode cX3_term 81 = .ok (.getfield 35, 3) := by decide +kernel
theorem dX3_term_84 : decode cX3_term 84 = .ok (.iload_n 3, 1) := by decide +kernel
theorem dX3_term_85 : decode cX3_term 85 = .ok (.invokevirtual 187, 3) := by decide +kernel
theorem dX3_term_88 : decode cX3_term 88 = .ok (.iinc 2 1, 3) := by decide +kernel
theorem dX3_term_91 : decode cX3_term 91 = .ok (.goto (-79), 3) := by decide +kernel
theorem dX3_term_94 : decode cX3_term 94 = .ok (.iconst 1, 1) := by decide +kernel
theorem dX3_term_95 : decode cX3_term 95 = .ok (.ireturn, 1) := by decide +kernel
theorem dX3_factor_0 : decode cX3_factor 0 = .ok (.aload_n 0, 1) := by decide +kernel
theorem dX3_factor_1 : decode cX3_factor 1 = .ok (.getfield 28, 3) := by decide +kernel
theorem dX3_factor_4 : decode cX3_factor 4 = .ok (.bipush 40, 2) := by decide +kernel
theorem dX3_factor_6 : decode cX3_factor 6 = .ok (.invokevirtual 184, 3) := by decide +kernel
theorem dX3_factor_9 : decode cX3_factor 9 = .ok (.ifCond .eq 47, 3) := by decide +kernel
theorem dX3_factor_12 : decode cX3_factor 12 = .ok (.iload_n 1, 1) := by decide +kernel
theorem dX3_factor_13 : decode cX3_factor 13 = .ok (.iconst 4, 1) := by decide +kernel
theorem dX3_factor_14 : decode cX3_factor 14 = .ok (.if_icmp .lt 10, 3) := by decide +kernel
theorem dX3_factor_17 : decode cX3_factor 17 = .ok (.aload_n 0, 1) := by decide +kernel
theorem dX3_factor_18 : decode cX3_factor 18 = .ok (.bipush (-5), 2) := by decide +kernel
theorem dX3_factor_20 : decode cX3_factor 20 = .ok (.invokevirtual 86, 3) := by decide +kernel
theorem dX3_factor_23 : decode cX3_factor 23 = .ok (.ireturn, 1) := by decide +kernel
theorem dX3_factor_24 : decode cX3_factor 24 = .ok (.aload_n 0, 1) := by decide +kernel
theorem dX3_factor_25 : decode cX3_factor 25 = .ok (.getfield 28, 3) := by decide +kernel
theorem dX3_factor_28 : decode cX3_factor 28 = .ok (.invokevirtual 90, 3) := by decide +kernel
theorem dX3_factor_31 : decode cX3_factor 31 = .ok (.aload_n 0, 1) := by decide +kernel
theorem dX3_factor_32 : decode cX3_factor 32 = .ok (.iload_n 1, 1) := by decide +kernel
theorem dX3_factor_33 : decode cX3_factor 33 = .ok (.iconst 1, 1) := by decide +kernel
theorem dX3_factor_34 : decode cX3_factor 34 = .ok (.iadd, 1) := by decide +kernel
theorem dX3_factor_35 : decode cX3_factor 35 = .ok (.invokevirtual 122, 3) := by decide +kernel
theorem dX3_factor_38 : decode cX3_factor 38 = .ok (.ifCond .eq 16, 3) := by decide +kernel
theorem dX3_factor_41 : decode cX3_factor 41 = .ok (.aload_n 0, 1) := by decide +kernel
theorem dX3_factor_42 : decode cX3_factor 42 = .ok (.bipush 41, 2) := by decide +kernel
theorem dX3_factor_44 : decode cX3_factor 44 = .ok (.invokevirtual 67, 3) := by decide +kernel
theorem dX3_factor_47 : decode cX3_factor 47 = .ok (.ifCond .eq 7, 3) := by decide +kernel
theorem dX3_factor_50 : decode cX3_factor 50 = .ok (.iconst 1, 1) := by decide +kernel
theorem dX3_factor_51 : decode cX3_factor 51 = .ok (.goto 4, 3) := by decide +kernel
theorem dX3_factor_54 : decode cX3_factor 54 = .ok (.iconst 0, 1) := by decide +kernel
theorem dX3_factor_55 : decode cX3_factor 55 = .ok (.ireturn, 1) := by decide +kernel
theorem dX3_factor_56 : decode cX3_factor 56 = .ok (.aload_n 0, 1) := by decide +kernel
theorem dX3_factor_57 : decode cX3_factor 57 = .ok (.getfield 28, 3) := by decide +kernel
theorem dX3_factor_60 : decode cX3_factor 60 = .ok (.ldc 193, 2) := by decide +kernel
theorem dX3_factor_62 : decode cX3_factor 62 = .ok (.invokevirtual 82, 3) := by decide +kernel
theorem dX3_factor_65 : decode cX3_factor 65 = .ok (.ifCond .eq 14, 3) := by decide +kernel
theorem dX3_factor_68 : decode cX3_factor 68 = .ok (.aload_n 0, 1) := by decide +kernel
theorem dX3_factor_69 : decode cX3_factor 69 = .ok (.getfield 35, 3) := by decide +kernel
theorem dX3_factor_72 : decode cX3_factor 72 = .ok (.iconst (-1), 1) := by decide +kernel
theorem dX3_factor_73 : decode cX3_factor 73 = .ok (.invokevirtual 187, 3) := by decide +kernel
theorem dX3_factor_76 : decode cX3_factor 76 = .ok (.goto 115, 3) := by decide +kernel
theorem dX3_factor_79 : decode cX3_factor 79 = .ok (.aload_n 0, 1) := by decide +kernel
theorem dX3_factor_80 : decode cX3_factor 80 = .ok (.getfield 28, 3) := by decide +kernel
theorem dX3_factor_83 : decode cX3_factor 83 = .ok (.ldc 170, 2) := by decide +kernel
theorem dX3_factor_85 : decode cX3_factor 85 = .ok (.invokevirtual 82, 3) := by decide +kernel
theorem dX3_factor_88 : decode cX3_factor 88 = .ok (.ifCond .eq 15, 3) := by decide +kernel
theorem dX3_factor_91 : decode cX3_factor 91 = .ok (.aload_n 0, 1) := by decide +kernel
theorem dX3_factor_92 : decode cX3_factor 92 = .ok (.getfield 35, 3) := by decide +kernel
theorem dX3_factor_95 : decode cX3_factor 95 = .ok (.bipush (-2), 2) := by decide +kernel
theorem dX3_factor_97 : decode cX3_factor 97 = .ok (.invokevirtual 187, 3) := by decide +kernel
theorem dX3_factor_100 : decode cX3_factor 100 = .ok (.goto 91, 3) := by decide +kernel
theorem dX3_factor_103 : decode cX3_factor 103 = .ok (.aload_n 0, 1) := by decide +kernel
theorem dX3_factor_104 : decode cX3_factor 104 = .ok (.getfield 28, 3) := by decide +kernel
theorem dX3_factor_107 : decode cX3_factor 107 = .ok (.ldc 194, 2) := by decide +kernel
theorem dX3_factor_109 : decode cX3_factor 109 = .ok (.invokevirtual 82, 3) := by decide +kernel
theorem dX3_factor_112 : decode cX3_factor 112 = .ok (.ifCond .eq 15, 3) := by decide +kernel
theorem dX3_factor_115 : decode cX3_factor 115 = .ok (.aload_n 0, 1) := by decide +kernel
theorem dX3_factor_116 : decode cX3_factor 116 = .ok (.getfield 35, 3) := by decide +kernel
theorem dX3_factor_119 : decode cX3_factor 119 = .ok (.bipush (-3), 2) := by decide +kernel
theorem dX3_factor_121 : decode cX3_factor 121 = .ok (.invokevirtual 187, 3) := by decide +kernel
theorem dX3_factor_124 : decode cX3_factor 124 = .ok (.goto 67, 3) := by decide +kernel
theorem dX3_factor_127 : decode cX3_factor 127 = .ok (.aload_n 0, 1) := by decide +kernel
theorem dX3_factor_128 : decode cX3_factor 128 = .ok (.getfield 28, 3) := by decide +kernel
theorem dX3_factor_131 : decode cX3_factor 131 = .ok (.getfield 61, 3) := by decide +kernel
theorem dX3_factor_134 : decode cX3_factor 134 = .ok (.iconst 1, 1) := by decide +kernel
theorem dX3_factor_135 : decode cX3_factor 135 = .ok (.if_icmp .ne 33, 3) := by decide +kernel
theorem dX3_factor_138 : decode cX3_factor 138 = .ok (.aload_n 0, 1) := by decide +kernel
theorem dX3_factor_139 : decode cX3_factor 139 = .ok (.getfield 28, 3) := by decide +kernel
theorem dX3_factor_142 : decode cX3_factor 142 = .ok (.getfield 134, 3) := by decide +kernel
theorem dX3_factor_145 : decode cX3_factor 145 = .ok (.sipush 9999, 3) := by decide +kernel
theorem dX3_factor_148 : decode cX3_factor 148 = .ok (.if_icmp .gt 20, 3) := by decide +kernel
theorem dX3_factor_151 : decode cX3_factor 151 = .ok (.aload_n 0, 1) := by decide +kernel
theorem dX3_factor_152 : decode cX3_factor 152 = .ok (.getfield 35, 3) := by decide +kernel
theorem dX3_factor_155 : decode cX3_factor 155 = .ok (.aload_n 0, 1) := by decide +kernel
theorem dX3_factor_156 : decode cX3_factor 156 = .ok (.getfield 28, 3) := by decide +kernel
theorem dX3_factor_159 : decode cX3_factor 159 = .ok (.getfield 134, 3) := by decide +kernel
theorem dX3_factor_162 : decode cX3_factor 162 = .ok (.invokevirtual 187, 3) := by decide +kernel
theorem dX3_factor_165 : decode cX3_factor 165 = .ok (.goto 26, 3) := by decide +kernel
theorem dX3_factor_168 : decode cX3_factor 168 = .ok (.aload_n 0, 1) := by decide +kernel
theorem dX3_factor_169 : decode cX3_factor 169 = .ok (.aload_n 0, 1) := by decide +kernel
theorem dX3_factor_170 : decode cX3_factor 170 = .ok (.getfield 28, 3) := by decide +kernel
theorem dX3_factor_173 : decode cX3_factor 173 = .ok (.getfield 61, 3) := by decide +kernel
theorem dX3_factor_176 : decode cX3_factor 176 = .ok (.iconst 1, 1) := by decide +kernel
theorem dX3_factor_177 : decode cX3_factor 177 = .ok (.if_icmp .ne 8, 3) := by decide +kernel
theorem dX3_factor_180 : decode cX3_factor 180 = .ok (.bipush (-3), 2) := by decide +kernel
theorem dX3_factor_182 : decode cX3_factor 182 = .ok (.goto 5, 3) := by decide +kernel
theorem dX3_factor_185 : decode cX3_factor 185 = .ok (.bipush (-2), 2) := by decide +kernel
theorem dX3_factor_187 : decode cX3_factor 187 = .ok (.invokevirtual 86, 3) := by decide +kernel
theorem dX3_factor_190 : decode cX3_factor 190 = .ok (.ireturn, 1) := by decide +kernel
theorem dX3_factor_191 : decode cX3_factor 191 = .ok (.aload_n 0, 1) := by decide +kernel
theorem dX3_factor_192 : decode cX3_factor 192 = .ok (.getfield 28, 3) := by decide +kernel
theorem dX3_factor_195 : decode cX3_factor 195 = .ok (.invokevirtual 90, 3) := by decide +kernel
theorem dX3_factor_198 : decode cX3_factor 198 = .ok (.iconst 1, 1) := by decide +kernel
theorem dX3_factor_199 : decode cX3_factor 199 = .ok (.ireturn, 1) := by decide +kernel
theorem dX3_expect_0 : decode cX3_expect 0 = .ok (.aload_n 0, 1) := by decide +kernel
theorem dX3_expect_1 : decode cX3_expect 1 = .ok (.getfield 28, 3) := by decide +kernel
theorem dX3_expect_4 : decode cX3_expect 4 = .ok (.iload_n 1, 1) := by decide +kernel
theorem dX3_expect_5 : decode cX3_expect 5 = .ok (.invokevirtual 184, 3) := by decide +kernel
theorem dX3_expect_8 : decode cX3_expect 8 = .ok (.ifCond .ne 10, 3) := by decide +kernel
theorem dX3_expect_11 : decode cX3_expect 11 = .ok (.aload_n 0, 1) := by decide +kernel
theorem dX3_expect_12 : decode cX3_expect 12 = .ok (.bipush (-2), 2) := by decide +kernel
theorem dX3_expect_14 : decode cX3_expect 14 = .ok (.invokevirtual 86, 3) := by decide +kernel
theorem dX3_expect_17 : decode cX3_expect 17 = .ok (.ireturn, 1) := by decide +kernel
theorem dX3_expect_18 : decode cX3_expect 18 = .ok (.aload_n 0, 1) := by decide +kernel
theorem dX3_expect_19 : decode cX3_expect 19 = .ok (.getfield 28, 3) := by decide +kernel
theorem dX3_expect_22 : decode cX3_expect 22 = .ok (.invokevirtual 90, 3) := by decide +kernel
theorem dX3_expect_25 : decode cX3_expect 25 = .ok (.iconst 1, 1) := by decide +kernel
theorem dX3_expect_26 : decode cX3_expect 26 = .ok (.ireturn, 1) := by decide +kernel
theorem dX3_number_0 : decode cX3_number 0 = .ok (.aload_n 0, 1) := by decide +kernel
theorem dX3_number_1 : decode cX3_number 1 = .ok (.getfield 28, 3) := by decide +kernel
theorem dX3_number_4 : decode cX3_number 4 = .ok (.getfield 134, 3) := by decide +kernel
theorem dX3_number_7 : decode cX3_number 7 = .ok (.istore_n 3, 1) := by decide +kernel
theorem dX3_number_8 : decode cX3_number 8 = .ok (.aload_n 0, 1) := by decide +kernel
theorem dX3_number_9 : decode cX3_number 9 = .ok (.getfield 28, 3) := by decide +kernel
theorem dX3_number_12 : decode cX3_number 12 = .ok (.getfield 61, 3) := by decide +kernel
theorem dX3_number_15 : decode cX3_number 15 = .ok (.iconst 1, 1) := by decide +kernel
theorem dX3_number_16 : decode cX3_number 16 = .ok (.if_icmp .eq 12, 3) := by decide +kernel
theorem dX3_number_19 : decode cX3_number 19 = .ok (.aload_n 0, 1) := by decide +kernel
theorem dX3_number_20 : decode cX3_number 20 = .ok (.bipush (-2), 2) := by decide +kernel
theorem dX3_number_22 : decode cX3_number 22 = .ok (.invokevirtual 86, 3) := by decide +kernel
theorem dX3_number_25 : decode cX3_number 25 = .ok (.pop, 1) := by decide +kernel
theorem dX3_number_26 : decode cX3_number 26 = .ok (.iconst (-1), 1) := by decide +kernel
theorem dX3_number_27 : decode cX3_number 27 = .ok (.ireturn, 1) := by decide +kernel
theorem dX3_number_28 : decode cX3_number 28 = .ok (.iload_n 3, 1) := by decide +kernel
theorem dX3_number_29 : decode cX3_number 29 = .ok (.iload_n 1, 1) := by decide +kernel
theorem dX3_number_30 : decode cX3_number 30 = .ok (.if_icmp .lt 8, 3) := by decide +kernel
theorem dX3_number_33 : decode cX3_number 33 = .ok (.iload_n 3, 1) := by decide +kernel
theorem dX3_number_34 : decode cX3_number 34 = .ok (.iload_n 2, 1) := by decide +kernel
theorem dX3_number_35 : decode cX3_number 35 = .ok (.if_icmp .le 12, 3) := by decide +kernel
theorem dX3_number_38 : decode cX3_number 38 = .ok (.aload_n 0, 1) := by decide +kernel
theorem dX3_number_39 : decode cX3_number 39 = .ok (.bipush (-3), 2) := by decide +kernel
theorem dX3_number_41 : decode cX3_number 41 = .ok (.invokevirtual 86, 3) := by decide +kernel
theorem dX3_number_44 : decode cX3_number 44 = .ok (.pop, 1) := by decide +kernel
theorem dX3_number_45 : decode cX3_number 45 = .ok (.iconst (-1), 1) := by decide +kernel
theorem dX3_number_46 : decode cX3_number 46 = .ok (.ireturn, 1) := by decide +kernel
theorem dX3_number_47 : decode cX3_number 47 = .ok (.aload_n 0, 1) := by decide +kernel
theorem dX3_number_48 : decode cX3_number 48 = .ok (.getfield 28, 3) := by decide +kernel
theorem dX3_number_51 : decode cX3_number 51 = .ok (.invokevirtual 90, 3) := by decide +kernel
theorem dX3_number_54 : decode cX3_number 54 = .ok (.iload_n 3, 1) := by decide +kernel
theorem dX3_number_55 : decode cX3_number 55 = .ok (.ireturn, 1) := by decide +kernel
theorem dX3_fail_0 : decode cX3_fail 0 = .ok (.aload_n 0, 1) := by decide +kernel
theorem dX3_fail_1 : decode cX3_fail 1 = .ok (.iload_n 1, 1) := by decide +kernel
theorem dX3_fail_2 : decode cX3_fail 2 = .ok (.putfield 22, 3) := by decide +kernel
theorem dX3_fail_5 : decode cX3_fail 5 = .ok (.aload_n 0, 1) := by decide +kernel
theorem dX3_fail_6 : decode cX3_fail 6 = .ok (.aload_n 0, 1) := by decide +kernel
theorem dX3_fail_7 : decode cX3_fail 7 = .ok (.getfield 28, 3) := by decide +kernel
theorem dX3_fail_10 : decode cX3_fail 10 = .ok (.getfield 196, 3) := by decide +kernel
theorem dX3_fail_13 : decode cX3_fail 13 = .ok (.putfield 18, 3) := by decide +kernel
theorem dX3_fail_16 : decode cX3_fail 16 = .ok (.iconst 0, 1) := by decide +kernel
theorem dX3_fail_17 : decode cX3_fail 17 = .ok (.ireturn, 1) := by decide +kernel
theorem dX4_init_0 : decode cX4_init 0 = .ok (.aload_n 0, 1) := by decide +kernel
theorem dX4_init_1 : decode cX4_init 1 = .ok (.invokespecial 3, 3) := by decide +kernel
theorem dX4_init_4 : decode cX4_init 4 = .ok (.aload_n 0, 1) := by decide +kernel
theorem dX4_init_5 : decode cX4_init 5 = .ok (.bipush 36, 2) := by decide +kernel
theorem dX4_init_7 : decode cX4_init 7 = .ok (.newarray .int, 2) := by decide +kernel
theorem dX4_init_9 : decode cX4_init 9 = .ok (.putfield 9, 3) := by decide +kernel
theorem dX4_init_12 : decode cX4_init 12 = .ok (.aload_n 0, 1) := by decide +kernel
theorem dX4_init_13 : decode cX4_init 13 = .ok (.bipush 36, 2) := by decide +kernel
theorem dX4_init_15 : decode cX4_init 15 = .ok (.newarray .int, 2) := by decide +kernel
theorem dX4_init_17 : decode cX4_init 17 = .ok (.putfield 15, 3) := by decide +kernel
theorem dX4_init_20 : decode cX4_init 20 = .ok (.aload_n 0, 1) := by decide +kernel
theorem dX4_init_21 : decode cX4_init 21 = .ok (.iconst 3, 1) := by decide +kernel
theorem dX4_init_22 : decode cX4_init 22 = .ok (.newarray .int, 2) := by decide +kernel
theorem dX4_init_24 : decode cX4_init 24 = .ok (.putfield 18, 3) := by decide +kernel
theorem dX4_init_27 : decode cX4_init 27 = .ok (.aload_n 0, 1) := by decide +kernel
theorem dX4_init_28 : decode cX4_init 28 = .ok (.bipush 16, 2) := by decide +kernel
theorem dX4_init_30 : decode cX4_init 30 = .ok (.newarray .int, 2) := by decide +kernel
theorem dX4_init_32 : decode cX4_init 32 = .ok (.putfield 21, 3) := by decide +kernel
theorem dX4_init_35 : decode cX4_init 35 = .ok (.aload_n 0, 1) := by decide +kernel
theorem dX4_init_36 : decode cX4_init 36 = .ok (.iconst 0, 1) := by decide +kernel
theorem dX4_init_37 : decode cX4_init 37 = .ok (.putfield 24, 3) := by decide +kernel
theorem dX4_init_40 : decode cX4_init 40 = .ok (.aload_n 0, 1) := by decide +kernel
theorem dX4_init_41 : decode cX4_init 41 = .ok (.bipush 16, 2) := by decide +kernel
theorem dX4_init_43 : decode cX4_init 43 = .ok (.newarray .int, 2) := by decide +kernel
theorem dX4_init_45 : decode cX4_init 45 = .ok (.putfield 28, 3) := by decide +kernel
theorem dX4_init_48 : decode cX4_init 48 = .ok (.aload_n 0, 1) := by decide +kernel
theorem dX4_init_49 : decode cX4_init 49 = .ok (.iconst 3, 1) := by decide +kernel
theorem dX4_init_50 : decode cX4_init 50 = .ok (.newarray .int, 2) := by decide +kernel
theorem dX4_init_52 : decode cX4_init 52 = .ok (.putfield 31, 3) := by decide +kernel
theorem dX4_init_55 : decode cX4_init 55 = .ok (.aload_n 0, 1) := by decide +kernel
theorem dX4_init_56 : decode cX4_init 56 = .ok (.iconst 3, 1) := by decide +kernel
theorem dX4_init_57 : decode cX4_init 57 = .ok (.newarray .int, 2) := by decide +kernel
theorem dX4_init_59 : decode cX4_init 59 = .ok (.putfield 34, 3) := by decide +kernel
theorem dX4_init_62 : decode cX4_init 62 = .ok (.aload_n 0, 1) := by decide +kernel
theorem dX4_init_63 : decode cX4_init 63 = .ok (.iconst 3, 1) := by decide +kernel
theorem dX4_init_64 : decode cX4_init 64 = .ok (.newarray .int, 2) := by decide +kernel
theorem dX4_init_66 : decode cX4_init 66 = .ok (.putfield 37, 3) := by decide +kernel
theorem dX4_init_69 : decode cX4_init 69 = .ok (.return_, 1) := by decide +kernel
theorem dX4_run_0 : decode cX4_run 0 = .ok (.aload_n 0, 1) := by decide +kernel
theorem dX4_run_1 : decode cX4_run 1 = .ok (.getfield 21, 3) := by decide +kernel
theorem dX4_run_4 : decode cX4_run 4 = .ok (.iconst 0, 1) := by decide +kernel
theorem dX4_run_5 : decode cX4_run 5 = .ok (.invokestatic 40, 3) := by decide +kernel
theorem dX4_run_8 : decode cX4_run 8 = .ok (.aload_n 0, 1) := by decide +kernel
theorem dX4_run_9 : decode cX4_run 9 = .ok (.iconst 0, 1) := by decide +kernel
theorem dX4_run_10 : decode cX4_run 10 = .ok (.putfield 24, 3) := by decide +kernel
theorem dX4_run_13 : decode cX4_run 13 = .ok (.iconst 0, 1) := by decide +kernel
theorem dX4_run_14 : decode cX4_run 14 = .ok (.istore_n 3, 1) := by decide +kernel
theorem dX4_run_15 : decode cX4_run 15 = .ok (.iload_n 3, 1) := by decide +kernel
theorem dX4_run_16 : decode cX4_run 16 = .ok (.aload_n 1, 1) := by decide +kernel
theorem dX4_run_17 : decode cX4_run 17 = .ok (.getfield 46, 3) := by decide +kernel
theorem dX4_run_20 : decode cX4_run 20 = .ok (.getfield 52, 3) := by decide +kernel
theorem dX4_run_23 : decode cX4_run 23 = .ok (.if_icmp .ge 45, 3) := by decide +kernel
theorem dX4_run_26 : decode cX4_run 26 = .ok (.aload_n 0, 1) := by decide +kernel
theorem dX4_run_27 : decode cX4_run 27 = .ok (.getfield 31, 3) := by decide +kernel
theorem dX4_run_30 : decode cX4_run 30 = .ok (.iload_n 3, 1) := by decide +kernel
theorem dX4_run_31 : decode cX4_run 31 = .ok (.iconst 0, 1) := by decide +kernel
theorem dX4_run_32 : decode cX4_run 32 = .ok (.iastore, 1) := by decide +kernel
theorem dX4_run_33 : decode cX4_run 33 = .ok (.aload_n 0, 1) := by decide +kernel
theorem dX4_run_34 : decode cX4_run 34 = .ok (.getfield 34, 3) := by decide +kernel
theorem dX4_run_37 : decode cX4_run 37 = .ok (.iload_n 3, 1) := by decide +kernel
theorem dX4_run_38 : decode cX4_run 38 = .ok (.iconst (-1), 1) := by decide +kernel
theorem dX4_run_39 : decode cX4_run 39 = .ok (.iastore, 1) := by decide +kernel
theorem dX4_run_40 : decode cX4_run 40 = .ok (.aload_n 0, 1) := by decide +kernel
theorem dX4_run_41 : decode cX4_run 41 = .ok (.getfield 18, 3) := by decide +kernel
theorem dX4_run_44 : decode cX4_run 44 = .ok (.iload_n 3, 1) := by decide +kernel
theorem dX4_run_45 : decode cX4_run 45 = .ok (.aload_n 1, 1) := by decide +kernel
theorem dX4_run_46 : decode cX4_run 46 = .ok (.getfield 46, 3) := by decide +kernel
theorem dX4_run_49 : decode cX4_run 49 = .ok (.getfield 57, 3) := by decide +kernel
theorem dX4_run_52 : decode cX4_run 52 = .ok (.iload_n 3, 1) := by decide +kernel
theorem dX4_run_53 : decode cX4_run 53 = .ok (.iaload, 1) := by decide +kernel
theorem dX4_run_54 : decode cX4_run 54 = .ok (.iastore, 1) := by decide +kernel
theorem dX4_run_55 : decode cX4_run 55 = .ok (.aload_n 0, 1) := by decide +kernel
theorem dX4_run_56 : decode cX4_run 56 = .ok (.aload_n 1, 1) := by decide +kernel
theorem dX4_run_57 : decode cX4_run 57 = .ok (.aload_n 2, 1) := by decide +kernel
theorem dX4_run_58 : decode cX4_run 58 = .ok (.iload_n 3, 1) := by decide +kernel
theorem dX4_run_59 : decode cX4_run 59 = .ok (.invokevirtual 60, 3) := by decide +kernel
theorem dX4_run_62 : decode cX4_run 62 = .ok (.iinc 3 1, 3) := by decide +kernel
theorem dX4_run_65 : decode cX4_run 65 = .ok (.goto (-50), 3) := by decide +kernel
theorem dX4_run_68 : decode cX4_run 68 = .ok (.iconst 0, 1) := by decide +kernel
theorem dX4_run_69 : decode cX4_run 69 = .ok (.istore_n 3, 1) := by decide +kernel
theorem dX4_run_70 : decode cX4_run 70 = .ok (.iload_n 3, 1) := by decide +kernel
theorem dX4_run_71 : decode cX4_run 71 = .ok (.bipush 36, 2) := by decide +kernel
theorem dX4_run_73 : decode cX4_run 73 = .ok (.if_icmp .ge 41, 3) := by decide +kernel
theorem dX4_run_76 : decode cX4_run 76 = .ok (.aload_n 0, 1) := by decide +kernel
theorem dX4_run_77 : decode cX4_run 77 = .ok (.aload_n 1, 1) := by decide +kernel
theorem dX4_run_78 : decode cX4_run 78 = .ok (.getfield 46, 3) := by decide +kernel
theorem dX4_run_81 : decode cX4_run 81 = .ok (.invokevirtual 64, 3) := by decide +kernel
theorem dX4_run_84 : decode cX4_run 84 = .ok (.istore 4, 2) := by decide +kernel
theorem dX4_run_86 : decode cX4_run 86 = .ok (.iload 4, 2) := by decide +kernel
theorem dX4_run_88 : decode cX4_run 88 = .ok (.iconst (-1), 1) := by decide +kernel
theorem dX4_run_89 : decode cX4_run 89 = .ok (.if_icmp .ne 4, 3) := by decide +kernel
theorem dX4_run_92 : decode cX4_run 92 = .ok (.return_, 1) := by decide +kernel
theorem dX4_run_93 : decode cX4_run 93 = .ok (.aload_n 0, 1) := by decide +kernel
theorem dX4_run_94 : decode cX4_run 94 = .ok (.aload_n 1, 1) := by decide +kernel
theorem dX4_run_95 : decode cX4_run 95 = .ok (.iload 4, 2) := by decide +kernel
theorem dX4_run_97 : decode cX4_run 97 = .ok (.invokevirtual 68, 3) := by decide +kernel
theorem dX4_run_100 : decode cX4_run 100 = .ok (.aload_n 0, 1) := by decide +kernel
theorem dX4_run_101 : decode cX4_run 101 = .ok (.aload_n 1, 1) := by decide +kernel
theorem dX4_run_102 : decode cX4_run 102 = .ok (.aload_n 2, 1) := by decide +kernel
theorem dX4_run_103 : decode cX4_run 103 = .ok (.iload 4, 2) := by decide +kernel
theorem dX4_run_105 : decode cX4_run 105 = .ok (.invokevirtual 60, 3) := by decide +kernel
theorem dX4_run_108 : decode cX4_run 108 = .ok (.iinc 3 1, 3) := by decide +kernel
theorem dX4_run_111 : decode cX4_run 111 = .ok (.goto (-41), 3) := by decide +kernel
theorem dX4_run_114 : decode cX4_run 114 = .ok (.return_, 1) := by decide +kernel
theorem dX4_lookAhead_0 : decode cX4_lookAhead 0 = .ok (.aload_n 1, 1) := by decide +kernel
theorem dX4_lookAhead_1 : decode cX4_lookAhead 1 = .ok (.getfield 46, 3) := by decide +kernel
theorem dX4_lookAhead_4 : decode cX4_lookAhead 4 = .ok (.iload_n 3, 1) := by decide +kernel
theorem dX4_lookAhead_5 : decode cX4_lookAhead 5 = .ok (.aload_n 0, 1) := by decide +kernel
theorem dX4_lookAhead_6 : decode cX4_lookAhead 6 = .ok (.getfield 31, 3) := by decide +kernel
theorem dX4_lookAhead_9 : decode cX4_lookAhead 9 = .ok (.iload_n 3, 1) := by decide +kernel
theorem dX4_lookAhead_10 : decode cX4_lookAhead 10 = .ok (.iaload, 1) := by decide +kernel
theorem dX4_lookAhead_11 : decode cX4_lookAhead 11 = .ok (.invokevirtual 72, 3) := by decide +kernel
theorem dX4_lookAhead_14 : decode cX4_lookAhead 14 = .ok (.istore 4, 2) := by decide +kernel
theorem dX4_lookAhead_16 : decode cX4_lookAhead 16 = .ok (.iload 4, 2) := by decide +kernel
theorem dX4_lookAhead_18 : decode cX4_lookAhead 18 = .ok (.iconst (-1), 1) := by decide +kernel
theorem dX4_lookAhead_19 : decode cX4_lookAhead 19 = .ok (.if_icmp .ne 13, 3) := by decide +kernel
theorem dX4_lookAhead_22 : decode cX4_lookAhead 22 = .ok (.aload_n 0, 1) := by decide +kernel
theorem dX4_lookAhead_23 : decode cX4_lookAhead 23 = .ok (.getfield 37, 3) := by decide +kernel
theorem dX4_lookAhead_26 : decode cX4_lookAhead 26 = .ok (.iload_n 3, 1) := by decide +kernel
theorem dX4_lookAhead_27 : decode cX4_lookAhead 27 = .ok (.iconst (-1), 1) := by decide +kernel
theorem dX4_lookAhead_28 : decode cX4_lookAhead 28 = .ok (.iastore, 1) := by decide +kernel
theorem dX4_lookAhead_29 : decode cX4_lookAhead 29 = .ok (.goto 57, 3) := by decide +kernel
theorem dX4_lookAhead_32 : decode cX4_lookAhead 32 = .ok (.aload_n 0, 1) := by decide +kernel
theorem dX4_lookAhead_33 : decode cX4_lookAhead 33 = .ok (.getfield 34, 3) := by decide +kernel
theorem dX4_lookAhead_36 : decode cX4_lookAhead 36 = .ok (.iload_n 3, 1) := by decide +kernel
theorem dX4_lookAhead_37 : decode cX4_lookAhead 37 = .ok (.iaload, 1) := by decide +kernel
theorem dX4_lookAhead_38 : decode cX4_lookAhead 38 = .ok (.iconst (-1), 1) := by decide +kernel
theorem dX4_lookAhead_39 : decode cX4_lookAhead 39 = .ok (.if_icmp .ne 28, 3) := by decide +kernel
theorem dX4_lookAhead_42 : decode cX4_lookAhead 42 = .ok (.aload_n 0, 1) := by decide +kernel
theorem dX4_lookAhead_43 : decode cX4_lookAhead 43 = .ok (.getfield 37, 3) := by decide +kernel
theorem dX4_lookAhead_46 : decode cX4_lookAhead 46 = .ok (.iload_n 3, 1) := by decide +kernel
theorem dX4_lookAhead_47 : decode cX4_lookAhead 47 = .ok (.aload_n 2, 1) := by decide +kernel
theorem dX4_lookAhead_48 : decode cX4_lookAhead 48 = .ok (.aload_n 1, 1) := by decide +kernel
theorem dX4_lookAhead_49 : decode cX4_lookAhead 49 = .ok (.aload_n 1, 1) := by decide +kernel
theorem dX4_lookAhead_50 : decode cX4_lookAhead 50 = .ok (.getfield 46, 3) := by decide +kernel
theorem dX4_lookAhead_53 : decode cX4_lookAhead 53 = .ok (.getfield 76, 3) := by decide +kernel
theorem dX4_lookAhead_56 : decode cX4_lookAhead 56 = .ok (.iload_n 3, 1) := by decide +kernel
theorem dX4_lookAhead_57 : decode cX4_lookAhead 57 = .ok (.iaload, 1) := by decide +kernel
theorem dX4_lookAhead_58 : decode cX4_lookAhead 58 = .ok (.iload 4, 2) := by decide +kernel
theorem dX4_lookAhead_60 : decode cX4_lookAhead 60 = .ok (.invokevirtual 79, 3) := by decide +kernel
theorem dX4_lookAhead_63 : decode cX4_lookAhead 63 = .ok (.iastore, 1) := by decide +kernel
theorem dX4_lookAhead_64 : decode cX4_lookAhead 64 = .ok (.goto 22, 3) := by decide +kernel
theorem dX4_lookAhead_67 : decode cX4_lookAhead 67 = .ok (.aload_n 0, 1) := by decide +kernel
theorem dX4_lookAhead_68 : decode cX4_lookAhead 68 = .ok (.getfield 37, 3) := by decide +kernel
theorem dX4_lookAhead_71 : decode cX4_lookAhead 71 = .ok (.iload_n 3, 1) := by decide +kernel
theorem dX4_lookAhead_72 : decode cX4_lookAhead 72 = .ok (.aload_n 2, 1) := by decide +kernel
theorem dX4_lookAhead_73 : decode cX4_lookAhead 73 = .ok (.aload_n 1, 1) := by decide +kernel
theorem dX4_lookAhead_74 : decode cX4_lookAhead 74 = .ok (.aload_n 0, 1) := by decide +kernel
theorem dX4_lookAhead_75 : decode cX4_lookAhead 75 = .ok (.getfield 34, 3) := by decide +kernel
theorem dX4_lookAhead_78 : decode cX4_lookAhead 78 = .ok (.iload_n 3, 1) := by decide +kernel
theorem dX4_lookAhead_79 : decode cX4_lookAhead 79 = .ok (.iaload, 1) := by decide +kernel
theorem dX4_lookAhead_80 : decode cX4_lookAhead 80 = .ok (.iload 4, 2) := by decide +kernel
theorem dX4_lookAhead_82 : decode cX4_lookAhead 82 = .ok (.invokevirtual 85, 3) := by decide +kernel
theorem dX4_lookAhead_85 : decode cX4_lookAhead 85 = .ok (.iastore, 1) := by decide +kernel
theorem dX4_lookAhead_86 : decode cX4_lookAhead 86 = .ok (.return_, 1) := by decide +kernel
theorem dX4_firstToArrive_0 : decode cX4_firstToArrive 0 = .ok (.iconst (-1), 1) := by decide +kernel
theorem dX4_firstToArrive_1 : decode cX4_firstToArrive 1 = .ok (.istore_n 2, 1) := by decide +kernel
theorem dX4_firstToArrive_2 : decode cX4_firstToArrive 2 = .ok (.iconst 0, 1) := by decide +kernel
theorem dX4_firstToArrive_3 : decode cX4_firstToArrive 3 = .ok (.istore_n 3, 1) := by decide +kernel
theorem dX4_firstToArrive_4 : decode cX4_firstToArrive 4 = .ok (.iconst 0, 1) := by decide +kernel
theorem dX4_firstToArrive_5 : decode cX4_firstToArrive 5 = .ok (.istore 4, 2) := by decide +kernel
theorem dX4_firstToArrive_7 : decode cX4_firstToArrive 7 = .ok (.iload 4, 2) := by decide +kernel
theorem dX4_firstToArrive_9 : decode cX4_firstToArrive 9 = .ok (.aload_n 1, 1) := by decide +kernel
theorem dX4_firstToArrive_10 : decode cX4_firstToArrive 10 = .ok (.getfield 52, 3) := by decide +kernel
theorem dX4_firstToArrive_13 : decode cX4_firstToArrive 13 = .ok (.if_icmp .ge 64, 3) := by decide +kernel
theorem dX4_firstToArrive_16 : decode cX4_firstToArrive 16 = .ok (.aload_n 0, 1) := by decide +kernel
theorem dX4_firstToArrive_17 : decode cX4_firstToArrive 17 = .ok (.getfield 31, 3) := by decide +kernel
theorem dX4_firstToArrive_20 : decode cX4_firstToArrive 20 = .ok (.iload 4, 2) := by decide +kernel
theorem dX4_firstToArrive_22 : decode cX4_firstToArrive 22 = .ok (.iaload, 1) := by decide +kernel
theorem dX4_firstToArrive_23 : decode cX4_firstToArrive 23 = .ok (.aload_n 1, 1) := by decide +kernel
theorem dX4_firstToArrive_24 : decode cX4_firstToArrive 24 = .ok (.getfield 88, 3) := by decide +kernel
theorem dX4_firstToArrive_27 : decode cX4_firstToArrive 27 = .ok (.iload 4, 2) := by decide +kernel
theorem dX4_firstToArrive_29 : decode cX4_firstToArrive 29 = .ok (.iaload, 1) := by decide +kernel
theorem dX4_firstToArrive_30 : decode cX4_firstToArrive 30 = .ok (.if_icmp .ge 41, 3) := by decide +kernel
theorem dX4_firstToArrive_33 : decode cX4_firstToArrive 33 = .ok (.aload_n 0, 1) := by decide +kernel
theorem dX4_firstToArrive_34 : decode cX4_firstToArrive 34 = .ok (.getfield 18, 3) := by decide +kernel
theorem dX4_firstToArrive_37 : decode cX4_firstToArrive 37 = .ok (.iload 4, 2) := by decide +kernel
theorem dX4_firstToArrive_39 : decode cX4_firstToArrive 39 = .ok (.iaload, 1) := by decide +kernel
theorem dX4_firstToArrive_40 : decode cX4_firstToArrive 40 = .ok (.aload_n 0, 1) := by decide +kernel
theorem dX4_firstToArrive_41 : decode cX4_firstToArrive 41 = .ok (.getfield 37, 3) := by decide +kernel
theorem dX4_firstToArrive_44 : decode cX4_firstToArrive 44 = .ok (.iload 4, 2) := by decide +kernel
theorem dX4_firstToArrive_46 : decode cX4_firstToArrive 46 = .ok (.iaload, 1) := by decide +kernel
theorem dX4_firstToArrive_47 : decode cX4_firstToArrive 47 = .ok (.iconst 0, 1) := by decide +kernel
theorem dX4_firstToArrive_48 : decode cX4_firstToArrive 48 = .ok (.invokestatic 91, 3) := by decide +kernel
theorem dX4_firstToArrive_51 : decode cX4_firstToArrive 51 = .ok (.iadd, 1) := by decide +kernel
theorem dX4_firstToArrive_52 : decode cX4_firstToArrive 52 = .ok (.istore 5, 2) := by decide +kernel
theorem dX4_firstToArrive_54 : decode cX4_firstToArrive 54 = .ok (.iload_n 2, 1) := by decide +kernel
theorem dX4_firstToArrive_55 : decode cX4_firstToArrive 55 = .ok (.iconst (-1), 1) := by decide +kernel
theorem dX4_firstToArrive_56 : decode cX4_firstToArrive 56 = .ok (.if_icmp .eq 9, 3) := by decide +kernel
theorem dX4_firstToArrive_59 : decode cX4_firstToArrive 59 = .ok (.iload 5, 2) := by decide +kernel
theorem dX4_firstToArrive_61 : decode cX4_firstToArrive 61 = .ok (.iload_n 3, 1) := by decide +kernel
theorem dX4_firstToArrive_62 : decode cX4_firstToArrive 62 = .ok (.if_icmp .ge 9, 3) := by decide +kernel
theorem dX4_firstToArrive_65 : decode cX4_firstToArrive 65 = .ok (.iload 4, 2) := by decide +kernel
theorem dX4_firstToArrive_67 : decode cX4_firstToArrive 67 = .ok (.istore_n 2, 1) := by decide +kernel
theorem dX4_firstToArrive_68 : decode cX4_firstToArrive 68 = .ok (.iload 5, 2) := by decide +kernel
theorem dX4_firstToArrive_70 : decode cX4_firstToArrive 70 = .ok (.istore_n 3, 1) := by decide +kernel
theorem dX4_firstToArrive_71 : decode cX4_firstToArrive 71 = .ok (.iinc 4 1, 3) := by decide +kernel
theorem dX4_firstToArrive_74 : decode cX4_firstToArrive 74 = .ok (.goto (-67), 3) := by decide +kernel
theorem dX4_firstToArrive_77 : decode cX4_firstToArrive 77 = .ok (.iload_n 2, 1) := by decide +kernel
theorem dX4_firstToArrive_78 : decode cX4_firstToArrive 78 = .ok (.ireturn, 1) := by decide +kernel
theorem dX4_treat_0 : decode cX4_treat 0 = .ok (.aload_n 0, 1) := by decide +kernel
theorem dX4_treat_1 : decode cX4_treat 1 = .ok (.getfield 31, 3) := by decide +kernel
theorem dX4_treat_4 : decode cX4_treat 4 = .ok (.iload_n 2, 1) := by decide +kernel
theorem dX4_treat_5 : decode cX4_treat 5 = .ok (.iaload, 1) := by decide +kernel
theorem dX4_treat_6 : decode cX4_treat 6 = .ok (.istore_n 3, 1) := by decide +kernel
theorem dX4_treat_7 : decode cX4_treat 7 = .ok (.aload_n 1, 1) := by decide +kernel
theorem dX4_treat_8 : decode cX4_treat 8 = .ok (.getfield 46, 3) := by decide +kernel
theorem dX4_treat_11 : decode cX4_treat 11 = .ok (.iload_n 2, 1) := by decide +kernel
theorem dX4_treat_12 : decode cX4_treat 12 = .ok (.iload_n 3, 1) := by decide +kernel
theorem dX4_treat_13 : decode cX4_treat 13 = .ok (.invokevirtual 72, 3) := by decide +kernel
theorem dX4_treat_16 : decode cX4_treat 16 = .ok (.istore 4, 2) := by decide +kernel
theorem dX4_treat_18 : decode cX4_treat 18 = .ok (.aload_n 1, 1) := by decide +kernel
theorem dX4_treat_19 : decode cX4_treat 19 = .ok (.getfield 96, 3) := by decide +kernel
theorem dX4_treat_22 : decode cX4_treat 22 = .ok (.iload 4, 2) := by decide +kernel
theorem dX4_treat_24 : decode cX4_treat 24 = .ok (.invokevirtual 100, 3) := by decide +kernel
theorem dX4_treat_27 : decode cX4_treat 27 = .ok (.ifCond .ne 4, 3) := by decide +kernel
theorem dX4_treat_30 : decode cX4_treat 30 = .ok (.return_, 1) := by decide +kernel
theorem dX4_treat_31 : decode cX4_treat 31 = .ok (.iload_n 2, 1) := by decide +kernel
theorem dX4_treat_32 : decode cX4_treat 32 = .ok (.bipush 12, 2) := by decide +kernel
theorem dX4_treat_34 : decode cX4_treat 34 = .ok (.imul, 1) := by decide +kernel
theorem dX4_treat_35 : decode cX4_treat 35 = .ok (.iload_n 3, 1) := by decide +kernel
theorem dX4_treat_36 : decode cX4_treat 36 = .ok (.iadd, 1) := by decide +kernel
theorem dX4_treat_37 : decode cX4_treat 37 = .ok (.istore 5, 2) := by decide +kernel
theorem dX4_treat_39 : decode cX4_treat 39 = .ok (.aload_n 0, 1) := by decide +kernel
theorem dX4_treat_40 : decode cX4_treat 40 = .ok (.getfield 31, 3) := by decide +kernel
theorem dX4_treat_43 : decode cX4_treat 43 = .ok (.iload_n 2, 1) := by decide +kernel
theorem dX4_treat_44 : decode cX4_treat 44 = .ok (.iload_n 3, 1) := by decide +kernel
theorem dX4_treat_45 : decode cX4_treat 45 = .ok (.iconst 1, 1) := by decide +kernel
theorem dX4_treat_46 : decode cX4_treat 46 = .ok (.iadd, 1) := by decide +kernel
theorem dX4_treat_47 : decode cX4_treat 47 = .ok (.iastore, 1) := by decide +kernel
theorem dX4_treat_48 : decode cX4_treat 48 = .ok (.aload_n 0, 1) := by decide +kernel
theorem dX4_treat_49 : decode cX4_treat 49 = .ok (.getfield 37, 3) := by decide +kernel
theorem dX4_treat_52 : decode cX4_treat 52 = .ok (.iload_n 2, 1) := by decide +kernel
theorem dX4_treat_53 : decode cX4_treat 53 = .ok (.iaload, 1) := by decide +kernel
theorem dX4_treat_54 : decode cX4_treat 54 = .ok (.iconst (-1), 1) := by decide +kernel
theorem dX4_treat_55 : decode cX4_treat 55 = .ok (.if_icmp .ne 25, 3) := by decide +kernel
theorem dX4_treat_58 : decode cX4_treat 58 = .ok (.aload_n 0, 1) := by decide +kernel
theorem dX4_treat_59 : decode cX4_treat 59 = .ok (.getfield 15, 3) := by decide +kernel
theorem dX4_treat_62 : decode cX4_treat 62 = .ok (.iload 5, 2) := by decide +kernel
theorem dX4_treat_64 : decode cX4_treat 64 = .ok (.aload_n 0, 1) := by decide +kernel
theorem dX4_treat_65 : decode cX4_treat 65 = .ok (.getfield 18, 3) := by decide +kernel
theorem dX4_treat_68 : decode cX4_treat 68 = .ok (.iload_n 2, 1) := by decide +kernel
theorem dX4_treat_69 : decode cX4_treat 69 = .ok (.iaload, 1) := by decide +kernel
theorem dX4_treat_70 : decode cX4_treat 70 = .ok (.iastore, 1) := by decide +kernel
theorem dX4_treat_71 : decode cX4_treat 71 = .ok (.aload_n 0, 1) := by decide +kernel
theorem dX4_treat_72 : decode cX4_treat 72 = .ok (.getfield 9, 3) := by decide +kernel
theorem dX4_treat_75 : decode cX4_treat 75 = .ok (.iload 5, 2) := by decide +kernel
theorem dX4_treat_77 : decode cX4_treat 77 = .ok (.iconst 4, 1) := by decide +kernel
theorem dX4_treat_78 : decode cX4_treat 78 = .ok (.iastore, 1) := by decide +kernel
theorem dX4_treat_79 : decode cX4_treat 79 = .ok (.return_, 1) := by decide +kernel
theorem dX4_treat_80 : decode cX4_treat 80 = .ok (.aload_n 0, 1) := by decide +kernel
theorem dX4_treat_81 : decode cX4_treat 81 = .ok (.getfield 34, 3) := by decide +kernel
theorem dX4_treat_84 : decode cX4_treat 84 = .ok (.iload_n 2, 1) := by decide +kernel
theorem dX4_treat_85 : decode cX4_treat 85 = .ok (.iload 4, 2) := by decide +kernel
theorem dX4_treat_87 : decode cX4_treat 87 = .ok (.iastore, 1) := by decide +kernel
theorem dX4_treat_88 : decode cX4_treat 88 = .ok (.aload_n 0, 1) := by decide +kernel
theorem dX4_treat_89 : decode cX4_treat 89 = .ok (.getfield 18, 3) := by decide +kernel
theorem dX4_treat_92 : decode cX4_treat 92 = .ok (.iload_n 2, 1) := by decide +kernel
theorem dX4_treat_93 : decode cX4_treat 93 = .ok (.dup2, 1) := by decide +kernel
theorem dX4_treat_94 : decode cX4_treat 94 = .ok (.iaload, 1) := by decide +kernel
theorem dX4_treat_95 : decode cX4_treat 95 = .ok (.aload_n 0, 1) := by decide +kernel
theorem dX4_treat_96 : decode cX4_treat 96 = .ok (.getfield 37, 3) := by decide +kernel
theorem dX4_treat_99 : decode cX4_treat 99 = .ok (.iload_n 2, 1) := by decide +kernel
theorem dX4_treat_100 : decode cX4_treat 100 = .ok (.iaload, 1) := by decide +kernel
theorem dX4_treat_101 : decode cX4_treat 101 = .ok (.iadd, 1) := by decide +kernel
theorem dX4_treat_102 : decode cX4_treat 102 = .ok (.iastore, 1) := by decide +kernel
theorem dX4_treat_103 : decode cX4_treat 103 = .ok (.aload_n 0, 1) := by decide +kernel
theorem dX4_treat_104 : decode cX4_treat 104 = .ok (.getfield 15, 3) := by decide +kernel
theorem dX4_treat_107 : decode cX4_treat 107 = .ok (.iload 5, 2) := by decide +kernel
theorem dX4_treat_109 : decode cX4_treat 109 = .ok (.aload_n 0, 1) := by decide +kernel
theorem dX4_treat_110 : decode cX4_treat 110 = .ok (.getfield 18, 3) := by decide +kernel
theorem dX4_treat_113 : decode cX4_treat 113 = .ok (.iload_n 2, 1) := by decide +kernel
theorem dX4_treat_114 : decode cX4_treat 114 = .ok (.iaload, 1) := by decide +kernel
theorem dX4_treat_115 : decode cX4_treat 115 = .ok (.iastore, 1) := by decide +kernel
theorem dX4_treat_116 : decode cX4_treat 116 = .ok (.aload_n 0, 1) := by decide +kernel
theorem dX4_treat_117 : decode cX4_treat 117 = .ok (.getfield 9, 3) := by decide +kernel
theorem dX4_treat_120 : decode cX4_treat 120 = .ok (.iload 5, 2) := by decide +kernel
theorem dX4_treat_122 : decode cX4_treat 122 = .ok (.aload_n 0, 1) := by decide +kernel
theorem dX4_treat_123 : decode cX4_treat 123 = .ok (.aload_n 1, 1) := by decide +kernel
theorem dX4_treat_124 : decode cX4_treat 124 = .ok (.iload_n 2, 1) := by decide +kernel
theorem dX4_treat_125 : decode cX4_treat 125 = .ok (.iload 4, 2) := by decide +kernel
theorem dX4_treat_127 : decode cX4_treat 127 = .ok (.invokevirtual 106, 3) := by decide +kernel
theorem dX4_treat_130 : decode cX4_treat 130 = .ok (.iastore, 1) := by decide +kernel
theorem dX4_treat_131 : decode cX4_treat 131 = .ok (.return_, 1) := by decide +kernel
theorem dX4_callOn_0 : decode cX4_callOn 0 = .ok (.aload_n 0, 1) := by decide +kernel
theorem dX4_callOn_1 : decode cX4_callOn 1 = .ok (.getfield 18, 3) := by decide +kernel
theorem dX4_callOn_4 : decode cX4_callOn 4 = .ok (.iload_n 2, 1) := by decide +kernel
theorem dX4_callOn_5 : decode cX4_callOn 5 = .ok (.iaload, 1) := by decide +kernel
theorem dX4_callOn_6 : decode cX4_callOn 6 = .ok (.istore 4, 2) := by decide +kernel
theorem dX4_callOn_8 : decode cX4_callOn 8 = .ok (.aload_n 0, 1) := by decide +kernel
theorem dX4_callOn_9 : decode cX4_callOn 9 = .ok (.getfield 24, 3) := by decide +kernel
theorem dX4_callOn_12 : decode cX4_callOn 12 = .ok (.iload_n 3, 1) := by decide +kernel
theorem dX4_callOn_13 : decode cX4_callOn 13 = .ok (.invokestatic 109, 3) := by decide +kernel
theorem dX4_callOn_16 : decode cX4_callOn 16 = .ok (.ifCond .eq 5, 3) := by decide +kernel
theorem dX4_callOn_19 : decode cX4_callOn 19 = .ok (.iconst 2, 1) := by decide +kernel
theorem dX4_callOn_20 : decode cX4_callOn 20 = .ok (.ireturn, 1) := by decide +kernel
theorem dX4_callOn_21 : decode cX4_callOn 21 = .ok (.aload_n 0, 1) := by decide +kernel
theorem dX4_callOn_22 : decode cX4_callOn 22 = .ok (.getfield 21, 3) := by decide +kernel
theorem dX4_callOn_25 : decode cX4_callOn 25 = .ok (.iload_n 3, 1) := by decide +kernel
theorem dX4_callOn_26 : decode cX4_callOn 26 = .ok (.iaload, 1) := by decide +kernel
theorem dX4_callOn_27 : decode cX4_callOn 27 = .ok (.iconst 2, 1) := by decide +kernel
theorem dX4_callOn_28 : decode cX4_callOn 28 = .ok (.if_icmp .ge 29, 3) := by decide +kernel
theorem dX4_callOn_31 : decode cX4_callOn 31 = .ok (.aload_n 0, 1) := by decide +kernel
theorem dX4_callOn_32 : decode cX4_callOn 32 = .ok (.getfield 21, 3) := by decide +kernel
theorem dX4_callOn_35 : decode cX4_callOn 35 = .ok (.iload_n 3, 1) := by decide +kernel
theorem dX4_callOn_36 : decode cX4_callOn 36 = .ok (.iaload, 1) := by decide +kernel
theorem dX4_callOn_37 : decode cX4_callOn 37 = .ok (.iconst 1, 1) := by decide +kernel
theorem dX4_callOn_38 : decode cX4_callOn 38 = .ok (.if_icmp .ne 21, 3) := by decide +kernel
theorem dX4_callOn_41 : decode cX4_callOn 41 = .ok (.aload_n 0, 1) := by decide +kernel
theorem dX4_callOn_42 : decode cX4_callOn 42 = .ok (.getfield 28, 3) := by decide +kernel
theorem dX4_callOn_45 : decode cX4_callOn 45 = .ok (.iload_n 3, 1) := by decide +kernel
theorem dX4_callOn_46 : decode cX4_callOn 46 = .ok (.iaload, 1) := by decide +kernel
theorem dX4_callOn_47 : decode cX4_callOn 47 = .ok (.iload 4, 2) := by decide +kernel
theorem dX4_callOn_49 : decode cX4_callOn 49 = .ok (.aload_n 1, 1) := by decide +kernel
theorem dX4_callOn_50 : decode cX4_callOn 50 = .ok (.getfield 113, 3) := by decide +kernel
theorem dX4_callOn_53 : decode cX4_callOn 53 = .ok (.isub, 1) := by decide +kernel
theorem dX4_callOn_54 : decode cX4_callOn 54 = .ok (.if_icmp .le 5, 3) := by decide +kernel
theorem dX4_callOn_57 : decode cX4_callOn 57 = .ok (.iconst 3, 1) := by decide +kernel
theorem dX4_callOn_58 : decode cX4_callOn 58 = .ok (.ireturn, 1) := by decide +kernel
theorem dX4_callOn_59 : decode cX4_callOn 59 = .ok (.aload_n 0, 1) := by decide +kernel
theorem dX4_callOn_60 : decode cX4_callOn 60 = .ok (.getfield 21, 3) := by decide +kernel
theorem dX4_callOn_63 : decode cX4_callOn 63 = .ok (.iload_n 3, 1) := by decide +kernel
theorem dX4_callOn_64 : decode cX4_callOn 64 = .ok (.dup2, 1) := by decide +kernel
theorem dX4_callOn_65 : decode cX4_callOn 65 = .ok (.iaload, 1) := by decide +kernel
theorem dX4_callOn_66 : decode cX4_callOn 66 = .ok (.iconst 1, 1) := by decide +kernel
theorem dX4_callOn_67 : decode cX4_callOn 67 = .ok (.iadd, 1) := by decide +kernel
theorem dX4_callOn_68 : decode cX4_callOn 68 = .ok (.iastore, 1) := by decide +kernel
theorem dX4_callOn_69 : decode cX4_callOn 69 = .ok (.aload_n 0, 1) := by decide +kernel
theorem dX4_callOn_70 : decode cX4_callOn 70 = .ok (.getfield 28, 3) := by decide +kernel
theorem dX4_callOn_73 : decode cX4_callOn 73 = .ok (.iload_n 3, 1) := by decide +kernel
theorem dX4_callOn_74 : decode cX4_callOn 74 = .ok (.iload 4, 2) := by decide +kernel
theorem dX4_callOn_76 : decode cX4_callOn 76 = .ok (.iastore, 1) := by decide +kernel
theorem dX4_callOn_77 : decode cX4_callOn 77 = .ok (.aload_n 1, 1) := by decide +kernel
theorem dX4_callOn_78 : decode cX4_callOn 78 = .ok (.getfield 96, 3) := by decide +kernel
theorem dX4_callOn_81 : decode cX4_callOn 81 = .ok (.iload_n 3, 1) := by decide +kernel
theorem dX4_callOn_82 : decode cX4_callOn 82 = .ok (.iload 4, 2) := by decide +kernel
theorem dX4_callOn_84 : decode cX4_callOn 84 = .ok (.invokevirtual 116, 3) := by decide +kernel
theorem dX4_callOn_87 : decode cX4_callOn 87 = .ok (.ifCond .ne 15, 3) := by decide +kernel
theorem dX4_callOn_90 : decode cX4_callOn 90 = .ok (.aload_n 0, 1) := by decide +kernel
theorem dX4_callOn_91 : decode cX4_callOn 91 = .ok (.getfield 18, 3) := by decide +kernel
theorem dX4_callOn_94 : decode cX4_callOn 94 = .ok (.iload_n 2, 1) := by decide +kernel
theorem dX4_callOn_95 : decode cX4_callOn 95 = .ok (.iload 4, 2) := by decide +kernel
theorem dX4_callOn_97 : decode cX4_callOn 97 = .ok (.iconst 1, 1) := by decide +kernel
theorem dX4_callOn_98 : decode cX4_callOn 98 = .ok (.iadd, 1) := by decide +kernel
theorem dX4_callOn_99 : decode cX4_callOn 99 = .ok (.iastore, 1) := by decide +kernel
theorem dX4_callOn_100 : decode cX4_callOn 100 = .ok (.iconst 1, 1) := by decide +kernel
theorem dX4_callOn_101 : decode cX4_callOn 101 = .ok (.ireturn, 1) := by decide +kernel
theorem dX4_callOn_102 : decode cX4_callOn 102 = .ok (.aload_n 0, 1) := by decide +kernel
theorem dX4_callOn_103 : decode cX4_callOn 103 = .ok (.dup, 1) := by decide +kernel
theorem dX4_callOn_104 : decode cX4_callOn 104 = .ok (.getfield 24, 3) := by decide +kernel
theorem dX4_callOn_107 : decode cX4_callOn 107 = .ok (.iconst 1, 1) := by decide +kernel
theorem dX4_callOn_108 : decode cX4_callOn 108 = .ok (.iload_n 3, 1) := by decide +kernel
theorem dX4_callOn_109 : decode cX4_callOn 109 = .ok (.ishl, 1) := by decide +kernel
theorem dX4_callOn_110 : decode cX4_callOn 110 = .ok (.ior, 1) := by decide +kernel
theorem dX4_callOn_111 : decode cX4_callOn 111 = .ok (.putfield 24, 3) := by decide +kernel
theorem dX4_callOn_114 : decode cX4_callOn 114 = .ok (.aload_n 0, 1) := by decide +kernel
theorem dX4_callOn_115 : decode cX4_callOn 115 = .ok (.getfield 18, 3) := by decide +kernel
theorem dX4_callOn_118 : decode cX4_callOn 118 = .ok (.iload_n 2, 1) := by decide +kernel
theorem dX4_callOn_119 : decode cX4_callOn 119 = .ok (.iload 4, 2) := by decide +kernel
theorem dX4_callOn_121 : decode cX4_callOn 121 = .ok (.aload_n 1, 1) := by decide +kernel
theorem dX4_callOn_122 : decode cX4_callOn 122 = .ok (.getfield 96, 3) := by decide +kernel
theorem dX4_callOn_125 : decode cX4_callOn 125 = .ok (.iload_n 3, 1) := by decide +kernel
theorem dX4_callOn_126 : decode cX4_callOn 126 = .ok (.aload_n 0, 1) := by decide +kernel
theorem dX4_callOn_127 : decode cX4_callOn 127 = .ok (.getfield 21, 3) := by decide +kernel
theorem dX4_callOn_130 : decode cX4_callOn 130 = .ok (.iload_n 3, 1) := by decide +kernel
theorem dX4_callOn_131 : decode cX4_callOn 131 = .ok (.iaload, 1) := by decide +kernel
theorem dX4_callOn_132 : decode cX4_callOn 132 = .ok (.invokevirtual 119, 3) := by decide +kernel
theorem dX4_callOn_135 : decode cX4_callOn 135 = .ok (.iadd, 1) := by decide +kernel
theorem dX4_callOn_136 : decode cX4_callOn 136 = .ok (.iastore, 1) := by decide +kernel
theorem dX4_callOn_137 : decode cX4_callOn 137 = .ok (.iconst 0, 1) := by decide +kernel
theorem dX4_callOn_138 : decode cX4_callOn 138 = .ok (.ireturn, 1) := by decide +kernel
theorem dX5_init_0 : decode cX5_init 0 = .ok (.aload_n 0, 1) := by decide +kernel
theorem dX5_init_1 : decode cX5_init 1 = .ok (.invokespecial 3, 3) := by decide +kernel
theorem dX5_init_4 : decode cX5_init 4 = .ok (.aload_n 0, 1) := by decide +kernel
theorem dX5_init_5 : decode cX5_init 5 = .ok (.iconst 0, 1) := by decide +kernel
theorem dX5_init_6 : decode cX5_init 6 = .ok (.putfield 9, 3) := by decide +kernel
theorem dX5_init_9 : decode cX5_init 9 = .ok (.aload_n 0, 1) := by decide +kernel
theorem dX5_init_10 : decode cX5_init 10 = .ok (.bipush 12, 2) := by decide +kernel
theorem dX5_init_12 : decode cX5_init 12 = .ok (.newarray .int, 2) := by decide +kernel
theorem dX5_init_14 : decode cX5_init 14 = .ok (.putfield 15, 3) := by decide +kernel
theorem dX5_init_17 : decode cX5_init 17 = .ok (.aload_n 0, 1) := by decide +kernel
theorem dX5_init_18 : decode cX5_init 18 = .ok (.bipush 12, 2) := by decide +kernel
theorem dX5_init_20 : decode cX5_init 20 = .ok (.newarray .int, 2) := by decide +kernel
theorem dX5_init_22 : decode cX5_init 22 = .ok (.putfield 19, 3) := by decide +kernel
theorem dX5_init_25 : decode cX5_init 25 = .ok (.aload_n 0, 1) := by decide +kernel
theorem dX5_init_26 : decode cX5_init 26 = .ok (.bipush 12, 2) := by decide +kernel
theorem dX5_init_28 : decode cX5_init 28 = .ok (.newarray .int, 2) := by decide +kernel
theorem dX5_init_30 : decode cX5_init 30 = .ok (.putfield 22, 3) := by decide +kernel
theorem dX5_init_33 : decode cX5_init 33 = .ok (.aload_n 0, 1) := by decide +kernel
theorem dX5_init_34 : decode cX5_init 34 = .ok (.bipush 12, 2) := by decide +kernel
theorem dX5_init_36 : decode cX5_init 36 = .ok (.newarray .boolean, 2) := by decide +kernel
theorem dX5_init_38 : decode cX5_init 38 = .ok (.putfield 25, 3) := by decide +kernel
theorem dX5_init_41 : decode cX5_init 41 = .ok (.return_, 1) := by decide +kernel
theorem dX5_has_0 : decode cX5_has 0 = .ok (.iload_n 1, 1) := by decide +kernel
theorem dX5_has_1 : decode cX5_has 1 = .ok (.ifCond .lt 15, 3) := by decide +kernel
theorem dX5_has_4 : decode cX5_has 4 = .ok (.iload_n 1, 1) := by decide +kernel
theorem dX5_has_5 : decode cX5_has 5 = .ok (.aload_n 0, 1) := by decide +kernel
theorem dX5_has_6 : decode cX5_has 6 = .ok (.getfield 9, 3) := by decide +kernel
theorem dX5_has_9 : decode cX5_has 9 = .ok (.if_icmp .ge 7, 3) := by decide +kernel
theorem dX5_has_12 : decode cX5_has 12 = .ok (.iconst 1, 1) := by decide +kernel
theorem dX5_has_13 : decode cX5_has 13 = .ok (.goto 4, 3) := by decide +kernel
theorem dX5_has_16 : decode cX5_has 16 = .ok (.iconst 0, 1) := by decide +kernel
theorem dX5_has_17 : decode cX5_has 17 = .ok (.ireturn, 1) := by decide +kernel
theorem dX5_add_0 : decode cX5_add 0 = .ok (.aload_n 0, 1) := by decide +kernel
theorem dX5_add_1 : decode cX5_add 1 = .ok (.getfield 9, 3) := by decide +kernel
theorem dX5_add_4 : decode cX5_add 4 = .ok (.bipush 12, 2) := by decide +kernel
theorem dX5_add_6 : decode cX5_add 6 = .ok (.if_icmp .ge 53, 3) := by decide +kernel
theorem dX5_add_9 : decode cX5_add 9 = .ok (.aload_n 0, 1) := by decide +kernel
theorem dX5_add_10 : decode cX5_add 10 = .ok (.getfield 15, 3) := by decide +kernel
theorem dX5_add_13 : decode cX5_add 13 = .ok (.aload_n 0, 1) := by decide +kernel
theorem dX5_add_14 : decode cX5_add 14 = .ok (.getfield 9, 3) := by decide +kernel
theorem dX5_add_17 : decode cX5_add 17 = .ok (.iload_n 1, 1) := by decide +kernel
theorem dX5_add_18 : decode cX5_add 18 = .ok (.iastore, 1) := by decide +kernel
theorem dX5_add_19 : decode cX5_add 19 = .ok (.aload_n 0, 1) := by decide +kernel
theorem dX5_add_20 : decode cX5_add 20 = .ok (.getfield 19, 3) := by decide +kernel
theorem dX5_add_23 : decode cX5_add 23 = .ok (.aload_n 0, 1) := by decide +kernel
theorem dX5_add_24 : decode cX5_add 24 = .ok (.getfield 9, 3) := by decide +kernel
theorem dX5_add_27 : decode cX5_add 27 = .ok (.iload_n 2, 1) := by decide +kernel
theorem dX5_add_28 : decode cX5_add 28 = .ok (.iastore, 1) := by decide +kernel
theorem dX5_add_29 : decode cX5_add 29 = .ok (.aload_n 0, 1) := by decide +kernel
theorem dX5_add_30 : decode cX5_add 30 = .ok (.getfield 22, 3) := by decide +kernel
theorem dX5_add_33 : decode cX5_add 33 = .ok (.aload_n 0, 1) := by decide +kernel
theorem dX5_add_34 : decode cX5_add 34 = .ok (.getfield 9, 3) := by decide +kernel
theorem dX5_add_37 : decode cX5_add 37 = .ok (.iload_n 3, 1) := by decide +kernel
theorem dX5_add_38 : decode cX5_add 38 = .ok (.iastore, 1) := by decide +kernel
theorem dX5_add_39 : decode cX5_add 39 = .ok (.aload_n 0, 1) := by decide +kernel
theorem dX5_add_40 : decode cX5_add 40 = .ok (.getfield 25, 3) := by decide +kernel
theorem dX5_add_43 : decode cX5_add 43 = .ok (.aload_n 0, 1) := by decide +kernel
theorem dX5_add_44 : decode cX5_add 44 = .ok (.getfield 9, 3) := by decide +kernel
theorem dX5_add_47 : decode cX5_add 47 = .ok (.iconst 1, 1) := by decide +kernel
theorem dX5_add_48 : decode cX5_add 48 = .ok (.bastore, 1) := by decide +kernel
theorem dX5_add_49 : decode cX5_add 49 = .ok (.aload_n 0, 1) := by decide +kernel
theorem dX5_add_50 : decode cX5_add 50 = .ok (.dup, 1) := by decide +kernel
theorem dX5_add_51 : decode cX5_add 51 = .ok (.getfield 9, 3) := by decide +kernel
theorem dX5_add_54 : decode cX5_add 54 = .ok (.iconst 1, 1) := by decide +kernel
theorem dX5_add_55 : decode cX5_add 55 = .ok (.iadd, 1) := by decide +kernel
theorem dX5_add_56 : decode cX5_add 56 = .ok (.putfield 9, 3) := by decide +kernel
theorem dX5_add_59 : decode cX5_add 59 = .ok (.return_, 1) := by decide +kernel
theorem dX5_copyFrom_0 : decode cX5_copyFrom 0 = .ok (.aload_n 0, 1) := by decide +kernel
theorem dX5_copyFrom_1 : decode cX5_copyFrom 1 = .ok (.aload_n 1, 1) := by decide +kernel
theorem dX5_copyFrom_2 : decode cX5_copyFrom 2 = .ok (.getfield 9, 3) := by decide +kernel
theorem dX5_copyFrom_5 : decode cX5_copyFrom 5 = .ok (.putfield 9, 3) := by decide +kernel
theorem dX5_copyFrom_8 : decode cX5_copyFrom 8 = .ok (.aload_n 1, 1) := by decide +kernel
theorem dX5_copyFrom_9 : decode cX5_copyFrom 9 = .ok (.getfield 15, 3) := by decide +kernel
theorem dX5_copyFrom_12 : decode cX5_copyFrom 12 = .ok (.iconst 0, 1) := by decide +kernel
theorem dX5_copyFrom_13 : decode cX5_copyFrom 13 = .ok (.aload_n 0, 1) := by decide +kernel
theorem dX5_copyFrom_14 : decode cX5_copyFrom 14 = .ok (.getfield 15, 3) := by decide +kernel
theorem dX5_copyFrom_17 : decode cX5_copyFrom 17 = .ok (.iconst 0, 1) := by decide +kernel
theorem dX5_copyFrom_18 : decode cX5_copyFrom 18 = .ok (.bipush 12, 2) := by decide +kernel
theorem dX5_copyFrom_20 : decode cX5_copyFrom 20 = .ok (.invokestatic 29, 3) := by decide +kernel
theorem dX5_copyFrom_23 : decode cX5_copyFrom 23 = .ok (.aload_n 1, 1) := by decide +kernel
theorem dX5_copyFrom_24 : decode cX5_copyFrom 24 = .ok (.getfield 19, 3) := by decide +kernel
theorem dX5_copyFrom_27 : decode cX5_copyFrom 27 = .ok (.iconst 0, 1) := by decide +kernel
theorem dX5_copyFrom_28 : decode cX5_copyFrom 28 = .ok (.aload_n 0, 1) := by decide +kernel
theorem dX5_copyFrom_29 : decode cX5_copyFrom 29 = .ok (.getfield 19, 3) := by decide +kernel
theorem dX5_copyFrom_32 : decode cX5_copyFrom 32 = .ok (.iconst 0, 1) := by decide +kernel
theorem dX5_copyFrom_33 : decode cX5_copyFrom 33 = .ok (.bipush 12, 2) := by decide +kernel
theorem dX5_copyFrom_35 : decode cX5_copyFrom 35 = .ok (.invokestatic 29, 3) := by decide +kernel
theorem dX5_copyFrom_38 : decode cX5_copyFrom 38 = .ok (.aload_n 1, 1) := by decide +kernel
theorem dX5_copyFrom_39 : decode cX5_copyFrom 39 = .ok (.getfield 22, 3) := by decide +kernel
theorem dX5_copyFrom_42 : decode cX5_copyFrom 42 = .ok (.iconst 0, 1) := by decide +kernel
theorem dX5_copyFrom_43 : decode cX5_copyFrom 43 = .ok (.aload_n 0, 1) := by decide +kernel
theorem dX5_copyFrom_44 : decode cX5_copyFrom 44 = .ok (.getfield 22, 3) := by decide +kernel
theorem dX5_copyFrom_47 : decode cX5_copyFrom 47 = .ok (.iconst 0, 1) := by decide +kernel
theorem dX5_copyFrom_48 : decode cX5_copyFrom 48 = .ok (.bipush 12, 2) := by decide +kernel
theorem dX5_copyFrom_50 : decode cX5_copyFrom 50 = .ok (.invokestatic 29, 3) := by decide +kernel
theorem dX5_copyFrom_53 : decode cX5_copyFrom 53 = .ok (.iconst 0, 1) := by decide +kernel
theorem dX5_copyFrom_54 : decode cX5_copyFrom 54 = .ok (.istore_n 2, 1) := by decide +kernel
theorem dX5_copyFrom_55 : decode cX5_copyFrom 55 = .ok (.iload_n 2, 1) := by decide +kernel
theorem dX5_copyFrom_56 : decode cX5_copyFrom 56 = .ok (.bipush 12, 2) := by decide +kernel
theorem dX5_copyFrom_58 : decode cX5_copyFrom 58 = .ok (.if_icmp .ge 21, 3) := by decide +kernel
theorem dX5_copyFrom_61 : decode cX5_copyFrom 61 = .ok (.aload_n 0, 1) := by decide +kernel
theorem dX5_copyFrom_62 : decode cX5_copyFrom 62 = .ok (.getfield 25, 3) := by decide +kernel
theorem dX5_copyFrom_65 : decode cX5_copyFrom 65 = .ok (.iload_n 2, 1) := by decide +kernel
theorem dX5_copyFrom_66 : decode cX5_copyFrom 66 = .ok (.aload_n 1, 1) := by decide +kernel
theorem dX5_copyFrom_67 : decode cX5_copyFrom 67 = .ok (.getfield 25, 3) := by decide +kernel
theorem dX5_copyFrom_70 : decode cX5_copyFrom 70 = .ok (.iload_n 2, 1) := by decide +kernel
theorem dX5_copyFrom_71 : decode cX5_copyFrom 71 = .ok (.baload, 1) := by decide +kernel
theorem dX5_copyFrom_72 : decode cX5_copyFrom 72 = .ok (.bastore, 1) := by decide +kernel
theorem dX5_copyFrom_73 : decode cX5_copyFrom 73 = .ok (.iinc 2 1, 3) := by decide +kernel
theorem dX5_copyFrom_76 : decode cX5_copyFrom 76 = .ok (.goto (-21), 3) := by decide +kernel
theorem dX5_copyFrom_79 : decode cX5_copyFrom 79 = .ok (.return_, 1) := by decide +kernel
theorem dX6_init_0 : decode cX6_init 0 = .ok (.aload_n 0, 1) := by decide +kernel
theorem dX6_init_1 : decode cX6_init 1 = .ok (.invokespecial 1, 3) := by decide +kernel
theorem dX6_init_4 : decode cX6_init 4 = .ok (.aload_n 0, 1) := by decide +kernel
theorem dX6_init_5 : decode cX6_init 5 = .ok (.iconst 0, 1) := by decide +kernel
theorem dX6_init_6 : decode cX6_init 6 = .ok (.putfield 9, 3) := by decide +kernel
theorem dX6_init_9 : decode cX6_init 9 = .ok (.aload_n 0, 1) := by decide +kernel
theorem dX6_init_10 : decode cX6_init 10 = .ok (.iconst 0, 1) := by decide +kernel
theorem dX6_init_11 : decode cX6_init 11 = .ok (.putfield 13, 3) := by decide +kernel
theorem dX6_init_14 : decode cX6_init 14 = .ok (.aload_n 0, 1) := by decide +kernel
theorem dX6_init_15 : decode cX6_init 15 = .ok (.iconst 0, 1) := by decide +kernel
theorem dX6_init_16 : decode cX6_init 16 = .ok (.putfield 16, 3) := by decide +kernel
theorem dX6_init_19 : decode cX6_init 19 = .ok (.aload_n 0, 1) := by decide +kernel
theorem dX6_init_20 : decode cX6_init 20 = .ok (.iconst 0, 1) := by decide +kernel
theorem dX6_init_21 : decode cX6_init 21 = .ok (.newarray .byte, 2) := by decide +kernel
theorem dX6_init_23 : decode cX6_init 23 = .ok (.putfield 19, 3) := by decide +kernel
theorem dX6_init_26 : decode cX6_init 26 = .ok (.aload_n 0, 1) := by decide +kernel
theorem dX6_init_27 : decode cX6_init 27 = .ok (.iconst 0, 1) := by decide +kernel
theorem dX6_init_28 : decode cX6_init 28 = .ok (.putfield 23, 3) := by decide +kernel
theorem dX6_init_31 : decode cX6_init 31 = .ok (.aload_n 0, 1) := by decide +kernel
theorem dX6_init_32 : decode cX6_init 32 = .ok (.iconst 0, 1) := by decide +kernel
theorem dX6_init_33 : decode cX6_init 33 = .ok (.putfield 26, 3) := by decide +kernel
theorem dX6_init_36 : decode cX6_init 36 = .ok (.return_, 1) := by decide +kernel
theorem dX6_begin_0 : decode cX6_begin 0 = .ok (.aload_n 0, 1) := by decide +kernel
theorem dX6_begin_1 : decode cX6_begin 1 = .ok (.aload_n 1, 1) := by decide +kernel
theorem dX6_begin_2 : decode cX6_begin 2 = .ok (.putfield 19, 3) := by decide +kernel
theorem dX6_begin_5 : decode cX6_begin 5 = .ok (.aload_n 0, 1) := by decide +kernel
theorem dX6_begin_6 : decode cX6_begin 6 = .ok (.iload_n 2, 1) := by decide +kernel
theorem dX6_begin_7 : decode cX6_begin 7 = .ok (.aload_n 1, 1) := by decide +kernel
theorem dX6_begin_8 : decode cX6_begin 8 = .ok (.arraylength, 1) := by decide +kernel
theorem dX6_begin_9 : decode cX6_begin 9 = .ok (.invokestatic 29, 3) := by decide +kernel
theorem dX6_begin_12 : decode cX6_begin 12 = .ok (.putfield 23, 3) := by decide +kernel
theorem dX6_begin_15 : decode cX6_begin 15 = .ok (.aload_n 0, 1) := by decide +kernel
theorem dX6_begin_16 : decode cX6_begin 16 = .ok (.iconst 0, 1) := by decide +kernel
theorem dX6_begin_17 : decode cX6_begin 17 = .ok (.putfield 26, 3) := by decide +kernel
theorem dX6_begin_20 : decode cX6_begin 20 = .ok (.aload_n 0, 1) := by decide +kernel
theorem dX6_begin_21 : decode cX6_begin 21 = .ok (.invokevirtual 35, 3) := by decide +kernel
theorem dX6_begin_24 : decode cX6_begin 24 = .ok (.return_, 1) := by decide +kernel
theorem dX6_advance_0 : decode cX6_advance 0 = .ok (.aload_n 0, 1) := by decide +kernel
theorem dX6_advance_1 : decode cX6_advance 1 = .ok (.getfield 26, 3) := by decide +kernel
theorem dX6_advance_4 : decode cX6_advance 4 = .ok (.aload_n 0, 1) := by decide +kernel
theorem dX6_advance_5 : decode cX6_advance 5 = .ok (.getfield 23, 3) := by decide +kernel
theorem dX6_advance_8 : decode cX6_advance 8 = .ok (.if_icmp .ge 30, 3) := by decide +kernel
theorem dX6_advance_11 : decode cX6_advance 11 = .ok (.aload_n 0, 1) := by decide +kernel
theorem dX6_advance_12 : decode cX6_advance 12 = .ok (.getfield 19, 3) := by decide +kernel
theorem dX6_advance_15 : decode cX6_advance 15 = .ok (.aload_n 0, 1) := by decide +kernel
theorem dX6_advance_16 : decode cX6_advance 16 = .ok (.getfield 26, 3) := by decide +kernel
theorem dX6_advance_19 : decode cX6_advance 19 = .ok (.baload, 1) := by decide +kernel
theorem dX6_advance_20 : decode cX6_advance 20 = .ok (.bipush 32, 2) := by decide +kernel
theorem dX6_advance_22 : decode cX6_advance 22 = .ok (.if_icmp .ne 16, 3) := by decide +kernel
theorem dX6_advance_25 : decode cX6_advance 25 = .ok (.aload_n 0, 1) := by decide +kernel
theorem dX6_advance_26 : decode cX6_advance 26 = .ok (.dup, 1) := by decide +kernel
theorem dX6_advance_27 : decode cX6_advance 27 = .ok (.getfield 26, 3) := by decide +kernel
theorem dX6_advance_30 : decode cX6_advance 30 = .ok (.iconst 1, 1) := by decide +kernel
theorem dX6_advance_31 : decode cX6_advance 31 = .ok (.iadd, 1) := by decide +kernel
theorem dX6_advance_32 : decode cX6_advance 32 = .ok (.putfield 26, 3) := by decide +kernel
theorem dX6_advance_35 : decode cX6_advance 35 = .ok (.goto (-35), 3) := by decide +kernel
theorem dX6_advance_38 : decode cX6_advance 38 = .ok (.aload_n 0, 1) := by decide +kernel
theorem dX6_advance_39 : decode cX6_advance 39 = .ok (.aload_n 0, 1) := by decide +kernel
theorem dX6_advance_40 : decode cX6_advance 40 = .ok (.getfield 26, 3) := by decide +kernel
theorem dX6_advance_43 : decode cX6_advance 43 = .ok (.putfield 13, 3) := by decide +kernel
theorem dX6_advance_46 : decode cX6_advance 46 = .ok (.aload_n 0, 1) := by decide +kernel
theorem dX6_advance_47 : decode cX6_advance 47 = .ok (.iconst 0, 1) := by decide +kernel
theorem dX6_advance_48 : decode cX6_advance 48 = .ok (.putfield 16, 3) := by decide +kernel
theorem dX6_advance_51 : decode cX6_advance 51 = .ok (.aload_n 0, 1) := by decide +kernel
theorem dX6_advance_52 : decode cX6_advance 52 = .ok (.getfield 26, 3) := by decide +kernel
theorem dX6_advance_55 : decode cX6_advance 55 = .ok (.aload_n 0, 1) := by decide +kernel
theorem dX6_advance_56 : decode cX6_advance 56 = .ok (.getfield 23, 3) := by decide +kernel
theorem dX6_advance_59 : decode cX6_advance 59 = .ok (.if_icmp .lt 11, 3) := by decide +kernel
theorem dX6_advance_62 : decode cX6_advance 62 = .ok (.aload_n 0, 1) := by decide +kernel
theorem dX6_advance_63 : decode cX6_advance 63 = .ok (.iconst 0, 1) := by decide +kernel
theorem dX6_advance_64 : decode cX6_advance 64 = .ok (.putfield 9, 3) := by decide +kernel
theorem dX6_advance_67 : decode cX6_advance 67 = .ok (.goto 189, 3) := by decide +kernel
theorem dX6_advance_70 : decode cX6_advance 70 = .ok (.aload_n 0, 1) := by decide +kernel
theorem dX6_advance_71 : decode cX6_advance 71 = .ok (.getfield 19, 3) := by decide +kernel
theorem dX6_advance_74 : decode cX6_advance 74 = .ok (.aload_n 0, 1) := by decide +kernel
theorem dX6_advance_75 : decode cX6_advance 75 = .ok (.getfield 26, 3) := by decide +kernel
theorem dX6_advance_78 : decode cX6_advance 78 = .ok (.baload, 1) := by decide +kernel
theorem dX6_advance_79 : decode cX6_advance 79 = .ok (.invokestatic 38, 3) := by decide +kernel
theorem dX6_advance_82 : decode cX6_advance 82 = .ok (.ifCond .eq 87, 3) := by decide +kernel
theorem dX6_advance_85 : decode cX6_advance 85 = .ok (.aload_n 0, 1) := by decide +kernel
theorem dX6_advance_86 : decode cX6_advance 86 = .ok (.iconst 1, 1) := by decide +kernel
theorem dX6_advance_87 : decode cX6_advance 87 = .ok (.putfield 9, 3) := by decide +kernel
theorem dX6_advance_90 : decode cX6_advance 90 = .ok (.aload_n 0, 1) := by decide +kernel
theorem dX6_advance_91 : decode cX6_advance 91 = .ok (.getfield 26, 3) := by decide +kernel
theorem dX6_advance_94 : decode cX6_advance 94 = .ok (.aload_n 0, 1) := by decide +kernel
theorem dX6_advance_95 : decode cX6_advance 95 = .ok (.getfield 23, 3) := by decide +kernel
theorem dX6_advance_98 : decode cX6_advance 98 = .ok (.if_icmp .ge 158, 3) := by decide +kernel
theorem dX6_advance_101 : decode cX6_advance 101 = .ok (.aload_n 0, 1) := by decide +kernel
theorem dX6_advance_102 : decode cX6_advance 102 = .ok (.getfield 19, 3) := by decide +kernel
theorem dX6_advance_105 : decode cX6_advance 105 = .ok (.aload_n 0, 1) := by decide +kernel
theorem dX6_advance_106 : decode cX6_advance 106 = .ok (.getfield 26, 3) := by decide +kernel
theorem dX6_advance_109 : decode cX6_advance 109 = .ok (.baload, 1) := by decide +kernel
theorem dX6_advance_110 : decode cX6_advance 110 = .ok (.invokestatic 38, 3) := by decide +kernel
theorem dX6_advance_113 : decode cX6_advance 113 = .ok (.ifCond .eq 143, 3) := by decide +kernel
theorem dX6_advance_116 : decode cX6_advance 116 = .ok (.aload_n 0, 1) := by decide +kernel
theorem dX6_advance_117 : decode cX6_advance 117 = .ok (.aload_n 0, 1) := by decide +kernel
theorem dX6_advance_118 : decode cX6_advance 118 = .ok (.getfield 16, 3) := by decide +kernel
theorem dX6_advance_121 : decode cX6_advance 121 = .ok (.ldc 42, 2) := by decide +kernel
theorem dX6_advance_123 : decode cX6_advance 123 = .ok (.if_icmp .ge 26, 3) := by decide +kernel
theorem dX6_advance_126 : decode cX6_advance 126 = .ok (.bipush 10, 2) := by decide +kernel
theorem dX6_advance_128 : decode cX6_advance 128 = .ok (.aload_n 0, 1) := by decide +kernel
theorem dX6_advance_129 : decode cX6_advance 129 = .ok (.getfield 16, 3) := by decide +kernel
theorem dX6_advance_132 : decode cX6_advance 132 = .ok (.imul, 1) := by decide +kernel
theorem dX6_advance_133 : decode cX6_advance 133 = .ok (.aload_n 0, 1) := by decide +kernel
theorem dX6_advance_134 : decode cX6_advance 134 = .ok (.getfield 19, 3) := by decide +kernel
theorem dX6_advance_137 : decode cX6_advance 137 = .ok (.aload_n 0, 1) := by decide +kernel
theorem dX6_advance_138 : decode cX6_advance 138 = .ok (.getfield 26, 3) := by decide +kernel
theorem dX6_advance_141 : decode cX6_advance 141 = .ok (.baload, 1) := by decide +kernel
theorem dX6_advance_142 : decode cX6_advance 142 = .ok (.iadd, 1) := by decide +kernel
theorem dX6_advance_143 : decode cX6_advance 143 = .ok (.bipush 48, 2) := by decide +kernel
theorem dX6_advance_145 : decode cX6_advance 145 = .ok (.isub, 1) := by decide +kernel
theorem dX6_advance_146 : decode cX6_advance 146 = .ok (.goto 7, 3) := by decide +kernel
theorem dX6_advance_149 : decode cX6_advance 149 = .ok (.aload_n 0, 1) := by decide +kernel
theorem dX6_advance_150 : decode cX6_advance 150 = .ok (.getfield 16, 3) := by decide +kernel
theorem dX6_advance_153 : decode cX6_advance 153 = .ok (.putfield 16, 3) := by decide +kernel
theorem dX6_advance_156 : decode cX6_advance 156 = .ok (.aload_n 0, 1) := by decide +kernel
theorem dX6_advance_157 : decode cX6_advance 157 = .ok (.dup, 1) := by decide +kernel
theorem dX6_advance_158 : decode cX6_advance 158 = .ok (.getfield 26, 3) := by decide +kernel
theorem dX6_advance_161 : decode cX6_advance 161 = .ok (.iconst 1, 1) := by decide +kernel
theorem dX6_advance_162 : decode cX6_advance 162 = .ok (.iadd, 1) := by decide +kernel
theorem dX6_advance_163 : decode cX6_advance 163 = .ok (.putfield 26, 3) := by decide +kernel
theorem dX6_advance_166 : decode cX6_advance 166 = .ok (.goto (-76), 3) := by decide +kernel
theorem dX6_advance_169 : decode cX6_advance 169 = .ok (.aload_n 0, 1) := by decide +kernel
theorem dX6_advance_170 : decode cX6_advance 170 = .ok (.getfield 19, 3) := by decide +kernel
theorem dX6_advance_173 : decode cX6_advance 173 = .ok (.aload_n 0, 1) := by decide +kernel
theorem dX6_advance_174 : decode cX6_advance 174 = .ok (.getfield 26, 3) := by decide +kernel
theorem dX6_advance_177 : decode cX6_advance 177 = .ok (.baload, 1) := by decide +kernel
theorem dX6_advance_178 : decode cX6_advance 178 = .ok (.invokestatic 43, 3) := by decide +kernel
theorem dX6_advance_181 : decode cX6_advance 181 = .ok (.ifCond .eq 47, 3) := by decide +kernel
theorem dX6_advance_184 : decode cX6_advance 184 = .ok (.aload_n 0, 1) := by decide +kernel
theorem dX6_advance_185 : decode cX6_advance 185 = .ok (.iconst 2, 1) := by decide +kernel
theorem dX6_advance_186 : decode cX6_advance 186 = .ok (.putfield 9, 3) := by decide +kernel
theorem dX6_advance_189 : decode cX6_advance 189 = .ok (.aload_n 0, 1) := by decide +kernel
theorem dX6_advance_190 : decode cX6_advance 190 = .ok (.getfield 26, 3) := by decide +kernel
theorem dX6_advance_193 : decode cX6_advance 193 = .ok (.aload_n 0, 1) := by decide +kernel
theorem dX6_advance_194 : decode cX6_advance 194 = .ok (.getfield 23, 3) := by decide +kernel
theorem dX6_advance_197 : decode cX6_advance 197 = .ok (.if_icmp .ge 59, 3) := by decide +kernel
theorem dX6_advance_200 : decode cX6_advance 200 = .ok (.aload_n 0, 1) := by decide +kernel
theorem dX6_advance_201 : decode cX6_advance 201 = .ok (.getfield 19, 3) := by decide +kernel
theorem dX6_advance_204 : decode cX6_advance 204 = .ok (.aload_n 0, 1) := by decide +kernel
theorem dX6_advance_205 : decode cX6_advance 205 = .ok (.getfield 26, 3) := by decide +kernel
theorem dX6_advance_208 : decode cX6_advance 208 = .ok (.baload, 1) := by decide +kernel
theorem dX6_advance_209 : decode cX6_advance 209 = .ok (.invokestatic 43, 3) := by decide +kernel
theorem dX6_advance_212 : decode cX6_advance 212 = .ok (.ifCond .eq 44, 3) := by decide +kernel
theorem dX6_advance_215 : decode cX6_advance 215 = .ok (.aload_n 0, 1) := by decide +kernel
theorem dX6_advance_216 : decode cX6_advance 216 = .ok (.dup, 1) := by decide +kernel
theorem dX6_advance_217 : decode cX6_advance 217 = .ok (.getfield 26, 3) := by decide +kernel
theorem dX6_advance_220 : decode cX6_advance 220 = .ok (.iconst 1, 1) := by decide +kernel
theorem dX6_advance_221 : decode cX6_advance 221 = .ok (.iadd, 1) := by decide +kernel
theorem dX6_advance_222 : decode cX6_advance 222 = .ok (.putfield 26, 3) := by decide +kernel
theorem dX6_advance_225 : decode cX6_advance 225 = .ok (.goto (-36), 3) := by decide +kernel
theorem dX6_advance_228 : decode cX6_advance 228 = .ok (.aload_n 0, 1) := by decide +kernel
theorem dX6_advance_229 : decode cX6_advance 229 = .ok (.iconst 3, 1) := by decide +kernel
theorem dX6_advance_230 : decode cX6_advance 230 = .ok (.putfield 9, 3) := by decide +kernel
theorem dX6_advance_233 : decode cX6_advance 233 = .ok (.aload_n 0, 1) := by decide +kernel
theorem dX6_advance_234 : decode cX6_advance 234 = .ok (.aload_n 0, 1) := by decide +kernel
theorem dX6_advance_235 : decode cX6_advance 235 = .ok (.getfield 19, 3) := by decide +kernel
theorem dX6_advance_238 : decode cX6_advance 238 = .ok (.aload_n 0, 1) := by decide +kernel
theorem dX6_advance_239 : decode cX6_advance 239 = .ok (.getfield 26, 3) := by decide +kernel
theorem dX6_advance_242 : decode cX6_advance 242 = .ok (.baload, 1) := by decide +kernel
theorem dX6_advance_243 : decode cX6_advance 243 = .ok (.putfield 16, 3) := by decide +kernel
theorem dX6_advance_246 : decode cX6_advance 246 = .ok (.aload_n 0, 1) := by decide +kernel
theorem dX6_advance_247 : decode cX6_advance 247 = .ok (.dup, 1) := by decide +kernel
theorem dX6_advance_248 : decode cX6_advance 248 = .ok (.getfield 26, 3) := by decide +kernel
theorem dX6_advance_251 : decode cX6_advance 251 = .ok (.iconst 1, 1) := by decide +kernel
theorem dX6_advance_252 : decode cX6_advance 252 = .ok (.iadd, 1) := by decide +kernel
theorem dX6_advance_253 : decode cX6_advance 253 = .ok (.putfield 26, 3) := by decide +kernel
theorem dX6_advance_256 : decode cX6_advance 256 = .ok (.return_, 1) := by decide +kernel
theorem dX6_isWord_0 : decode cX6_isWord 0 = .ok (.aload_n 0, 1) := by decide +kernel
theorem dX6_isWord_1 : decode cX6_isWord 1 = .ok (.getfield 9, 3) := by decide +kernel
theorem dX6_isWord_4 : decode cX6_isWord 4 = .ok (.iconst 2, 1) := by decide +kernel
theorem dX6_isWord_5 : decode cX6_isWord 5 = .ok (.if_icmp .ne 19, 3) := by decide +kernel
theorem dX6_isWord_8 : decode cX6_isWord 8 = .ok (.aload_n 0, 1) := by decide +kernel
theorem dX6_isWord_9 : decode cX6_isWord 9 = .ok (.getfield 26, 3) := by decide +kernel
theorem dX6_isWord_12 : decode cX6_isWord 12 = .ok (.aload_n 0, 1) := by decide +kernel
theorem dX6_isWord_13 : decode cX6_isWord 13 = .ok (.getfield 13, 3) := by decide +kernel
theorem dX6_isWord_16 : decode cX6_isWord 16 = .ok (.isub, 1) := by decide +kernel
theorem dX6_isWord_17 : decode cX6_isWord 17 = .ok (.aload_n 1, 1) := by decide +kernel
theorem dX6_isWord_18 : decode cX6_isWord 18 = .ok (.invokevirtual 46, 3) := by decide +kernel
theorem dX6_isWord_21 : decode cX6_isWord 21 = .ok (.if_icmp .eq 5, 3) := by decide +kernel
theorem dX6_isWord_24 : decode cX6_isWord 24 = .ok (.iconst 0, 1) := by decide +kernel
theorem dX6_isWord_25 : decode cX6_isWord 25 = .ok (.ireturn, 1) := by decide +kernel
theorem dX6_isWord_26 : decode cX6_isWord 26 = .ok (.iconst 0, 1) := by decide +kernel
theorem dX6_isWord_27 : decode cX6_isWord 27 = .ok (.istore_n 2, 1) := by decide +kernel
theorem dX6_isWord_28 : decode cX6_isWord 28 = .ok (.iload_n 2, 1) := by decide +kernel
theorem dX6_isWord_29 : decode cX6_isWord 29 = .ok (.aload_n 1, 1) := by decide +kernel
theorem dX6_isWord_30 : decode cX6_isWord 30 = .ok (.invokevirtual 46, 3) := by decide +kernel
theorem dX6_isWord_33 : decode cX6_isWord 33 = .ok (.if_icmp .ge 30, 3) := by decide +kernel
theorem dX6_isWord_36 : decode cX6_isWord 36 = .ok (.aload_n 0, 1) := by decide +kernel
theorem dX6_isWord_37 : decode cX6_isWord 37 = .ok (.getfield 19, 3) := by decide +kernel
theorem dX6_isWord_40 : decode cX6_isWord 40 = .ok (.aload_n 0, 1) := by decide +kernel
theorem dX6_isWord_41 : decode cX6_isWord 41 = .ok (.getfield 13, 3) := by decide +kernel
theorem dX6_isWord_44 : decode cX6_isWord 44 = .ok (.iload_n 2, 1) := by decide +kernel
theorem dX6_isWord_45 : decode cX6_isWord 45 = .ok (.iadd, 1) := by decide +kernel
theorem dX6_isWord_46 : decode cX6_isWord 46 = .ok (.baload, 1) := by decide +kernel
theorem dX6_isWord_47 : decode cX6_isWord 47 = .ok (.aload_n 1, 1) := by decide +kernel
theorem dX6_isWord_48 : decode cX6_isWord 48 = .ok (.iload_n 2, 1) := by decide +kernel
theorem dX6_isWord_49 : decode cX6_isWord 49 = .ok (.invokevirtual 51, 3) := by decide +kernel
theorem dX6_isWord_52 : decode cX6_isWord 52 = .ok (.if_icmp .eq 5, 3) := by decide +kernel
theorem dX6_isWord_55 : decode cX6_isWord 55 = .ok (.iconst 0, 1) := by decide +kernel
theorem dX6_isWord_56 : decode cX6_isWord 56 = .ok (.ireturn, 1) := by decide +kernel
theorem dX6_isWord_57 : decode cX6_isWord 57 = .ok (.iinc 2 1, 3) := by decide +kernel
theorem dX6_isWord_60 : decode cX6_isWord 60 = .ok (.goto (-32), 3) := by decide +kernel
theorem dX6_isWord_63 : decode cX6_isWord 63 = .ok (.iconst 1, 1) := by decide +kernel
theorem dX6_isWord_64 : decode cX6_isWord 64 = .ok (.ireturn, 1) := by decide +kernel
theorem dX6_isSign_0 : decode cX6_isSign 0 = .ok (.aload_n 0, 1) := by decide +kernel
theorem dX6_isSign_1 : decode cX6_isSign 1 = .ok (.getfield 9, 3) := by decide +kernel
theorem dX6_isSign_4 : decode cX6_isSign 4 = .ok (.iconst 3, 1) := by decide +kernel
theorem dX6_isSign_5 : decode cX6_isSign 5 = .ok (.if_icmp .ne 15, 3) := by decide +kernel
theorem dX6_isSign_8 : decode cX6_isSign 8 = .ok (.aload_n 0, 1) := by decide +kernel
theorem dX6_isSign_9 : decode cX6_isSign 9 = .ok (.getfield 16, 3) := by decide +kernel
theorem dX6_isSign_12 : decode cX6_isSign 12 = .ok (.iload_n 1, 1) := by decide +kernel
theorem dX6_isSign_13 : decode cX6_isSign 13 = .ok (.if_icmp .ne 7, 3) := by decide +kernel
theorem dX6_isSign_16 : decode cX6_isSign 16 = .ok (.iconst 1, 1) := by decide +kernel
theorem dX6_isSign_17 : decode cX6_isSign 17 = .ok (.goto 4, 3) := by decide +kernel
theorem dX6_isSign_20 : decode cX6_isSign 20 = .ok (.iconst 0, 1) := by decide +kernel
theorem dX6_isSign_21 : decode cX6_isSign 21 = .ok (.ireturn, 1) := by decide +kernel
theorem dX6_isDigit_0 : decode cX6_isDigit 0 = .ok (.iload_n 0, 1) := by decide +kernel
theorem dX6_isDigit_1 : decode cX6_isDigit 1 = .ok (.bipush 48, 2) := by decide +kernel
theorem dX6_isDigit_3 : decode cX6_isDigit 3 = .ok (.if_icmp .lt 13, 3) := by decide +kernel
theorem dX6_isDigit_6 : decode cX6_isDigit 6 = .ok (.iload_n 0, 1) := by decide +kernel
theorem dX6_isDigit_7 : decode cX6_isDigit 7 = .ok (.bipush 57, 2) := by decide +kernel
theorem dX6_isDigit_9 : decode cX6_isDigit 9 = .ok (.if_icmp .gt 7, 3) := by decide +kernel
theorem dX6_isDigit_12 : decode cX6_isDigit 12 = .ok (.iconst 1, 1) := by decide +kernel
theorem dX6_isDigit_13 : decode cX6_isDigit 13 = .ok (.goto 4, 3) := by decide +kernel
theorem dX6_isDigit_16 : decode cX6_isDigit 16 = .ok (.iconst 0, 1) := by decide +kernel
theorem dX6_isDigit_17 : decode cX6_isDigit 17 = .ok (.ireturn, 1) := by decide +kernel
theorem dX6_isLetter_0 : decode cX6_isLetter 0 = .ok (.iload_n 0, 1) := by decide +kernel
theorem dX6_isLetter_1 : decode cX6_isLetter 1 = .ok (.bipush 97, 2) := by decide +kernel
theorem dX6_isLetter_3 : decode cX6_isLetter 3 = .ok (.if_icmp .lt 13, 3) := by decide +kernel
theorem dX6_isLetter_6 : decode cX6_isLetter 6 = .ok (.iload_n 0, 1) := by decide +kernel
theorem dX6_isLetter_7 : decode cX6_isLetter 7 = .ok (.bipush 122, 2) := by decide +kernel
theorem dX6_isLetter_9 : decode cX6_isLetter 9 = .ok (.if_icmp .gt 7, 3) := by decide +kernel
theorem dX6_isLetter_12 : decode cX6_isLetter 12 = .ok (.iconst 1, 1) := by decide +kernel
theorem dX6_isLetter_13 : decode cX6_isLetter 13 = .ok (.goto 4, 3) := by decide +kernel
theorem dX6_isLetter_16 : decode cX6_isLetter 16 = .ok (.iconst 0, 1) := by decide +kernel
theorem dX6_isLetter_17 : decode cX6_isLetter 17 = .ok (.ireturn, 1) := by decide +kernel
theorem dX7_init_0 : decode cX7_init 0 = .ok (.aload_n 0, 1) := by decide +kernel
theorem dX7_init_1 : decode cX7_init 1 = .ok (.invokespecial 1, 3) := by decide +kernel
theorem dX7_init_4 : decode cX7_init 4 = .ok (.aload_n 0, 1) := by decide +kernel
theorem dX7_init_5 : decode cX7_init 5 = .ok (.iconst 0, 1) := by decide +kernel
theorem dX7_init_6 : decode cX7_init 6 = .ok (.putfield 7, 3) := by decide +kernel
theorem dX7_init_9 : decode cX7_init 9 = .ok (.aload_n 0, 1) := by decide +kernel
theorem dX7_init_10 : decode cX7_init 10 = .ok (.iconst 0, 1) := by decide +kernel
theorem dX7_init_11 : decode cX7_init 11 = .ok (.putfield 13, 3) := by decide +kernel
theorem dX7_init_14 : decode cX7_init 14 = .ok (.aload_n 0, 1) := by decide +kernel
theorem dX7_init_15 : decode cX7_init 15 = .ok (.bipush 60, 2) := by decide +kernel
theorem dX7_init_17 : decode cX7_init 17 = .ok (.putfield 16, 3) := by decide +kernel
theorem dX7_init_20 : decode cX7_init 20 = .ok (.aload_n 0, 1) := by decide +kernel
theorem dX7_init_21 : decode cX7_init 21 = .ok (.new 19, 3) := by decide +kernel
theorem dX7_init_24 : decode cX7_init 24 = .ok (.dup, 1) := by decide +kernel
theorem dX7_init_25 : decode cX7_init 25 = .ok (.invokespecial 21, 3) := by decide +kernel
theorem dX7_init_28 : decode cX7_init 28 = .ok (.putfield 22, 3) := by decide +kernel
theorem dX7_init_31 : decode cX7_init 31 = .ok (.aload_n 0, 1) := by decide +kernel
theorem dX7_init_32 : decode cX7_init 32 = .ok (.new 26, 3) := by decide +kernel
theorem dX7_init_35 : decode cX7_init 35 = .ok (.dup, 1) := by decide +kernel
theorem dX7_init_36 : decode cX7_init 36 = .ok (.invokespecial 28, 3) := by decide +kernel
theorem dX7_init_39 : decode cX7_init 39 = .ok (.putfield 29, 3) := by decide +kernel
theorem dX7_init_42 : decode cX7_init 42 = .ok (.aload_n 0, 1) := by decide +kernel
theorem dX7_init_43 : decode cX7_init 43 = .ok (.new 33, 3) := by decide +kernel
theorem dX7_init_46 : decode cX7_init 46 = .ok (.dup, 1) := by decide +kernel
theorem dX7_init_47 : decode cX7_init 47 = .ok (.invokespecial 35, 3) := by decide +kernel
theorem dX7_init_50 : decode cX7_init 50 = .ok (.putfield 36, 3) := by decide +kernel
theorem dX7_init_53 : decode cX7_init 53 = .ok (.return_, 1) := by decide +kernel
theorem dX7_clear_0 : decode cX7_clear 0 = .ok (.aload_n 0, 1) := by decide +kernel
theorem dX7_clear_1 : decode cX7_clear 1 = .ok (.iconst 0, 1) := by decide +kernel
theorem dX7_clear_2 : decode cX7_clear 2 = .ok (.putfield 7, 3) := by decide +kernel
theorem dX7_clear_5 : decode cX7_clear 5 = .ok (.aload_n 0, 1) := by decide +kernel
theorem dX7_clear_6 : decode cX7_clear 6 = .ok (.iconst 0, 1) := by decide +kernel
theorem dX7_clear_7 : decode cX7_clear 7 = .ok (.putfield 13, 3) := by decide +kernel
theorem dX7_clear_10 : decode cX7_clear 10 = .ok (.aload_n 0, 1) := by decide +kernel
theorem dX7_clear_11 : decode cX7_clear 11 = .ok (.bipush 60, 2) := by decide +kernel
theorem dX7_clear_13 : decode cX7_clear 13 = .ok (.putfield 16, 3) := by decide +kernel
theorem dX7_clear_16 : decode cX7_clear 16 = .ok (.aload_n 0, 1) := by decide +kernel
theorem dX7_clear_17 : decode cX7_clear 17 = .ok (.getfield 22, 3) := by decide +kernel
theorem dX7_clear_20 : decode cX7_clear 20 = .ok (.iconst 0, 1) := by decide +kernel
theorem dX7_clear_21 : decode cX7_clear 21 = .ok (.putfield 40, 3) := by decide +kernel
theorem dX7_clear_24 : decode cX7_clear 24 = .ok (.aload_n 0, 1) := by decide +kernel
theorem dX7_clear_25 : decode cX7_clear 25 = .ok (.getfield 29, 3) := by decide +kernel
theorem dX7_clear_28 : decode cX7_clear 28 = .ok (.iconst 0, 1) := by decide +kernel
theorem dX7_clear_29 : decode cX7_clear 29 = .ok (.putfield 43, 3) := by decide +kernel
theorem dX7_clear_32 : decode cX7_clear 32 = .ok (.aload_n 0, 1) := by decide +kernel
theorem dX7_clear_33 : decode cX7_clear 33 = .ok (.getfield 36, 3) := by decide +kernel
theorem dX7_clear_36 : decode cX7_clear 36 = .ok (.iconst 0, 1) := by decide +kernel
theorem dX7_clear_37 : decode cX7_clear 37 = .ok (.putfield 44, 3) := by decide +kernel
theorem dX7_clear_40 : decode cX7_clear 40 = .ok (.return_, 1) := by decide +kernel
theorem dX7_copyFrom_0 : decode cX7_copyFrom 0 = .ok (.aload_n 0, 1) := by decide +kernel
theorem dX7_copyFrom_1 : decode cX7_copyFrom 1 = .ok (.aload_n 1, 1) := by decide +kernel
theorem dX7_copyFrom_2 : decode cX7_copyFrom 2 = .ok (.getfield 7, 3) := by decide +kernel
theorem dX7_copyFrom_5 : decode cX7_copyFrom 5 = .ok (.putfield 7, 3) := by decide +kernel
theorem dX7_copyFrom_8 : decode cX7_copyFrom 8 = .ok (.aload_n 0, 1) := by decide +kernel
theorem dX7_copyFrom_9 : decode cX7_copyFrom 9 = .ok (.aload_n 1, 1) := by decide +kernel
theorem dX7_copyFrom_10 : decode cX7_copyFrom 10 = .ok (.getfield 13, 3) := by decide +kernel
theorem dX7_copyFrom_13 : decode cX7_copyFrom 13 = .ok (.putfield 13, 3) := by decide +kernel
theorem dX7_copyFrom_16 : decode cX7_copyFrom 16 = .ok (.aload_n 0, 1) := by decide +kernel
theorem dX7_copyFrom_17 : decode cX7_copyFrom 17 = .ok (.aload_n 1, 1) := by decide +kernel
theorem dX7_copyFrom_18 : decode cX7_copyFrom 18 = .ok (.getfield 16, 3) := by decide +kernel
theorem dX7_copyFrom_21 : decode cX7_copyFrom 21 = .ok (.putfield 16, 3) := by decide +kernel
theorem dX7_copyFrom_24 : decode cX7_copyFrom 24 = .ok (.aload_n 0, 1) := by decide +kernel
theorem dX7_copyFrom_25 : decode cX7_copyFrom 25 = .ok (.getfield 22, 3) := by decide +kernel
theorem dX7_copyFrom_28 : decode cX7_copyFrom 28 = .ok (.aload_n 1, 1) := by decide +kernel
theorem dX7_copyFrom_29 : decode cX7_copyFrom 29 = .ok (.getfield 22, 3) := by decide +kernel
theorem dX7_copyFrom_32 : decode cX7_copyFrom 32 = .ok (.invokevirtual 45, 3) := by decide +kernel
theorem dX7_copyFrom_35 : decode cX7_copyFrom 35 = .ok (.aload_n 0, 1) := by decide +kernel
theorem dX7_copyFrom_36 : decode cX7_copyFrom 36 = .ok (.getfield 29, 3) := by decide +kernel
theorem dX7_copyFrom_39 : decode cX7_copyFrom 39 = .ok (.aload_n 1, 1) := by decide +kernel
theorem dX7_copyFrom_40 : decode cX7_copyFrom 40 = .ok (.getfield 29, 3) := by decide +kernel
theorem dX7_copyFrom_43 : decode cX7_copyFrom 43 = .ok (.invokevirtual 49, 3) := by decide +kernel
theorem dX7_copyFrom_46 : decode cX7_copyFrom 46 = .ok (.aload_n 0, 1) := by decide +kernel
theorem dX7_copyFrom_47 : decode cX7_copyFrom 47 = .ok (.getfield 36, 3) := by decide +kernel
theorem dX7_copyFrom_50 : decode cX7_copyFrom 50 = .ok (.aload_n 1, 1) := by decide +kernel
theorem dX7_copyFrom_51 : decode cX7_copyFrom 51 = .ok (.getfield 36, 3) := by decide +kernel
theorem dX7_copyFrom_54 : decode cX7_copyFrom 54 = .ok (.invokevirtual 52, 3) := by decide +kernel
theorem dX7_copyFrom_57 : decode cX7_copyFrom 57 = .ok (.return_, 1) := by decide +kernel
theorem dX8_init_0 : decode cX8_init 0 = .ok (.aload_n 0, 1) := by decide +kernel
theorem dX8_init_1 : decode cX8_init 1 = .ok (.invokespecial 3, 3) := by decide +kernel
theorem dX8_init_4 : decode cX8_init 4 = .ok (.aload_n 0, 1) := by decide +kernel
theorem dX8_init_5 : decode cX8_init 5 = .ok (.sipush 900, 3) := by decide +kernel
theorem dX8_init_8 : decode cX8_init 8 = .ok (.newarray .int, 2) := by decide +kernel
theorem dX8_init_10 : decode cX8_init 10 = .ok (.putfield 9, 3) := by decide +kernel
theorem dX8_init_13 : decode cX8_init 13 = .ok (.aload_n 0, 1) := by decide +kernel
theorem dX8_init_14 : decode cX8_init 14 = .ok (.iconst 0, 1) := by decide +kernel
theorem dX8_init_15 : decode cX8_init 15 = .ok (.putfield 15, 3) := by decide +kernel
theorem dX8_init_18 : decode cX8_init 18 = .ok (.aload_n 0, 1) := by decide +kernel
theorem dX8_init_19 : decode cX8_init 19 = .ok (.bipush 16, 2) := by decide +kernel
theorem dX8_init_21 : decode cX8_init 21 = .ok (.newarray .int, 2) := by decide +kernel
theorem dX8_init_23 : decode cX8_init 23 = .ok (.putfield 19, 3) := by decide +kernel
theorem dX8_init_26 : decode cX8_init 26 = .ok (.return_, 1) := by decide +kernel
theorem dX8_clear_0 : decode cX8_clear 0 = .ok (.aload_n 0, 1) := by decide +kernel
theorem dX8_clear_1 : decode cX8_clear 1 = .ok (.iconst 0, 1) := by decide +kernel
theorem dX8_clear_2 : decode cX8_clear 2 = .ok (.putfield 15, 3) := by decide +kernel
theorem dX8_clear_5 : decode cX8_clear 5 = .ok (.return_, 1) := by decide +kernel
theorem dX8_add_0 : decode cX8_add 0 = .ok (.aload_n 0, 1) := by decide +kernel
theorem dX8_add_1 : decode cX8_add 1 = .ok (.getfield 15, 3) := by decide +kernel
theorem dX8_add_4 : decode cX8_add 4 = .ok (.aload_n 0, 1) := by decide +kernel
theorem dX8_add_5 : decode cX8_add 5 = .ok (.getfield 9, 3) := by decide +kernel
theorem dX8_add_8 : decode cX8_add 8 = .ok (.arraylength, 1) := by decide +kernel
theorem dX8_add_9 : decode cX8_add 9 = .ok (.if_icmp .ge 23, 3) := by decide +kernel
theorem dX8_add_12 : decode cX8_add 12 = .ok (.aload_n 0, 1) := by decide +kernel
theorem dX8_add_13 : decode cX8_add 13 = .ok (.getfield 9, 3) := by decide +kernel
theorem dX8_add_16 : decode cX8_add 16 = .ok (.aload_n 0, 1) := by decide +kernel
theorem dX8_add_17 : decode cX8_add 17 = .ok (.getfield 15, 3) := by decide +kernel
theorem dX8_add_20 : decode cX8_add 20 = .ok (.iload_n 1, 1) := by decide +kernel
theorem dX8_add_21 : decode cX8_add 21 = .ok (.iastore, 1) := by decide +kernel
theorem dX8_add_22 : decode cX8_add 22 = .ok (.aload_n 0, 1) := by decide +kernel
theorem dX8_add_23 : decode cX8_add 23 = .ok (.dup, 1) := by decide +kernel
theorem dX8_add_24 : decode cX8_add 24 = .ok (.getfield 15, 3) := by decide +kernel
theorem dX8_add_27 : decode cX8_add 27 = .ok (.iconst 1, 1) := by decide +kernel
theorem dX8_add_28 : decode cX8_add 28 = .ok (.iadd, 1) := by decide +kernel
theorem dX8_add_29 : decode cX8_add 29 = .ok (.putfield 15, 3) := by decide +kernel
theorem dX8_add_32 : decode cX8_add 32 = .ok (.return_, 1) := by decide +kernel
theorem dX8_minutes_0 : decode cX8_minutes 0 = .ok (.aload_n 0, 1) := by decide +kernel
theorem dX8_minutes_1 : decode cX8_minutes 1 = .ok (.getfield 15, 3) := by decide +kernel
theorem dX8_minutes_4 : decode cX8_minutes 4 = .ok (.ifCond .ne 6, 3) := by decide +kernel
theorem dX8_minutes_7 : decode cX8_minutes 7 = .ok (.bipush 10, 2) := by decide +kernel
theorem dX8_minutes_9 : decode cX8_minutes 9 = .ok (.ireturn, 1) := by decide +kernel
theorem dX8_minutes_10 : decode cX8_minutes 10 = .ok (.iconst 0, 1) := by decide +kernel
theorem dX8_minutes_11 : decode cX8_minutes 11 = .ok (.istore 4, 2) := by decide +kernel
theorem dX8_minutes_13 : decode cX8_minutes 13 = .ok (.iconst 0, 1) := by decide +kernel
theorem dX8_minutes_14 : decode cX8_minutes 14 = .ok (.istore 5, 2) := by decide +kernel
theorem dX8_minutes_16 : decode cX8_minutes 16 = .ok (.iload 5, 2) := by decide +kernel
theorem dX8_minutes_18 : decode cX8_minutes 18 = .ok (.aload_n 0, 1) := by decide +kernel
theorem dX8_minutes_19 : decode cX8_minutes 19 = .ok (.getfield 15, 3) := by decide +kernel
theorem dX8_minutes_22 : decode cX8_minutes 22 = .ok (.if_icmp .ge 95, 3) := by decide +kernel
theorem dX8_minutes_25 : decode cX8_minutes 25 = .ok (.aload_n 0, 1) := by decide +kernel
theorem dX8_minutes_26 : decode cX8_minutes 26 = .ok (.getfield 9, 3) := by decide +kernel
theorem dX8_minutes_29 : decode cX8_minutes 29 = .ok (.iload 5, 2) := by decide +kernel
theorem dX8_minutes_31 : decode cX8_minutes 31 = .ok (.iaload, 1) := by decide +kernel
theorem dX8_minutes_32 : decode cX8_minutes 32 = .ok (.istore 6, 2) := by decide +kernel
theorem dX8_minutes_34 : decode cX8_minutes 34 = .ok (.iload 6, 2) := by decide +kernel
theorem dX8_minutes_36 : decode cX8_minutes 36 = .ok (.bipush (-4), 2) := by decide +kernel
theorem dX8_minutes_38 : decode cX8_minutes 38 = .ok (.if_icmp .gt 45, 3) := by decide +kernel
theorem dX8_minutes_41 : decode cX8_minutes 41 = .ok (.iload 4, 2) := by decide +kernel
theorem dX8_minutes_43 : decode cX8_minutes 43 = .ok (.iconst 2, 1) := by decide +kernel
theorem dX8_minutes_44 : decode cX8_minutes 44 = .ok (.if_icmp .lt 67, 3) := by decide +kernel
theorem dX8_minutes_47 : decode cX8_minutes 47 = .ok (.iinc 4 (-1), 3) := by decide +kernel
theorem dX8_minutes_50 : decode cX8_minutes 50 = .ok (.aload_n 0, 1) := by decide +kernel
theorem dX8_minutes_51 : decode cX8_minutes 51 = .ok (.getfield 19, 3) := by decide +kernel
theorem dX8_minutes_54 : decode cX8_minutes 54 = .ok (.iload 4, 2) := by decide +kernel
theorem dX8_minutes_56 : decode cX8_minutes 56 = .ok (.iconst 1, 1) := by decide +kernel
theorem dX8_minutes_57 : decode cX8_minutes 57 = .ok (.isub, 1) := by decide +kernel
theorem dX8_minutes_58 : decode cX8_minutes 58 = .ok (.iload 6, 2) := by decide +kernel
theorem dX8_minutes_60 : decode cX8_minutes 60 = .ok (.aload_n 0, 1) := by decide +kernel
theorem dX8_minutes_61 : decode cX8_minutes 61 = .ok (.getfield 19, 3) := by decide +kernel
theorem dX8_minutes_64 : decode cX8_minutes 64 = .ok (.iload 4, 2) := by decide +kernel
theorem dX8_minutes_66 : decode cX8_minutes 66 = .ok (.iconst 1, 1) := by decide +kernel
theorem dX8_minutes_67 : decode cX8_minutes 67 = .ok (.isub, 1) := by decide +kernel
theorem dX8_minutes_68 : decode cX8_minutes 68 = .ok (.iaload, 1) := by decide +kernel
theorem dX8_minutes_69 : decode cX8_minutes 69 = .ok (.aload_n 0, 1) := by decide +kernel
theorem dX8_minutes_70 : decode cX8_minutes 70 = .ok (.getfield 19, 3) := by decide +kernel
theorem dX8_minutes_73 : decode cX8_minutes 73 = .ok (.iload 4, 2) := by decide +kernel
theorem dX8_minutes_75 : decode cX8_minutes 75 = .ok (.iaload, 1) := by decide +kernel
theorem dX8_minutes_76 : decode cX8_minutes 76 = .ok (.invokestatic 22, 3) := by decide +kernel
theorem dX8_minutes_79 : decode cX8_minutes 79 = .ok (.iastore, 1) := by decide +kernel
theorem dX8_minutes_80 : decode cX8_minutes 80 = .ok (.goto 31, 3) := by decide +kernel
theorem dX8_minutes_83 : decode cX8_minutes 83 = .ok (.iload 4, 2) := by decide +kernel
theorem dX8_minutes_85 : decode cX8_minutes 85 = .ok (.aload_n 0, 1) := by decide +kernel
theorem dX8_minutes_86 : decode cX8_minutes 86 = .ok (.getfield 19, 3) := by decide +kernel
theorem dX8_minutes_89 : decode cX8_minutes 89 = .ok (.arraylength, 1) := by decide +kernel
theorem dX8_minutes_90 : decode cX8_minutes 90 = .ok (.if_icmp .ge 21, 3) := by decide +kernel
theorem dX8_minutes_93 : decode cX8_minutes 93 = .ok (.aload_n 0, 1) := by decide +kernel
theorem dX8_minutes_94 : decode cX8_minutes 94 = .ok (.getfield 19, 3) := by decide +kernel
theorem dX8_minutes_97 : decode cX8_minutes 97 = .ok (.iload 4, 2) := by decide +kernel
theorem dX8_minutes_99 : decode cX8_minutes 99 = .ok (.iload 6, 2) := by decide +kernel
theorem dX8_minutes_101 : decode cX8_minutes 101 = .ok (.iload_n 1, 1) := by decide +kernel
theorem dX8_minutes_102 : decode cX8_minutes 102 = .ok (.iload_n 2, 1) := by decide +kernel
theorem dX8_minutes_103 : decode cX8_minutes 103 = .ok (.iload_n 3, 1) := by decide +kernel
theorem dX8_minutes_104 : decode cX8_minutes 104 = .ok (.invokestatic 26, 3) := by decide +kernel
theorem dX8_minutes_107 : decode cX8_minutes 107 = .ok (.iastore, 1) := by decide +kernel
theorem dX8_minutes_108 : decode cX8_minutes 108 = .ok (.iinc 4 1, 3) := by decide +kernel
theorem dX8_minutes_111 : decode cX8_minutes 111 = .ok (.iinc 5 1, 3) := by decide +kernel
theorem dX8_minutes_114 : decode cX8_minutes 114 = .ok (.goto (-98), 3) := by decide +kernel
theorem dX8_minutes_117 : decode cX8_minutes 117 = .ok (.iconst 1, 1) := by decide +kernel
theorem dX8_minutes_118 : decode cX8_minutes 118 = .ok (.aload_n 0, 1) := by decide +kernel
theorem dX8_minutes_119 : decode cX8_minutes 119 = .ok (.getfield 19, 3) := by decide +kernel
theorem dX8_minutes_122 : decode cX8_minutes 122 = .ok (.iconst 0, 1) := by decide +kernel
theorem dX8_minutes_123 : decode cX8_minutes 123 = .ok (.iaload, 1) := by decide +kernel
theorem dX8_minutes_124 : decode cX8_minutes 124 = .ok (.sipush 240, 3) := by decide +kernel
theorem dX8_minutes_127 : decode cX8_minutes 127 = .ok (.invokestatic 30, 3) := by decide +kernel
theorem dX8_minutes_130 : decode cX8_minutes 130 = .ok (.invokestatic 36, 3) := by decide +kernel
theorem dX8_minutes_133 : decode cX8_minutes 133 = .ok (.ireturn, 1) := by decide +kernel
theorem dX8_operand_0 : decode cX8_operand 0 = .ok (.iload_n 0, 1) := by decide +kernel
theorem dX8_operand_1 : decode cX8_operand 1 = .ok (.iconst (-1), 1) := by decide +kernel
theorem dX8_operand_2 : decode cX8_operand 2 = .ok (.if_icmp .ne 5, 3) := by decide +kernel
theorem dX8_operand_5 : decode cX8_operand 5 = .ok (.iload_n 1, 1) := by decide +kernel
theorem dX8_operand_6 : decode cX8_operand 6 = .ok (.ireturn, 1) := by decide +kernel
theorem dX8_operand_7 : decode cX8_operand 7 = .ok (.iload_n 0, 1) := by decide +kernel
theorem dX8_operand_8 : decode cX8_operand 8 = .ok (.bipush (-2), 2) := by decide +kernel
theorem dX8_operand_10 : decode cX8_operand 10 = .ok (.if_icmp .ne 5, 3) := by decide +kernel
theorem dX8_operand_13 : decode cX8_operand 13 = .ok (.iload_n 2, 1) := by decide +kernel
theorem dX8_operand_14 : decode cX8_operand 14 = .ok (.ireturn, 1) := by decide +kernel
theorem dX8_operand_15 : decode cX8_operand 15 = .ok (.iload_n 0, 1) := by decide +kernel
theorem dX8_operand_16 : decode cX8_operand 16 = .ok (.bipush (-3), 2) := by decide +kernel
theorem dX8_operand_18 : decode cX8_operand 18 = .ok (.if_icmp .ne 7, 3) := by decide +kernel
theorem dX8_operand_21 : decode cX8_operand 21 = .ok (.iload_n 3, 1) := by decide +kernel
theorem dX8_operand_22 : decode cX8_operand 22 = .ok (.goto 4, 3) := by decide +kernel
theorem dX8_operand_25 : decode cX8_operand 25 = .ok (.iload_n 0, 1) := by decide +kernel
theorem dX8_operand_26 : decode cX8_operand 26 = .ok (.ireturn, 1) := by decide +kernel
theorem dX8_combine_0 : decode cX8_combine 0 = .ok (.iload_n 0, 1) := by decide +kernel
theorem dX8_combine_1 : decode cX8_combine 1 = .ok (.bipush (-4), 2) := by decide +kernel
theorem dX8_combine_3 : decode cX8_combine 3 = .ok (.if_icmp .ne 11, 3) := by decide +kernel
theorem dX8_combine_6 : decode cX8_combine 6 = .ok (.iload_n 1, 1) := by decide +kernel
theorem dX8_combine_7 : decode cX8_combine 7 = .ok (.iload_n 2, 1) := by decide +kernel
theorem dX8_combine_8 : decode cX8_combine 8 = .ok (.iadd, 1) := by decide +kernel
theorem dX8_combine_9 : decode cX8_combine 9 = .ok (.i2l, 1) := by decide +kernel
theorem dX8_combine_10 : decode cX8_combine 10 = .ok (.lstore_n 3, 1) := by decide +kernel
theorem dX8_combine_11 : decode cX8_combine 11 = .ok (.goto 45, 3) := by decide +kernel
theorem dX8_combine_14 : decode cX8_combine 14 = .ok (.iload_n 0, 1) := by decide +kernel
theorem dX8_combine_15 : decode cX8_combine 15 = .ok (.bipush (-5), 2) := by decide +kernel
theorem dX8_combine_17 : decode cX8_combine 17 = .ok (.if_icmp .ne 11, 3) := by decide +kernel
theorem dX8_combine_20 : decode cX8_combine 20 = .ok (.iload_n 1, 1) := by decide +kernel
theorem dX8_combine_21 : decode cX8_combine 21 = .ok (.iload_n 2, 1) := by decide +kernel
theorem dX8_combine_22 : decode cX8_combine 22 = .ok (.isub, 1) := by decide +kernel
theorem dX8_combine_23 : decode cX8_combine 23 = .ok (.i2l, 1) := by decide +kernel
theorem dX8_combine_24 : decode cX8_combine 24 = .ok (.lstore_n 3, 1) := by decide +kernel
theorem dX8_combine_25 : decode cX8_combine 25 = .ok (.goto 31, 3) := by decide +kernel
theorem dX8_combine_28 : decode cX8_combine 28 = .ok (.iload_n 0, 1) := by decide +kernel
theorem dX8_combine_29 : decode cX8_combine 29 = .ok (.bipush (-6), 2) := by decide +kernel
theorem dX8_combine_31 : decode cX8_combine 31 = .ok (.if_icmp .ne 12, 3) := by decide +kernel
theorem dX8_combine_34 : decode cX8_combine 34 = .ok (.iload_n 1, 1) := by decide +kernel
theorem dX8_combine_35 : decode cX8_combine 35 = .ok (.i2l, 1) := by decide +kernel
theorem dX8_combine_36 : decode cX8_combine 36 = .ok (.iload_n 2, 1) := by decide +kernel
theorem dX8_combine_37 : decode cX8_combine 37 = .ok (.i2l, 1) := by decide +kernel
theorem dX8_combine_38 : decode cX8_combine 38 = .ok (.lmul, 1) := by decide +kernel
theorem dX8_combine_39 : decode cX8_combine 39 = .ok (.lstore_n 3, 1) := by decide +kernel
theorem dX8_combine_40 : decode cX8_combine 40 = .ok (.goto 16, 3) := by decide +kernel
theorem dX8_combine_43 : decode cX8_combine 43 = .ok (.iload_n 2, 1) := by decide +kernel
theorem dX8_combine_44 : decode cX8_combine 44 = .ok (.ifCond .ne 7, 3) := by decide +kernel
theorem dX8_combine_47 : decode cX8_combine 47 = .ok (.lconst 0, 1) := by decide +kernel
theorem dX8_combine_48 : decode cX8_combine 48 = .ok (.goto 7, 3) := by decide +kernel
theorem dX8_combine_51 : decode cX8_combine 51 = .ok (.iload_n 1, 1) := by decide +kernel
theorem dX8_combine_52 : decode cX8_combine 52 = .ok (.iload_n 2, 1) := by decide +kernel
theorem dX8_combine_53 : decode cX8_combine 53 = .ok (.idiv, 1) := by decide +kernel
theorem dX8_combine_54 : decode cX8_combine 54 = .ok (.i2l, 1) := by decide +kernel
theorem dX8_combine_55 : decode cX8_combine 55 = .ok (.lstore_n 3, 1) := by decide +kernel
theorem dX8_combine_56 : decode cX8_combine 56 = .ok (.ldc2_w 39, 3) := by decide +kernel
theorem dX8_combine_59 : decode cX8_combine 59 = .ok (.lload_n 3, 1) := by decide +kernel
theorem dX8_combine_60 : decode cX8_combine 60 = .ok (.ldc2_w 41, 3) := by decide +kernel
theorem dX8_combine_63 : decode cX8_combine 63 = .ok (.invokestatic 43, 3) := by decide +kernel
theorem dX8_combine_66 : decode cX8_combine 66 = .ok (.invokestatic 46, 3) := by decide +kernel
theorem dX8_combine_69 : decode cX8_combine 69 = .ok (.l2i, 1) := by decide +kernel
theorem dX8_combine_70 : decode cX8_combine 70 = .ok (.ireturn, 1) := by decide +kernel
theorem dX9_init_0 : decode cX9_init 0 = .ok (.aload_n 0, 1) := by decide +kernel
theorem dX9_init_1 : decode cX9_init 1 = .ok (.invokespecial 3, 3) := by decide +kernel
theorem dX9_init_4 : decode cX9_init 4 = .ok (.aload_n 0, 1) := by decide +kernel
theorem dX9_init_5 : decode cX9_init 5 = .ok (.iconst 0, 1) := by decide +kernel
theorem dX9_init_6 : decode cX9_init 6 = .ok (.putfield 9, 3) := by decide +kernel
theorem dX9_init_9 : decode cX9_init 9 = .ok (.aload_n 0, 1) := by decide +kernel
theorem dX9_init_10 : decode cX9_init 10 = .ok (.iconst 3, 1) := by decide +kernel
theorem dX9_init_11 : decode cX9_init 11 = .ok (.newarray .int, 2) := by decide +kernel
theorem dX9_init_13 : decode cX9_init 13 = .ok (.putfield 15, 3) := by decide +kernel
theorem dX9_init_16 : decode cX9_init 16 = .ok (.aload_n 0, 1) := by decide +kernel
theorem dX9_init_17 : decode cX9_init 17 = .ok (.iconst 3, 1) := by decide +kernel
theorem dX9_init_18 : decode cX9_init 18 = .ok (.newarray .int, 2) := by decide +kernel
theorem dX9_init_20 : decode cX9_init 20 = .ok (.putfield 19, 3) := by decide +kernel
theorem dX9_init_23 : decode cX9_init 23 = .ok (.aload_n 0, 1) := by decide +kernel
theorem dX9_init_24 : decode cX9_init 24 = .ok (.iconst 3, 1) := by decide +kernel
theorem dX9_init_25 : decode cX9_init 25 = .ok (.newarray .int, 2) := by decide +kernel
theorem dX9_init_27 : decode cX9_init 27 = .ok (.putfield 22, 3) := by decide +kernel
theorem dX9_init_30 : decode cX9_init 30 = .ok (.aload_n 0, 1) := by decide +kernel
theorem dX9_init_31 : decode cX9_init 31 = .ok (.bipush 36, 2) := by decide +kernel
theorem dX9_init_33 : decode cX9_init 33 = .ok (.newarray .int, 2) := by decide +kernel
theorem dX9_init_35 : decode cX9_init 35 = .ok (.putfield 25, 3) := by decide +kernel
theorem dX9_init_38 : decode cX9_init 38 = .ok (.return_, 1) := by decide +kernel
theorem dX9_has_0 : decode cX9_has 0 = .ok (.iload_n 1, 1) := by decide +kernel
theorem dX9_has_1 : decode cX9_has 1 = .ok (.ifCond .lt 15, 3) := by decide +kernel
theorem dX9_has_4 : decode cX9_has 4 = .ok (.iload_n 1, 1) := by decide +kernel
theorem dX9_has_5 : decode cX9_has 5 = .ok (.aload_n 0, 1) := by decide +kernel
theorem dX9_has_6 : decode cX9_has 6 = .ok (.getfield 9, 3) := by decide +kernel
theorem dX9_has_9 : decode cX9_has 9 = .ok (.if_icmp .ge 7, 3) := by decide +kernel
theorem dX9_has_12 : decode cX9_has 12 = .ok (.iconst 1, 1) := by decide +kernel
theorem dX9_has_13 : decode cX9_has 13 = .ok (.goto 4, 3) := by decide +kernel
theorem dX9_has_16 : decode cX9_has 16 = .ok (.iconst 0, 1) := by decide +kernel
theorem dX9_has_17 : decode cX9_has 17 = .ok (.ireturn, 1) := by decide +kernel
theorem dX9_add_0 : decode cX9_add 0 = .ok (.aload_n 0, 1) := by decide +kernel
theorem dX9_add_1 : decode cX9_add 1 = .ok (.getfield 9, 3) := by decide +kernel
theorem dX9_add_4 : decode cX9_add 4 = .ok (.iconst 3, 1) := by decide +kernel
theorem dX9_add_5 : decode cX9_add 5 = .ok (.if_icmp .ge 43, 3) := by decide +kernel
theorem dX9_add_8 : decode cX9_add 8 = .ok (.aload_n 0, 1) := by decide +kernel
theorem dX9_add_9 : decode cX9_add 9 = .ok (.getfield 15, 3) := by decide +kernel
theorem dX9_add_12 : decode cX9_add 12 = .ok (.aload_n 0, 1) := by decide +kernel
theorem dX9_add_13 : decode cX9_add 13 = .ok (.getfield 9, 3) := by decide +kernel
theorem dX9_add_16 : decode cX9_add 16 = .ok (.iload_n 1, 1) := by decide +kernel
theorem dX9_add_17 : decode cX9_add 17 = .ok (.iastore, 1) := by decide +kernel
theorem dX9_add_18 : decode cX9_add 18 = .ok (.aload_n 0, 1) := by decide +kernel
theorem dX9_add_19 : decode cX9_add 19 = .ok (.getfield 19, 3) := by decide +kernel
theorem dX9_add_22 : decode cX9_add 22 = .ok (.aload_n 0, 1) := by decide +kernel
theorem dX9_add_23 : decode cX9_add 23 = .ok (.getfield 9, 3) := by decide +kernel
theorem dX9_add_26 : decode cX9_add 26 = .ok (.iload_n 2, 1) := by decide +kernel
theorem dX9_add_27 : decode cX9_add 27 = .ok (.iastore, 1) := by decide +kernel
theorem dX9_add_28 : decode cX9_add 28 = .ok (.aload_n 0, 1) := by decide +kernel
theorem dX9_add_29 : decode cX9_add 29 = .ok (.getfield 22, 3) := by decide +kernel
theorem dX9_add_32 : decode cX9_add 32 = .ok (.aload_n 0, 1) := by decide +kernel
theorem dX9_add_33 : decode cX9_add 33 = .ok (.getfield 9, 3) := by decide +kernel
theorem dX9_add_36 : decode cX9_add 36 = .ok (.iconst 0, 1) := by decide +kernel
theorem dX9_add_37 : decode cX9_add 37 = .ok (.iastore, 1) := by decide +kernel
theorem dX9_add_38 : decode cX9_add 38 = .ok (.aload_n 0, 1) := by decide +kernel
theorem dX9_add_39 : decode cX9_add 39 = .ok (.dup, 1) := by decide +kernel
theorem dX9_add_40 : decode cX9_add 40 = .ok (.getfield 9, 3) := by decide +kernel
theorem dX9_add_43 : decode cX9_add 43 = .ok (.iconst 1, 1) := by decide +kernel
theorem dX9_add_44 : decode cX9_add 44 = .ok (.iadd, 1) := by decide +kernel
theorem dX9_add_45 : decode cX9_add 45 = .ok (.putfield 9, 3) := by decide +kernel
theorem dX9_add_48 : decode cX9_add 48 = .ok (.return_, 1) := by decide +kernel
theorem dX9_plannedHouse_0 : decode cX9_plannedHouse 0 = .ok (.aload_n 0, 1) := by decide +kernel
theorem dX9_plannedHouse_1 : decode cX9_plannedHouse 1 = .ok (.iload_n 1, 1) := by decide +kernel
theorem dX9_plannedHouse_2 : decode cX9_plannedHouse 2 = .ok (.invokevirtual 28, 3) := by decide +kernel
theorem dX9_plannedHouse_5 : decode cX9_plannedHouse 5 = .ok (.ifCond .eq 17, 3) := by decide +kernel
theorem dX9_plannedHouse_8 : decode cX9_plannedHouse 8 = .ok (.iload_n 2, 1) := by decide +kernel
theorem dX9_plannedHouse_9 : decode cX9_plannedHouse 9 = .ok (.ifCond .lt 13, 3) := by decide +kernel
theorem dX9_plannedHouse_12 : decode cX9_plannedHouse 12 = .ok (.iload_n 2, 1) := by decide +kernel
theorem dX9_plannedHouse_13 : decode cX9_plannedHouse 13 = .ok (.aload_n 0, 1) := by decide +kernel
theorem dX9_plannedHouse_14 : decode cX9_plannedHouse 14 = .ok (.getfield 22, 3) := by decide +kernel
theorem dX9_plannedHouse_17 : decode cX9_plannedHouse 17 = .ok (.iload_n 1, 1) := by decide +kernel
theorem dX9_plannedHouse_18 : decode cX9_plannedHouse 18 = .ok (.iaload, 1) := by decide +kernel
theorem dX9_plannedHouse_19 : decode cX9_plannedHouse 19 = .ok (.if_icmp .lt 5, 3) := by decide +kernel
theorem dX9_plannedHouse_22 : decode cX9_plannedHouse 22 = .ok (.iconst (-1), 1) := by decide +kernel
theorem dX9_plannedHouse_23 : decode cX9_plannedHouse 23 = .ok (.ireturn, 1) := by decide +kernel
theorem dX9_plannedHouse_24 : decode cX9_plannedHouse 24 = .ok (.aload_n 0, 1) := by decide +kernel
theorem dX9_plannedHouse_25 : decode cX9_plannedHouse 25 = .ok (.getfield 25, 3) := by decide +kernel
theorem dX9_plannedHouse_28 : decode cX9_plannedHouse 28 = .ok (.iload_n 1, 1) := by decide +kernel
theorem dX9_plannedHouse_29 : decode cX9_plannedHouse 29 = .ok (.bipush 12, 2) := by decide +kernel
theorem dX9_plannedHouse_31 : decode cX9_plannedHouse 31 = .ok (.imul, 1) := by decide +kernel
theorem dX9_plannedHouse_32 : decode cX9_plannedHouse 32 = .ok (.iload_n 2, 1) := by decide +kernel
theorem dX9_plannedHouse_33 : decode cX9_plannedHouse 33 = .ok (.iadd, 1) := by decide +kernel
theorem dX9_plannedHouse_34 : decode cX9_plannedHouse 34 = .ok (.iaload, 1) := by decide +kernel
theorem dX9_plannedHouse_35 : decode cX9_plannedHouse 35 = .ok (.ireturn, 1) := by decide +kernel
theorem dX9_copyFrom_0 : decode cX9_copyFrom 0 = .ok (.aload_n 0, 1) := by decide +kernel
theorem dX9_copyFrom_1 : decode cX9_copyFrom 1 = .ok (.aload_n 1, 1) := by decide +kernel
theorem dX9_copyFrom_2 : decode cX9_copyFrom 2 = .ok (.getfield 9, 3) := by decide +kernel
theorem dX9_copyFrom_5 : decode cX9_copyFrom 5 = .ok (.putfield 9, 3) := by decide +kernel
theorem dX9_copyFrom_8 : decode cX9_copyFrom 8 = .ok (.aload_n 1, 1) := by decide +kernel
theorem dX9_copyFrom_9 : decode cX9_copyFrom 9 = .ok (.getfield 15, 3) := by decide +kernel
theorem dX9_copyFrom_12 : decode cX9_copyFrom 12 = .ok (.iconst 0, 1) := by decide +kernel
theorem dX9_copyFrom_13 : decode cX9_copyFrom 13 = .ok (.aload_n 0, 1) := by decide +kernel
theorem dX9_copyFrom_14 : decode cX9_copyFrom 14 = .ok (.getfield 15, 3) := by decide +kernel
theorem dX9_copyFrom_17 : decode cX9_copyFrom 17 = .ok (.iconst 0, 1) := by decide +kernel
theorem dX9_copyFrom_18 : decode cX9_copyFrom 18 = .ok (.iconst 3, 1) := by decide +kernel
theorem dX9_copyFrom_19 : decode cX9_copyFrom 19 = .ok (.invokestatic 32, 3) := by decide +kernel
theorem dX9_copyFrom_22 : decode cX9_copyFrom 22 = .ok (.aload_n 1, 1) := by decide +kernel
theorem dX9_copyFrom_23 : decode cX9_copyFrom 23 = .ok (.getfield 19, 3) := by decide +kernel
theorem dX9_copyFrom_26 : decode cX9_copyFrom 26 = .ok (.iconst 0, 1) := by decide +kernel
theorem dX9_copyFrom_27 : decode cX9_copyFrom 27 = .ok (.aload_n 0, 1) := by decide +kernel
theorem dX9_copyFrom_28 : decode cX9_copyFrom 28 = .ok (.getfield 19, 3) := by decide +kernel
theorem dX9_copyFrom_31 : decode cX9_copyFrom 31 = .ok (.iconst 0, 1) := by decide +kernel
theorem dX9_copyFrom_32 : decode cX9_copyFrom 32 = .ok (.iconst 3, 1) := by decide +kernel
theorem dX9_copyFrom_33 : decode cX9_copyFrom 33 = .ok (.invokestatic 32, 3) := by decide +kernel
theorem dX9_copyFrom_36 : decode cX9_copyFrom 36 = .ok (.aload_n 1, 1) := by decide +kernel
theorem dX9_copyFrom_37 : decode cX9_copyFrom 37 = .ok (.getfield 22, 3) := by decide +kernel
theorem dX9_copyFrom_40 : decode cX9_copyFrom 40 = .ok (.iconst 0, 1) := by decide +kernel
theorem dX9_copyFrom_41 : decode cX9_copyFrom 41 = .ok (.aload_n 0, 1) := by decide +kernel
theorem dX9_copyFrom_42 : decode cX9_copyFrom 42 = .ok (.getfield 22, 3) := by decide +kernel
theorem dX9_copyFrom_45 : decode cX9_copyFrom 45 = .ok (.iconst 0, 1) := by decide +kernel
theorem dX9_copyFrom_46 : decode cX9_copyFrom 46 = .ok (.iconst 3, 1) := by decide +kernel
theorem dX9_copyFrom_47 : decode cX9_copyFrom 47 = .ok (.invokestatic 32, 3) := by decide +kernel
theorem dX9_copyFrom_50 : decode cX9_copyFrom 50 = .ok (.aload_n 1, 1) := by decide +kernel
theorem dX9_copyFrom_51 : decode cX9_copyFrom 51 = .ok (.getfield 25, 3) := by decide +kernel
theorem dX9_copyFrom_54 : decode cX9_copyFrom 54 = .ok (.iconst 0, 1) := by decide +kernel
theorem dX9_copyFrom_55 : decode cX9_copyFrom 55 = .ok (.aload_n 0, 1) := by decide +kernel
theorem dX9_copyFrom_56 : decode cX9_copyFrom 56 = .ok (.getfield 25, 3) := by decide +kernel
theorem dX9_copyFrom_59 : decode cX9_copyFrom 59 = .ok (.iconst 0, 1) := by decide +kernel
theorem dX9_copyFrom_60 : decode cX9_copyFrom 60 = .ok (.bipush 36, 2) := by decide +kernel
theorem dX9_copyFrom_62 : decode cX9_copyFrom 62 = .ok (.invokestatic 32, 3) := by decide +kernel
theorem dX9_copyFrom_65 : decode cX9_copyFrom 65 = .ok (.return_, 1) := by decide +kernel
theorem dJ6_bitCount_0f7a4_0 : decode cJ6_bitCount_0f7a4 0 = .ok (.iload_n 0, 1) := by decide +kernel
theorem dJ6_bitCount_0f7a4_1 : decode cJ6_bitCount_0f7a4 1 = .ok (.iload_n 0, 1) := by decide +kernel
theorem dJ6_bitCount_0f7a4_2 : decode cJ6_bitCount_0f7a4 2 = .ok (.iconst 1, 1) := by decide +kernel
theorem dJ6_bitCount_0f7a4_3 : decode cJ6_bitCount_0f7a4 3 = .ok (.iushr, 1) := by decide +kernel
theorem dJ6_bitCount_0f7a4_4 : decode cJ6_bitCount_0f7a4 4 = .ok (.ldc_w 265, 3) := by decide +kernel
theorem dJ6_bitCount_0f7a4_7 : decode cJ6_bitCount_0f7a4 7 = .ok (.iand, 1) := by decide +kernel
theorem dJ6_bitCount_0f7a4_8 : decode cJ6_bitCount_0f7a4 8 = .ok (.isub, 1) := by decide +kernel
theorem dJ6_bitCount_0f7a4_9 : decode cJ6_bitCount_0f7a4 9 = .ok (.istore_n 0, 1) := by decide +kernel
theorem dJ6_bitCount_0f7a4_10 : decode cJ6_bitCount_0f7a4 10 = .ok (.iload_n 0, 1) := by decide +kernel
theorem dJ6_bitCount_0f7a4_11 : decode cJ6_bitCount_0f7a4 11 = .ok (.ldc_w 266, 3) := by decide +kernel
theorem dJ6_bitCount_0f7a4_14 : decode cJ6_bitCount_0f7a4 14 = .ok (.iand, 1) := by decide +kernel
theorem dJ6_bitCount_0f7a4_15 : decode cJ6_bitCount_0f7a4 15 = .ok (.iload_n 0, 1) := by decide +kernel
theorem dJ6_bitCount_0f7a4_16 : decode cJ6_bitCount_0f7a4 16 = .ok (.iconst 2, 1) := by decide +kernel
theorem dJ6_bitCount_0f7a4_17 : decode cJ6_bitCount_0f7a4 17 = .ok (.iushr, 1) := by decide +kernel
theorem dJ6_bitCount_0f7a4_18 : decode cJ6_bitCount_0f7a4 18 = .ok (.ldc_w 266, 3) := by decide +kernel
theorem dJ6_bitCount_0f7a4_21 : decode cJ6_bitCount_0f7a4 21 = .ok (.iand, 1) := by decide +kernel
theorem dJ6_bitCount_0f7a4_22 : decode cJ6_bitCount_0f7a4 22 = .ok (.iadd, 1) := by decide +kernel
theorem dJ6_bitCount_0f7a4_23 : decode cJ6_bitCount_0f7a4 23 = .ok (.istore_n 0, 1) := by decide +kernel
theorem dJ6_bitCount_0f7a4_24 : decode cJ6_bitCount_0f7a4 24 = .ok (.iload_n 0, 1) := by decide +kernel
theorem dJ6_bitCount_0f7a4_25 : decode cJ6_bitCount_0f7a4 25 = .ok (.iload_n 0, 1) := by decide +kernel
theorem dJ6_bitCount_0f7a4_26 : decode cJ6_bitCount_0f7a4 26 = .ok (.iconst 4, 1) := by decide +kernel
theorem dJ6_bitCount_0f7a4_27 : decode cJ6_bitCount_0f7a4 27 = .ok (.iushr, 1) := by decide +kernel
theorem dJ6_bitCount_0f7a4_28 : decode cJ6_bitCount_0f7a4 28 = .ok (.iadd, 1) := by decide +kernel
theorem dJ6_bitCount_0f7a4_29 : decode cJ6_bitCount_0f7a4 29 = .ok (.ldc_w 267, 3) := by decide +kernel
theorem dJ6_bitCount_0f7a4_32 : decode cJ6_bitCount_0f7a4 32 = .ok (.iand, 1) := by decide +kernel
theorem dJ6_bitCount_0f7a4_33 : decode cJ6_bitCount_0f7a4 33 = .ok (.istore_n 0, 1) := by decide +kernel
theorem dJ6_bitCount_0f7a4_34 : decode cJ6_bitCount_0f7a4 34 = .ok (.iload_n 0, 1) := by decide +kernel
theorem dJ6_bitCount_0f7a4_35 : decode cJ6_bitCount_0f7a4 35 = .ok (.iload_n 0, 1) := by decide +kernel
theorem dJ6_bitCount_0f7a4_36 : decode cJ6_bitCount_0f7a4 36 = .ok (.bipush 8, 2) := by decide +kernel
theorem dJ6_bitCount_0f7a4_38 : decode cJ6_bitCount_0f7a4 38 = .ok (.iushr, 1) := by decide +kernel
theorem dJ6_bitCount_0f7a4_39 : decode cJ6_bitCount_0f7a4 39 = .ok (.iadd, 1) := by decide +kernel
theorem dJ6_bitCount_0f7a4_40 : decode cJ6_bitCount_0f7a4 40 = .ok (.istore_n 0, 1) := by decide +kernel
theorem dJ6_bitCount_0f7a4_41 : decode cJ6_bitCount_0f7a4 41 = .ok (.iload_n 0, 1) := by decide +kernel
theorem dJ6_bitCount_0f7a4_42 : decode cJ6_bitCount_0f7a4 42 = .ok (.iload_n 0, 1) := by decide +kernel
theorem dJ6_bitCount_0f7a4_43 : decode cJ6_bitCount_0f7a4 43 = .ok (.bipush 16, 2) := by decide +kernel
theorem dJ6_bitCount_0f7a4_45 : decode cJ6_bitCount_0f7a4 45 = .ok (.iushr, 1) := by decide +kernel
theorem dJ6_bitCount_0f7a4_46 : decode cJ6_bitCount_0f7a4 46 = .ok (.iadd, 1) := by decide +kernel
theorem dJ6_bitCount_0f7a4_47 : decode cJ6_bitCount_0f7a4 47 = .ok (.istore_n 0, 1) := by decide +kernel
theorem dJ6_bitCount_0f7a4_48 : decode cJ6_bitCount_0f7a4 48 = .ok (.iload_n 0, 1) := by decide +kernel
theorem dJ6_bitCount_0f7a4_49 : decode cJ6_bitCount_0f7a4 49 = .ok (.bipush 63, 2) := by decide +kernel
theorem dJ6_bitCount_0f7a4_51 : decode cJ6_bitCount_0f7a4 51 = .ok (.iand, 1) := by decide +kernel
theorem dJ6_bitCount_0f7a4_52 : decode cJ6_bitCount_0f7a4 52 = .ok (.ireturn, 1) := by decide +kernel
theorem dJ9_abs_0f7a4_0 : decode cJ9_abs_0f7a4 0 = .ok (.iload_n 0, 1) := by decide +kernel
theorem dJ9_abs_0f7a4_1 : decode cJ9_abs_0f7a4 1 = .ok (.ifCond .ge 8, 3) := by decide +kernel
theorem dJ9_abs_0f7a4_4 : decode cJ9_abs_0f7a4 4 = .ok (.iload_n 0, 1) := by decide +kernel
theorem dJ9_abs_0f7a4_5 : decode cJ9_abs_0f7a4 5 = .ok (.ineg, 1) := by decide +kernel
theorem dJ9_abs_0f7a4_6 : decode cJ9_abs_0f7a4 6 = .ok (.goto 4, 3) := by decide +kernel
theorem dJ9_abs_0f7a4_9 : decode cJ9_abs_0f7a4 9 = .ok (.iload_n 0, 1) := by decide +kernel
theorem dJ9_abs_0f7a4_10 : decode cJ9_abs_0f7a4 10 = .ok (.ireturn, 1) := by decide +kernel
theorem dJ9_max_7cf53_0 : decode cJ9_max_7cf53 0 = .ok (.iload_n 0, 1) := by decide +kernel
theorem dJ9_max_7cf53_1 : decode cJ9_max_7cf53 1 = .ok (.iload_n 1, 1) := by decide +kernel
theorem dJ9_max_7cf53_2 : decode cJ9_max_7cf53 2 = .ok (.if_icmp .lt 7, 3) := by decide +kernel
theorem dJ9_max_7cf53_5 : decode cJ9_max_7cf53 5 = .ok (.iload_n 0, 1) := by decide +kernel
theorem dJ9_max_7cf53_6 : decode cJ9_max_7cf53 6 = .ok (.goto 4, 3) := by decide +kernel
theorem dJ9_max_7cf53_9 : decode cJ9_max_7cf53 9 = .ok (.iload_n 1, 1) := by decide +kernel
theorem dJ9_max_7cf53_10 : decode cJ9_max_7cf53 10 = .ok (.ireturn, 1) := by decide +kernel
theorem dJ9_max_f86c9_0 : decode cJ9_max_f86c9 0 = .ok (.lload_n 0, 1) := by decide +kernel
theorem dJ9_max_f86c9_1 : decode cJ9_max_f86c9 1 = .ok (.lload_n 2, 1) := by decide +kernel
theorem dJ9_max_f86c9_2 : decode cJ9_max_f86c9 2 = .ok (.lcmp, 1) := by decide +kernel
theorem dJ9_max_f86c9_3 : decode cJ9_max_f86c9 3 = .ok (.ifCond .lt 7, 3) := by decide +kernel
theorem dJ9_max_f86c9_6 : decode cJ9_max_f86c9 6 = .ok (.lload_n 0, 1) := by decide +kernel
theorem dJ9_max_f86c9_7 : decode cJ9_max_f86c9 7 = .ok (.goto 4, 3) := by decide +kernel
theorem dJ9_max_f86c9_10 : decode cJ9_max_f86c9 10 = .ok (.lload_n 2, 1) := by decide +kernel
theorem dJ9_max_f86c9_11 : decode cJ9_max_f86c9 11 = .ok (.lreturn, 1) := by decide +kernel
theorem dJ9_min_7cf53_0 : decode cJ9_min_7cf53 0 = .ok (.iload_n 0, 1) := by decide +kernel
theorem dJ9_min_7cf53_1 : decode cJ9_min_7cf53 1 = .ok (.iload_n 1, 1) := by decide +kernel
theorem dJ9_min_7cf53_2 : decode cJ9_min_7cf53 2 = .ok (.if_icmp .gt 7, 3) := by decide +kernel
theorem dJ9_min_7cf53_5 : decode cJ9_min_7cf53 5 = .ok (.iload_n 0, 1) := by decide +kernel
theorem dJ9_min_7cf53_6 : decode cJ9_min_7cf53 6 = .ok (.goto 4, 3) := by decide +kernel
theorem dJ9_min_7cf53_9 : decode cJ9_min_7cf53 9 = .ok (.iload_n 1, 1) := by decide +kernel
theorem dJ9_min_7cf53_10 : decode cJ9_min_7cf53 10 = .ok (.ireturn, 1) := by decide +kernel
theorem dJ9_min_f86c9_0 : decode cJ9_min_f86c9 0 = .ok (.lload_n 0, 1) := by decide +kernel
theorem dJ9_min_f86c9_1 : decode cJ9_min_f86c9 1 = .ok (.lload_n 2, 1) := by decide +kernel
theorem dJ9_min_f86c9_2 : decode cJ9_min_f86c9 2 = .ok (.lcmp, 1) := by decide +kernel
theorem dJ9_min_f86c9_3 : decode cJ9_min_f86c9 3 = .ok (.ifCond .gt 7, 3) := by decide +kernel
theorem dJ9_min_f86c9_6 : decode cJ9_min_f86c9 6 = .ok (.lload_n 0, 1) := by decide +kernel
theorem dJ9_min_f86c9_7 : decode cJ9_min_f86c9 7 = .ok (.goto 4, 3) := by decide +kernel
theorem dJ9_min_f86c9_10 : decode cJ9_min_f86c9 10 = .ok (.lload_n 2, 1) := by decide +kernel
theorem dJ9_min_f86c9_11 : decode cJ9_min_f86c9 11 = .ok (.lreturn, 1) := by decide +kernel
theorem dJ0_length_8abf5_0 : decode cJ0_length_8abf5 0 = .ok (.aload_n 0, 1) := by decide +kernel
theorem dJ0_length_8abf5_1 : decode cJ0_length_8abf5 1 = .ok (.getfield 9, 3) := by decide +kernel
theorem dJ0_length_8abf5_4 : decode cJ0_length_8abf5 4 = .ok (.arraylength, 1) := by decide +kernel
theorem dJ0_length_8abf5_5 : decode cJ0_length_8abf5 5 = .ok (.aload_n 0, 1) := by decide +kernel
theorem dJ0_length_8abf5_6 : decode cJ0_length_8abf5 6 = .ok (.invokevirtual 335, 3) := by decide +kernel
theorem dJ0_length_8abf5_9 : decode cJ0_length_8abf5 9 = .ok (.ishr, 1) := by decide +kernel
theorem dJ0_length_8abf5_10 : decode cJ0_length_8abf5 10 = .ok (.ireturn, 1) := by decide +kernel
theorem dJ0_charAt_5068e_0 : decode cJ0_charAt_5068e 0 = .ok (.aload_n 0, 1) := by decide +kernel
theorem dJ0_charAt_5068e_1 : decode cJ0_charAt_5068e 1 = .ok (.invokevirtual 492, 3) := by decide +kernel
theorem dJ0_charAt_5068e_4 : decode cJ0_charAt_5068e 4 = .ok (.ifCond .eq 12, 3) := by decide +kernel
theorem dJ0_charAt_5068e_7 : decode cJ0_charAt_5068e 7 = .ok (.aload_n 0, 1) := by decide +kernel
theorem dJ0_charAt_5068e_8 : decode cJ0_charAt_5068e 8 = .ok (.getfield 9, 3) := by decide +kernel
theorem dJ0_charAt_5068e_11 : decode cJ0_charAt_5068e 11 = .ok (.iload_n 1, 1) := by decide +kernel
theorem dJ0_charAt_5068e_12 : decode cJ0_charAt_5068e 12 = .ok (.invokestatic 495, 3) := by decide +kernel
theorem dJ0_charAt_5068e_15 : decode cJ0_charAt_5068e 15 = .ok (.ireturn, 1) := by decide +kernel
theorem dJ0_charAt_5068e_16 : decode cJ0_charAt_5068e 16 = .ok (.aload_n 0, 1) := by decide +kernel
theorem dJ0_charAt_5068e_17 : decode cJ0_charAt_5068e 17 = .ok (.getfield 9, 3) := by decide +kernel
theorem dJ0_charAt_5068e_20 : decode cJ0_charAt_5068e 20 = .ok (.iload_n 1, 1) := by decide +kernel
theorem dJ0_charAt_5068e_21 : decode cJ0_charAt_5068e 21 = .ok (.invokestatic 498, 3) := by decide +kernel
theorem dJ0_charAt_5068e_24 : decode cJ0_charAt_5068e 24 = .ok (.ireturn, 1) := by decide +kernel
theorem dJ0_coder_7d493_0 : decode cJ0_coder_7d493 0 = .ok (.getstatic 38, 3) := by decide +kernel
theorem dJ0_coder_7d493_3 : decode cJ0_coder_7d493 3 = .ok (.ifCond .eq 10, 3) := by decide +kernel
theorem dJ0_coder_7d493_6 : decode cJ0_coder_7d493 6 = .ok (.aload_n 0, 1) := by decide +kernel
theorem dJ0_coder_7d493_7 : decode cJ0_coder_7d493 7 = .ok (.getfield 15, 3) := by decide +kernel
theorem dJ0_coder_7d493_10 : decode cJ0_coder_7d493 10 = .ok (.goto 4, 3) := by decide +kernel
theorem dJ0_coder_7d493_13 : decode cJ0_coder_7d493 13 = .ok (.iconst 1, 1) := by decide +kernel
theorem dJ0_coder_7d493_14 : decode cJ0_coder_7d493 14 = .ok (.ireturn, 1) := by decide +kernel
theorem dJ0_isLatin1_aae02_0 : decode cJ0_isLatin1_aae02 0 = .ok (.getstatic 38, 3) := by decide +kernel
theorem dJ0_isLatin1_aae02_3 : decode cJ0_isLatin1_aae02 3 = .ok (.ifCond .eq 14, 3) := by decide +kernel
theorem dJ0_isLatin1_aae02_6 : decode cJ0_isLatin1_aae02 6 = .ok (.aload_n 0, 1) := by decide +kernel
theorem dJ0_isLatin1_aae02_7 : decode cJ0_isLatin1_aae02 7 = .ok (.getfield 15, 3) := by decide +kernel
theorem dJ0_isLatin1_aae02_10 : decode cJ0_isLatin1_aae02 10 = .ok (.ifCond .ne 7, 3) := by decide +kernel
theorem dJ0_isLatin1_aae02_13 : decode cJ0_isLatin1_aae02 13 = .ok (.iconst 1, 1) := by decide +kernel
theorem dJ0_isLatin1_aae02_14 : decode cJ0_isLatin1_aae02 14 = .ok (.goto 4, 3) := by decide +kernel
theorem dJ0_isLatin1_aae02_17 : decode cJ0_isLatin1_aae02 17 = .ok (.iconst 0, 1) := by decide +kernel
theorem dJ0_isLatin1_aae02_18 : decode cJ0_isLatin1_aae02 18 = .ok (.ireturn, 1) := by decide +kernel
theorem dJ0_checkIndex_df160_0 : decode cJ0_checkIndex_df160 0 = .ok (.iload_n 0, 1) := by decide +kernel
theorem dJ0_checkIndex_df160_1 : decode cJ0_checkIndex_df160 1 = .ok (.iload_n 1, 1) := by decide +kernel
theorem dJ0_checkIndex_df160_2 : decode cJ0_checkIndex_df160 2 = .ok (.getstatic 1053, 3) := by decide +kernel
theorem dJ0_checkIndex_df160_5 : decode cJ0_checkIndex_df160 5 = .ok (.invokestatic 1059, 3) := by decide +kernel
theorem dJ0_checkIndex_df160_8 : decode cJ0_checkIndex_df160 8 = .ok (.pop, 1) := by decide +kernel
theorem dJ0_checkIndex_df160_9 : decode cJ0_checkIndex_df160 9 = .ok (.return_, 1) := by decide +kernel
theorem dJ1_charAt_3b067_0 : decode cJ1_charAt_3b067 0 = .ok (.iload_n 1, 1) := by decide +kernel
theorem dJ1_charAt_3b067_1 : decode cJ1_charAt_3b067 1 = .ok (.aload_n 0, 1) := by decide +kernel
theorem dJ1_charAt_3b067_2 : decode cJ1_charAt_3b067 2 = .ok (.arraylength, 1) := by decide +kernel
theorem dJ1_charAt_3b067_3 : decode cJ1_charAt_3b067 3 = .ok (.invokestatic 9, 3) := by decide +kernel
theorem dJ1_charAt_3b067_6 : decode cJ1_charAt_3b067 6 = .ok (.aload_n 0, 1) := by decide +kernel
theorem dJ1_charAt_3b067_7 : decode cJ1_charAt_3b067 7 = .ok (.iload_n 1, 1) := by decide +kernel
theorem dJ1_charAt_3b067_8 : decode cJ1_charAt_3b067 8 = .ok (.baload, 1) := by decide +kernel
theorem dJ1_charAt_3b067_9 : decode cJ1_charAt_3b067 9 = .ok (.sipush 255, 3) := by decide +kernel
theorem dJ1_charAt_3b067_12 : decode cJ1_charAt_3b067 12 = .ok (.iand, 1) := by decide +kernel
theorem dJ1_charAt_3b067_13 : decode cJ1_charAt_3b067 13 = .ok (.i2c, 1) := by decide +kernel
theorem dJ1_charAt_3b067_14 : decode cJ1_charAt_3b067 14 = .ok (.ireturn, 1) := by decide +kernel
theorem dJ2_getChar_3b067_0 : decode cJ2_getChar_3b067 0 = .ok (.getstatic 44, 3) := by decide +kernel
theorem dJ2_getChar_3b067_3 : decode cJ2_getChar_3b067 3 = .ok (.ifCond .ne 25, 3) := by decide +kernel
theorem dJ2_getChar_3b067_6 : decode cJ2_getChar_3b067 6 = .ok (.iload_n 1, 1) := by decide +kernel
theorem dJ2_getChar_3b067_7 : decode cJ2_getChar_3b067 7 = .ok (.ifCond .lt 11, 3) := by decide +kernel
theorem dJ2_getChar_3b067_10 : decode cJ2_getChar_3b067 10 = .ok (.iload_n 1, 1) := by decide +kernel
theorem dJ2_getChar_3b067_11 : decode cJ2_getChar_3b067 11 = .ok (.aload_n 0, 1) := by decide +kernel
theorem dJ2_getChar_3b067_12 : decode cJ2_getChar_3b067 12 = .ok (.invokestatic 48, 3) := by decide +kernel
theorem dJ2_getChar_3b067_15 : decode cJ2_getChar_3b067 15 = .ok (.if_icmp .lt 13, 3) := by decide +kernel
theorem dJ2_getChar_3b067_18 : decode cJ2_getChar_3b067 18 = .ok (.new 52, 3) := by decide +kernel
theorem dJ2_getChar_3b067_21 : decode cJ2_getChar_3b067 21 = .ok (.dup, 1) := by decide +kernel
theorem dJ2_getChar_3b067_22 : decode cJ2_getChar_3b067 22 = .ok (.ldc 54, 2) := by decide +kernel
theorem dJ2_getChar_3b067_24 : decode cJ2_getChar_3b067 24 = .ok (.invokespecial 56, 3) := by decide +kernel
theorem dJ2_getChar_3b067_27 : decode cJ2_getChar_3b067 27 = .ok (.athrow, 1) := by decide +kernel
theorem dJ2_getChar_3b067_28 : decode cJ2_getChar_3b067 28 = .ok (.iload_n 1, 1) := by decide +kernel
theorem dJ2_getChar_3b067_29 : decode cJ2_getChar_3b067 29 = .ok (.iconst 1, 1) := by decide +kernel
theorem dJ2_getChar_3b067_30 : decode cJ2_getChar_3b067 30 = .ok (.ishl, 1) := by decide +kernel
theorem dJ2_getChar_3b067_31 : decode cJ2_getChar_3b067 31 = .ok (.istore_n 1, 1) := by decide +kernel
theorem dJ2_getChar_3b067_32 : decode cJ2_getChar_3b067 32 = .ok (.aload_n 0, 1) := by decide +kernel
theorem dJ2_getChar_3b067_33 : decode cJ2_getChar_3b067 33 = .ok (.iload_n 1, 1) := by decide +kernel
theorem dJ2_getChar_3b067_34 : decode cJ2_getChar_3b067 34 = .ok (.iinc 1 1, 3) := by decide +kernel
theorem dJ2_getChar_3b067_37 : decode cJ2_getChar_3b067 37 = .ok (.baload, 1) := by decide +kernel
theorem dJ2_getChar_3b067_38 : decode cJ2_getChar_3b067 38 = .ok (.sipush 255, 3) := by decide +kernel
theorem dJ2_getChar_3b067_41 : decode cJ2_getChar_3b067 41 = .ok (.iand, 1) := by decide +kernel
theorem dJ2_getChar_3b067_42 : decode cJ2_getChar_3b067 42 = .ok (.getstatic 59, 3) := by decide +kernel
theorem dJ2_getChar_3b067_45 : decode cJ2_getChar_3b067 45 = .ok (.ishl, 1) := by decide +kernel
theorem dJ2_getChar_3b067_46 : decode cJ2_getChar_3b067 46 = .ok (.aload_n 0, 1) := by decide +kernel
theorem dJ2_getChar_3b067_47 : decode cJ2_getChar_3b067 47 = .ok (.iload_n 1, 1) := by decide +kernel
theorem dJ2_getChar_3b067_48 : decode cJ2_getChar_3b067 48 = .ok (.baload, 1) := by decide +kernel
theorem dJ2_getChar_3b067_49 : decode cJ2_getChar_3b067 49 = .ok (.sipush 255, 3) := by decide +kernel
theorem dJ2_getChar_3b067_52 : decode cJ2_getChar_3b067 52 = .ok (.iand, 1) := by decide +kernel
theorem dJ2_getChar_3b067_53 : decode cJ2_getChar_3b067 53 = .ok (.getstatic 63, 3) := by decide +kernel
theorem dJ2_getChar_3b067_56 : decode cJ2_getChar_3b067 56 = .ok (.ishl, 1) := by decide +kernel
theorem dJ2_getChar_3b067_57 : decode cJ2_getChar_3b067 57 = .ok (.ior, 1) := by decide +kernel
theorem dJ2_getChar_3b067_58 : decode cJ2_getChar_3b067 58 = .ok (.i2c, 1) := by decide +kernel
theorem dJ2_getChar_3b067_59 : decode cJ2_getChar_3b067 59 = .ok (.ireturn, 1) := by decide +kernel
theorem dJ2_length_9d52b_0 : decode cJ2_length_9d52b 0 = .ok (.aload_n 0, 1) := by decide +kernel
theorem dJ2_length_9d52b_1 : decode cJ2_length_9d52b 1 = .ok (.arraylength, 1) := by decide +kernel
theorem dJ2_length_9d52b_2 : decode cJ2_length_9d52b 2 = .ok (.iconst 1, 1) := by decide +kernel
theorem dJ2_length_9d52b_3 : decode cJ2_length_9d52b 3 = .ok (.ishr, 1) := by decide +kernel
theorem dJ2_length_9d52b_4 : decode cJ2_length_9d52b 4 = .ok (.ireturn, 1) := by decide +kernel
theorem dJ2_charAt_3b067_0 : decode cJ2_charAt_3b067 0 = .ok (.iload_n 1, 1) := by decide +kernel
theorem dJ2_charAt_3b067_1 : decode cJ2_charAt_3b067 1 = .ok (.aload_n 0, 1) := by decide +kernel
theorem dJ2_charAt_3b067_2 : decode cJ2_charAt_3b067 2 = .ok (.invokestatic 67, 3) := by decide +kernel
theorem dJ2_charAt_3b067_5 : decode cJ2_charAt_3b067 5 = .ok (.aload_n 0, 1) := by decide +kernel
theorem dJ2_charAt_3b067_6 : decode cJ2_charAt_3b067 6 = .ok (.iload_n 1, 1) := by decide +kernel
theorem dJ2_charAt_3b067_7 : decode cJ2_charAt_3b067 7 = .ok (.invokestatic 71, 3) := by decide +kernel
theorem dJ2_charAt_3b067_10 : decode cJ2_charAt_3b067 10 = .ok (.ireturn, 1) := by decide +kernel
theorem dJ2_checkIndex_2214a_0 : decode cJ2_checkIndex_2214a 0 = .ok (.iload_n 0, 1) := by decide +kernel
theorem dJ2_checkIndex_2214a_1 : decode cJ2_checkIndex_2214a 1 = .ok (.aload_n 1, 1) := by decide +kernel
theorem dJ2_checkIndex_2214a_2 : decode cJ2_checkIndex_2214a 2 = .ok (.invokestatic 48, 3) := by decide +kernel
theorem dJ2_checkIndex_2214a_5 : decode cJ2_checkIndex_2214a 5 = .ok (.invokestatic 414, 3) := by decide +kernel
theorem dJ2_checkIndex_2214a_8 : decode cJ2_checkIndex_2214a 8 = .ok (.return_, 1) := by decide +kernel
theorem dJ7_fill_53178_0 : decode cJ7_fill_53178 0 = .ok (.iconst 0, 1) := by decide +kernel
theorem dJ7_fill_53178_1 : decode cJ7_fill_53178 1 = .ok (.istore_n 2, 1) := by decide +kernel
theorem dJ7_fill_53178_2 : decode cJ7_fill_53178 2 = .ok (.aload_n 0, 1) := by decide +kernel
theorem dJ7_fill_53178_3 : decode cJ7_fill_53178 3 = .ok (.arraylength, 1) := by decide +kernel
theorem dJ7_fill_53178_4 : decode cJ7_fill_53178 4 = .ok (.istore_n 3, 1) := by decide +kernel
theorem dJ7_fill_53178_5 : decode cJ7_fill_53178 5 = .ok (.iload_n 2, 1) := by decide +kernel
theorem dJ7_fill_53178_6 : decode cJ7_fill_53178 6 = .ok (.iload_n 3, 1) := by decide +kernel
theorem dJ7_fill_53178_7 : decode cJ7_fill_53178 7 = .ok (.if_icmp .ge 13, 3) := by decide +kernel
theorem dJ7_fill_53178_10 : decode cJ7_fill_53178 10 = .ok (.aload_n 0, 1) := by decide +kernel
theorem dJ7_fill_53178_11 : decode cJ7_fill_53178 11 = .ok (.iload_n 2, 1) := by decide +kernel
theorem dJ7_fill_53178_12 : decode cJ7_fill_53178 12 = .ok (.iload_n 1, 1) := by decide +kernel
theorem dJ7_fill_53178_13 : decode cJ7_fill_53178 13 = .ok (.iastore, 1) := by decide +kernel
theorem dJ7_fill_53178_14 : decode cJ7_fill_53178 14 = .ok (.iinc 2 1, 3) := by decide +kernel
theorem dJ7_fill_53178_17 : decode cJ7_fill_53178 17 = .ok (.goto (-12), 3) := by decide +kernel
theorem dJ7_fill_53178_20 : decode cJ7_fill_53178 20 = .ok (.return_, 1) := by decide +kernel
theorem dJ3_checkIndex_8e157_0 : decode cJ3_checkIndex_8e157 0 = .ok (.iload_n 0, 1) := by decide +kernel
theorem dJ3_checkIndex_8e157_1 : decode cJ3_checkIndex_8e157 1 = .ok (.ifCond .lt 8, 3) := by decide +kernel
theorem dJ3_checkIndex_8e157_4 : decode cJ3_checkIndex_8e157 4 = .ok (.iload_n 0, 1) := by decide +kernel
theorem dJ3_checkIndex_8e157_5 : decode cJ3_checkIndex_8e157 5 = .ok (.iload_n 1, 1) := by decide +kernel
theorem dJ3_checkIndex_8e157_6 : decode cJ3_checkIndex_8e157 6 = .ok (.if_icmp .lt 10, 3) := by decide +kernel
theorem dJ3_checkIndex_8e157_9 : decode cJ3_checkIndex_8e157 9 = .ok (.aload_n 2, 1) := by decide +kernel
theorem dJ3_checkIndex_8e157_10 : decode cJ3_checkIndex_8e157 10 = .ok (.iload_n 0, 1) := by decide +kernel
theorem dJ3_checkIndex_8e157_11 : decode cJ3_checkIndex_8e157 11 = .ok (.iload_n 1, 1) := by decide +kernel
theorem dJ3_checkIndex_8e157_12 : decode cJ3_checkIndex_8e157 12 = .ok (.invokestatic 95, 3) := by decide +kernel
theorem dJ3_checkIndex_8e157_15 : decode cJ3_checkIndex_8e157 15 = .ok (.athrow, 1) := by decide +kernel
theorem dJ3_checkIndex_8e157_16 : decode cJ3_checkIndex_8e157 16 = .ok (.iload_n 0, 1) := by decide +kernel
theorem dJ3_checkIndex_8e157_17 : decode cJ3_checkIndex_8e157 17 = .ok (.ireturn, 1) := by decide +kernel
